/-! THE NUMBER OF BITS of a long -/
def tn (x : Int64) : Nat := x.toBitVec.toNat
theorem tn_lt (x : Int64) : tn x < 2 ^ 64 := x.toBitVec.isLt
def sh (x : Int64) (k : Nat) : Int64 := (x.toUInt64 >>> ((nI k).toInt64.toUInt64 &&& Int64.toUInt64 63)).toInt64
theorem tn_sh (x : Int64) {k : Nat} (hk : k < 64) : tn (sh x k) = tn x / 2 ^ k := by
  unfold sh tn
  rw [lb_shr k hk]
  show (x.toUInt64 >>> UInt64.ofNat k).toNat = _
  rw [UInt64.toNat_shiftRight, UInt64.toNat_ofNat_of_lt' (show k < UInt64.size by have : UInt64.size = 2 ^ 64 := rfl; omega), Nat.mod_eq_of_lt hk, Nat.shiftRight_eq_div_pow]
  rfl
theorem tn_and (x y : Int64) : tn (x &&& y) = tn x &&& tn y := by
  unfold tn
  rw [Int64.toBitVec_and, BitVec.toNat_and]
theorem tn_add {x y : Int64} (h : tn x + tn y < 2 ^ 64) : tn (x + y) = tn x + tn y := by
  unfold tn at *
  rw [Int64.toBitVec_add, BitVec.toNat_add, Nat.mod_eq_of_lt h]
theorem tn_sub {x y : Int64} (h : tn y ≤ tn x) : tn (x - y) = tn x - tn y := by
  have h1 := tn_lt x
  have h2 := tn_lt y
  unfold tn at *
  rw [Int64.toBitVec_sub, BitVec.toNat_sub]
  omega
def s1 (x : Int64) : Int64 := x - (sh x 1 &&& 6148914691236517205)
def s2 (x : Int64) : Int64 := (x &&& 3689348814741910323) + (sh x 2 &&& 3689348814741910323)
def s3 (x : Int64) : Int64 := (x + sh x 4) &&& 1085102592571150095
def s4 (x : Int64) (k : Nat) : Int64 := x + sh x k
theorem bc_eq (x : Int64) : J_bitCount x = (s4 (s4 (s4 (s3 (s2 (s1 x))) 8) 16) 32).toInt32 &&& 127 := rfl
def DD : List Nat → Nat
  | [] => 0
  | b :: bs => DD bs * 256 + b
def g1 (b : Nat) : Nat := b - (b / 2 &&& 85)
def g2 (b : Nat) : Nat := (b &&& 51) + (b / 4 &&& 51)
def g3 (b : Nat) : Nat := b % 16 + b / 16
theorem and_split {a b c d : Nat} (hb : b < 256) (hd : d < 256) : (a * 256 + b) &&& (c * 256 + d) = (a &&& c) * 256 + (b &&& d) := by
  have hbd : b &&& d < 2 ^ 8 := Nat.lt_of_le_of_lt Nat.and_le_left hb
  apply Nat.eq_of_testBit_eq
  intro i
  rw [Nat.testBit_and, Nat.mul_comm a 256, Nat.mul_comm c 256, Nat.mul_comm (a &&& c) 256, show 256 = 2 ^ 8 from rfl, Nat.testBit_two_pow_mul_add a hb, Nat.testBit_two_pow_mul_add c hd, Nat.testBit_two_pow_mul_add _ hbd]
  split <;> rw [Nat.testBit_and]
theorem c1 : ∀ e, e < 2 → ∀ b, b < 256 → (e * 128 + b / 2 &&& 85) = (b / 2 &&& 85) ∧ (b / 2 &&& 85) ≤ b := by decide +kernel
theorem c2 : ∀ e, e < 4 → ∀ b, b < 256 → (e * 64 + b / 4 &&& 51) = (b / 4 &&& 51) := by decide +kernel
theorem c3 : ∀ b, b < 256 → g1 b < 256 ∧ g2 (g1 b) < 256 ∧ g2 (g1 b) % 16 ≤ 4 ∧ g2 (g1 b) / 16 ≤ 4 ∧ g3 (g2 (g1 b)) ≤ 8 := by decide +kernel
theorem m5 : tn (6148914691236517205 : Int64) = DD [85, 85, 85, 85, 85, 85, 85, 85] := by decide +kernel
theorem m3 : tn (3689348814741910323 : Int64) = DD [51, 51, 51, 51, 51, 51, 51, 51] := by decide +kernel
theorem m3' : tn (3689348814741910323 : Int64) = 3689348814741910323 := by decide +kernel
theorem m0 : tn (1085102592571150095 : Int64) = DD [15, 15, 15, 15, 15, 15, 15, 15] := by decide +kernel
theorem d1 : ∀ l : List Nat, (∀ b ∈ l, b < 256) → (DD l / 2 &&& DD (l.map (fun _ => 85))) ≤ DD l ∧ DD l - (DD l / 2 &&& DD (l.map (fun _ => 85))) = DD (l.map g1)
  | [], _ => by simp [DD]
  | b :: l, h => by
    obtain ⟨i1, i2⟩ := d1 l (fun x hx => h x (List.mem_cons_of_mem _ hx))
    have hb : b < 256 := h b (List.mem_cons_self)
    simp only [DD, List.map_cons]
    obtain ⟨e1, e2⟩ := c1 (DD l % 2) (by omega) b hb
    rw [show (DD l * 256 + b) / 2 = DD l / 2 * 256 + (DD l % 2 * 128 + b / 2) by omega, and_split (by omega) (by omega), e1, ← i2]
    unfold g1
    omega
theorem d2 : ∀ l : List Nat, (∀ b ∈ l, b < 256) → (DD l &&& DD (l.map (fun _ => 51))) + (DD l / 4 &&& DD (l.map (fun _ => 51))) = DD (l.map g2)
  | [], _ => by simp [DD]
  | b :: l, h => by
    have i2 := d2 l (fun x hx => h x (List.mem_cons_of_mem _ hx))
    have hb : b < 256 := h b (List.mem_cons_self)
    simp only [DD, List.map_cons]
    have e1 := c2 (DD l % 4) (by omega) b hb
    rw [show (DD l * 256 + b) / 4 = DD l / 4 * 256 + (DD l % 4 * 64 + b / 4) by omega, and_split (by omega) (by omega), and_split (by omega) (by omega), e1, ← i2]
    unfold g2
    omega
theorem DD16 : ∀ l : List Nat, (∀ b ∈ l, b % 16 ≤ 4) → DD l % 16 ≤ 4
  | [], _ => by simp [DD]
  | b :: l, h => by
    have := h b (List.mem_cons_self)
    simp only [DD]
    omega
theorem d3 : ∀ l : List Nat, (∀ b ∈ l, b < 256 ∧ b % 16 ≤ 4 ∧ b / 16 ≤ 4) → ((DD l + DD l / 16) &&& DD (l.map (fun _ => 15))) = DD (l.map g3)
  | [], _ => by simp [DD]
  | b :: l, h => by
    have i2 := d3 l (fun x hx => h x (List.mem_cons_of_mem _ hx))
    have hd := DD16 l (fun x hx => (h x (List.mem_cons_of_mem _ hx)).2.1)
    obtain ⟨hb, h1, h2⟩ := h b (List.mem_cons_self)
    simp only [DD, List.map_cons]
    rw [show DD l * 256 + b + (DD l * 256 + b) / 16 = (DD l + DD l / 16) * 256 + (b + b / 16 + DD l % 16 * 16) by omega, and_split (by omega) (by omega), i2, show (15 : Nat) = 2 ^ 4 - 1 from rfl, Nat.and_two_pow_sub_one_eq_mod]
    unfold g3
    omega
/-! counting bits -/
def bcn (b : Nat) : Nat → Nat
  | 0 => 0
  | n + 1 => bcn b n + (if b.testBit n then 1 else 0)
theorem bcn_ct (b n : Nat) : ct (fun j => b.testBit j = true) n = bcn b n := by
  induction n with
  | zero => rfl
  | succ n ih =>
    simp only [bcn]
    by_cases h : b.testBit n = true
    · rw [ct_y (P := fun j => b.testBit j = true) h, ih, if_pos h]
    · rw [ct_n (P := fun j => b.testBit j = true) h, ih, if_neg h]; rfl
theorem c4 : ∀ b, b < 256 → bcn b 8 = g3 (g2 (g1 b)) := by decide +kernel
theorem ct_split (P : Nat → Prop) (a b : Nat) : ct P (a + b) = ct P a + ct (fun j => P (a + j)) b := by
  induction b with
  | zero => rfl
  | succ b ih =>
    by_cases h : P (a + b)
    · rw [show a + (b + 1) = a + b + 1 by omega, ct_y h, ct_y (P := fun j => P (a + j)) h, ih]; omega
    · rw [show a + (b + 1) = a + b + 1 by omega, ct_n h, ct_n (P := fun j => P (a + j)) h, ih]
theorem ct_byte (n i : Nat) : ct (fun j => n.testBit (8 * i + j) = true) 8 = bcn (n / 256 ^ i % 256) 8 := by
  rw [← bcn_ct]
  refine ct_cong (fun j hj => ?_)
  rw [show 256 = 2 ^ 8 from rfl, Nat.testBit_mod_two_pow, ← Nat.pow_mul, Nat.testBit_div_two_pow]
  simp [hj, Nat.add_comm]
theorem ct64 (n : Nat) : ct (fun j => n.testBit j = true) 64 = bcn (n % 256) 8 + bcn (n / 256 % 256) 8 + bcn (n / 65536 % 256) 8 + bcn (n / 16777216 % 256) 8 + bcn (n / 4294967296 % 256) 8 + bcn (n / 1099511627776 % 256) 8 + bcn (n / 281474976710656 % 256) 8 + bcn (n / 72057594037927936 % 256) 8 := by
  have h := ct_byte n
  have e : ∀ i, ct (fun j => n.testBit j = true) (8 * i + 8) = ct (fun j => n.testBit j = true) (8 * i) + bcn (n / 256 ^ i % 256) 8 := fun i => by
    rw [ct_split, ← h i]
  have z : ct (fun j => n.testBit j = true) (8 * 0) = 0 := rfl
  have e0 := e 0; have e1 := e 1; have e2 := e 2; have e3 := e 3; have e4 := e 4; have e5 := e 5; have e6 := e 6; have e7 := e 7
  simp only [Nat.reduceMul, Nat.reduceAdd, Nat.reducePow, Nat.div_one] at e0 e1 e2 e3 e4 e5 e6 e7 z
  omega
theorem fin_bits {y0 y1 y2 y3 y4 y5 y6 y7 : Nat} (z0 : y0 ≤ 8) (z1 : y1 ≤ 8) (z2 : y2 ≤ 8) (z3 : y3 ≤ 8) (z4 : y4 ≤ 8) (z5 : y5 ≤ 8) (z6 : y6 ≤ 8) (z7 : y7 ≤ 8) {w : Int64} (q3' : tn w = ((((((y7 * 256 + y6) * 256 + y5) * 256 + y4) * 256 + y3) * 256 + y2) * 256 + y1) * 256 + y0) : (s4 (s4 (s4 w 8) 16) 32).toInt32 &&& 127 = nI (y0 + y1 + y2 + y3 + y4 + y5 + y6 + y7) := by
  have r1 : tn (sh w 8) = tn w / 2 ^ 8 := tn_sh _ (by omega)
  have r1' : tn w / 2 ^ 8 = (((((y7 * 256 + y6) * 256 + y5) * 256 + y4) * 256 + y3) * 256 + y2) * 256 + y1 := by omega
  have r2 : tn (s4 w 8) = ((((((y7 * 256 + (y6 + y7)) * 256 + (y5 + y6)) * 256 + (y4 + y5)) * 256 + (y3 + y4)) * 256 + (y2 + y3)) * 256 + (y1 + y2)) * 256 + (y0 + y1) := by unfold s4; rw [tn_add (by omega), r1, r1', q3']; omega
  generalize s4 w 8 = w2 at r2 ⊢
  clear r1 r1' q3'
  have r3 : tn (sh w2 16) = tn w2 / 2 ^ 16 := tn_sh _ (by omega)
  have r3' : tn w2 / 2 ^ 16 = ((((y7 * 256 + (y6 + y7)) * 256 + (y5 + y6)) * 256 + (y4 + y5)) * 256 + (y3 + y4)) * 256 + (y2 + y3) := by omega
  have r4 : tn (s4 w2 16) = ((((((y7 * 256 + (y6 + y7)) * 256 + (y5 + y6 + y7)) * 256 + (y4 + y5 + y6 + y7)) * 256 + (y3 + y4 + y5 + y6)) * 256 + (y2 + y3 + y4 + y5)) * 256 + (y1 + y2 + y3 + y4)) * 256 + (y0 + y1 + y2 + y3) := by unfold s4; rw [tn_add (by omega), r3, r3', r2]; omega
  generalize s4 w2 16 = w3 at r4 ⊢
  clear r3 r3' r2
  have r5 : tn (sh w3 32) = tn w3 / 2 ^ 32 := tn_sh _ (by omega)
  have r5' : tn w3 / 2 ^ 32 = ((y7 * 256 + (y6 + y7)) * 256 + (y5 + y6 + y7)) * 256 + (y4 + y5 + y6 + y7) := by omega
  have r6 : tn (s4 w3 32) = tn w3 + tn w3 / 2 ^ 32 := by unfold s4; rw [tn_add (by omega), r5]
  rw [r5', r4] at r6
  generalize s4 w3 32 = u at r6 ⊢
  have r7 : u.toInt32.toBitVec.toNat = tn u % 2 ^ 32 := by
    unfold tn
    rw [Int64.toBitVec_toInt32, BitVec.signExtend_eq_setWidth_of_le _ (by omega), BitVec.toNat_setWidth]
  rw [pk_and u.toInt32 (m := 127) 7 (by decide), r7, r6]
  clear r7 r6 r5 r5' r4
  congr 1
  omega
theorem k_bitCount (x : Int64) : J_bitCount x = nI (ct (fun j => lb x j = true) 64) := by
  have hn := tn_lt x
  have hct : ct (fun j => lb x j = true) 64 = ct (fun j => (tn x).testBit j = true) 64 := ct_cong (fun j hj => Iff.rfl)
  rw [hct, ct64, bc_eq]
  generalize hx : tn x = n at *
  let l : List Nat := [n % 256, n / 256 % 256, n / 65536 % 256, n / 16777216 % 256, n / 4294967296 % 256, n / 1099511627776 % 256, n / 281474976710656 % 256, n / 72057594037927936 % 256]
  have hl : ∀ b ∈ l, b < 256 := by
    intro b hb
    simp only [l, List.mem_cons, List.not_mem_nil, or_false] at hb
    omega
  have hD : DD l = n := by
    simp only [l, DD]
    omega
  have q1 : tn (s1 x) = DD (l.map g1) := by
    have e : tn (sh x 1 &&& 6148914691236517205) = (DD l / 2 &&& DD (l.map (fun _ => 85))) := by
      rw [tn_and, tn_sh x (by omega), hx, hD, m5, Nat.pow_one]; simp only [l, List.map_cons, List.map_nil]
    obtain ⟨a1, a2⟩ := d1 l hl
    unfold s1
    rw [tn_sub (by rw [e, hx, ← hD]; exact a1), e, hx, ← a2, hD]
  have hl1 : ∀ b ∈ l.map g1, b < 256 := fun b hb => by
    obtain ⟨c, hc, rfl⟩ := List.mem_map.mp hb
    exact (c3 c (hl c hc)).1
  have q2 : tn (s2 (s1 x)) = DD ((l.map g1).map g2) := by
    have a2 := d2 (l.map g1) hl1
    have e1 : tn (s1 x &&& 3689348814741910323) = (DD (l.map g1) &&& DD ((l.map g1).map (fun _ => 51))) := by
      rw [tn_and, q1, m3]; simp only [l, List.map_cons, List.map_nil]
    have e2 : tn (sh (s1 x) 2 &&& 3689348814741910323) = (DD (l.map g1) / 4 &&& DD ((l.map g1).map (fun _ => 51))) := by
      rw [tn_and, tn_sh _ (by omega), q1, m3]; simp only [l, List.map_cons, List.map_nil, Nat.reducePow]
    unfold s2
    have m1 : tn (s1 x &&& 3689348814741910323) ≤ 3689348814741910323 := by rw [tn_and, m3']; exact Nat.and_le_right
    have m2 : tn (sh (s1 x) 2 &&& 3689348814741910323) ≤ 3689348814741910323 := by rw [tn_and, m3']; exact Nat.and_le_right
    rw [tn_add (by omega), e1, e2, a2]
  have hl2 : ∀ b ∈ (l.map g1).map g2, b < 256 ∧ b % 16 ≤ 4 ∧ b / 16 ≤ 4 := fun b hb => by
    obtain ⟨c, hc, rfl⟩ := List.mem_map.mp hb
    obtain ⟨d, hd, rfl⟩ := List.mem_map.mp hc
    have := c3 d (hl d hd)
    exact ⟨this.2.1, this.2.2.1, this.2.2.2.1⟩
  have q3 : tn (s3 (s2 (s1 x))) = DD (((l.map g1).map g2).map g3) := by
    have a2 := d3 _ hl2
    have b0 : tn (s2 (s1 x)) ≤ 7378697629483820646 := by
      unfold s2
      have m1 : tn (s1 x &&& 3689348814741910323) ≤ 3689348814741910323 := by rw [tn_and, m3']; exact Nat.and_le_right
      have m2 : tn (sh (s1 x) 2 &&& 3689348814741910323) ≤ 3689348814741910323 := by rw [tn_and, m3']; exact Nat.and_le_right
      rw [tn_add (by omega)]; omega
    have b1 : tn (sh (s2 (s1 x)) 4) = tn (s2 (s1 x)) / 2 ^ 4 := tn_sh _ (by omega)
    unfold s3
    rw [tn_and, tn_add (by omega), b1, q2, ← a2, m0]; simp only [l, List.map_cons, List.map_nil, Nat.reducePow]
  obtain ⟨y0, hy0⟩ : ∃ y, y = g3 (g2 (g1 (n % 256))) := ⟨_, rfl⟩
  obtain ⟨y1, hy1⟩ : ∃ y, y = g3 (g2 (g1 (n / 256 % 256))) := ⟨_, rfl⟩
  obtain ⟨y2, hy2⟩ : ∃ y, y = g3 (g2 (g1 (n / 65536 % 256))) := ⟨_, rfl⟩
  obtain ⟨y3, hy3⟩ : ∃ y, y = g3 (g2 (g1 (n / 16777216 % 256))) := ⟨_, rfl⟩
  obtain ⟨y4, hy4⟩ : ∃ y, y = g3 (g2 (g1 (n / 4294967296 % 256))) := ⟨_, rfl⟩
  obtain ⟨y5, hy5⟩ : ∃ y, y = g3 (g2 (g1 (n / 1099511627776 % 256))) := ⟨_, rfl⟩
  obtain ⟨y6, hy6⟩ : ∃ y, y = g3 (g2 (g1 (n / 281474976710656 % 256))) := ⟨_, rfl⟩
  obtain ⟨y7, hy7⟩ : ∃ y, y = g3 (g2 (g1 (n / 72057594037927936 % 256))) := ⟨_, rfl⟩
  have z0 : y0 ≤ 8 := by rw [hy0]; exact (c3 _ (by omega)).2.2.2.2
  have z1 : y1 ≤ 8 := by rw [hy1]; exact (c3 _ (by omega)).2.2.2.2
  have z2 : y2 ≤ 8 := by rw [hy2]; exact (c3 _ (by omega)).2.2.2.2
  have z3 : y3 ≤ 8 := by rw [hy3]; exact (c3 _ (by omega)).2.2.2.2
  have z4 : y4 ≤ 8 := by rw [hy4]; exact (c3 _ (by omega)).2.2.2.2
  have z5 : y5 ≤ 8 := by rw [hy5]; exact (c3 _ (by omega)).2.2.2.2
  have z6 : y6 ≤ 8 := by rw [hy6]; exact (c3 _ (by omega)).2.2.2.2
  have z7 : y7 ≤ 8 := by rw [hy7]; exact (c3 _ (by omega)).2.2.2.2
  have q3' : tn (s3 (s2 (s1 x))) = ((((((y7 * 256 + y6) * 256 + y5) * 256 + y4) * 256 + y3) * 256 + y2) * 256 + y1) * 256 + y0 := by
    rw [q3]
    simp only [l, List.map_cons, List.map_nil, DD, hy0, hy1, hy2, hy3, hy4, hy5, hy6, hy7]
    omega
  generalize s3 (s2 (s1 x)) = w at q3' ⊢
  rw [fin_bits z0 z1 z2 z3 z4 z5 z6 z7 q3', c4 _ (by omega), c4 _ (by omega), c4 _ (by omega), c4 _ (by omega), c4 _ (by omega), c4 _ (by omega), c4 _ (by omega), c4 _ (by omega), ← hy0, ← hy1, ← hy2, ← hy3, ← hy4, ← hy5, ← hy6, ← hy7]
