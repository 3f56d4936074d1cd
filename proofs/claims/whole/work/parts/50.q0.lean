/-! THE BASE CALLS of the reference, and what they make of the abstract state -/
theorem in_ok {a b j : Nat} (h1 : a ≤ j) (h2 : j ≤ b) (hb : b < 2 ^ 31) : ¬ M_in (nI j) (nI a) (nI b) = 0 := by
  intro h
  exact in_no (by omega) hb h ⟨j, h1, h2, rfl⟩
theorem ev_in {α : Type} {v u w : Int32} {x y : Option α} {P : α → Prop} (j a b : Nat) (h1 : a ≤ j) (h2 : j ≤ b) (hk : Ev y P) (hv : v = nI j := by rfl) (hu : u = nI a := by rfl) (hw : w = nI b := by rfl) (hb : b < 2 ^ 31 := by omega) : Ev (if M_in v u w = 0 then x else y) P := by
  subst hv hu hw
  rw [if_neg (in_ok h1 h2 hb)]; exact hk
theorem ev_wn {α : Type} {v u w : Int32} {x y : Option α} {P : α → Prop} (j a b : Nat) (h1 : a ≤ j) (h2 : j ≤ b) (hk : Ev y P) (hv : v = nI j := by rfl) (hu : u = nI a := by rfl) (hw : w = nI b := by rfl) (hb : b < 2 ^ 31 := by omega) : Ev (if K_SF_within v u w = 0 then x else y) P := ev_in j a b h1 h2 hk hv hu hw hb
def tyA (σ : Ab) (c p f a fs : Nat) : Ab := fun q j => if j = c then (match q with | 1 => 1 | 2 => f % 2 | 3 => f / 2 | 4 => p | 5 => a | 6 => fs % 2 ^ c | _ => σ q j) else σ q j
def dpA (σ : Ab) (c : Nat) : Ab := fun q j => if q = 1 ∧ j = c then 0 else if q = 12 ∧ 1 ≤ j ∧ σ 8 j = c then 1 else σ q j
def mbA (σ : Ab) (c w s f : Nat) : Ab := fun q j => if q = 0 ∧ j = 0 then σ 0 0 + 1 else if j = σ 0 0 then (match q with | 8 => c | 9 => w | 10 => s | 11 => f | 12 => 0 | _ => σ q j) else σ q j
def rmA (σ : Ab) (x : Nat) : Ab := fun q j => if q = 12 ∧ j = x then 1 else σ q j
def rfA (σ : Ab) (x k c w s : Nat) : Ab := fun q j => if q = 0 ∧ j = 1 then σ 0 1 + 1 else if j = σ 0 1 then (match q with | 13 => x | 14 => k | 15 => c | 16 => w | 17 => s | _ => σ q j) else σ q j
def ltA (σ : Ab) (v : Nat) : Ab := fun q j => if q = 0 ∧ j = 2 then σ 0 2 + 1 else if q = 18 ∧ j = σ 0 2 then v else σ q j
def c0A (σ : Ab) : Ab := fun q j => if q = 0 ∧ (j = 2 ∨ j = 3) then 0 else σ q j
def c1A (σ : Ab) : Ab := fun q j => if q = 0 then (if j = 0 then 1 else if j ≤ 3 then 0 else σ q j) else if q = 1 ∧ 1 ≤ j then 0 else σ q j
theorem tyA_o (σ : Ab) (c p f a fs : Nat) {q : Nat} (j : Nat) (h : q = 0 ∨ 6 < q) : tyA σ c p f a fs q j = σ q j := by
  unfold tyA
  split
  · split <;> first | omega | rfl
  · rfl
theorem tyA1 (σ : Ab) (c p f a fs : Nat) : tyA σ c p f a fs 1 c = 1 := if_pos rfl
theorem tyA2 (σ : Ab) (c p f a fs : Nat) : tyA σ c p f a fs 2 c = f % 2 := if_pos rfl
theorem tyA3 (σ : Ab) (c p f a fs : Nat) : tyA σ c p f a fs 3 c = f / 2 := if_pos rfl
theorem tyA4 (σ : Ab) (c p f a fs : Nat) : tyA σ c p f a fs 4 c = p := if_pos rfl
theorem tyA5 (σ : Ab) (c p f a fs : Nat) : tyA σ c p f a fs 5 c = a := if_pos rfl
theorem tyA6 (σ : Ab) (c p f a fs : Nat) : tyA σ c p f a fs 6 c = fs % 2 ^ c := if_pos rfl
theorem tyA_n (σ : Ab) {c p f a fs j : Nat} (q : Nat) (h : ¬ j = c) : tyA σ c p f a fs q j = σ q j := if_neg h
theorem mbA_o (σ : Ab) (c w s f : Nat) {q : Nat} (j : Nat) (h : ¬ (q = 0 ∧ j = 0)) (h2 : q < 8 ∨ 12 < q ∨ ¬ j = σ 0 0) : mbA σ c w s f q j = σ q j := by
  unfold mbA
  rw [if_neg h]
  split
  · split <;> first | omega | rfl
  · rfl
theorem rfA_o (σ : Ab) (x k c w s : Nat) {q : Nat} (j : Nat) (h : ¬ (q = 0 ∧ j = 1)) (h2 : q < 13 ∨ 17 < q ∨ ¬ j = σ 0 1) : rfA σ x k c w s q j = σ q j := by
  unfold rfA
  rw [if_neg h]
  split
  · split <;> first | omega | rfl
  · rfl
theorem own_same {σ σ' : Ab} (e : ∀ q j, (q = 0 ∧ j = 0) ∨ (8 ≤ q ∧ q ≤ 12) → σ' q j = σ q j) (c g x : Nat) : own σ' c g x ↔ own σ c g x := by
  unfold own alive sgn
  rw [e 0 0 (by omega), e 8 x (by omega), e 9 x (by omega), e 10 x (by omega), e 11 x (by omega), e 12 x (by omega)]
section
variable {σ : Ab} {m : sk_M} {N : Nat}
theorem IA_type (hI : IA σ) {c p f a fs : Nat} (h0 : 1 ≤ c) (hc : c ≤ 9) (hp : p ≤ 2) (hf : f ≤ 3) (ha : a ≤ c - 1) : IA (tyA σ c p f a fs) := by
  obtain ⟨i1, i2, i3, i4, i5, i6, i7, i8, i9⟩ := hI
  have e : ∀ q j, (q = 0 ∨ 6 < q) → tyA σ c p f a fs q j = σ q j := fun q j h => tyA_o σ c p f a fs j h
  refine ⟨?_, fun d hd => ?_, ?_, fun x hx => ?_, ?_, fun d g x y h1 h2 => ?_, fun i hi => ?_, ⟨fun i hi => ?_, fun k hk => ?_⟩, fun r hr => ?_⟩
  · rw [e 0 0 (by omega), e 0 1 (by omega), e 0 2 (by omega), e 0 3 (by omega)]; exact i1
  · by_cases h : d = c
    · subst h
      rw [tyA1, tyA2, tyA3, tyA4, tyA5, tyA6]
      exact ⟨by omega, by omega, by omega, by omega, by omega, Nat.mod_lt _ (Nat.two_pow_pos d)⟩
    · rw [tyA_n σ 1 h, tyA_n σ 2 h, tyA_n σ 3 h, tyA_n σ 4 h, tyA_n σ 5 h, tyA_n σ 6 h]; exact i2 d hd
  · have h : ¬ 0 = c := by omega
    rw [tyA_n σ 1 h, tyA_n σ 2 h, tyA_n σ 3 h, tyA_n σ 4 h, tyA_n σ 5 h]; exact i3
  · rw [e 0 0 (by omega)] at hx
    rw [e 8 x (by omega), e 9 x (by omega), e 10 x (by omega), e 11 x (by omega), e 12 x (by omega)]
    obtain ⟨b1, b2, b3, b4, b5, b6, b7, b8⟩ := i4 x hx
    refine ⟨b1, b2, b3, b4, b5, b6, b7, fun h => ?_⟩
    by_cases q : σ 8 x = c
    · exact if_pos q
    · rw [tyA_n σ 1 q]; exact b8 h
  · rw [e 8 0 (by omega), e 9 0 (by omega), e 10 0 (by omega), e 11 0 (by omega), e 12 0 (by omega)]; exact i5
  · exact i6 d g x y ((own_same (fun q j h => e q j (by omega)) d g x).mp h1) ((own_same (fun q j h => e q j (by omega)) d g y).mp h2)
  · rw [e 0 1 (by omega)] at hi
    rw [e 13 i (by omega), e 14 i (by omega), e 15 i (by omega), e 16 i (by omega), e 17 i (by omega), e 0 0 (by omega), e 11 _ (by omega)]; exact i7 i hi
  · rw [e 0 2 (by omega)] at hi
    rw [e 18 i (by omega)]; exact i8.1 i hi
  · rw [e 19 k (by omega)]; exact i8.2 k hk
  · rw [e 0 3 (by omega)] at hr
    obtain ⟨r1, r2, r3, r4, r5, r6, r7⟩ := i9 r hr
    rw [e 20 r (by omega), e 21 r (by omega), e 22 r (by omega), e 23 r (by omega), e 24 r (by omega), e 25 r (by omega)]
    exact ⟨r1, r2, r3, r4, r5, fun k hk => by rw [e 26 _ (by omega), e 27 _ (by omega), e 28 _ (by omega)]; exact r6 k hk, fun k hk => by rw [e 19 _ (by omega)]; exact r7 k hk⟩
/-- rules and draft stand if their rows do -/
theorem RM_rl {σ σ' : Ab} {m m' : sk_M} (h : RM σ m) (e : ∀ q j, 18 ≤ q → σ' q j = σ q j) (e3 : σ' 0 3 = σ 0 3) (e2 : σ' 0 2 = σ 0 2) (em : ∀ q j, 18 ≤ q → q ≤ 28 → m'.1 q j = m.1 q j) :
    ((∀ i, i < σ' 0 2 → m'.1 18 i = nI (σ' 18 i)) ∧ ∀ k, k < 480 → m'.1 19 k = nI (σ' 19 k)) ∧
    (∀ r, r < σ' 0 3 → m'.1 20 r = nI (σ' 20 r) ∧ m'.1 21 r = nI (σ' 21 r) ∧ m'.1 22 r = nI (σ' 22 r) ∧ m'.1 23 r = (if σ' 23 r = 0 then -1 else nI (σ' 23 r - 1)) ∧ (0 < σ' 23 r → m'.1 24 r = nI (σ' 24 r)) ∧ m'.1 25 r = nI (σ' 25 r) ∧ (∀ k, k < σ' 25 r → m'.1 26 (16 * r + k) = nI (σ' 26 (16 * r + k)) ∧ m'.1 27 (16 * r + k) = nI (σ' 27 (16 * r + k)) ∧ m'.1 28 (16 * r + k) = nI (σ' 28 (16 * r + k))) ∧ ∀ k, k < 60 → m'.1 19 (60 * r + k) = nI (σ' 19 (60 * r + k))) := by
  obtain ⟨_, _, _, _, h5, h6⟩ := h
  refine ⟨⟨fun i hi => ?_, fun k hk => ?_⟩, fun r hr => ?_⟩
  · rw [em 18 i (by omega) (by omega), e 18 i (by omega)]; exact h5.1 i (by omega)
  · rw [em 19 k (by omega) (by omega), e 19 k (by omega)]; exact h5.2 k hk
  · obtain ⟨a1, a2, a3, a4, a5, a6, a7, a8⟩ := h6 r (by omega)
    rw [em 20 r (by omega) (by omega), em 21 r (by omega) (by omega), em 22 r (by omega) (by omega), em 23 r (by omega) (by omega), em 24 r (by omega) (by omega), em 25 r (by omega) (by omega), e 20 r (by omega), e 21 r (by omega), e 22 r (by omega), e 23 r (by omega), e 24 r (by omega), e 25 r (by omega)]
    exact ⟨a1, a2, a3, a4, a5, a6, fun k hk => by rw [em 26 _ (by omega) (by omega), em 27 _ (by omega) (by omega), em 28 _ (by omega) (by omega), e 26 _ (by omega), e 27 _ (by omega), e 28 _ (by omega)]; exact a7 k hk, fun k hk => by rw [em 19 _ (by omega) (by omega), e 19 _ (by omega)]; exact a8 k hk⟩
theorem tyf : ∀ f, f < 4 → (nI f &&& 1 = 1 ↔ f % 2 = 1) ∧ (nI f &&& 2 = 2 ↔ f / 2 = 1) := by decide
theorem nI_mask {fs c : Nat} (hf : fs < 2 ^ 31) (hc : c < 31) : nI fs &&& ((1 : Int32) <<< (nI c &&& 31) - 1) = nI (fs % 2 ^ c) := by
  have h2 : 2 ^ c < 2 ^ 31 := Nat.pow_lt_pow_right (by decide) hc
  rw [nI_shl1 hc, nI_m1 (Nat.two_pow_pos c)]
  exact pk_andN (by omega) c (pk_tn (by omega))
theorem m_type (hR : RM σ m) {c p f a fs : Nat} (h0 : 1 ≤ c) (hc : c ≤ 9) (hp : p ≤ 2) (hf : f ≤ 3) (ha : a ≤ c - 1) (hfs : fs ≤ 1023) : Ev (M_type m (nI c) (nI p) (nI f) (nI a) (nI fs)) (fun z => z.1 = 1 ∧ RM (tyA σ c p f a fs) z.2) := by
  unfold M_type
  refine ev_in c 1 9 h0 hc ?_
  refine ev_in p 0 2 (by omega) hp ?_
  refine ev_in f 0 3 (by omega) hf ?_
  refine ev_in a 0 (c - 1) (by omega) ha ?_ (hw := nI_m1 h0)
  refine ev_in fs 0 1023 (by omega) hfs ?_
  refine ev_wI (by omega) (by decide) ?_
  refine ev_wI (by omega) (by decide) ?_
  have J : ∀ v w, v = nI (f % 2) → w = nI (f / 2) → Ev (M_type_J103 (sk_wi (sk_wi (sk_wi m 1 c (vp_nar .boolean 1)) 4 c (nI p)) 2 c (vp_nar .boolean v)) (nI c) (nI a) (nI fs) (nI c) w) (fun z => z.1 = 1 ∧ RM (tyA σ c p f a fs) z.2) := by
    intro v w hv hw
    have nar : ∀ n, n < 2 → vp_nar .boolean (nI n) = nI n := by decide
    unfold M_type_J103
    refine ev_wI (by omega) (by decide) ?_
    refine ev_wI (by omega) (by decide) ?_
    rw [nI_mask (by omega) (by omega)]
    refine ev_wI (by omega) (by decide) ?_
    rw [hv, hw, nar _ (by omega), nar _ (by omega), nar_b1]
    have an : ∀ q j, (¬ j = c ∨ q = 0 ∨ 6 < q) → (sk_wi (sk_wi (sk_wi (sk_wi (sk_wi (sk_wi m 1 c (nI 1)) 4 c (nI p)) 2 c (nI (f % 2))) 3 c (nI (f / 2))) 5 c (nI a)) 6 c (nI (fs % 2 ^ c))).1 q j = m.1 q j := by
      intro q j h
      rw [pu_wi1, if_neg (by omega), pu_wi1, if_neg (by omega), pu_wi1, if_neg (by omega), pu_wi1, if_neg (by omega), pu_wi1, if_neg (by omega), pu_wi1, if_neg (by omega)]
    refine ev_some ⟨rfl, ?_⟩
    have er := RM_rl (σ' := tyA σ c p f a fs) hR (fun q j h => tyA_o σ c p f a fs j (by omega)) (tyA_o σ c p f a fs 3 (by omega)) (tyA_o σ c p f a fs 2 (by omega)) (fun q j h1 h2 => an q j (by omega))
    refine ⟨fun j hj => ?_, fun r d h1 h2 h3 => ?_, fun r i h1 h2 h3 => ?_, fun r i h1 h2 h3 => ?_, er.1, er.2⟩
    · rw [an 0 j (by omega), tyA_o σ c p f a fs j (by omega)]; exact hR.1 j hj
    · by_cases h : d = c
      · subst h
        rcases (show r = 1 ∨ r = 2 ∨ r = 3 ∨ r = 4 ∨ r = 5 ∨ r = 6 by omega) with rfl | rfl | rfl | rfl | rfl | rfl
        · rw [tyA1]; simp [pu_wi1]
        · rw [tyA2]; simp [pu_wi1]
        · rw [tyA3]; simp [pu_wi1]
        · rw [tyA4]; simp [pu_wi1]
        · rw [tyA5]; simp [pu_wi1]
        · rw [tyA6]; simp [pu_wi1]
      · rw [an r d (by omega), tyA_n σ r h]; exact hR.2.1 r d h1 h2 h3
    · rw [tyA_o σ c p f a fs 0 (by omega)] at h3
      rw [an r i (by omega), tyA_o σ c p f a fs i (by omega)]; exact hR.2.2.1 r i h1 h2 h3
    · rw [tyA_o σ c p f a fs 1 (by omega)] at h3
      rw [an r i (by omega), tyA_o σ c p f a fs i (by omega)]; exact hR.2.2.2.1 r i h1 h2 h3
  have J85 : ∀ v, v = nI (f % 2) → Ev (M_type_J85 (sk_wi (sk_wi m 1 c (vp_nar .boolean 1)) 4 c (nI p)) (nI c) (nI f) (nI a) (nI fs) (nI c) v) (fun z => z.1 = 1 ∧ RM (tyA σ c p f a fs) z.2) := by
    intro v hv
    unfold M_type_J85
    refine ev_wI (by omega) (by decide) ?_
    exact ev_if (fun h => J v 1 hv (by rw [(tyf f (by omega)).2.mp h]; rfl)) (fun h => J v 0 hv (by rw [show f / 2 = 0 by have := mt (tyf f (by omega)).2.mpr h; omega]; rfl))
  exact ev_if (fun h => J85 1 (by rw [(tyf f (by omega)).1.mp h]; rfl)) (fun h => J85 0 (by rw [show f % 2 = 0 by have := mt (tyf f (by omega)).1.mpr h; omega]; rfl))
end
