/-! WHAT IS NEEDED: S 0 classes, S 1 made, S 2 started, S 3 members; the least that is closed -/
def gI (σ : Ab) (i : Nat) : Nat := (if σ 14 i = 2 then 0 else 16) + 2 * σ 16 i + σ 17 i
def RF (σ : Ab) (S : Nat → Nat → Prop) (i : Nat) : Prop :=
  S 0 (σ 15 i) ∧ (σ 14 i = 0 → σ 3 (σ 15 i) = 0 → σ 2 (σ 15 i) = 0 → S 1 (σ 15 i) ∧ S 2 (σ 15 i)) ∧
  (2 ≤ σ 14 i → ∀ x, LK σ (σ 15 i) (gI σ i) (fun _ => True) (some x) → S 3 x ∧ (σ 11 x / 2 % 2 = 1 → S 2 (σ 8 x))) ∧
  (σ 14 i = 5 → ∀ d x, d < 10 → S 1 d → (d = σ 15 i ∨ abv σ d (σ 15 i)) → LK σ d (gI σ i) (fun y => σ 11 y < 2) (some x) → S 3 x)
def CLr (σ : Ab) (S : Nat → Nat → Prop) (r : Nat) : Prop :=
  (∀ c, σ 20 r = 0 → abt σ r c → S 0 c ∧ S 2 c ∧ (σ 3 c = 0 → σ 2 c = 0 → S 1 c)) ∧
  (∀ x, σ 20 r = 0 → mnt σ r x → S 3 x) ∧ (∀ x, σ 20 r = 2 → S 0 (σ 8 x) → mnt σ r x → S 3 x)
def CLc (σ : Ab) (S : Nat → Nat → Prop) (c : Nat) : Prop :=
  (0 < c → S 0 c → S 0 (sup σ c) ∧ ∀ u, u < c → hasF σ c u → S 0 u) ∧
  (S 2 c → (0 < c → S 2 (sup σ c)) ∧ ∀ x, own σ c 30 x → σ 11 x / 2 % 2 = 1 → S 3 x) ∧
  (S 1 c → ∀ x, LK σ c 16 (fun y => σ 11 y < 2) (some x) → S 3 x)
def CL (σ : Ab) (S : Nat → Nat → Prop) : Prop :=
  S 0 0 ∧ S 3 0 ∧ (∀ r, r < σ 0 3 → CLr σ S r) ∧ (∀ c, c < 10 → CLc σ S c) ∧ (∀ x, x < σ 0 0 → S 3 x → S 0 (σ 8 x)) ∧
  (∀ i, i < σ 0 1 → S 3 (σ 13 i) → alive σ (σ 13 i) → σ 1 (σ 15 i) = 1 → RF σ S i)
def ND (σ : Ab) (i x : Nat) : Prop := ∀ S, CL σ S → S i x
theorem ND_CL (σ : Ab) : CL σ (ND σ) := by
  refine ⟨fun S h => h.1, fun S h => h.2.1, fun r hr => ⟨fun c h1 h2 => ⟨fun S h => ((h.2.2.1 r hr).1 c h1 h2).1, fun S h => ((h.2.2.1 r hr).1 c h1 h2).2.1, fun h3 h4 S h => ((h.2.2.1 r hr).1 c h1 h2).2.2 h3 h4⟩, fun x h1 h2 S h => (h.2.2.1 r hr).2.1 x h1 h2, fun x h1 h2 h3 S h => (h.2.2.1 r hr).2.2 x h1 (h2 S h) h3⟩, fun c hc => ⟨fun h0 h1 => ⟨fun S h => (((h.2.2.2.1 c hc).1 h0 (h1 S h)).1), fun u h2 h3 S h => ((h.2.2.2.1 c hc).1 h0 (h1 S h)).2 u h2 h3⟩, fun h1 => ⟨fun h0 S h => ((h.2.2.2.1 c hc).2.1 (h1 S h)).1 h0, fun x h2 h3 S h => ((h.2.2.2.1 c hc).2.1 (h1 S h)).2 x h2 h3⟩, fun h1 x h2 S h => (h.2.2.2.1 c hc).2.2 (h1 S h) x h2⟩, fun x hx h1 S h => h.2.2.2.2.1 x hx (h1 S h), fun i hi h1 h2 h3 => ?_⟩
  have g : ∀ S, CL σ S → RF σ S i := fun S h => h.2.2.2.2.2 i hi (h1 S h) h2 h3
  exact ⟨fun S h => (g S h).1, fun a b c => ⟨fun S h => ((g S h).2.1 a b c).1, fun S h => ((g S h).2.1 a b c).2⟩, fun a x hx => ⟨fun S h => ((g S h).2.2.1 a x hx).1, fun b S h => ((g S h).2.2.1 a x hx).2 b⟩, fun a d x hd b c e S h => (g S h).2.2.2 a d x hd (b S h) c e⟩
def bd (i : Nat) : Nat := if i = 3 then 40 else 10
def sm (m : sk_M) (i x : Nat) : Prop := x < bd i ∧ m.1 (35 + i) x ≠ 0
def cn (f : Nat → Int32) : Nat → Nat
  | 0 => 0
  | n + 1 => cn f n + (if f n = 0 then 0 else 1)
theorem cn_le (f : Nat → Int32) (n : Nat) : cn f n ≤ n := by
  induction n with
  | zero => exact Nat.le_refl 0
  | succ n ih => simp only [cn]; split <;> omega
theorem cn_cong {f g : Nat → Int32} {n : Nat} (h : ∀ i, i < n → f i = g i) : cn f n = cn g n := by
  induction n with
  | zero => rfl
  | succ n ih => simp only [cn]; rw [ih (fun i hi => h i (by omega)), h n (by omega)]
theorem cn_upd {f g : Nat → Int32} {x : Nat} (hx : f x = 0) (hg : g x ≠ 0) (ho : ∀ i, i ≠ x → g i = f i) : ∀ n, x < n → cn g n = cn f n + 1 := by
  intro n
  induction n with
  | zero => intro h; omega
  | succ n ih =>
    intro h
    simp only [cn]
    rcases Nat.lt_or_ge x n with q | q
    · rw [ih q, ho n (by omega)]; omega
    · have e : x = n := by omega
      subst e
      rw [hx, if_pos rfl, if_neg hg, cn_cong (fun i hi => ho i (by omega))]
def cnt (m : sk_M) : Nat := cn (m.1 35) 10 + cn (m.1 36) 10 + cn (m.1 37) 10 + cn (m.1 38) 40
theorem cnt_le (m : sk_M) : cnt m ≤ 70 := by
  have := cn_le (m.1 35) 10; have := cn_le (m.1 36) 10; have := cn_le (m.1 37) 10; have := cn_le (m.1 38) 40
  unfold cnt; omega
/-- what stays during the search -/
def Mn (m m' : sk_M) : Prop := ∀ q i, (q < 32 ∨ 38 < q) → (q = 0 → i ≠ 5 ∧ i ≠ 6) → m'.1 q i = m.1 q i
theorem Mn.mb {m m' : sk_M} (h : Mn m m') : Mb m m' := fun r i a b c => h r i (by omega) (fun e => by have := c e; omega)
/-- what holds at every point of the search -/
def GS (σ : Ab) (m : sk_M) : Prop := RM σ m ∧ AB σ m ∧ AT σ m ∧ (m.1 0 6 = 0 ∨ m.1 0 6 = 1) ∧ (∀ i x, i < 4 → x < bd i → m.1 (35 + i) x = 0 ∨ m.1 (35 + i) x = 1) ∧ ∀ i x, i < 4 → sm m i x → ND σ i x
def PS (σ : Ab) (m m' : sk_M) : Prop := GS σ m' ∧ Mn m m' ∧ (∀ i x, i < 4 → sm m i x → sm m' i x) ∧ (m'.1 0 6 = 0 → m.1 0 6 = 0 ∧ ∀ i x, i < 4 → x < bd i → m'.1 (35 + i) x = m.1 (35 + i) x) ∧ cnt m ≤ cnt m' ∧ (m.1 0 6 = 0 → m'.1 0 6 ≠ 0 → cnt m < cnt m')
theorem Mn.trans {m m' m'' : sk_M} (h : Mn m m') (h' : Mn m' m'') : Mn m m'' := fun q i a b => (h' q i a b).trans (h q i a b)
theorem PS.rf {σ : Ab} {m : sk_M} (h : GS σ m) : PS σ m m := ⟨h, fun _ _ _ _ => rfl, fun _ _ _ h => h, fun h => ⟨h, fun _ _ _ _ => rfl⟩, Nat.le_refl _, fun a b => absurd a b⟩
theorem PS.tr {σ : Ab} {m m' m'' : sk_M} (h : PS σ m m') (h' : PS σ m' m'') : PS σ m m'' := by
  obtain ⟨_, a2, a3, a4, a5, a6⟩ := h
  obtain ⟨b1, b2, b3, b4, b5, b6⟩ := h'
  refine ⟨b1, a2.trans b2, fun i x hi hx => b3 i x hi (a3 i x hi hx), fun h => ?_, by omega, fun h0 h1 => ?_⟩
  · obtain ⟨c1, c2⟩ := b4 h
    obtain ⟨d1, d2⟩ := a4 c1
    exact ⟨d1, fun i x hi hx => (c2 i x hi hx).trans (d2 i x hi hx)⟩
  · by_cases q : m'.1 0 6 = 0
    · have := b6 q h1; omega
    · have := a6 h0 q; omega
/-- nothing has changed if the flag is still down -/
theorem PS.q {σ : Ab} {m m' : sk_M} (h : PS σ m m') (h0 : m'.1 0 6 = 0) : m.1 0 6 = 0 ∧ ∀ i x, i < 4 → (sm m' i x ↔ sm m i x) := by
  obtain ⟨c1, c2⟩ := h.2.2.2.1 h0
  refine ⟨c1, fun i x hi => ⟨fun z => ⟨z.1, by rw [← c2 i x hi z.1]; exact z.2⟩, fun z => ⟨z.1, by rw [c2 i x hi z.1]; exact z.2⟩⟩⟩
def opm (m : sk_M) (i x : Nat) : sk_M := sk_wi (if m.1 (35 + i) x = 0 then sk_wi m 0 6 1 else m) (35 + i) x (nI 1)
section
variable {σ : Ab} {m : sk_M} {N : Nat}
theorem opm_at (m : sk_M) (i x q j : Nat) : (opm m i x).1 q j = if q = 35 + i ∧ j = x then nI 1 else if q = 0 ∧ j = 6 ∧ m.1 (35 + i) x = 0 then 1 else m.1 q j := by
  unfold opm
  rw [pu_wi1]
  by_cases h : q = 35 + i ∧ j = x
  · rw [if_pos h, if_pos h]
  · rw [if_neg h, if_neg h]
    by_cases h2 : m.1 (35 + i) x = 0
    · rw [if_pos h2, pu_wi1]
      by_cases h3 : q = 0 ∧ j = 6
      · rw [if_pos h3, if_pos ⟨h3.1, h3.2, h2⟩]
      · rw [if_neg h3, if_neg (fun z => h3 ⟨z.1, z.2.1⟩)]
    · rw [if_neg h2, if_neg (fun z => h2 z.2.2)]
theorem op_ps (hG : GS σ m) {i x : Nat} (hi : i < 4) (hx : x < bd i) (hn : ND σ i x) : PS σ m (opm m i x) ∧ sm (opm m i x) i x := by
  obtain ⟨g1, g2, g3, g4, g5, g6⟩ := hG
  have e1 : nI 1 ≠ 0 := by decide
  have mn : Mn m (opm m i x) := fun q j h1 h2 => by
    rw [opm_at, if_neg (fun z => by omega), if_neg (fun z => (h2 z.1).2 z.2.1)]
  have smx : sm (opm m i x) i x := ⟨hx, by rw [opm_at, if_pos ⟨rfl, rfl⟩]; exact e1⟩
  have row : ∀ k y, k < 4 → (opm m i x).1 (35 + k) y = if k = i ∧ y = x then nI 1 else m.1 (35 + k) y := fun k y hk => by
    rw [opm_at]
    by_cases h : k = i ∧ y = x
    · rw [if_pos ⟨by omega, h.2⟩, if_pos h]
    · rw [if_neg (fun z => h ⟨by omega, z.2⟩), if_neg (fun z => by omega), if_neg h]
  have flag : (opm m i x).1 0 6 = if m.1 (35 + i) x = 0 then 1 else m.1 0 6 := by
    rw [opm_at, if_neg (fun z => by omega)]
    by_cases h : m.1 (35 + i) x = 0
    · rw [if_pos ⟨rfl, rfl, h⟩, if_pos h]
    · rw [if_neg (fun z => h z.2.2), if_neg h]
  have cnt_eq : m.1 (35 + i) x = 0 → cnt (opm m i x) = cnt m + 1 := by
    intro h0
    have same : ∀ k, k < 4 → k ≠ i → ∀ n, cn ((opm m i x).1 (35 + k)) n = cn (m.1 (35 + k)) n := fun k hk hne n => cn_cong (fun j _ => by rw [row k j hk, if_neg (fun z => hne z.1)])
    have one : ∀ n, x < n → cn ((opm m i x).1 (35 + i)) n = cn (m.1 (35 + i)) n + 1 := fun n hn => cn_upd h0 (by rw [row i x hi, if_pos ⟨rfl, rfl⟩]; exact e1) (fun j hj => by rw [row i j hi, if_neg (fun z => hj z.2)]) n hn
    unfold cnt
    unfold bd at hx
    rcases (show i = 0 ∨ i = 1 ∨ i = 2 ∨ i = 3 by omega) with rfl | rfl | rfl | rfl
    · have a1 := one 10 (by simpa using hx); have a2 := same 1 (by omega) (by omega) 10; have a3 := same 2 (by omega) (by omega) 10; have a4 := same 3 (by omega) (by omega) 40
      simp only [Nat.reduceAdd] at a1 a2 a3 a4; omega
    · have a1 := one 10 (by simpa using hx); have a2 := same 0 (by omega) (by omega) 10; have a3 := same 2 (by omega) (by omega) 10; have a4 := same 3 (by omega) (by omega) 40
      simp only [Nat.reduceAdd] at a1 a2 a3 a4; omega
    · have a1 := one 10 (by simpa using hx); have a2 := same 0 (by omega) (by omega) 10; have a3 := same 1 (by omega) (by omega) 10; have a4 := same 3 (by omega) (by omega) 40
      simp only [Nat.reduceAdd] at a1 a2 a3 a4; omega
    · have a1 := one 40 (by simpa using hx); have a2 := same 0 (by omega) (by omega) 10; have a3 := same 1 (by omega) (by omega) 10; have a4 := same 2 (by omega) (by omega) 10
      simp only [Nat.reduceAdd] at a1 a2 a3 a4; omega
  have cnt_same : ¬ m.1 (35 + i) x = 0 → ∀ k y, k < 4 → (opm m i x).1 (35 + k) y = m.1 (35 + k) y := by
    intro h0 k y hk
    rw [row k y hk]
    by_cases h : k = i ∧ y = x
    · rw [if_pos h, h.1, h.2]
      rcases g5 i x hi hx with q | q
      · exact absurd q h0
      · rw [q]; rfl
    · rw [if_neg h]
  have cle : ¬ m.1 (35 + i) x = 0 → cnt (opm m i x) = cnt m := by
    intro h0
    have s := cnt_same h0
    unfold cnt
    rw [cn_cong (fun j _ => s 0 j (by omega)), cn_cong (fun j _ => s 1 j (by omega)), cn_cong (fun j _ => s 2 j (by omega)), cn_cong (fun j _ => s 3 j (by omega))]
  refine ⟨⟨⟨g1.same mn.mb, ?_, ?_, ?_, ?_, ?_⟩, mn, ?_, ?_, ?_, ?_⟩, smx⟩
  · intro c hc
    obtain ⟨a, b, e, t⟩ := g2 c hc
    exact ⟨a, b, by rw [mn 7 c (by omega) (by omega)]; exact e, t⟩
  · intro r c hr hc
    rw [mn 39 _ (by omega) (by omega)]
    exact g3 r c hr hc
  · rw [flag]
    split
    · exact Or.inr rfl
    · exact g4
  · intro k y hk hy
    rw [row k y hk]
    split
    · exact Or.inr rfl
    · exact g5 k y hk hy
  · intro k y hk hy
    by_cases h : k = i ∧ y = x
    · rw [h.1, h.2]; exact hn
    · refine g6 k y hk ⟨hy.1, ?_⟩
      have := hy.2
      rw [row k y hk, if_neg h] at this
      exact this
  · intro k y hk hy
    refine ⟨hy.1, ?_⟩
    rw [row k y hk]
    split
    · exact e1
    · exact hy.2
  · intro h0
    by_cases h : m.1 (35 + i) x = 0
    · rw [flag, if_pos h] at h0; exact absurd h0 (by decide)
    · rw [flag, if_neg h] at h0
      exact ⟨h0, fun k y hk _ => cnt_same h k y hk⟩
  · by_cases h : m.1 (35 + i) x = 0
    · rw [cnt_eq h]; omega
    · rw [cle h]; omega
  · intro h0 h1
    by_cases h : m.1 (35 + i) x = 0
    · rw [cnt_eq h]; omega
    · rw [flag, if_neg h] at h1; exact absurd h0 h1
theorem m_needClass {x : Nat} (hx : x < 10) : M_needClass m (nI x) = some (opm m 0 x) := by
  unfold M_needClass opm M_needClass_J14
  rw [pu_rI hx (by decide), nar_b1]
  by_cases h : m.1 35 x = 0
  · rw [if_pos h, if_pos (show m.1 (35 + 0) x = 0 from h)]
    unfold sk_fI; dsimp only
    rw [pu_wI hx (by decide)]
  · rw [if_neg h, if_neg (show ¬ m.1 (35 + 0) x = 0 from h), pu_wI hx (by decide)]
theorem m_make {x : Nat} (hx : x < 10) : M_make m (nI x) = some (opm m 1 x) := by
  unfold M_make opm M_make_J14
  rw [pu_rI hx (by decide), nar_b1]
  by_cases h : m.1 36 x = 0
  · rw [if_pos h, if_pos (show m.1 (35 + 1) x = 0 from h)]
    unfold sk_fI; dsimp only
    rw [pu_wI hx (by decide)]
  · rw [if_neg h, if_neg (show ¬ m.1 (35 + 1) x = 0 from h), pu_wI hx (by decide)]
theorem m_start {x : Nat} (hx : x < 10) : M_start m (nI x) = some (opm m 2 x) := by
  unfold M_start opm M_start_J14
  rw [pu_rI hx (by decide), nar_b1]
  by_cases h : m.1 37 x = 0
  · rw [if_pos h, if_pos (show m.1 (35 + 2) x = 0 from h)]
    unfold sk_fI; dsimp only
    rw [pu_wI hx (by decide)]
  · rw [if_neg h, if_neg (show ¬ m.1 (35 + 2) x = 0 from h), pu_wI hx (by decide)]
theorem m_needMember {x : Nat} (hx : x < 40) : M_needMember m (nI x) = some (opm m 3 x) := by
  unfold M_needMember opm M_needMember_J19
  rw [if_pos (nI_pos' (by omega)), pu_rI hx (by decide), nar_b1]
  by_cases h : m.1 38 x = 0
  · rw [if_pos h, if_pos (show m.1 (35 + 3) x = 0 from h)]
    unfold sk_fI; dsimp only
    rw [pu_wI hx (by decide)]
  · rw [if_neg h, if_neg (show ¬ m.1 (35 + 3) x = 0 from h), pu_wI hx (by decide)]
theorem ps_needClass (hG : GS σ m) {x : Nat} (hx : x < 10) (hn : ND σ 0 x) : Ev (M_needClass m (nI x)) (fun m' => PS σ m m' ∧ sm m' 0 x) := ev_of (m_needClass hx) (op_ps hG (by omega) hx hn)
theorem ps_make (hG : GS σ m) {x : Nat} (hx : x < 10) (hn : ND σ 1 x) : Ev (M_make m (nI x)) (fun m' => PS σ m m' ∧ sm m' 1 x) := ev_of (m_make hx) (op_ps hG (by omega) hx hn)
theorem ps_start (hG : GS σ m) {x : Nat} (hx : x < 10) (hn : ND σ 2 x) : Ev (M_start m (nI x)) (fun m' => PS σ m m' ∧ sm m' 2 x) := ev_of (m_start hx) (op_ps hG (by omega) hx hn)
theorem ps_needMember (hG : GS σ m) {x : Nat} (hx : x < 40) (hn : ND σ 3 x) : Ev (M_needMember m (nI x)) (fun m' => PS σ m m' ∧ sm m' 3 x) := ev_of (m_needMember hx) (op_ps hG (by omega) hx hn)
theorem ps_needMember_o (hI : IA σ) (hG : GS σ m) {o : Option Nat} (ho : ∀ x, o = some x → x < 40 ∧ ND σ 3 x) : Ev (M_needMember m (oI o)) (fun m' => PS σ m m' ∧ ∀ x, o = some x → sm m' 3 x) := by
  cases o with
  | none =>
    unfold M_needMember
    rw [if_neg (by decide)]
    exact ev_some ⟨PS.rf hG, fun x h => by cases h⟩
  | some x =>
    obtain ⟨h1, h2⟩ := ho x rfl
    exact (ps_needMember hG h1 h2).mono (fun m' h => ⟨h.1, fun y hy => by cases hy; exact h.2⟩)
/-- a text step of the search -/
theorem Mt.ps (hG : GS σ m) {m' : sk_M} (h : Mt m m') : PS σ m m' := by
  obtain ⟨g1, g2, g3, g4, g5, g6⟩ := hG
  have fl : m'.1 0 6 = m.1 0 6 := h 0 6 (by omega) (by omega) (by omega) (by omega)
  have row : ∀ k y, k < 4 → m'.1 (35 + k) y = m.1 (35 + k) y := fun k y hk => h _ y (by omega) (by omega) (by omega) (by omega)
  have ce : cnt m' = cnt m := by
    unfold cnt
    rw [cn_cong (fun j _ => row 0 j (by omega)), cn_cong (fun j _ => row 1 j (by omega)), cn_cong (fun j _ => row 2 j (by omega)), cn_cong (fun j _ => row 3 j (by omega))]
  refine ⟨⟨g1.same h.mb, h.AB g2, h.AT g3, by rw [fl]; exact g4, fun k y hk hy => by rw [row k y hk]; exact g5 k y hk hy, fun k y hk hy => g6 k y hk ⟨hy.1, by rw [← row k y hk]; exact hy.2⟩⟩, fun q i h1 h2 => h q i (by omega) (by omega) (by omega) (fun e => (h2 e).1), fun k y hk hy => ⟨hy.1, by rw [row k y hk]; exact hy.2⟩, fun h0 => ⟨by rw [← fl]; exact h0, fun k y hk _ => row k y hk⟩, by rw [ce]; exact Nat.le_refl _, fun a b => ?_⟩
  rw [fl] at b
  exact absurd a b
end
