/-! THE ABSTRACT STATE. σ r i: what the reference's row r holds at place i, as a number; row 0: how many members, references, letters of the draft, rules. Row 23 (from where 'extends' reads) is one more than the reference's, 0: none. -/
abbrev Ab : Type := Nat → Nat → Nat
def sup (σ : Ab) (c : Nat) : Nat := if σ 2 c = 1 ∨ ¬ σ 1 (σ 5 c) = 1 ∨ σ 2 (σ 5 c) = 1 then 0 else σ 5 c
def hasF (σ : Ab) (c u : Nat) : Prop := (σ 6 c).testBit u = true ∧ σ 1 u = 1 ∧ σ 2 u = 1
def abN (σ : Ab) : Nat → Nat → Nat → Prop
  | 0, _, _ => False
  | n + 1, c, d => 0 < c ∧ (d = sup σ c ∨ abN σ n (sup σ c) d ∨ ∃ u, u < c ∧ hasF σ c u ∧ (d = u ∨ abN σ n u d))
def abv (σ : Ab) (c d : Nat) : Prop := abN σ c c d
def lnN (σ : Ab) : Nat → Nat → Nat → Prop
  | 0, c, t => t = c
  | n + 1, c, t => t = c ∨ (0 < c ∧ lnN σ n (sup σ c) t)
def lin (σ : Ab) (c t : Nat) : Prop := lnN σ c c t
def alive (σ : Ab) (m : Nat) : Prop := m < σ 0 0 ∧ σ 12 m = 0
def sgn (σ : Ab) (m : Nat) : Nat := 16 * (σ 11 m % 2) + 2 * σ 9 m + σ 10 m
def own (σ : Ab) (c g m : Nat) : Prop := alive σ m ∧ σ 8 m = c ∧ sgn σ m = g
/-- what holds of every abstract state -/
def IA (σ : Ab) : Prop :=
  (1 ≤ σ 0 0 ∧ σ 0 0 ≤ 40 ∧ σ 0 1 ≤ 60 ∧ σ 0 2 ≤ 60 ∧ σ 0 3 ≤ 8) ∧
  (∀ c, c < 10 → σ 1 c ≤ 1 ∧ σ 2 c ≤ 1 ∧ σ 3 c ≤ 1 ∧ σ 4 c ≤ 2 ∧ (0 < c → σ 5 c < c) ∧ σ 6 c < 2 ^ c) ∧
  (σ 1 0 = 1 ∧ σ 2 0 = 0 ∧ σ 3 0 = 0 ∧ σ 4 0 = 0 ∧ σ 5 0 = 0) ∧
  (∀ m, m < σ 0 0 → σ 8 m < 10 ∧ σ 9 m < 8 ∧ σ 10 m < 2 ∧ σ 11 m < 8 ∧ σ 12 m ≤ 1 ∧ (0 < m → 0 < σ 8 m) ∧ (σ 11 m % 2 = 0 → σ 9 m < 6) ∧ (σ 12 m = 0 → σ 1 (σ 8 m) = 1)) ∧
  (σ 8 0 = 0 ∧ σ 9 0 = 0 ∧ σ 10 0 = 0 ∧ σ 11 0 = 1 ∧ σ 12 0 = 0) ∧
  (∀ c g m m', own σ c g m → own σ c g m' → m = m') ∧
  (∀ i, i < σ 0 1 → 1 ≤ σ 13 i ∧ σ 13 i < σ 0 0 ∧ σ 11 (σ 13 i) % 2 = 1 ∧ σ 14 i < 6 ∧ σ 15 i < 10 ∧ σ 16 i < 8 ∧ σ 17 i < 2) ∧
  ((∀ i, i < σ 0 2 → 32 ≤ σ 18 i ∧ σ 18 i ≤ 126) ∧ ∀ k, k < 480 → σ 19 k < 128) ∧
  (∀ r, r < σ 0 3 → σ 20 r ≤ 2 ∧ σ 21 r ≤ σ 22 r ∧ σ 22 r ≤ 60 ∧ (0 < σ 23 r → σ 23 r ≤ σ 24 r + 1 ∧ σ 24 r ≤ 60) ∧ σ 25 r ≤ 16 ∧ (∀ k, k < σ 25 r → (σ 26 (16 * r + k) = 102 ∨ σ 26 (16 * r + k) = 109 ∨ σ 26 (16 * r + k) = 120) ∧ σ 27 (16 * r + k) ≤ σ 28 (16 * r + k) ∧ σ 28 (16 * r + k) ≤ 60) ∧ ∀ k, k < 60 → σ 19 (60 * r + k) < 128)
/-- the reference's memory holds σ -/
def RM (σ : Ab) (m : sk_M) : Prop :=
  (∀ j, j < 4 → m.1 0 j = nI (σ 0 j)) ∧
  (∀ r c, 1 ≤ r → r ≤ 6 → c < 10 → m.1 r c = nI (σ r c)) ∧
  (∀ r i, 8 ≤ r → r ≤ 12 → i < σ 0 0 → m.1 r i = nI (σ r i)) ∧
  (∀ r i, 13 ≤ r → r ≤ 17 → i < σ 0 1 → m.1 r i = nI (σ r i)) ∧
  ((∀ i, i < σ 0 2 → m.1 18 i = nI (σ 18 i)) ∧ ∀ k, k < 480 → m.1 19 k = nI (σ 19 k)) ∧
  (∀ r, r < σ 0 3 → m.1 20 r = nI (σ 20 r) ∧ m.1 21 r = nI (σ 21 r) ∧ m.1 22 r = nI (σ 22 r) ∧ m.1 23 r = (if σ 23 r = 0 then -1 else nI (σ 23 r - 1)) ∧ (0 < σ 23 r → m.1 24 r = nI (σ 24 r)) ∧ m.1 25 r = nI (σ 25 r) ∧ (∀ k, k < σ 25 r → m.1 26 (16 * r + k) = nI (σ 26 (16 * r + k)) ∧ m.1 27 (16 * r + k) = nI (σ 27 (16 * r + k)) ∧ m.1 28 (16 * r + k) = nI (σ 28 (16 * r + k))) ∧ ∀ k, k < 60 → m.1 19 (60 * r + k) = nI (σ 19 (60 * r + k)))
/-- two memories of the reference with the same base -/
def Mb (m m' : sk_M) : Prop := ∀ r i, r ≤ 28 → r ≠ 7 → (r = 0 → i < 4) → m'.1 r i = m.1 r i
theorem Mb.rfl' {m : sk_M} : Mb m m := fun _ _ _ _ _ => rfl
theorem Mb.trans {m m' m'' : sk_M} (h : Mb m m') (h' : Mb m' m'') : Mb m m'' := fun r i a b c => (h' r i a b c).trans (h r i a b c)
theorem RM.same {σ : Ab} {m m' : sk_M} (h : RM σ m) (e : Mb m m') : RM σ m' := by
  obtain ⟨h1, h2, h3, h4, h5, h6⟩ := h
  refine ⟨fun j hj => ?_, fun r c a b d => ?_, fun r i a b d => ?_, fun r i a b d => ?_, ⟨fun i hi => ?_, fun k hk => ?_⟩, fun r hr => ?_⟩
  · rw [e 0 j (by omega) (by omega) (fun _ => hj)]; exact h1 j hj
  · rw [e r c (by omega) (by omega) (by omega)]; exact h2 r c a b d
  · rw [e r i (by omega) (by omega) (by omega)]; exact h3 r i a b d
  · rw [e r i (by omega) (by omega) (by omega)]; exact h4 r i a b d
  · rw [e 18 i (by omega) (by omega) (by omega)]; exact h5.1 i hi
  · rw [e 19 k (by omega) (by omega) (by omega)]; exact h5.2 k hk
  · obtain ⟨a1, a2, a3, a4, a5, a6, a7, a8⟩ := h6 r hr
    refine ⟨?_, ?_, ?_, ?_, fun h => ?_, ?_, fun k hk => ⟨?_, ?_, ?_⟩, fun k hk => ?_⟩
    · rw [e 20 r (by omega) (by omega) (by omega)]; exact a1
    · rw [e 21 r (by omega) (by omega) (by omega)]; exact a2
    · rw [e 22 r (by omega) (by omega) (by omega)]; exact a3
    · rw [e 23 r (by omega) (by omega) (by omega)]; exact a4
    · rw [e 24 r (by omega) (by omega) (by omega)]; exact a5 h
    · rw [e 25 r (by omega) (by omega) (by omega)]; exact a6
    · rw [e 26 _ (by omega) (by omega) (by omega)]; exact (a7 k hk).1
    · rw [e 27 _ (by omega) (by omega) (by omega)]; exact (a7 k hk).2.1
    · rw [e 28 _ (by omega) (by omega) (by omega)]; exact (a7 k hk).2.2
    · rw [e 19 _ (by omega) (by omega) (by omega)]; exact a8 k hk
theorem Mb.wi {m : sk_M} {r i : Nat} {v : Int32} (h : 28 < r ∨ r = 7 ∨ (r = 0 ∧ 4 ≤ i)) : Mb m (sk_wi m r i v) := by
  intro q j h1 h2 h3
  rw [pu_wi1, if_neg]
  intro ⟨e1, e2⟩
  rcases h with h | h | h
  · omega
  · omega
  · have := h3 (by omega); omega
/-! the line, and what is above -/
theorem sup_lt {σ : Ab} (hI : IA σ) {c : Nat} (h0 : 0 < c) (hc : c < 10) : sup σ c < c := by
  have h := (hI.2.1 c hc).2.2.2.2.1 h0
  unfold sup
  split <;> omega
theorem abN_eq {σ : Ab} (hI : IA σ) : ∀ (c n : Nat), c < 10 → c ≤ n → ∀ d, abN σ n c d ↔ abv σ c d := by
  intro c
  induction c using Nat.strongRecOn with
  | ind c ih =>
    intro n hc hn d
    cases c with
    | zero => cases n <;> simp [abN, abv]
    | succ c =>
      obtain ⟨n, rfl⟩ : ∃ k, n = k + 1 := ⟨n - 1, by omega⟩
      have hs := sup_lt hI (Nat.succ_pos c) hc
      have e1 : ∀ u, u < c + 1 → ∀ d, abN σ n u d ↔ abv σ u d := fun u hu d => ih u hu n (by omega) (by omega) d
      have e2 : ∀ u, u < c + 1 → ∀ d, abN σ c u d ↔ abv σ u d := fun u hu d => ih u hu c (by omega) (by omega) d
      unfold abv
      simp only [abN]
      rw [e1 _ hs, e2 _ hs]
      constructor
      · rintro ⟨h0, h | h | ⟨u, hu, hf, h⟩⟩
        · exact ⟨h0, Or.inl h⟩
        · exact ⟨h0, Or.inr (Or.inl h)⟩
        · exact ⟨h0, Or.inr (Or.inr ⟨u, hu, hf, h.imp id (fun h => (e2 u hu d).mpr ((e1 u hu d).mp h))⟩)⟩
      · rintro ⟨h0, h | h | ⟨u, hu, hf, h⟩⟩
        · exact ⟨h0, Or.inl h⟩
        · exact ⟨h0, Or.inr (Or.inl h)⟩
        · exact ⟨h0, Or.inr (Or.inr ⟨u, hu, hf, h.imp id (fun h => (e1 u hu d).mpr ((e2 u hu d).mp h))⟩)⟩
theorem abv_0 {σ : Ab} {d : Nat} : ¬ abv σ 0 d := by simp [abv, abN]
theorem abv_iff {σ : Ab} (hI : IA σ) {c : Nat} (h0 : 0 < c) (hc : c < 10) (d : Nat) : abv σ c d ↔ d = sup σ c ∨ abv σ (sup σ c) d ∨ ∃ u, u < c ∧ hasF σ c u ∧ (d = u ∨ abv σ u d) := by
  have hs := sup_lt hI h0 hc
  obtain ⟨c, rfl⟩ : ∃ k, c = k + 1 := ⟨c - 1, by omega⟩
  have e2 : ∀ u, u < c + 1 → ∀ d, abN σ c u d ↔ abv σ u d := fun u hu d => abN_eq hI u c (by omega) (by omega) d
  rw [show abv σ (c + 1) d ↔ abN σ (c + 1) (c + 1) d from Iff.rfl]
  simp only [abN]
  rw [e2 _ hs]
  constructor
  · rintro ⟨_, h | h | ⟨u, hu, hf, h⟩⟩
    · exact Or.inl h
    · exact Or.inr (Or.inl h)
    · exact Or.inr (Or.inr ⟨u, hu, hf, h.imp id (e2 u hu d).mp⟩)
  · rintro (h | h | ⟨u, hu, hf, h⟩)
    · exact ⟨by omega, Or.inl h⟩
    · exact ⟨by omega, Or.inr (Or.inl h)⟩
    · exact ⟨by omega, Or.inr (Or.inr ⟨u, hu, hf, h.imp id (e2 u hu d).mpr⟩)⟩
theorem lnN_eq {σ : Ab} (hI : IA σ) : ∀ (c n : Nat), c < 10 → c ≤ n → ∀ t, lnN σ n c t ↔ lin σ c t := by
  intro c
  induction c using Nat.strongRecOn with
  | ind c ih =>
    intro n hc hn t
    cases c with
    | zero => cases n <;> simp [lnN, lin]
    | succ c =>
      obtain ⟨n, rfl⟩ : ∃ k, n = k + 1 := ⟨n - 1, by omega⟩
      have hs := sup_lt hI (Nat.succ_pos c) hc
      unfold lin
      simp only [lnN]
      rw [ih _ hs n (by omega) (by omega), ih _ hs c (by omega) (by omega)]
theorem lin_0 {σ : Ab} {t : Nat} : lin σ 0 t ↔ t = 0 := by simp [lin, lnN]
theorem lin_iff {σ : Ab} (hI : IA σ) {c : Nat} (h0 : 0 < c) (hc : c < 10) (t : Nat) : lin σ c t ↔ t = c ∨ lin σ (sup σ c) t := by
  have hs := sup_lt hI h0 hc
  obtain ⟨c, rfl⟩ : ∃ k, c = k + 1 := ⟨c - 1, by omega⟩
  rw [show lin σ (c + 1) t ↔ lnN σ (c + 1) (c + 1) t from Iff.rfl]
  simp only [lnN]
  rw [lnN_eq hI _ c (by omega) (by omega)]
  constructor
  · rintro (h | ⟨_, h⟩)
    · exact Or.inl h
    · exact Or.inr h
  · rintro (h | h)
    · exact Or.inl h
    · exact Or.inr ⟨by omega, h⟩
theorem lin_self {σ : Ab} {c : Nat} : lin σ c c := by
  unfold lin
  cases c <;> simp [lnN]
theorem lin_le {σ : Ab} (hI : IA σ) : ∀ (c : Nat), c < 10 → ∀ t, lin σ c t → t ≤ c := by
  intro c
  induction c using Nat.strongRecOn with
  | ind c ih =>
    intro hc t h
    rcases Nat.eq_zero_or_pos c with rfl | h0
    · rw [lin_0] at h; omega
    · rcases (lin_iff hI h0 hc t).mp h with h | h
      · omega
      · have hs := sup_lt hI h0 hc
        have := ih _ hs (by omega) t h
        omega
theorem abv_lt {σ : Ab} (hI : IA σ) : ∀ (c : Nat), c < 10 → ∀ d, abv σ c d → d < c := by
  intro c
  induction c using Nat.strongRecOn with
  | ind c ih =>
    intro hc d h
    rcases Nat.eq_zero_or_pos c with rfl | h0
    · exact absurd h abv_0
    · have hs := sup_lt hI h0 hc
      rcases (abv_iff hI h0 hc d).mp h with h | h | ⟨u, hu, _, h | h⟩
      · omega
      · have := ih _ hs (by omega) d h; omega
      · omega
      · have := ih u hu (by omega) d h; omega
theorem sup_th {σ : Ab} (hI : IA σ) (c : Nat) : σ 1 (sup σ c) = 1 := by
  unfold sup
  split
  · exact hI.2.2.1.1
  · rename_i h
    exact Classical.byContradiction (fun hh => h (Or.inr (Or.inl hh)))
theorem abv_th {σ : Ab} (hI : IA σ) : ∀ (c : Nat), c < 10 → ∀ d, abv σ c d → σ 1 d = 1 := by
  intro c
  induction c using Nat.strongRecOn with
  | ind c ih =>
    intro hc d h
    rcases Nat.eq_zero_or_pos c with rfl | h0
    · exact absurd h abv_0
    · have hs := sup_lt hI h0 hc
      rcases (abv_iff hI h0 hc d).mp h with h | h | ⟨u, hu, hf, h | h⟩
      · rw [h]; exact sup_th hI c
      · exact ih _ hs (by omega) d h
      · rw [h]; exact hf.2.1
      · exact ih u hu (by omega) d h
theorem abv_z {σ : Ab} (hI : IA σ) : ∀ (c : Nat), 0 < c → c < 10 → abv σ c 0 := by
  intro c
  induction c using Nat.strongRecOn with
  | ind c ih =>
    intro h0 hc
    have hs := sup_lt hI h0 hc
    rw [abv_iff hI h0 hc]
    rcases Nat.eq_zero_or_pos (sup σ c) with h | h
    · exact Or.inl h.symm
    · exact Or.inr (Or.inl (ih _ hs h (by omega)))
