/-! numbers -/
theorem in_cases (v : Int32) {a b : Nat} (ha : a < 2 ^ 31) (hb : b < 2 ^ 31) : (M_in v (nI a) (nI b) = 0 ∧ ¬ ∃ j, a ≤ j ∧ j ≤ b ∧ v = nI j) ∨ (M_in v (nI a) (nI b) = 1 ∧ ∃ j, a ≤ j ∧ j ≤ b ∧ v = nI j) := by
  unfold M_in
  by_cases h1 : v < nI a
  · rw [if_pos h1]
    refine Or.inl ⟨rfl, ?_⟩
    rintro ⟨j, hj, hj2, rfl⟩
    have := (nI_ltI (a := j) (b := a) (by omega) ha).mp h1
    omega
  · rw [if_neg h1]
    have h0 : ¬ v < 0 := by
      intro h
      apply h1
      have a1 : (v : Int32).toInt < (0 : Int32).toInt := Int32.lt_iff_toInt_lt.mp h
      apply Int32.lt_iff_toInt_lt.mpr
      rw [nI_toInt ha]
      have : (0 : Int32).toInt = 0 := by decide
      omega
    obtain ⟨j, hj, rfl⟩ := nI_of h0
    have hja : a ≤ j := by
      rcases Nat.lt_or_ge j a with h | h
      · exact absurd ((nI_ltI (a := j) (b := a) hj ha).mpr h) h1
      · exact h
    by_cases h2 : nI b < nI j
    · rw [if_pos h2]
      refine Or.inl ⟨rfl, ?_⟩
      rintro ⟨i, hi, hi2, e⟩
      have := (nI_eq (a := j) (b := i) hj (by omega)).mp e
      have := (nI_ltI (a := b) (b := j) hb hj).mp h2
      omega
    · rw [if_neg h2]
      refine Or.inr ⟨rfl, j, hja, ?_, rfl⟩
      rcases Nat.lt_or_ge b j with h | h
      · exact absurd ((nI_ltI (a := b) (b := j) hb hj).mpr h) h2
      · exact h
theorem in_no {v : Int32} {a b : Nat} (ha : a < 2 ^ 31) (hb : b < 2 ^ 31) (h : M_in v (nI a) (nI b) = 0) : ¬ ∃ j, a ≤ j ∧ j ≤ b ∧ v = nI j := by
  rcases in_cases v ha hb with h1 | h1
  · exact h1.2
  · rw [h1.1] at h; exact absurd h (by decide)
theorem in_yes {v : Int32} {a b : Nat} (ha : a < 2 ^ 31) (hb : b < 2 ^ 31) (h : ¬ M_in v (nI a) (nI b) = 0) : ∃ j, a ≤ j ∧ j ≤ b ∧ v = nI j := by
  rcases in_cases v ha hb with h1 | h1
  · exact absurd h1.1 h
  · exact h1.2
theorem nI_m1 {c : Nat} (h : 1 ≤ c) : nI c - 1 = nI (c - 1) := pk_sub (b := 1) h
theorem within_in (a b c : Int32) : K_SF_within a b c = M_in a b c := rfl
theorem nar_b1 : vp_nar .boolean 1 = nI 1 := by decide
theorem nar_b0 : vp_nar .boolean 0 = nI 0 := by decide
theorem nI_z {a : Nat} (h : a < 2 ^ 31) : nI a = 0 ↔ a = 0 := nI_eq (b := 0) h (by decide)
theorem nI_lit {a b : Nat} (ha : a < 2 ^ 31) (hb : b < 2 ^ 31) {y : Int32} (hy : nI b = y) : nI a = y ↔ a = b := by
  rw [← hy]; exact nI_eq ha hb
theorem nI_and1 (a : Nat) (h : a < 2 ^ 31) : nI a &&& 1 = nI (a % 2) := pk_andN (by omega) (m := 1) 1 (by decide)
theorem nI_shrbit {a k : Nat} (ha : a < 2 ^ 31) (hk : k < 31) : (nI a >>> (nI k &&& 31)) &&& 1 = nI (a / 2 ^ k % 2) := by
  have hs : ((nI k &&& 31).toBitVec.smod 32).toNat = k := by
    have : ∀ k, k < 31 → ((nI k &&& 31).toBitVec.smod 32).toNat = k := by decide +kernel
    exact this k hk
  rw [pk_shrN ha _ k hs]
  have : a / 2 ^ k ≤ a := Nat.div_le_self _ _
  exact nI_and1 _ (by omega)
theorem tb_div (a k : Nat) : a.testBit k = decide (a / 2 ^ k % 2 = 1) := by
  rw [Nat.testBit_eq_decide_div_mod_eq]
theorem nI_shl1 {k : Nat} (hk : k < 31) : (1 : Int32) <<< (nI k &&& 31) = nI (2 ^ k) := by
  have : ∀ k, k < 31 → (1 : Int32) <<< (nI k &&& 31) = nI (2 ^ k) := by decide +kernel
  exact this k hk
theorem nI_or {a b : Nat} (ha : a < 2 ^ 31) (hb : b < 2 ^ 31) : nI a ||| nI b = nI (a ||| b) := by
  apply Int32.toBitVec_inj.mp
  show (Int32.ofNat a).toBitVec ||| (Int32.ofNat b).toBitVec = (Int32.ofNat (a ||| b)).toBitVec
  apply BitVec.eq_of_getLsbD_eq
  intro i hi
  simp [Int32.toBitVec_ofNat', hi, Nat.testBit_or]
/-! the reference: supers, faces -/
section
variable {σ : Ab} {m : sk_M}
theorem RM.nm (h : RM σ m) : m.1 0 0 = nI (σ 0 0) := h.1 0 (by omega)
theorem RM.cl (h : RM σ m) (r : Nat) {c : Nat} (h1 : 1 ≤ r) (h2 : r ≤ 6) (hc : c < 10) : m.1 r c = nI (σ r c) := h.2.1 r c h1 h2 hc
theorem RM.mb (h : RM σ m) (r : Nat) {i : Nat} (h1 : 8 ≤ r) (h2 : r ≤ 12) (hi : i < σ 0 0) : m.1 r i = nI (σ r i) := h.2.2.1 r i h1 h2 hi
theorem m_superOf (hI : IA σ) (hR : RM σ m) {c : Nat} (hc : c < 10) (h0 : 0 < c) : M_superOf m (nI c) = some (nI (sup σ c)) := by
  have b5 := (hI.2.1 c hc).2.2.2.2.1 h0
  have b2 := (hI.2.1 c hc).2.1
  have b1' := (hI.2.1 (σ 5 c) (by omega)).1
  have b2' := (hI.2.1 (σ 5 c) (by omega)).2.1
  unfold M_superOf sup
  rw [if_neg (fun h => by have := (nI_z (by omega)).mp h; omega), pu_rI hc (by decide), hR.cl 2 (by omega) (by omega) hc]
  by_cases h2 : σ 2 c = 1
  · rw [if_neg (fun h => by have := (nI_z (by omega)).mp h; omega), if_pos (Or.inl h2)]; rfl
  · rw [if_pos ((nI_z (by omega)).mpr (by omega)), pu_rI hc (by decide), hR.cl 5 (by omega) (by omega) hc, pu_rI (by omega) (by decide), hR.cl 1 (by omega) (by omega) (by omega)]
    by_cases h3 : σ 1 (σ 5 c) = 1
    · rw [if_neg (fun h => by have := (nI_z (by omega)).mp h; omega), pu_rI hc (by decide), hR.cl 5 (by omega) (by omega) hc, pu_rI (by omega) (by decide), hR.cl 2 (by omega) (by omega) (by omega)]
      by_cases h4 : σ 2 (σ 5 c) = 1
      · rw [if_neg (fun h => by have := (nI_z (by omega)).mp h; omega), if_pos (Or.inr (Or.inr h4))]; rfl
      · rw [if_pos ((nI_z (by omega)).mpr (by omega)), pu_rI hc (by decide), hR.cl 5 (by omega) (by omega) hc, if_neg]
        rintro (h | h | h)
        · exact h2 h
        · exact h h3
        · exact h4 h
    · rw [if_pos ((nI_z (by omega)).mpr (by omega)), if_pos (Or.inr (Or.inl h3))]; rfl
theorem m_hasFace (hI : IA σ) (hR : RM σ m) {c u : Nat} (hc : c < 10) (hu : u < 10) : Ev (M_hasFace m (nI c) (nI u)) (fun r => (r = 0 ∧ ¬ hasF σ c u) ∨ (r = 1 ∧ hasF σ c u)) := by
  have b6 := (hI.2.1 c hc).2.2.2.2.2
  have b6' : σ 6 c < 1024 := Nat.lt_of_lt_of_le b6 (Nat.pow_le_pow_right (by decide) (show c ≤ 10 by omega))
  have b1 := (hI.2.1 u hu).1
  have b2 := (hI.2.1 u hu).2.1
  unfold M_hasFace hasF
  refine ev_rI hc (by decide) ?_
  rw [hR.cl 6 (by omega) (by omega) hc, nI_shrbit (by omega) (by omega), tb_div]
  refine ev_if (fun h => ?_) (fun h => ?_)
  · have h := (nI_lit (b := 1) (by omega) (by omega) rfl).mp h
    refine ev_rI hu (by decide) ?_
    rw [hR.cl 1 (by omega) (by omega) hu]
    refine ev_if (fun h1 => ?_) (fun h1 => ?_)
    · have h1 := (nI_z (by omega)).mp h1
      exact ev_some (Or.inl ⟨rfl, fun h => by have := h.2.1; omega⟩)
    · refine ev_rI hu (by decide) ?_
      rw [hR.cl 2 (by omega) (by omega) hu]
      have h1 : ¬ σ 1 u = 0 := fun e => h1 ((nI_z (by omega)).mpr e)
      refine ev_if (fun h2 => ?_) (fun h2 => ?_)
      · have h2 := (nI_z (by omega)).mp h2
        exact ev_some (Or.inl ⟨rfl, fun h => by have := h.2.2; omega⟩)
      · have h2 : ¬ σ 2 u = 0 := fun e => h2 ((nI_z (by omega)).mpr e)
        exact ev_some (Or.inr ⟨rfl, by simp [h], by omega, by omega⟩)
  · have h : ¬ σ 6 c / 2 ^ u % 2 = 1 := fun e => h ((nI_lit (b := 1) (by omega) (by omega) rfl).mpr e)
    exact ev_some (Or.inl ⟨rfl, fun hh => by have := hh.1; simp at this; exact h this⟩)
end
