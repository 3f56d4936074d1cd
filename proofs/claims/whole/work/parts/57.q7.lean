/-! THE CALL rule -/
def dzA (σ : Ab) : Ab := fun q j => if q = 0 ∧ j = 2 then 0 else σ q j
abbrev Lw (σ : Ab) : List (Nat × Nat) := wds (σ 18) (σ 0 2)
noncomputable def rrow (σ : Ab) (q : Nat) : Nat := if q = 20 then srt (σ 18) (Lw σ) else if q = 21 then wa (Lw σ) 2 else if q = 22 then we (Lw σ) 2 else if q = 23 then (if (rd (σ 18) (Lw σ)).2.2 = 1 then wa (Lw σ) 4 + 1 else 0) else if q = 24 then we (Lw σ) 4 else (rd (σ 18) (Lw σ)).2.1.length
noncomputable def irow (σ : Ab) (q k : Nat) : Nat := if q = 26 then ((rd (σ 18) (Lw σ)).2.1.getD k (0, 0, 0)).1 else if q = 27 then ((rd (σ 18) (Lw σ)).2.1.getD k (0, 0, 0)).2.1 else ((rd (σ 18) (Lw σ)).2.1.getD k (0, 0, 0)).2.2
noncomputable def ruA (σ : Ab) : Ab := fun q j => if q = 0 then (if j = 2 then 0 else if j = 3 then σ 0 3 + 1 else σ 0 j) else if q = 19 then (if 60 * σ 0 3 ≤ j ∧ j < 60 * σ 0 3 + σ 0 2 then σ 18 (j - 60 * σ 0 3) else σ 19 j) else if j = σ 0 3 ∧ 20 ≤ q ∧ q ≤ 25 then rrow σ q else if 26 ≤ q ∧ q ≤ 28 ∧ 16 * σ 0 3 ≤ j ∧ j < 16 * σ 0 3 + 16 then irow σ q (j - 16 * σ 0 3) else σ q j
theorem ruA_0 (σ : Ab) : ruA σ 0 0 = σ 0 0 ∧ ruA σ 0 1 = σ 0 1 ∧ ruA σ 0 2 = 0 ∧ ruA σ 0 3 = σ 0 3 + 1 := ⟨rfl, rfl, rfl, rfl⟩
theorem ruA_o (σ : Ab) {q : Nat} (j : Nat) (h1 : 1 ≤ q) (h2 : q ≤ 18) : ruA σ q j = σ q j := by
  unfold ruA
  rw [if_neg (by omega), if_neg (by omega), if_neg (by omega), if_neg (by omega)]
theorem ruA_t (σ : Ab) (j : Nat) : ruA σ 19 j = if 60 * σ 0 3 ≤ j ∧ j < 60 * σ 0 3 + σ 0 2 then σ 18 (j - 60 * σ 0 3) else σ 19 j := by
  unfold ruA
  rw [if_neg (by omega), if_pos rfl]
theorem ruA_r (σ : Ab) {q r : Nat} (h1 : 20 ≤ q) (h2 : q ≤ 25) (h : ¬ r = σ 0 3) : ruA σ q r = σ q r := by
  unfold ruA
  rw [if_neg (by omega), if_neg (by omega), if_neg (fun z => h z.1), if_neg (by omega)]
theorem ruA_n (σ : Ab) {q : Nat} (h1 : 20 ≤ q) (h2 : q ≤ 25) : ruA σ q (σ 0 3) = rrow σ q := by
  unfold ruA
  rw [if_neg (by omega), if_neg (by omega), if_pos ⟨rfl, h1, h2⟩]
theorem ruA_i (σ : Ab) {q j : Nat} (h1 : 26 ≤ q) (h2 : q ≤ 28) (h : ¬ (16 * σ 0 3 ≤ j ∧ j < 16 * σ 0 3 + 16)) : ruA σ q j = σ q j := by
  unfold ruA
  rw [if_neg (by omega), if_neg (by omega), if_neg (by omega), if_neg (fun z => h z.2.2)]
theorem ruA_in (σ : Ab) {q k : Nat} (h1 : 26 ≤ q) (h2 : q ≤ 28) (h : k < 16) : ruA σ q (16 * σ 0 3 + k) = irow σ q k := by
  unfold ruA
  rw [if_neg (by omega), if_neg (by omega), if_neg (by omega), if_pos ⟨h1, h2, by omega, by omega⟩, show 16 * σ 0 3 + k - 16 * σ 0 3 = k by omega]
section
variable {σ : Ab} {m : sk_M} {N : Nat}
theorem IA_dz (hI : IA σ) : IA (dzA σ) := by
  have e : ∀ q j, ¬ (q = 0 ∧ j = 2) → dzA σ q j = σ q j := fun q j h => if_neg h
  refine IA_ref hI (fun q j h => e q j (by omega)) (by rw [e 0 1 (by omega)]; exact hI.1.2.2.1) (by show (0 : Nat) ≤ 60; omega) (fun i hi => ?_) (fun i hi => absurd hi (Nat.not_lt_zero i))
  rw [e 0 1 (by omega)] at hi
  rw [e 13 i (by omega), e 14 i (by omega), e 15 i (by omega), e 16 i (by omega), e 17 i (by omega)]
  exact hI.2.2.2.2.2.2.1 i hi
theorem IA_rule (hI : IA σ) (hb : (rd (σ 18) (Lw σ)).1 = 0) (h8 : σ 0 3 < 8) : IA (ruA σ) := by
  obtain ⟨i1, i2, i3, i4, i5, i6, i7, i8, i9⟩ := hI
  have e : ∀ q j, 1 ≤ q → q ≤ 18 → ruA σ q j = σ q j := fun q j h1 h2 => ruA_o σ j h1 h2
  obtain ⟨z0, z1, z2, z3⟩ := ruA_0 σ
  have hG : GW (Lw σ) (σ 0 2) := wds_GW (σ 18) i1.2.2.2.1
  have hO := rd_ok (d := σ 18) hG
  obtain ⟨r1, r2, r3, r4⟩ := rd_good hb
  obtain ⟨g0, g1, g2, g3, g4⟩ := hG
  have tx : ∀ k, k < 480 → ruA σ 19 k < 128 := fun k hk => by
    rw [ruA_t]
    split
    · have := i8.1 (k - 60 * σ 0 3) (by omega); omega
    · exact i8.2 k hk
  refine ⟨?_, fun d hd => ?_, ?_, fun x hx => ?_, ?_, fun d g x y h1 h2 => ?_, fun i hi => ?_, ⟨fun i hi => ?_, tx⟩, fun r hr => ?_⟩
  · rw [z0, z1, z2, z3]; omega
  · rw [e 1 d (by omega) (by omega), e 2 d (by omega) (by omega), e 3 d (by omega) (by omega), e 4 d (by omega) (by omega), e 5 d (by omega) (by omega), e 6 d (by omega) (by omega)]; exact i2 d hd
  · rw [e 1 0 (by omega) (by omega), e 2 0 (by omega) (by omega), e 3 0 (by omega) (by omega), e 4 0 (by omega) (by omega), e 5 0 (by omega) (by omega)]; exact i3
  · rw [z0] at hx
    rw [e 8 x (by omega) (by omega), e 9 x (by omega) (by omega), e 10 x (by omega) (by omega), e 11 x (by omega) (by omega), e 12 x (by omega) (by omega), e 1 _ (by omega) (by omega)]; exact i4 x hx
  · rw [e 8 0 (by omega) (by omega), e 9 0 (by omega) (by omega), e 10 0 (by omega) (by omega), e 11 0 (by omega) (by omega), e 12 0 (by omega) (by omega)]; exact i5
  · have s : ∀ q j, (q = 0 ∧ j = 0) ∨ (8 ≤ q ∧ q ≤ 12) → ruA σ q j = σ q j := fun q j h => by
      rcases h with ⟨rfl, rfl⟩ | h
      · exact z0
      · exact e q j (by omega) (by omega)
    exact i6 d g x y ((own_same s d g x).mp h1) ((own_same s d g y).mp h2)
  · rw [z1] at hi
    rw [e 13 i (by omega) (by omega), e 14 i (by omega) (by omega), e 15 i (by omega) (by omega), e 16 i (by omega) (by omega), e 17 i (by omega) (by omega), z0, e 11 _ (by omega) (by omega)]; exact i7 i hi
  · rw [z2] at hi; omega
  · rw [z3] at hr
    by_cases q : r = σ 0 3
    · subst q
      rw [ruA_n σ (by omega) (by omega), ruA_n σ (by omega) (by omega), ruA_n σ (by omega) (by omega), ruA_n σ (by omega) (by omega), ruA_n σ (by omega) (by omega), ruA_n σ (by omega) (by omega)]
      have a2 := g3 2 r2
      have hl := hO.1
      have v20 : rrow σ 20 = srt (σ 18) (Lw σ) := rfl
      have v21 : rrow σ 21 = wa (Lw σ) 2 := rfl
      have v22 : rrow σ 22 = we (Lw σ) 2 := rfl
      have v23 : rrow σ 23 = (if (rd (σ 18) (Lw σ)).2.2 = 1 then wa (Lw σ) 4 + 1 else 0) := rfl
      have v24 : rrow σ 24 = we (Lw σ) 4 := rfl
      have v25 : rrow σ 25 = (rd (σ 18) (Lw σ)).2.1.length := rfl
      rw [v20, v21, v22, v23, v24, v25]
      refine ⟨by omega, a2.1, by omega, fun h => ?_, by omega, fun k hk => ?_, fun k hk => tx _ (by omega)⟩
      · by_cases q : (rd (σ 18) (Lw σ)).2.2 = 1
        · rw [if_pos q]
          have a4 := g3 4 (r3 q)
          omega
        · rw [if_neg q] at h; omega
      · rw [ruA_in σ (by omega) (by omega) (by omega), ruA_in σ (by omega) (by omega) (by omega), ruA_in σ (by omega) (by omega) (by omega)]
        have o := hO.2 k hk
        exact ⟨o.1, o.2.1, by show (((rd (σ 18) (Lw σ)).2.1.getD k (0, 0, 0)).2.2) ≤ 60; omega⟩
    · obtain ⟨s1, s2, s3, s4, s5, s6, s7⟩ := i9 r (by omega)
      rw [ruA_r σ (by omega) (by omega) q, ruA_r σ (by omega) (by omega) q, ruA_r σ (by omega) (by omega) q, ruA_r σ (by omega) (by omega) q, ruA_r σ (by omega) (by omega) q, ruA_r σ (by omega) (by omega) q]
      refine ⟨s1, s2, s3, s4, s5, fun k hk => ?_, fun k hk => tx _ (by omega)⟩
      rw [ruA_i σ (by omega) (by omega) (by omega), ruA_i σ (by omega) (by omega) (by omega), ruA_i σ (by omega) (by omega) (by omega)]
      exact s6 k hk
theorem RM.dr (hI : IA σ) (hR : RM σ m) : DR m (σ 18) (σ 0 2) := ⟨hR.1 2 (by omega), hI.1.2.2.2.1, fun k hk => ⟨hR.2.2.2.2.1.1 k hk, hI.2.2.2.2.2.2.2.1.1 k hk⟩⟩
/-- the draft gone, nothing else but a rule row that does not count -/
theorem RM_dz {m' : sk_M} {r : Nat} (hI : IA σ) (hR : RM σ m) (hr : σ 0 3 ≤ r) (h2 : m'.1 0 2 = 0) (hM : ∀ q i, q ≤ 28 → ¬ (q = 0 ∧ (i = 2 ∨ i = 4)) → ¬ (20 ≤ q ∧ q ≤ 25 ∧ i = r) → ¬ (26 ≤ q ∧ q ≤ 28 ∧ 16 * r ≤ i ∧ i < 16 * r + 16) → m'.1 q i = m.1 q i) : RM (dzA σ) m' := by
  have e : ∀ q j, ¬ (q = 0 ∧ j = 2) → dzA σ q j = σ q j := fun q j h => if_neg h
  refine ⟨fun j hj => ?_, fun r d h1 h2 h3 => ?_, fun r i h1 h2 h3 => ?_, fun r i h1 h2 h3 => ?_, ⟨fun i hi => absurd hi (Nat.not_lt_zero i), fun k hk => ?_⟩, fun r' hr' => ?_⟩
  · by_cases q : j = 2
    · subst q; exact h2
    · rw [hM 0 j (by omega) (by omega) (by omega) (by omega), e 0 j (by omega)]; exact hR.1 j hj
  · rw [hM r d (by omega) (by omega) (by omega) (by omega), e r d (by omega)]; exact hR.2.1 r d h1 h2 h3
  · rw [e 0 0 (by omega)] at h3
    rw [hM r i (by omega) (by omega) (by omega) (by omega), e r i (by omega)]; exact hR.2.2.1 r i h1 h2 h3
  · rw [e 0 1 (by omega)] at h3
    rw [hM r i (by omega) (by omega) (by omega) (by omega), e r i (by omega)]; exact hR.2.2.2.1 r i h1 h2 h3
  · rw [hM 19 k (by omega) (by omega) (by omega) (by omega), e 19 k (by omega)]; exact hR.2.2.2.2.1.2 k hk
  · rw [e 0 3 (by omega)] at hr'
    obtain ⟨a1, a2, a3, a4, a5, a6, a7, a8⟩ := hR.2.2.2.2.2 r' hr'
    have k16 := (hI.2.2.2.2.2.2.2.2 r' hr').2.2.2.2.1
    rw [hM 20 r' (by omega) (by omega) (by omega) (by omega), hM 21 r' (by omega) (by omega) (by omega) (by omega), hM 22 r' (by omega) (by omega) (by omega) (by omega), hM 23 r' (by omega) (by omega) (by omega) (by omega), hM 24 r' (by omega) (by omega) (by omega) (by omega), hM 25 r' (by omega) (by omega) (by omega) (by omega), e 20 r' (by omega), e 21 r' (by omega), e 22 r' (by omega), e 23 r' (by omega), e 24 r' (by omega), e 25 r' (by omega)]
    exact ⟨a1, a2, a3, a4, a5, a6, fun k hk => by rw [hM 26 _ (by omega) (by omega) (by omega) (by omega), hM 27 _ (by omega) (by omega) (by omega) (by omega), hM 28 _ (by omega) (by omega) (by omega) (by omega), e 26 _ (by omega), e 27 _ (by omega), e 28 _ (by omega)]; exact a7 k hk, fun k hk => by rw [hM 19 _ (by omega) (by omega) (by omega) (by omega), e 19 _ (by omega)]; exact a8 k hk⟩
theorem rd_le {d : Nat → Nat} {L : List (Nat × Nat)} {n : Nat} (hL : GW L n) : (rd d L).1 ≤ 100 := by
  have hl : L.length ≤ 61 := by have := hL.1; have := hL.2.2.1; omega
  have hI : ∀ f w acc, w ≤ L.length → (rdI d L f w acc).1 ≤ 100 := by
    intro f
    induction f with
    | zero => intro w acc _; exact Nat.zero_le _
    | succ f ih =>
      intro w acc hw
      rw [rdI_s]
      by_cases q1 : 0 < acc.length ∧ isW d L w [125]
      · rw [cT_y q1]
        by_cases q : w + 1 = L.length
        · rw [cT_y q]; exact Nat.zero_le _
        · rw [cT_n q]; show w + 2 ≤ 100; omega
      · rw [cT_n q1]
        by_cases q2 : isW d L w [102] ∨ isW d L w [109] ∨ isW d L w [120]
        · rw [cT_y q2]
          by_cases q3 : isP d L (w + 1) 1 ∧ d (we L (w + 1) - 1) = 59
          · rw [cT_y q3]; exact ih _ _ (by have := q3.1.1; omega)
          · rw [cT_n q3]; show w + 2 ≤ 100; omega
        · rw [cT_n q2]; show w + 1 ≤ 100; omega
  have hB : ∀ w, w ≤ L.length → (rdB d L w).1 ≤ 100 := by
    intro w hw
    unfold rdB
    by_cases q1 : w = L.length
    · rw [cT_y q1]; exact Nat.zero_le _
    · rw [cT_n q1]
      by_cases q2 : isW d L w [123]
      · rw [cT_y q2]; exact hI _ _ _ (by omega)
      · rw [cT_n q2]; show w + 1 ≤ 100; omega
  unfold rd
  by_cases q1 : srt d L = 3
  · rw [cT_y q1]; show 1 ≤ 100; omega
  · rw [cT_n q1]
    by_cases q2 : isW d L 1 tClass
    · rw [cT_y q2]
      by_cases q3 : isP d L 2 0
      · rw [cT_y q3]
        by_cases q4 : isW d L 3 tExt
        · rw [cT_y q4]
          by_cases q5 : isP d L 4 0
          · rw [cT_y q5]; exact hB 5 (by have := q5.1; omega)
          · rw [cT_n q5]; show 5 ≤ 100; omega
        · rw [cT_n q4]; exact hB 3 (by have := q3.1; omega)
      · rw [cT_n q3]; show 3 ≤ 100; omega
    · rw [cT_n q2]; show 2 ≤ 100; omega
theorem m_rule (hI : IA σ) (hR : RM σ m) (hN : 80 < N) : Ev (M_rule N m) (fun z => (¬ (rd (σ 18) (Lw σ)).1 = 0 ∧ z.1 = -10 - nI (rd (σ 18) (Lw σ)).1 ∧ RM (dzA σ) z.2) ∨ ((rd (σ 18) (Lw σ)).1 = 0 ∧ ((σ 0 3 = 8 ∧ z.1 = -3 ∧ RM (dzA σ) z.2) ∨ (σ 0 3 < 8 ∧ z.1 = nI (σ 0 3 + 1) ∧ RM (ruA σ) z.2)))) := by
  have h8 := hI.1.2.2.2.2
  have hn := hI.1.2.2.2.1
  have hG : GW (Lw σ) (σ 0 2) := wds_GW (σ 18) hn
  have hle := rd_le (d := σ 18) hG
  have hDR := hR.dr hI
  unfold M_rule
  refine ev_oR (m_partW hDR hN) (fun m1 h1 => ?_)
  obtain ⟨hW, hM1⟩ := h1
  have hD1 := hM1.dr hDR
  have r3 : m1.1 0 3 = nI (σ 0 3) := by rw [hM1 0 3 (by omega) (by omega) (by omega)]; exact hR.1 3 (by omega)
  refine ev_le 8 (σ 0 3) (hv := r3) (fun h => ?_) (fun h => ?_)
  · have e8 : σ 0 3 = 8 := by omega
    unfold M_rule_J22
    refine ev_le 8 (σ 0 3) (hv := r3) (fun _ => ?_) (fun h => by omega)
    refine ev_oW (m_readsFull hD1 hW hG hN) (fun x m2 h2 => ?_)
    obtain ⟨rfl, h2⟩ := h2
    have hz : RM (dzA σ) (sk_wi m2 0 2 0) := RM_dz (r := 100) hI hR (by omega) (by rw [pu_wi1, if_pos ⟨rfl, rfl⟩]) (fun q i a b c e => by rw [pu_wi1, if_neg (by omega)]; exact (h2 q i a (by omega)).trans (hM1 q i (by omega) (by omega) (by omega)))
    unfold M_rule_J44
    refine ev_fI ?_
    refine ev_le (rd (σ 18) (Lw σ)).1 0 (fun h3 => ?_) (fun h3 => ?_)
    · rw [if_pos (by rw [pu_wi1, if_neg (by omega)]; exact ((h2 0 3 (by omega) (by omega)).trans r3).trans (by rw [e8]; rfl))]
      exact ev_some (Or.inr ⟨by omega, Or.inl ⟨e8, rfl, hz⟩⟩)
    · exact ev_some (Or.inl ⟨by omega, rfl, hz⟩)
  · rw [r3]
    unfold M_rule_J22
    refine ev_le 8 (σ 0 3) (hv := r3) (fun h => by omega) (fun _ => ?_)
    refine ev_oW (m_reads hD1 hW hG hN (r := σ 0 3) h) (fun x m2 h2 => ?_)
    obtain ⟨rfl, hM2, hg⟩ := h2
    have hMM : ∀ q i, q ≤ 28 → ¬ (q = 0 ∧ i = 4) → ¬ (20 ≤ q ∧ q ≤ 25 ∧ i = σ 0 3) → ¬ (26 ≤ q ∧ q ≤ 28 ∧ 16 * σ 0 3 ≤ i ∧ i < 16 * σ 0 3 + 16) → m2.1 q i = m.1 q i := fun q i a b c e => (hM2 q i (by omega) (by omega) b c e).trans (hM1 q i (by omega) (by omega) b)
    unfold M_rule_J44
    refine ev_fI ?_
    refine ev_le (rd (σ 18) (Lw σ)).1 0 (fun h3 => ?_) (fun h3 => ?_)
    · have hb : (rd (σ 18) (Lw σ)).1 = 0 := by omega
      obtain ⟨hIT, hHD⟩ := hg hb
      have hO := rd_ok (d := σ 18) hG
      have hl := hO.1
      rw [if_neg (by rw [pu_wi1, if_neg (by omega), hMM 0 3 (by omega) (by omega) (by omega) (by omega), hR.1 3 (by omega)]; exact fun z => by have := (nI_lit (b := 8) (by omega) (by omega) rfl).mp z; omega), hMM 0 2 (by omega) (by omega) (by omega) (by omega), hR.1 2 (by omega)]
      refine ev_lp (fun k z => ∃ st j, z = (st, nI (σ 0 3), nI (σ 0 2), nI j) ∧ j + k = σ 0 2 ∧ (∀ q i, ¬ q = 19 → st.1 q i = (sk_wi m2 0 2 0).1 q i) ∧ ∀ i, st.1 19 i = if 60 * σ 0 3 ≤ i ∧ i < 60 * σ 0 3 + j then nI (σ 18 (i - 60 * σ 0 3)) else m.1 19 i) ?_ N (σ 0 2) _ (by omega) ⟨_, 0, rfl, by omega, fun _ _ _ => rfl, fun i => by rw [if_neg (by omega), pu_wi1, if_neg (by omega)]; exact hMM 19 i (by omega) (by omega) (by omega) (by omega)⟩
      rintro k z self ⟨st, j, rfl, hk, hq, h19⟩ ih
      unfold M_rule_L79
      dsimp only
      refine ev_le (σ 0 2) j (fun h => ?_) (fun hj => ?_)
      · have ej : j = σ 0 2 := by omega
        subst ej
        unfold M_rule_J110
        refine ev_fI ?_
        have e03 : st.1 0 3 = nI (σ 0 3) := by rw [hq 0 3 (by omega), pu_wi1, if_neg (by omega), hMM 0 3 (by omega) (by omega) (by omega) (by omega)]; exact hR.1 3 (by omega)
        rw [e03, nI_1]
        obtain ⟨z0, z1, z2, z3⟩ := ruA_0 σ
        have e : ∀ q j, 1 ≤ q → q ≤ 18 → ruA σ q j = σ q j := fun q j h1 h2 => ruA_o σ j h1 h2
        have an : ∀ q i, ¬ q = 19 → ¬ (q = 0 ∧ (i = 2 ∨ i = 3)) → (sk_wi st 0 3 (nI (σ 0 3 + 1))).1 q i = m2.1 q i := fun q i a b => by rw [pu_wi1, if_neg (by omega), hq q i a, pu_wi1, if_neg (by omega)]
        have t19 : ∀ k, k < 480 → (sk_wi st 0 3 (nI (σ 0 3 + 1))).1 19 k = nI (ruA σ 19 k) := fun k hk => by
          rw [pu_wi1, if_neg (by omega), h19 k, ruA_t]
          split
          · rfl
          · exact hR.2.2.2.2.1.2 k hk
        refine ev_some (Or.inr ⟨hb, Or.inr ⟨h8 |> fun _ => by omega, by rw [pu_wi1, if_pos ⟨rfl, rfl⟩], ?_⟩⟩)
        refine ⟨fun j hj => ?_, fun r d h1 h2 h3 => ?_, fun r i h1 h2 h3 => ?_, fun r i h1 h2 h3 => ?_, ⟨fun i hi => absurd hi (Nat.not_lt_zero i), t19⟩, fun r' hr' => ?_⟩
        · rcases (show j = 0 ∨ j = 1 ∨ j = 2 ∨ j = 3 by omega) with rfl | rfl | rfl | rfl
          · rw [an 0 0 (by omega) (by omega), hMM 0 0 (by omega) (by omega) (by omega) (by omega), z0]; exact hR.1 0 (by omega)
          · rw [an 0 1 (by omega) (by omega), hMM 0 1 (by omega) (by omega) (by omega) (by omega), z1]; exact hR.1 1 (by omega)
          · rw [z2, pu_wi1, if_neg (by omega), hq 0 2 (by omega), pu_wi1, if_pos ⟨rfl, rfl⟩]; rfl
          · rw [z3, pu_wi1, if_pos ⟨rfl, rfl⟩]
        · rw [an r d (by omega) (by omega), hMM r d (by omega) (by omega) (by omega) (by omega), e r d (by omega) (by omega)]; exact hR.2.1 r d h1 h2 h3
        · rw [z0] at h3
          rw [an r i (by omega) (by omega), hMM r i (by omega) (by omega) (by omega) (by omega), e r i (by omega) (by omega)]; exact hR.2.2.1 r i h1 h2 h3
        · rw [z1] at h3
          rw [an r i (by omega) (by omega), hMM r i (by omega) (by omega) (by omega) (by omega), e r i (by omega) (by omega)]; exact hR.2.2.2.1 r i h1 h2 h3
        · rw [z3] at hr'
          by_cases q : r' = σ 0 3
          · subst q
            obtain ⟨d1, d2, d3, d4, d5⟩ := hHD
            rw [an 20 _ (by omega) (by omega), an 21 _ (by omega) (by omega), an 22 _ (by omega) (by omega), an 23 _ (by omega) (by omega), an 24 _ (by omega) (by omega), an 25 _ (by omega) (by omega)]
            rw [ruA_n σ (by omega) (by omega), ruA_n σ (by omega) (by omega), ruA_n σ (by omega) (by omega), ruA_n σ (by omega) (by omega), ruA_n σ (by omega) (by omega), ruA_n σ (by omega) (by omega)]
            refine ⟨d1, d2, d3, d4, d5, hIT.1, fun k hk => ?_, fun k hk => t19 _ (by omega)⟩
            have hk : k < (rd (σ 18) (Lw σ)).2.1.length := hk
            rw [an 26 _ (by omega) (by omega), an 27 _ (by omega) (by omega), an 28 _ (by omega) (by omega), ruA_in σ (by omega) (by omega) (by omega), ruA_in σ (by omega) (by omega) (by omega), ruA_in σ (by omega) (by omega) (by omega)]
            exact hIT.2 k hk
          · obtain ⟨a1, a2, a3, a4, a5, a6, a7, a8⟩ := hR.2.2.2.2.2 r' (by omega)
            have k16 := (hI.2.2.2.2.2.2.2.2 r' (by omega)).2.2.2.2.1
            rw [an 20 _ (by omega) (by omega), an 21 _ (by omega) (by omega), an 22 _ (by omega) (by omega), an 23 _ (by omega) (by omega), an 24 _ (by omega) (by omega), an 25 _ (by omega) (by omega)]
            rw [hMM 20 r' (by omega) (by omega) (by omega) (by omega), hMM 21 r' (by omega) (by omega) (by omega) (by omega), hMM 22 r' (by omega) (by omega) (by omega) (by omega), hMM 23 r' (by omega) (by omega) (by omega) (by omega), hMM 24 r' (by omega) (by omega) (by omega) (by omega), hMM 25 r' (by omega) (by omega) (by omega) (by omega)]
            rw [ruA_r σ (by omega) (by omega) q, ruA_r σ (by omega) (by omega) q, ruA_r σ (by omega) (by omega) q, ruA_r σ (by omega) (by omega) q, ruA_r σ (by omega) (by omega) q, ruA_r σ (by omega) (by omega) q]
            refine ⟨a1, a2, a3, a4, a5, a6, fun k hk => ?_, fun k hk => t19 _ (by omega)⟩
            rw [an 26 _ (by omega) (by omega), an 27 _ (by omega) (by omega), an 28 _ (by omega) (by omega), hMM 26 _ (by omega) (by omega) (by omega) (by omega), hMM 27 _ (by omega) (by omega) (by omega) (by omega), hMM 28 _ (by omega) (by omega) (by omega) (by omega), ruA_i σ (by omega) (by omega) (by omega), ruA_i σ (by omega) (by omega) (by omega), ruA_i σ (by omega) (by omega) (by omega)]
            exact a7 k hk
      · refine ev_rI (by omega) (by decide) ?_
        rw [show (60 : Int32) * nI (σ 0 3) = nI (60 * σ 0 3) from pk_mul 60 _, nI_add, nI_1, hq 18 j (by omega), pu_wi1, if_neg (by omega), hMM 18 j (by omega) (by omega) (by omega) (by omega), hR.2.2.2.2.1.1 j hj]
        refine ev_wI (by omega) (by decide) ?_
        refine ih (k - 1) _ (by omega) ⟨_, j + 1, rfl, by omega, fun q i h => by rw [pu_wi1, if_neg (by omega)]; exact hq q i h, fun i => ?_⟩
        rw [pu_wi1]
        by_cases g : i = 60 * σ 0 3 + j
        · rw [if_pos ⟨rfl, g⟩, if_pos (by omega), show i - 60 * σ 0 3 = j by omega]
        · rw [if_neg (by omega), h19 i]
          by_cases g2 : 60 * σ 0 3 ≤ i ∧ i < 60 * σ 0 3 + j
          · rw [if_pos g2, if_pos (by omega)]
          · rw [if_neg g2, if_neg (by omega)]
    · refine ev_some (Or.inl ⟨by omega, rfl, RM_dz (r := σ 0 3) hI hR (Nat.le_refl _) (by rw [pu_wi1, if_pos ⟨rfl, rfl⟩]) (fun q i a b c e => by rw [pu_wi1, if_neg (by omega)]; exact hMM q i a (by omega) c e)⟩)
end
