section
variable {σ : Ab} {m : sk_M} {N : Nat}
/-- only scalars, references, draft have changed: the rest of the invariant stands -/
theorem IA_ref {σ' : Ab} (hI : IA σ) (e : ∀ q j, (q = 0 ∧ (j = 0 ∨ j = 3)) ∨ (1 ≤ q ∧ q ≤ 12) ∨ 19 ≤ q → σ' q j = σ q j) (e1 : σ' 0 1 ≤ 60) (e2 : σ' 0 2 ≤ 60)
    (e7 : ∀ i, i < σ' 0 1 → 1 ≤ σ' 13 i ∧ σ' 13 i < σ 0 0 ∧ σ 11 (σ' 13 i) % 2 = 1 ∧ σ' 14 i < 6 ∧ σ' 15 i < 10 ∧ σ' 16 i < 8 ∧ σ' 17 i < 2) (e8 : ∀ i, i < σ' 0 2 → 32 ≤ σ' 18 i ∧ σ' 18 i ≤ 126) : IA σ' := by
  obtain ⟨i1, i2, i3, i4, i5, i6, i7, i8, i9⟩ := hI
  refine ⟨?_, fun d hd => ?_, ?_, fun x hx => ?_, ?_, fun d g x y h1 h2 => ?_, fun i hi => ?_, ⟨fun i hi => e8 i hi, fun k hk => ?_⟩, fun r hr => ?_⟩
  · rw [e 0 0 (by omega), e 0 3 (by omega)]; exact ⟨i1.1, i1.2.1, e1, e2, i1.2.2.2.2⟩
  · rw [e 1 d (by omega), e 2 d (by omega), e 3 d (by omega), e 4 d (by omega), e 5 d (by omega), e 6 d (by omega)]
    exact i2 d hd
  · rw [e 1 0 (by omega), e 2 0 (by omega), e 3 0 (by omega), e 4 0 (by omega), e 5 0 (by omega)]
    exact i3
  · rw [e 0 0 (by omega)] at hx
    rw [e 8 x (by omega), e 9 x (by omega), e 10 x (by omega), e 11 x (by omega), e 12 x (by omega), e 1 _ (by omega)]
    exact i4 x hx
  · rw [e 8 0 (by omega), e 9 0 (by omega), e 10 0 (by omega), e 11 0 (by omega), e 12 0 (by omega)]
    exact i5
  · exact i6 d g x y ((own_same (fun q j h => e q j (by omega)) d g x).mp h1) ((own_same (fun q j h => e q j (by omega)) d g y).mp h2)
  · rw [e 0 0 (by omega), e 11 _ (by omega)]; exact e7 i hi
  · rw [e 19 k (by omega)]; exact i8.2 k hk
  · rw [e 0 3 (by omega)] at hr
    obtain ⟨r1, r2, r3, r4, r5, r6, r7⟩ := i9 r hr
    rw [e 20 r (by omega), e 21 r (by omega), e 22 r (by omega), e 23 r (by omega), e 24 r (by omega), e 25 r (by omega)]
    exact ⟨r1, r2, r3, r4, r5, fun k hk => by rw [e 26 _ (by omega), e 27 _ (by omega), e 28 _ (by omega)]; exact r6 k hk, fun k hk => by rw [e 19 _ (by omega)]; exact r7 k hk⟩
theorem rfA_n (σ : Ab) (x k c w s : Nat) : rfA σ x k c w s 13 (σ 0 1) = x ∧ rfA σ x k c w s 14 (σ 0 1) = k ∧ rfA σ x k c w s 15 (σ 0 1) = c ∧ rfA σ x k c w s 16 (σ 0 1) = w ∧ rfA σ x k c w s 17 (σ 0 1) = s := by
  refine ⟨?_, ?_, ?_, ?_, ?_⟩ <;> (unfold rfA; rw [if_neg (by omega)]; exact if_pos rfl)
theorem rfA_1 (σ : Ab) (x k c w s : Nat) : rfA σ x k c w s 0 1 = σ 0 1 + 1 := if_pos ⟨rfl, rfl⟩
theorem IA_refer (hI : IA σ) {x k c w s : Nat} (h0 : 1 ≤ x) (hx : alive σ x) (hm : σ 11 x % 2 = 1) (hk : k ≤ 5) (hc : c ≤ 9) (hw : w ≤ 7) (hs : s ≤ 1) (hn : σ 0 1 < 60) : IA (rfA σ x k c w s) := by
  have e : ∀ q j, ¬ (q = 0 ∧ j = 1) → (q < 13 ∨ 17 < q ∨ ¬ j = σ 0 1) → rfA σ x k c w s q j = σ q j := fun q j h1 h2 => rfA_o σ x k c w s j h1 h2
  have n1 := rfA_1 σ x k c w s
  obtain ⟨n13, n14, n15, n16, n17⟩ := rfA_n σ x k c w s
  refine IA_ref hI (fun q j h => e q j (by omega) (by omega)) (by rw [n1]; omega) (by rw [e 0 2 (by omega) (by omega)]; exact hI.1.2.2.2.1) (fun i hi => ?_) (fun i hi => ?_)
  · rw [n1] at hi
    by_cases q : i = σ 0 1
    · subst q
      rw [n13, n14, n15, n16, n17]
      exact ⟨h0, hx.1, hm, by omega, by omega, by omega, by omega⟩
    · rw [e 13 i (by omega) (by omega), e 14 i (by omega) (by omega), e 15 i (by omega) (by omega), e 16 i (by omega) (by omega), e 17 i (by omega) (by omega)]
      exact hI.2.2.2.2.2.2.1 i (by omega)
  · rw [e 0 2 (by omega) (by omega)] at hi
    rw [e 18 i (by omega) (by omega)]
    exact hI.2.2.2.2.2.2.2.1.1 i hi
theorem m_refer (hI : IA σ) (hR : RM σ m) {x k c w s : Nat} (h0 : 1 ≤ x) (hx : alive σ x) (hm : σ 11 x % 2 = 1) (hk : k ≤ 5) (hc : c ≤ 9) (hw : w ≤ 7) (hs : s ≤ 1) : Ev (M_refer m (nI x) (nI k) (nI c) (nI w) (nI s)) (fun z => (z.1 = -3 ∧ σ 0 1 = 60 ∧ z.2 = m) ∨ (z.1 = nI (σ 0 1 + 1) ∧ σ 0 1 < 60 ∧ RM (rfA σ x k c w s) z.2)) := by
  have hn := hI.1.2.1
  have hn1 := hI.1.2.2.1
  have hxn := hx.1
  unfold M_refer
  refine ev_in x 1 (σ 0 0 - 1) h0 (by omega) ?_ (hw := by rw [hR.nm]; exact nI_m1 (by omega))
  refine ev_rI (by omega) (by decide) ?_
  rw [hR.mb 12 (by omega) (by omega) hxn, hx.2, if_pos nI_0]
  refine ev_rI (by omega) (by decide) ?_
  rw [hR.mb 11 (by omega) (by omega) hxn, nI_and1 _ (by have := (hI.2.2.2.1 x hxn).2.2.2.1; omega), hm, if_neg (by decide)]
  refine ev_in k 0 5 (by omega) hk ?_
  refine ev_in c 0 9 (by omega) hc ?_
  refine ev_in w 0 7 (by omega) hw ?_
  refine ev_in s 0 1 (by omega) hs ?_
  have r1 := hR.1 1 (by omega)
  refine ev_qn (σ 0 1) 60 (hu := r1) (fun h => ev_some (Or.inl ⟨rfl, h, rfl⟩)) (fun h => ?_)
  simp only [r1]
  refine ev_wI (by omega) (by decide) ?_
  simp only [pu_wi1, r1]
  refine ev_wI (by omega) (by decide) ?_
  simp only [pu_wi1, r1]
  refine ev_wI (by omega) (by decide) ?_
  simp only [pu_wi1, r1]
  refine ev_wI (by omega) (by decide) ?_
  simp only [pu_wi1, r1]
  refine ev_wI (by omega) (by decide) ?_
  refine ev_fI ?_
  have ea : (sk_wi (sk_wi (sk_wi (sk_wi (sk_wi m 13 (σ 0 1) (nI x)) 14 (σ 0 1) (nI k)) 15 (σ 0 1) (nI c)) 16 (σ 0 1) (nI w)) 17 (σ 0 1) (nI s)).1 0 1 = nI (σ 0 1) := by simp [pu_wi1, r1]
  rw [ea, nI_1]
  have an : ∀ v q j, ¬ (q = 0 ∧ j = 1) → (q < 13 ∨ 17 < q ∨ ¬ j = σ 0 1) → (sk_wi (sk_wi (sk_wi (sk_wi (sk_wi (sk_wi m 13 (σ 0 1) (nI x)) 14 (σ 0 1) (nI k)) 15 (σ 0 1) (nI c)) 16 (σ 0 1) (nI w)) 17 (σ 0 1) (nI s)) 0 1 v).1 q j = m.1 q j := by
    intro v q j h1 h2
    rw [pu_wi1, if_neg (by omega), pu_wi1, if_neg (by omega), pu_wi1, if_neg (by omega), pu_wi1, if_neg (by omega), pu_wi1, if_neg (by omega), pu_wi1, if_neg (by omega)]
  have e : ∀ q j, ¬ (q = 0 ∧ j = 1) → (q < 13 ∨ 17 < q ∨ ¬ j = σ 0 1) → rfA σ x k c w s q j = σ q j := fun q j h1 h2 => rfA_o σ x k c w s j h1 h2
  have n1 := rfA_1 σ x k c w s
  obtain ⟨n13, n14, n15, n16, n17⟩ := rfA_n σ x k c w s
  refine ev_some (Or.inr ⟨by rw [pu_wi1, if_pos ⟨rfl, rfl⟩], by omega, ?_⟩)
  have er := RM_rl (σ' := rfA σ x k c w s) hR (fun q j h => e q j (by omega) (by omega)) (e 0 3 (by omega) (by omega)) (e 0 2 (by omega) (by omega)) (fun q j h1 h2 => an (nI (σ 0 1 + 1)) q j (by omega) (by omega))
  refine ⟨fun j hj => ?_, fun r d h1 h2 h3 => ?_, fun r i h1 h2 h3 => ?_, fun r i h1 h2 h3 => ?_, er.1, er.2⟩
  · by_cases q : j = 1
    · subst q; rw [pu_wi1, if_pos ⟨rfl, rfl⟩, n1]
    · rw [an _ 0 j (by omega) (by omega), e 0 j (by omega) (by omega)]; exact hR.1 j hj
  · rw [an _ r d (by omega) (by omega), e r d (by omega) (by omega)]; exact hR.2.1 r d h1 h2 h3
  · rw [e 0 0 (by omega) (by omega)] at h3
    rw [an _ r i (by omega) (by omega), e r i (by omega) (by omega)]; exact hR.2.2.1 r i h1 h2 h3
  · by_cases q : i = σ 0 1
    · subst q
      rcases (show r = 13 ∨ r = 14 ∨ r = 15 ∨ r = 16 ∨ r = 17 by omega) with rfl | rfl | rfl | rfl | rfl
      · rw [n13]; simp [pu_wi1]
      · rw [n14]; simp [pu_wi1]
      · rw [n15]; simp [pu_wi1]
      · rw [n16]; simp [pu_wi1]
      · rw [n17]; simp [pu_wi1]
    · rw [n1] at h3
      rw [an _ r i (by omega) (by omega), e r i (by omega) (by omega)]; exact hR.2.2.2.1 r i h1 h2 (by omega)
theorem ltA_o (σ : Ab) (v : Nat) {q : Nat} (j : Nat) (h1 : ¬ (q = 0 ∧ j = 2)) (h2 : ¬ (q = 18 ∧ j = σ 0 2)) : ltA σ v q j = σ q j := by
  unfold ltA
  rw [if_neg h1, if_neg h2]
theorem ltA_2 (σ : Ab) (v : Nat) : ltA σ v 0 2 = σ 0 2 + 1 := if_pos ⟨rfl, rfl⟩
theorem ltA_n (σ : Ab) (v : Nat) : ltA σ v 18 (σ 0 2) = v := by
  unfold ltA
  rw [if_neg (by omega), if_pos ⟨rfl, rfl⟩]
theorem IA_letter (hI : IA σ) {v : Nat} (h1 : 32 ≤ v) (h2 : v ≤ 126) (hn : σ 0 2 < 60) : IA (ltA σ v) := by
  have e : ∀ q j, ¬ (q = 0 ∧ j = 2) → ¬ (q = 18 ∧ j = σ 0 2) → ltA σ v q j = σ q j := fun q j h1 h2 => ltA_o σ v j h1 h2
  refine IA_ref hI (fun q j h => e q j (by omega) (by omega)) (by rw [e 0 1 (by omega) (by omega)]; exact hI.1.2.2.1) (by rw [ltA_2]; omega) (fun i hi => ?_) (fun i hi => ?_)
  · rw [e 0 1 (by omega) (by omega)] at hi
    rw [e 13 i (by omega) (by omega), e 14 i (by omega) (by omega), e 15 i (by omega) (by omega), e 16 i (by omega) (by omega), e 17 i (by omega) (by omega)]
    exact hI.2.2.2.2.2.2.1 i hi
  · rw [ltA_2] at hi
    by_cases q : i = σ 0 2
    · subst q; rw [ltA_n]; exact ⟨h1, h2⟩
    · rw [e 18 i (by omega) (by omega)]; exact hI.2.2.2.2.2.2.2.1.1 i (by omega)
theorem m_letter (hI : IA σ) (hR : RM σ m) {v : Nat} (h1 : 32 ≤ v) (h2 : v ≤ 126) : Ev (M_letter m (nI v)) (fun z => (z.1 = -3 ∧ σ 0 2 = 60 ∧ z.2 = m) ∨ (z.1 = nI (σ 0 2 + 1) ∧ σ 0 2 < 60 ∧ RM (ltA σ v) z.2)) := by
  have hn := hI.1.2.2.2.1
  have r2 := hR.1 2 (by omega)
  unfold M_letter
  refine ev_in v 32 126 h1 h2 ?_
  refine ev_qn (σ 0 2) 60 (hu := r2) (fun h => ev_some (Or.inl ⟨rfl, h, rfl⟩)) (fun h => ?_)
  rw [r2]
  refine ev_wI (by omega) (by decide) ?_
  refine ev_fI ?_
  rw [show (sk_wi m 18 (σ 0 2) (nI v)).1 0 2 = nI (σ 0 2) by rw [pu_wi1, if_neg (by omega)]; exact r2, nI_1]
  have e : ∀ q j, ¬ (q = 0 ∧ j = 2) → ¬ (q = 18 ∧ j = σ 0 2) → ltA σ v q j = σ q j := fun q j h1 h2 => ltA_o σ v j h1 h2
  have an : ∀ u q j, ¬ (q = 0 ∧ j = 2) → ¬ (q = 18 ∧ j = σ 0 2) → (sk_wi (sk_wi m 18 (σ 0 2) (nI v)) 0 2 u).1 q j = m.1 q j := by
    intro v q j h1 h2
    rw [pu_wi1, if_neg h1, pu_wi1, if_neg h2]
  refine ev_some (Or.inr ⟨by rw [pu_wi1, if_pos ⟨rfl, rfl⟩], by omega, ?_⟩)
  refine ⟨fun j hj => ?_, fun r d h1 h2 h3 => ?_, fun r i h1 h2 h3 => ?_, fun r i h1 h2 h3 => ?_, ⟨fun i hi => ?_, fun k hk => ?_⟩, fun r hr => ?_⟩
  · by_cases q : j = 2
    · subst q; rw [pu_wi1, if_pos ⟨rfl, rfl⟩, ltA_2]
    · rw [an _ 0 j (by omega) (by omega), e 0 j (by omega) (by omega)]; exact hR.1 j hj
  · rw [an _ r d (by omega) (by omega), e r d (by omega) (by omega)]; exact hR.2.1 r d h1 h2 h3
  · rw [e 0 0 (by omega) (by omega)] at h3
    rw [an _ r i (by omega) (by omega), e r i (by omega) (by omega)]; exact hR.2.2.1 r i h1 h2 h3
  · rw [e 0 1 (by omega) (by omega)] at h3
    rw [an _ r i (by omega) (by omega), e r i (by omega) (by omega)]; exact hR.2.2.2.1 r i h1 h2 h3
  · rw [ltA_2] at hi
    by_cases q : i = σ 0 2
    · subst q; rw [ltA_n, pu_wi1, if_neg (by omega), pu_wi1, if_pos ⟨rfl, rfl⟩]
    · rw [an _ 18 i (by omega) (by omega), e 18 i (by omega) (by omega)]; exact hR.2.2.2.2.1.1 i (by omega)
  · rw [an _ 19 k (by omega) (by omega), e 19 k (by omega) (by omega)]; exact hR.2.2.2.2.1.2 k hk
  · rw [e 0 3 (by omega) (by omega)] at hr
    obtain ⟨a1, a2, a3, a4, a5, a6, a7, a8⟩ := hR.2.2.2.2.2 r hr
    rw [an _ 20 r (by omega) (by omega), an _ 21 r (by omega) (by omega), an _ 22 r (by omega) (by omega), an _ 23 r (by omega) (by omega), an _ 24 r (by omega) (by omega), an _ 25 r (by omega) (by omega), e 20 r (by omega) (by omega), e 21 r (by omega) (by omega), e 22 r (by omega) (by omega), e 23 r (by omega) (by omega), e 24 r (by omega) (by omega), e 25 r (by omega) (by omega)]
    exact ⟨a1, a2, a3, a4, a5, a6, fun k hk => by rw [an _ 26 _ (by omega) (by omega), an _ 27 _ (by omega) (by omega), an _ 28 _ (by omega) (by omega), e 26 _ (by omega) (by omega), e 27 _ (by omega) (by omega), e 28 _ (by omega) (by omega)]; exact a7 k hk, fun k hk => by rw [an _ 19 _ (by omega) (by omega), e 19 _ (by omega) (by omega)]; exact a8 k hk⟩
theorem c0A_o (σ : Ab) {q : Nat} (j : Nat) (h : ¬ (q = 0 ∧ (j = 2 ∨ j = 3))) : c0A σ q j = σ q j := if_neg h
theorem c0A_z (σ : Ab) : c0A σ 0 2 = 0 ∧ c0A σ 0 3 = 0 := ⟨if_pos ⟨rfl, Or.inl rfl⟩, if_pos ⟨rfl, Or.inr rfl⟩⟩
theorem c1A_o (σ : Ab) {q : Nat} (j : Nat) (h1 : ¬ q = 0) (h2 : ¬ (q = 1 ∧ 1 ≤ j)) : c1A σ q j = σ q j := by
  unfold c1A
  rw [if_neg h1, if_neg h2]
theorem c1A_z (σ : Ab) : c1A σ 0 0 = 1 ∧ c1A σ 0 1 = 0 ∧ c1A σ 0 2 = 0 ∧ c1A σ 0 3 = 0 := ⟨rfl, rfl, rfl, rfl⟩
theorem c1A_1 (σ : Ab) {c : Nat} (h : 1 ≤ c) : c1A σ 1 c = 0 := by
  unfold c1A
  rw [if_neg (by omega), if_pos ⟨rfl, h⟩]
theorem IA_clear0 (hI : IA σ) : IA (c0A σ) := by
  obtain ⟨i1, i2, i3, i4, i5, i6, i7, i8, i9⟩ := hI
  have e : ∀ q j, ¬ (q = 0 ∧ (j = 2 ∨ j = 3)) → c0A σ q j = σ q j := fun q j h => c0A_o σ j h
  obtain ⟨z2, z3⟩ := c0A_z σ
  refine ⟨?_, fun d hd => ?_, ?_, fun x hx => ?_, ?_, fun d g x y h1 h2 => ?_, fun i hi => ?_, ⟨fun i hi => ?_, fun k hk => ?_⟩, fun r hr => ?_⟩
  · rw [e 0 0 (by omega), e 0 1 (by omega), z2, z3]; omega
  · rw [e 1 d (by omega), e 2 d (by omega), e 3 d (by omega), e 4 d (by omega), e 5 d (by omega), e 6 d (by omega)]; exact i2 d hd
  · rw [e 1 0 (by omega), e 2 0 (by omega), e 3 0 (by omega), e 4 0 (by omega), e 5 0 (by omega)]; exact i3
  · rw [e 0 0 (by omega)] at hx
    rw [e 8 x (by omega), e 9 x (by omega), e 10 x (by omega), e 11 x (by omega), e 12 x (by omega), e 1 _ (by omega)]; exact i4 x hx
  · rw [e 8 0 (by omega), e 9 0 (by omega), e 10 0 (by omega), e 11 0 (by omega), e 12 0 (by omega)]; exact i5
  · exact i6 d g x y ((own_same (fun q j h => e q j (by omega)) d g x).mp h1) ((own_same (fun q j h => e q j (by omega)) d g y).mp h2)
  · rw [e 0 1 (by omega)] at hi
    rw [e 13 i (by omega), e 14 i (by omega), e 15 i (by omega), e 16 i (by omega), e 17 i (by omega), e 0 0 (by omega), e 11 _ (by omega)]; exact i7 i hi
  · rw [z2] at hi; omega
  · rw [e 19 k (by omega)]; exact i8.2 k hk
  · rw [z3] at hr; omega
theorem IA_clear1 (hI : IA σ) : IA (c1A σ) := by
  obtain ⟨i1, i2, i3, i4, i5, i6, i7, i8, i9⟩ := hI
  have e : ∀ q j, ¬ q = 0 → ¬ (q = 1 ∧ 1 ≤ j) → c1A σ q j = σ q j := fun q j h1 h2 => c1A_o σ j h1 h2
  obtain ⟨z0, z1, z2, z3⟩ := c1A_z σ
  refine ⟨?_, fun d hd => ?_, ?_, fun x hx => ?_, ?_, fun d g x y h1 h2 => ?_, fun i hi => ?_, ⟨fun i hi => ?_, fun k hk => ?_⟩, fun r hr => ?_⟩
  · rw [z0, z1, z2, z3]; omega
  · rw [e 2 d (by omega) (by omega), e 3 d (by omega) (by omega), e 4 d (by omega) (by omega), e 5 d (by omega) (by omega), e 6 d (by omega) (by omega)]
    refine ⟨?_, (i2 d hd).2⟩
    rcases Nat.eq_zero_or_pos d with q | q
    · rw [e 1 d (by omega) (by omega)]; exact (i2 d hd).1
    · rw [c1A_1 σ q]; omega
  · rw [e 1 0 (by omega) (by omega), e 2 0 (by omega) (by omega), e 3 0 (by omega) (by omega), e 4 0 (by omega) (by omega), e 5 0 (by omega) (by omega)]; exact i3
  · rw [z0] at hx
    have hx0 : x = 0 := by omega
    subst hx0
    rw [e 8 0 (by omega) (by omega), e 9 0 (by omega) (by omega), e 10 0 (by omega) (by omega), e 11 0 (by omega) (by omega), e 12 0 (by omega) (by omega), i5.1, e 1 0 (by omega) (by omega)]
    have := i4 0 (by omega)
    rw [i5.1] at this
    exact this
  · rw [e 8 0 (by omega) (by omega), e 9 0 (by omega) (by omega), e 10 0 (by omega) (by omega), e 11 0 (by omega) (by omega), e 12 0 (by omega) (by omega)]; exact i5
  · have q1 := h1.1.1; have q2 := h2.1.1
    rw [z0] at q1 q2; omega
  · rw [z1] at hi; omega
  · rw [z2] at hi; omega
  · rw [e 19 k (by omega) (by omega)]; exact i8.2 k hk
  · rw [z3] at hr; omega
theorem m_clear0 (hR : RM σ m) : Ev (M_clear N m 0) (fun z => z.1 = nI (σ 0 3) ∧ RM (c0A σ) z.2) := by
  unfold M_clear
  refine ev_fI ?_
  refine ev_fI ?_
  rw [if_pos rfl]
  have e : ∀ q j, ¬ (q = 0 ∧ (j = 2 ∨ j = 3)) → c0A σ q j = σ q j := fun q j h => c0A_o σ j h
  obtain ⟨z2, z3⟩ := c0A_z σ
  have an : ∀ q j, ¬ (q = 0 ∧ (j = 2 ∨ j = 3)) → (sk_wi (sk_wi m 0 3 0) 0 2 0).1 q j = m.1 q j := fun q j h => by rw [pu_wi1, if_neg (by omega), pu_wi1, if_neg (by omega)]
  refine ev_some ⟨hR.1 3 (by omega), fun j hj => ?_, fun r d h1 h2 h3 => ?_, fun r i h1 h2 h3 => ?_, fun r i h1 h2 h3 => ?_, ⟨fun i hi => ?_, fun k hk => ?_⟩, fun r hr => ?_⟩
  · by_cases q : j = 2
    · subst q; rw [z2]; rfl
    · by_cases q3 : j = 3
      · subst q3; rw [z3]; rfl
      · rw [an 0 j (by omega), e 0 j (by omega)]; exact hR.1 j hj
  · rw [an r d (by omega), e r d (by omega)]; exact hR.2.1 r d h1 h2 h3
  · rw [e 0 0 (by omega)] at h3
    rw [an r i (by omega), e r i (by omega)]; exact hR.2.2.1 r i h1 h2 h3
  · rw [e 0 1 (by omega)] at h3
    rw [an r i (by omega), e r i (by omega)]; exact hR.2.2.2.1 r i h1 h2 h3
  · rw [z2] at hi; omega
  · rw [an 19 k (by omega), e 19 k (by omega)]; exact hR.2.2.2.2.1.2 k hk
  · rw [z3] at hr; omega
theorem m_clear1 (hI : IA σ) (hR : RM σ m) (hN : 80 < N) : Ev (M_clear N m 1) (fun z => z.1 = nI (σ 0 3) ∧ RM (c1A σ) z.2) := by
  unfold M_clear
  refine ev_fI ?_
  refine ev_fI ?_
  rw [if_neg (by decide)]
  have e : ∀ q j, ¬ q = 0 → ¬ (q = 1 ∧ 1 ≤ j) → c1A σ q j = σ q j := fun q j h1 h2 => c1A_o σ j h1 h2
  obtain ⟨z0, z1, z2, z3⟩ := c1A_z σ
  refine ev_lp (fun k z => ∃ st c, z = (st, m.1 0 3, nI c) ∧ c + k = 10 ∧ 1 ≤ c ∧ st.1 0 2 = 0 ∧ st.1 0 3 = 0 ∧ ∀ q j, ¬ q = 0 → st.1 q j = if q = 1 ∧ 1 ≤ j ∧ j < c then nI 0 else m.1 q j) ?_ N 9 _ (by omega) ⟨_, 1, rfl, by omega, by omega, rfl, rfl, fun q j h => by rw [if_neg (by omega), pu_wi1, if_neg (by omega), pu_wi1, if_neg (by omega)]⟩
  rintro k z self ⟨st, c, rfl, hk, hc1, s2, s3, hq⟩ ih
  unfold M_clear_L21
  dsimp only
  refine ev_le 10 c (fun h => ?_) (fun hc => ?_)
  · unfold M_clear_J40
    refine ev_fI ?_
    refine ev_fI ?_
    have an : ∀ q j, ¬ q = 0 → (sk_wi (sk_wi st 0 0 1) 0 1 0).1 q j = st.1 q j := fun q j h => by rw [pu_wi1, if_neg (by omega), pu_wi1, if_neg (by omega)]
    refine ev_some ⟨hR.1 3 (by omega), fun j hj => ?_, fun r d h1 h2 h3 => ?_, fun r i h1 h2 h3 => ?_, fun r i h1 h2 h3 => ?_, ⟨fun i hi => ?_, fun k hk => ?_⟩, fun r hr => ?_⟩
    · rcases (show j = 0 ∨ j = 1 ∨ j = 2 ∨ j = 3 by omega) with rfl | rfl | rfl | rfl
      · rw [z0]; rfl
      · rw [z1]; rfl
      · rw [z2]; show (sk_wi (sk_wi st 0 0 1) 0 1 0).1 0 2 = _
        rw [pu_wi1, if_neg (by omega), pu_wi1, if_neg (by omega)]; exact s2
      · rw [z3]; show (sk_wi (sk_wi st 0 0 1) 0 1 0).1 0 3 = _
        rw [pu_wi1, if_neg (by omega), pu_wi1, if_neg (by omega)]; exact s3
    · show (sk_wi (sk_wi st 0 0 1) 0 1 0).1 r d = _
      rw [an r d (by omega), hq r d (by omega)]
      by_cases q : r = 1 ∧ 1 ≤ d
      · rw [if_pos ⟨q.1, q.2, by omega⟩, q.1, c1A_1 σ q.2]
      · rw [if_neg (fun z => q ⟨z.1, z.2.1⟩), e r d (by omega) q]; exact hR.2.1 r d h1 h2 h3
    · rw [z0] at h3
      show (sk_wi (sk_wi st 0 0 1) 0 1 0).1 r i = _
      rw [an r i (by omega), hq r i (by omega), if_neg (by omega), e r i (by omega) (by omega)]; exact hR.2.2.1 r i h1 h2 (by have := hI.1.1; omega)
    · rw [z1] at h3; omega
    · rw [z2] at hi; omega
    · show (sk_wi (sk_wi st 0 0 1) 0 1 0).1 19 k = _
      rw [an 19 k (by omega), hq 19 k (by omega), if_neg (by omega), e 19 k (by omega) (by omega)]; exact hR.2.2.2.2.1.2 k hk
    · rw [z3] at hr; omega
  · refine ev_wI (by omega) (by decide) ?_
    rw [nI_1, nar_b0]
    refine ih (k - 1) _ (by omega) ⟨_, c + 1, rfl, by omega, by omega, by rw [pu_wi1, if_neg (by omega)]; exact s2, by rw [pu_wi1, if_neg (by omega)]; exact s3, fun q j h => ?_⟩
    rw [pu_wi1]
    by_cases g : q = 1 ∧ j = c
    · rw [if_pos g, if_pos (by omega)]
    · rw [if_neg g, hq q j h]
      by_cases g2 : q = 1 ∧ 1 ≤ j ∧ j < c
      · rw [if_pos g2, if_pos (by omega)]
      · rw [if_neg g2, if_neg (by omega)]
end
