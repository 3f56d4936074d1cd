/-! THE TWO SIDES -/
def INV (K M : sk_M) : Prop := ∃ σ, IA σ ∧ RM σ M ∧ RK σ K
theorem pm_of {x y : Option (Int32 × sk_M)} {P Q : Int32 × sk_M → Prop} (hx : Ev x P) (hy : Ev y Q) (h : ∀ a b, P a → Q b → a.1 = b.1 ∧ INV a.2 b.2) : ∃ (r : Int32) (K' M' : sk_M), x = some (r, K') ∧ y = some (r, M') ∧ INV K' M' := by
  obtain ⟨⟨a1, a2⟩, e1, p⟩ := hx
  obtain ⟨⟨b1, b2⟩, e2, q⟩ := hy
  obtain ⟨e, i⟩ := h _ _ p q
  dsimp only at e i
  subst e
  exact ⟨a1, a2, b2, e1, e2, i⟩
theorem pm_no {x y : Option (Int32 × sk_M)} {K M : sk_M} {r : Int32} (hi : INV K M) (hx : x = some (r, K)) (hy : y = some (r, M)) : ∃ (r : Int32) (K' M' : sk_M), x = some (r, K') ∧ y = some (r, M') ∧ INV K' M' := ⟨r, K, M, hx, hy, hi⟩
theorem pm_same {x y : Option (Int32 × sk_M)} {σ : Ab} {r : Int32} (hI : IA σ) (hx : Ev x (fun z => z.1 = r ∧ RK σ z.2)) (hy : Ev y (fun z => z.1 = r ∧ RM σ z.2)) : ∃ (r : Int32) (K' M' : sk_M), x = some (r, K') ∧ y = some (r, M') ∧ INV K' M' :=
  pm_of hx hy (fun a b p q => ⟨p.1.trans q.1.symm, σ, hI, q.2, p.2⟩)
theorem in_z {v : Int32} {a b : Nat} (ha : a < 2 ^ 31) (hb : b < 2 ^ 31) (h : ∀ j, a ≤ j → j ≤ b → v ≠ nI j) : M_in v (nI a) (nI b) = 0 := by
  rcases in_cases v ha hb with q | q
  · exact q.1
  · obtain ⟨j, h1, h2, h3⟩ := q.2
    exact absurd h3 (h j h1 h2)
section
variable {σ : Ab} {K M : sk_M} {N : Nat}
theorem p_type (hN : 80 < N) : pm_type N INV := by
  intro K M v1 v2 v3 v4 v5 hi
  have hi0 := hi
  obtain ⟨σ, hI, hM, hK⟩ := hi
  by_cases h1 : M_in v1 1 9 = 0
  · exact pm_no hi0 (by unfold K_SF_type; rw [if_pos (show K_SF_within v1 1 9 = 0 from h1)]) (by unfold M_type; rw [if_pos h1])
  by_cases h2 : M_in v2 0 2 = 0
  · exact pm_no hi0 (by unfold K_SF_type; rw [if_neg (show ¬ K_SF_within v1 1 9 = 0 from h1), if_pos (show K_SF_within v2 0 2 = 0 from h2)]) (by unfold M_type; rw [if_neg h1, if_pos h2])
  by_cases h3 : M_in v3 0 3 = 0
  · exact pm_no hi0 (by unfold K_SF_type; rw [if_neg (show ¬ K_SF_within v1 1 9 = 0 from h1), if_neg (show ¬ K_SF_within v2 0 2 = 0 from h2), if_pos (show K_SF_within v3 0 3 = 0 from h3)]) (by unfold M_type; rw [if_neg h1, if_neg h2, if_pos h3])
  by_cases h4 : M_in v4 0 (v1 - 1) = 0
  · exact pm_no hi0 (by unfold K_SF_type; rw [if_neg (show ¬ K_SF_within v1 1 9 = 0 from h1), if_neg (show ¬ K_SF_within v2 0 2 = 0 from h2), if_neg (show ¬ K_SF_within v3 0 3 = 0 from h3), if_pos (show K_SF_within v4 0 (v1 - 1) = 0 from h4)]) (by unfold M_type; rw [if_neg h1, if_neg h2, if_neg h3, if_pos h4])
  by_cases h5 : M_in v5 0 1023 = 0
  · exact pm_no hi0 (by unfold K_SF_type; rw [if_neg (show ¬ K_SF_within v1 1 9 = 0 from h1), if_neg (show ¬ K_SF_within v2 0 2 = 0 from h2), if_neg (show ¬ K_SF_within v3 0 3 = 0 from h3), if_neg (show ¬ K_SF_within v4 0 (v1 - 1) = 0 from h4), if_pos (show K_SF_within v5 0 1023 = 0 from h5)]) (by unfold M_type; rw [if_neg h1, if_neg h2, if_neg h3, if_neg h4, if_pos h5])
  obtain ⟨c, c1, c2, rfl⟩ := in_yes (a := 1) (b := 9) (by omega) (by omega) h1
  obtain ⟨p, _, p2, rfl⟩ := in_yes (a := 0) (b := 2) (by omega) (by omega) h2
  obtain ⟨f, _, f2, rfl⟩ := in_yes (a := 0) (b := 3) (by omega) (by omega) h3
  rw [nI_m1 c1] at h4
  obtain ⟨a, _, a2, rfl⟩ := in_yes (a := 0) (b := c - 1) (by omega) (by omega) h4
  obtain ⟨fs, _, fs2, rfl⟩ := in_yes (a := 0) (b := 1023) (by omega) (by omega) h5
  exact pm_same (IA_type hI c1 c2 p2 f2 a2) (k_type hI hN hK c1 c2 p2 f2 a2 fs2) (m_type hM c1 c2 p2 f2 a2 fs2)
/-- is the class there? -/
theorem th_cases (hI : IA σ) (hM : RM σ M) (hK : RK σ K) (v : Int32) : (∃ c, c < 10 ∧ v = nI c ∧ σ 1 c = 1 ∧ K_Types_isThere K v = 1 ∧ M.1 1 c = nI 1) ∨ (K_Types_isThere K v = 0 ∧ ∀ c, c < 10 → v = nI c → M.1 1 c = 0) := by
  unfold K_Types_isThere
  rcases has_cases hK.1.1.2 v with ⟨h, hno⟩ | ⟨c, _, rfl, hc, h⟩
  · refine Or.inr ⟨h, fun c hc e => ?_⟩
    rw [hM.cl 1 (by omega) (by omega) hc]
    have := hno c (by omega) e
    have b := (hI.2.1 c hc).1
    rw [show σ 1 c = 0 by have : ¬ σ 1 c = 1 := fun z => this ⟨hc, z⟩; omega]; rfl
  · exact Or.inl ⟨c, hc.1, rfl, hc.2, h, by rw [hM.cl 1 (by omega) (by omega) hc.1, hc.2]⟩
theorem p_drop (hN : 80 < N) : pm_drop N INV := by
  intro K M v1 hi
  have hi0 := hi
  obtain ⟨σ, hI, hM, hK⟩ := hi
  rcases th_cases hI hM hK v1 with ⟨c, hc, rfl, ht, h1, h2⟩ | ⟨h1, h2⟩
  · rcases Nat.eq_zero_or_pos c with q | q
    · subst q
      exact pm_no hi0 (r := 0) (by unfold K_SF_drop; rw [if_pos nI_0]) (by unfold M_drop; rw [if_pos (by decide)])
    · exact pm_same (IA_drop hI q (by omega)) (k_drop hI hN hK q (by omega) ht) (m_drop hI hM hN q (by omega) ht)
  · refine pm_no hi0 (r := 0) ?_ ?_
    · unfold K_SF_drop
      by_cases z : v1 = 0
      · rw [if_pos z]
      · rw [if_neg z, if_pos h1]
    · unfold M_drop
      by_cases z : M_in v1 1 9 = 0
      · rw [if_pos z]
      · rw [if_neg z]
        obtain ⟨j, j1, j2, rfl⟩ := in_yes (a := 1) (b := 9) (by omega) (by omega) z
        rw [pu_rI (by omega) (by decide), h2 j (by omega) rfl, if_pos rfl]
theorem p_member (hN : 80 < N) : pm_member N INV := by
  intro K M v1 v2 v3 v4 hi
  have hi0 := hi
  obtain ⟨σ, hI, hM, hK⟩ := hi
  rcases th_cases hI hM hK v1 with ⟨c, hc, rfl, ht, h1, h2⟩ | ⟨h1, h2⟩
  · rcases Nat.eq_zero_or_pos c with q | q
    · subst q
      exact pm_no hi0 (r := -1) (by unfold K_SF_member; rw [if_pos nI_0]) (by unfold M_member; rw [if_pos (by decide)])
    · have k1 : ¬ nI c = 0 := fun z => by have := (nI_z (by omega)).mp z; omega
      have k2 : ¬ K_Types_isThere K (nI c) = 0 := by rw [h1]; decide
      have m1 : ¬ M_in (nI c) 1 9 = 0 := in_ok (a := 1) (b := 9) q (by omega) (by omega)
      have m2 : ¬ M.1 1 c = 0 := by rw [h2]; decide
      by_cases h4 : M_in v4 0 7 = 0
      · exact pm_no hi0 (by unfold K_SF_member; rw [if_neg k1, if_neg k2, if_pos (show K_SF_within v4 0 7 = 0 from h4)]) (by unfold M_member; rw [if_neg m1, pu_rI (by omega) (by decide), if_neg m2, if_pos h4])
      obtain ⟨f, _, f2, rfl⟩ := in_yes (a := 0) (b := 7) (by omega) (by omega) h4
      have badK : ∀ kd v : Nat, kd = f % 2 → v = (if f % 2 = 1 then 8 else 6) → K_SF_member_J56 K (nI c) v2 v3 (nI f) (nI kd) v2 0 (nI v) = some (-1, K) → K_SF_member K (nI c) v2 v3 (nI f) = some (-1, K) := fun kd v e1 e2 h => by
        unfold K_SF_member
        rw [if_neg k1, if_neg k2, if_neg (show ¬ K_SF_within (nI f) 0 7 = 0 from h4), nI_and1 _ (by omega)]
        unfold K_SF_member_J40
        by_cases z : f % 2 = 0
        · rw [if_pos ((nI_z (by omega)).mpr z), if_pos rfl]
          rw [e1, z, e2, if_neg (by omega)] at h
          exact h
        · rw [if_neg (fun y => z ((nI_z (by omega)).mp y)), if_neg (by decide)]
          rw [e1, show f % 2 = 1 by omega, e2, if_pos (by omega)] at h
          exact h
      have badM : ∀ v : Nat, v = (if f % 2 = 1 then 7 else 5) → M_member_J46 N M (nI c) v2 v3 (nI f) v2 0 (nI v) = some (-1, M) → M_member N M (nI c) v2 v3 (nI f) = some (-1, M) := fun v e2 h => by
        unfold M_member
        rw [if_neg m1, pu_rI (by omega) (by decide), if_neg m2, if_neg h4, nI_and1 _ (by omega)]
        by_cases z : f % 2 = 1
        · rw [if_pos (by rw [z]; rfl)]
          rw [e2, if_pos z] at h
          exact h
        · rw [if_neg (show ¬ nI (f % 2) = 1 from fun y => z ((nI_lit (b := 1) (by omega) (by omega) rfl).mp y))]
          rw [e2, if_neg z] at h
          exact h
      by_cases h5 : M_in v2 0 (nI (if f % 2 = 1 then 7 else 5)) = 0
      · refine pm_no hi0 (badK (f % 2) (if f % 2 = 1 then 8 else 6) rfl rfl ?_) (badM _ rfl ?_)
        · unfold K_SF_member_J56
          have e : nI (if f % 2 = 1 then 8 else 6) - 1 = nI (if f % 2 = 1 then 7 else 5) := by split <;> rfl
          rw [e, if_pos (show K_SF_within v2 0 (nI (if f % 2 = 1 then 7 else 5)) = 0 from h5)]
        · unfold M_member_J46
          rw [if_pos h5]
      have e86 : nI (if f % 2 = 1 then 8 else 6) - 1 = nI (if f % 2 = 1 then 7 else 5) := by split <;> rfl
      by_cases h6 : M_in v3 0 1 = 0
      · refine pm_no hi0 (badK (f % 2) (if f % 2 = 1 then 8 else 6) rfl rfl ?_) (badM _ rfl ?_)
        · unfold K_SF_member_J56
          rw [e86, if_neg (show ¬ K_SF_within v2 0 (nI (if f % 2 = 1 then 7 else 5)) = 0 from h5), if_pos (show K_SF_within v3 0 1 = 0 from h6)]
        · unfold M_member_J46
          rw [if_neg h5, if_pos h6]
      obtain ⟨w, _, w2, rfl⟩ := in_yes (a := 0) (b := if f % 2 = 1 then 7 else 5) (by omega) (by split <;> omega) h5
      obtain ⟨s, _, s2, rfl⟩ := in_yes (a := 0) (b := 1) (by omega) (by omega) h6
      have hw : w < if f % 2 = 1 then 8 else 6 := by
        by_cases z : f % 2 = 1
        · rw [if_pos z] at w2 ⊢; omega
        · rw [if_neg z] at w2 ⊢; omega
      refine pm_of (k_member hI hK q (by omega) ht (by omega) (by omega) hw) (m_member hI hM hN q (by omega) ht (by omega) (by omega) hw) (fun a b p p' => ?_)
      rcases p with ⟨x1, x2, x3⟩ | ⟨x1, x2⟩
      · rcases p' with ⟨y1, y2, y3⟩ | ⟨y1, y2⟩
        · exact ⟨x1.trans y1.symm, σ, hI, by rw [y3]; exact hM, x3⟩
        · obtain ⟨y, hy⟩ := x2; exact absurd hy (y1 y)
      · rcases p' with ⟨y1, ⟨y, hy⟩, y3⟩ | ⟨y1, y2⟩
        · exact absurd hy (x1 y)
        · rcases x2 with ⟨u1, u2, u3⟩ | ⟨u1, u2, u3⟩
          · rcases y2 with ⟨t1, t2, t3⟩ | ⟨t1, t2, t3⟩
            · exact ⟨u1.trans t1.symm, σ, hI, by rw [t3]; exact hM, u3⟩
            · omega
          · rcases y2 with ⟨t1, t2, t3⟩ | ⟨t1, t2, t3⟩
            · omega
            · refine ⟨u1.trans t1.symm, mbA σ c w s f, IA_member hI q (by omega) ?_ (by omega) (by omega) ?_ ht u2 x1, t3, u3⟩
              · split at hw <;> omega
              · intro z; rw [if_neg (by omega)] at hw; exact hw
  · refine pm_no hi0 (r := -1) ?_ ?_
    · unfold K_SF_member
      by_cases z : v1 = 0
      · rw [if_pos z]
      · rw [if_neg z, if_pos h1]
    · unfold M_member
      by_cases z : M_in v1 1 9 = 0
      · rw [if_pos z]
      · rw [if_neg z]
        obtain ⟨j, j1, j2, rfl⟩ := in_yes (a := 1) (b := 9) (by omega) (by omega) z
        rw [pu_rI (by omega) (by decide), h2 j (by omega) rfl, if_pos rfl]
/-- is the member alive? -/
theorem al_cases (hI : IA σ) (hK : RK σ K) (v : Int32) : (∃ x, v = nI x ∧ alive σ x ∧ K_Members_isAlive K v = 1) ∨ (K_Members_isAlive K v = 0 ∧ ∀ x, x < 40 → v = nI x → ¬ alive σ x) := by
  unfold K_Members_isAlive
  rcases has_cases hK.1.2.2.1.2.2.1 v with ⟨h, hno⟩ | ⟨c, _, rfl, hc, h⟩
  · exact Or.inr ⟨h, fun c hc e => hno c (by omega) e⟩
  · exact Or.inl ⟨c, rfl, hc, h⟩
theorem p_remove : pm_remove N INV := by
  intro K M v1 hi
  have hi0 := hi
  obtain ⟨σ, hI, hM, hK⟩ := hi
  have hn := hI.1.2.1
  have hn1 := hI.1.1
  rcases al_cases hI hK v1 with ⟨x, rfl, hx, h1⟩ | ⟨h1, h2⟩
  · rcases Nat.eq_zero_or_pos x with q | q
    · subst q
      refine pm_no hi0 (r := 0) (by unfold K_SF_remove; rw [if_pos nI_0]) ?_
      unfold M_remove
      rw [hM.nm, nI_m1 hn1, if_pos]
      exact in_z (a := 1) (by omega) (by omega) (fun j h1 h2 e => by have := (nI_eq (a := 0) (by omega) (by omega)).mp e; omega)
    · exact pm_same (IA_remove hI q) (k_remove hI hK q hx) (m_remove hI hM q hx)
  · refine pm_no hi0 (r := 0) ?_ ?_
    · unfold K_SF_remove
      by_cases z : v1 = 0
      · rw [if_pos z]
      · rw [if_neg z, if_pos h1]
    · unfold M_remove
      rw [hM.nm, nI_m1 hn1]
      by_cases z : M_in v1 1 (nI (σ 0 0 - 1)) = 0
      · rw [if_pos z]
      · rw [if_neg z]
        obtain ⟨j, j1, j2, rfl⟩ := in_yes (a := 1) (b := σ 0 0 - 1) (by omega) (by omega) z
        have hj : j < σ 0 0 := by omega
        have b := (hI.2.2.2.1 j hj).2.2.2.2.1
        rw [pu_rI (by omega) (by decide), hM.mb 12 (by omega) (by omega) hj, if_neg]
        intro y
        exact h2 j (by omega) rfl ⟨hj, (nI_z (by omega)).mp y⟩
theorem p_refer : pm_refer N INV := by
  intro K M v1 v2 v3 v4 v5 hi
  have hi0 := hi
  obtain ⟨σ, hI, hM, hK⟩ := hi
  have hn := hI.1.2.1
  have hn1 := hI.1.1
  rcases al_cases hI hK v1 with ⟨x, rfl, hx, h1⟩ | ⟨h1, h2⟩
  · have hxn := hx.1
    rcases Nat.eq_zero_or_pos x with q | q
    · subst q
      refine pm_no hi0 (r := -1) (by unfold K_SF_refer; rw [if_pos nI_0]) ?_
      unfold M_refer
      rw [hM.nm, nI_m1 hn1, if_pos]
      exact in_z (a := 1) (by omega) (by omega) (fun j h1 h2 e => by have := (nI_eq (a := 0) (by omega) (by omega)).mp e; omega)
    · have k1 : ¬ nI x = 0 := fun z => by have := (nI_z (by omega)).mp z; omega
      have k2 : ¬ K_Members_isAlive K (nI x) = 0 := by rw [h1]; decide
      have m1 : ¬ M_in (nI x) 1 (M.1 0 0 - 1) = 0 := by rw [hM.nm, nI_m1 hn1]; exact in_ok (a := 1) q (by omega) (by omega)
      have m2 : M.1 12 x = 0 := by rw [hM.mb 12 (by omega) (by omega) hxn, hx.2]; rfl
      have b11 := (hI.2.2.2.1 x hxn).2.2.2.1
      have f11 : K.1 19 x = nI (σ 11 x) := (hK.1.2.2.1.2.1 x hxn).2.2
      have e11 : M.1 11 x = nI (σ 11 x) := hM.mb 11 (by omega) (by omega) hxn
      have hK0 : K_Members_hasFlag K (nI x) 1 = some (if σ 11 x % 2 = 0 then 0 else 1) := by
        unfold K_Members_hasFlag
        rw [pu_rI (by omega) (by decide), f11, nI_and1 _ (by omega)]
        by_cases z : σ 11 x % 2 = 0
        · rw [if_pos ((nI_z (by omega)).mpr z), if_pos z]
        · rw [if_neg (fun y => z ((nI_z (by omega)).mp y)), if_neg z]
      have hM0 : (M.1 11 x &&& 1 = 0) ↔ σ 11 x % 2 = 0 := by rw [e11, nI_and1 _ (by omega), nI_z (by omega)]
      by_cases h3 : σ 11 x % 2 = 0
      · refine pm_no hi0 (r := -1) ?_ ?_
        · unfold K_SF_refer
          rw [if_neg k1, if_neg k2, pu_oR hK0, if_pos h3, if_pos rfl]
        · unfold M_refer
          rw [if_neg m1, pu_rI (by omega) (by decide), if_pos m2, pu_rI (by omega) (by decide), if_pos (hM0.mpr h3)]
      have h3' : ¬ M.1 11 x &&& 1 = 0 := fun z => h3 (hM0.mp z)
      by_cases h4 : M_in v2 0 5 = 0
      · refine pm_no hi0 (r := -1) ?_ ?_
        · unfold K_SF_refer
          rw [if_neg k1, if_neg k2, pu_oR hK0, if_neg h3, if_neg (by decide), if_pos (show K_SF_within v2 0 5 = 0 from h4)]
        · unfold M_refer
          rw [if_neg m1, pu_rI (by omega) (by decide), if_pos m2, pu_rI (by omega) (by decide), if_neg h3', if_pos h4]
      by_cases h5 : (∃ c, c ≤ 9 ∧ v3 = nI c) ∧ (∃ c, c ≤ 7 ∧ v4 = nI c) ∧ ∃ c, c ≤ 1 ∧ v5 = nI c
      · obtain ⟨⟨c, c1, rfl⟩, ⟨w, w1, rfl⟩, ⟨s, s1, rfl⟩⟩ := h5
        obtain ⟨kd, _, kd2, rfl⟩ := in_yes (a := 0) (b := 5) (by omega) (by omega) h4
        refine pm_of (k_refer hI hK q hx (by omega) kd2 c1 w1 s1) (m_refer hI hM q hx (by omega) kd2 c1 w1 s1) (fun a b p p' => ?_)
        rcases p with ⟨u1, u2, u3⟩ | ⟨u1, u2, u3⟩
        · rcases p' with ⟨t1, t2, t3⟩ | ⟨t1, t2, t3⟩
          · exact ⟨u1.trans t1.symm, σ, hI, by rw [t3]; exact hM, u3⟩
          · omega
        · rcases p' with ⟨t1, t2, t3⟩ | ⟨t1, t2, t3⟩
          · omega
          · exact ⟨u1.trans t1.symm, _, IA_refer hI q hx (by omega) kd2 c1 w1 s1 u2, t3, u3⟩
      · refine pm_no hi0 (r := -1) ?_ ?_
        · unfold K_SF_refer
          rw [if_neg k1, if_neg k2, pu_oR hK0, if_neg h3, if_neg (by decide), if_neg (show ¬ K_SF_within v2 0 5 = 0 from h4), if_pos (isWanted_n h5)]
        · unfold M_refer
          rw [if_neg m1, pu_rI (by omega) (by decide), if_pos m2, pu_rI (by omega) (by decide), if_neg h3', if_neg h4]
          by_cases g1 : M_in v3 0 9 = 0
          · rw [if_pos g1]
          · rw [if_neg g1]
            by_cases g2 : M_in v4 0 7 = 0
            · rw [if_pos g2]
            · rw [if_neg g2]
              by_cases g3 : M_in v5 0 1 = 0
              · rw [if_pos g3]
              · exfalso
                obtain ⟨j1, _, a1, e1⟩ := in_yes (a := 0) (b := 9) (by omega) (by omega) g1
                obtain ⟨j2, _, a2, e2⟩ := in_yes (a := 0) (b := 7) (by omega) (by omega) g2
                obtain ⟨j3, _, a3, e3⟩ := in_yes (a := 0) (b := 1) (by omega) (by omega) g3
                exact h5 ⟨⟨j1, a1, e1⟩, ⟨j2, a2, e2⟩, ⟨j3, a3, e3⟩⟩
  · refine pm_no hi0 (r := -1) ?_ ?_
    · unfold K_SF_refer
      by_cases z : v1 = 0
      · rw [if_pos z]
      · rw [if_neg z, if_pos h1]
    · unfold M_refer
      rw [hM.nm, nI_m1 hn1]
      by_cases z : M_in v1 1 (nI (σ 0 0 - 1)) = 0
      · rw [if_pos z]
      · rw [if_neg z]
        obtain ⟨j, j1, j2, rfl⟩ := in_yes (a := 1) (b := σ 0 0 - 1) (by omega) (by omega) z
        have hj : j < σ 0 0 := by omega
        have b := (hI.2.2.2.1 j hj).2.2.2.2.1
        rw [pu_rI (by omega) (by decide), hM.mb 12 (by omega) (by omega) hj, if_neg]
        intro y
        exact h2 j (by omega) rfl ⟨hj, (nI_z (by omega)).mp y⟩
theorem p_letter : pm_letter N INV := by
  intro K M v1 hi
  have hi0 := hi
  obtain ⟨σ, hI, hM, hK⟩ := hi
  by_cases h1 : M_in v1 32 126 = 0
  · exact pm_no hi0 (by unfold K_SF_letter; rw [if_pos (show K_SF_within v1 32 126 = 0 from h1)]) (by unfold M_letter; rw [if_pos h1])
  obtain ⟨v, a1, a2, rfl⟩ := in_yes (a := 32) (b := 126) (by omega) (by omega) h1
  refine pm_of (k_letter hI hK a1 a2) (m_letter hI hM a1 a2) (fun a b p p' => ?_)
  rcases p with ⟨u1, u2, u3⟩ | ⟨u1, u2, u3⟩
  · rcases p' with ⟨t1, t2, t3⟩ | ⟨t1, t2, t3⟩
    · exact ⟨u1.trans t1.symm, σ, hI, by rw [t3]; exact hM, u3⟩
    · omega
  · rcases p' with ⟨t1, t2, t3⟩ | ⟨t1, t2, t3⟩
    · omega
    · exact ⟨u1.trans t1.symm, _, IA_letter hI a1 a2 u2, t3, u3⟩
theorem p_rule (hN : 80 < N) : pm_rule N INV := by
  intro K M hi
  obtain ⟨σ, hI, hM, hK⟩ := hi
  refine pm_of (k_rule hI hN hK) (m_rule hI hM hN) (fun a b p p' => ?_)
  rcases p with ⟨u1, u2, u3⟩ | ⟨u1, u2⟩
  · rcases p' with ⟨t1, t2, t3⟩ | ⟨t1, t2⟩
    · exact ⟨u2.trans t2.symm, _, IA_dz hI, t3, u3⟩
    · exact absurd t1 u1
  · rcases p' with ⟨t1, t2, t3⟩ | ⟨t1, t2⟩
    · exact absurd u1 t1
    · rcases u2 with ⟨x1, x2, x3⟩ | ⟨x1, x2, x3⟩
      · rcases t2 with ⟨y1, y2, y3⟩ | ⟨y1, y2, y3⟩
        · exact ⟨x2.trans y2.symm, _, IA_dz hI, y3, x3⟩
        · omega
      · rcases t2 with ⟨y1, y2, y3⟩ | ⟨y1, y2, y3⟩
        · omega
        · exact ⟨x2.trans y2.symm, _, IA_rule hI u1 x1, y3, x3⟩
theorem p_clear (hN : 330 < N) : pm_clear N INV := by
  intro K M v1 hi hv
  obtain ⟨σ, hI, hM, hK⟩ := hi
  rcases hv with rfl | rfl
  · exact pm_same (IA_clear0 hI) (k_clear0 hI hK) (m_clear0 hM)
  · exact pm_same (IA_clear1 hI) (k_clear1 hI hN hK) (m_clear1 hI hM (by omega))
theorem p_needs (hN : 80 < N) : pm_needs N INV := by
  intro K M v1 v2 hi
  have hi0 := hi
  obtain ⟨σ, hI, hM, hK⟩ := hi
  by_cases h1 : M_in v2 0 5 = 0
  · exact pm_no hi0 (by unfold K_SF_needs; rw [if_pos (show K_SF_within v2 0 5 = 0 from h1)]) (by unfold M_needs; rw [if_pos h1])
  rcases th_cases hI hM hK v1 with ⟨c, hc, rfl, ht, h2, h3⟩ | ⟨h2, h3⟩
  · obtain ⟨w, _, w2, rfl⟩ := in_yes (a := 0) (b := 5) (by omega) (by omega) h1
    exact pm_same hI (k_needs hI hN hK hc ht w2) (m_needs hI hM hN (by omega) ht w2)
  · refine pm_no hi0 (r := -2) ?_ ?_
    · unfold K_SF_needs
      rw [if_neg (show ¬ K_SF_within v2 0 5 = 0 from h1), if_pos h2]
    · unfold M_needs
      rw [if_neg h1]
      by_cases z : M_in v1 0 9 = 0
      · rw [if_pos z]
      · rw [if_neg z]
        obtain ⟨j, j1, j2, rfl⟩ := in_yes (a := 0) (b := 9) (by omega) (by omega) z
        rw [pu_rI (by omega) (by decide), h3 j (by omega) rfl, if_pos rfl]
theorem p_part (hN : 80 < N) : pm_part N INV := by
  intro K M v1 v2 hi
  have hi0 := hi
  obtain ⟨σ, hI, hM, hK⟩ := hi
  by_cases h1 : M_in v2 0 5 = 0
  · exact pm_no hi0 (by unfold K_SF_part; rw [if_pos (show K_SF_within v2 0 5 = 0 from h1)]) (by unfold M_part; rw [if_pos h1])
  rcases al_cases hI hK v1 with ⟨x, rfl, hx, h2⟩ | ⟨h2, h3⟩
  · obtain ⟨w, _, w2, rfl⟩ := in_yes (a := 0) (b := 5) (by omega) (by omega) h1
    exact pm_same hI (k_part hI hN hK hx w2) (m_part hI hM hN hx w2)
  · refine pm_no hi0 (r := -2) ?_ ?_
    · unfold K_SF_part
      rw [if_neg (show ¬ K_SF_within v2 0 5 = 0 from h1), if_pos h2]
    · unfold M_part
      rw [if_neg h1]
      rcases m_isMember hI hM v1 with ⟨y, e, ha, h⟩ | ⟨_, h⟩
      · have := ha.1
        have := hI.1.2.1
        exact absurd ha (h3 y (by omega) e)
      · rw [pu_oR h, if_pos rfl]
theorem p_found (hN : 80 < N) : pm_found N INV := by
  intro K M v1 v2 v3 v4 v5 hi h5
  have hi0 := hi
  obtain ⟨σ, hI, hM, hK⟩ := hi
  by_cases h1 : M_in v1 2 5 = 0
  · exact pm_no hi0 (by unfold K_SF_found; rw [if_pos (show K_SF_within v1 2 5 = 0 from h1)]) (by unfold M_found; rw [if_pos h1])
  by_cases h2 : (∃ c, c ≤ 9 ∧ v2 = nI c) ∧ (∃ c, c ≤ 7 ∧ v3 = nI c) ∧ ∃ c, c ≤ 1 ∧ v4 = nI c
  · obtain ⟨⟨c, c1, rfl⟩, ⟨w, w1, rfl⟩, ⟨s, s1, rfl⟩⟩ := h2
    obtain ⟨kd, kd1, kd2, rfl⟩ := in_yes (a := 2) (b := 5) (by omega) (by omega) h1
    exact pm_of (k_found hI hN hK kd1 kd2 c1 w1 s1 h5) (m_found hI hM hN kd1 kd2 c1 w1 s1 v5) (fun a b p p' => ⟨FO_unique hI (by omega) p.1 p'.1, σ, hI, p'.2, p.2⟩)
  · refine pm_no hi0 (r := -1) ?_ ?_
    · unfold K_SF_found
      rw [if_neg (show ¬ K_SF_within v1 2 5 = 0 from h1), if_pos (isWanted_n h2)]
    · unfold M_found
      rw [if_neg h1]
      by_cases g1 : M_in v2 0 9 = 0
      · rw [if_pos g1]
      · rw [if_neg g1]
        by_cases g2 : M_in v3 0 7 = 0
        · rw [if_pos g2]
        · rw [if_neg g2]
          by_cases g3 : M_in v4 0 1 = 0
          · rw [if_pos g3]
          · exfalso
            obtain ⟨j1, _, a1, e1⟩ := in_yes (a := 0) (b := 9) (by omega) (by omega) g1
            obtain ⟨j2, _, a2, e2⟩ := in_yes (a := 0) (b := 7) (by omega) (by omega) g2
            obtain ⟨j3, _, a3, e3⟩ := in_yes (a := 0) (b := 1) (by omega) (by omega) g3
            exact h2 ⟨⟨j1, a1, e1⟩, ⟨j2, a2, e2⟩, ⟨j3, a3, e3⟩⟩
theorem p_selected (hN : 80 < N) : pm_selected N INV := by
  intro K M v2 v3 v4 v5 hi h5
  have hi0 := hi
  obtain ⟨σ, hI, hM, hK⟩ := hi
  by_cases h2 : (∃ c, c ≤ 9 ∧ v2 = nI c) ∧ (∃ c, c ≤ 7 ∧ v3 = nI c) ∧ ∃ c, c ≤ 1 ∧ v4 = nI c
  · obtain ⟨⟨c, c1, rfl⟩, ⟨w, w1, rfl⟩, ⟨s, s1, rfl⟩⟩ := h2
    exact pm_of (k_selected hI hN hK c1 w1 s1 h5) (m_selected hI hM hN c1 w1 s1 v5) (fun a b p p' => ⟨FO_unique hI (by omega) p.1 p'.1, σ, hI, p'.2, p.2⟩)
  · refine pm_no hi0 (r := -1) ?_ ?_
    · unfold K_SF_selected
      rw [if_pos (isWanted_n h2)]
    · unfold M_selected
      by_cases g1 : M_in v2 0 9 = 0
      · rw [if_pos g1]
      · rw [if_neg g1]
        by_cases g2 : M_in v3 0 7 = 0
        · rw [if_pos g2]
        · rw [if_neg g2]
          by_cases g3 : M_in v4 0 1 = 0
          · rw [if_pos g3]
          · exfalso
            obtain ⟨j1, _, a1, e1⟩ := in_yes (a := 0) (b := 9) (by omega) (by omega) g1
            obtain ⟨j2, _, a2, e2⟩ := in_yes (a := 0) (b := 7) (by omega) (by omega) g2
            obtain ⟨j3, _, a3, e3⟩ := in_yes (a := 0) (b := 1) (by omega) (by omega) g3
            exact h2 ⟨⟨j1, a1, e1⟩, ⟨j2, a2, e2⟩, ⟨j3, a3, e3⟩⟩
theorem p_name (hN : 80 < N) : pm_name N INV := by
  intro K M v1 v2 v3 hi hv
  obtain ⟨σ, hI, hM, hK⟩ := hi
  rcases hv with rfl | rfl
  · by_cases h : ∀ c, c < 10 → v2 = nI c → ¬ ND σ 0 c
    · refine pm_of (k_nameC hI hN hK v2 v3) (m_nameCn hI hM hN h v3) (fun a b p p' => ⟨?_, σ, hI, p'.2, p.2⟩)
      rcases p.1 with ⟨_, e⟩ | ⟨c, c1, c2, c3, _⟩
      · exact e.trans p'.1.symm
      · exact absurd c3 (h c c1 c2)
    · obtain ⟨c, h⟩ := Classical.not_forall.mp h
      obtain ⟨hc, h'⟩ := Classical.not_imp.mp h
      obtain ⟨he, h''⟩ := Classical.not_imp.mp h'
      subst he
      have hnd : ND σ 0 c := Classical.byContradiction h''
      refine pm_of (k_nameC hI hN hK (nI c) v3) (m_nameC hI hM hN hc hnd v3) (fun a b p p' => ⟨?_, σ, hI, p'.2, p.2⟩)
      rcases p.1 with ⟨no, _⟩ | ⟨d, d1, d2, d3, d4⟩
      · exact absurd hnd (no c hc rfl)
      · have e := (nI_eq (by omega) (by omega)).mp d2
        subst e
        exact d4.trans p'.1.symm
  · by_cases h : ∀ x, x < 40 → v2 = nI x → ¬ ND σ 3 x
    · refine pm_of (k_nameM hI hN hK v2 v3) (m_nameMn hI hM hN h v3) (fun a b p p' => ⟨?_, σ, hI, p'.2, p.2⟩)
      rcases p.1 with ⟨_, e⟩ | ⟨c, c2, c3, _⟩
      · exact e.trans p'.1.symm
      · have := ((nd_th hI 3 c c3).2 rfl).1
        have := hI.1.2.1
        exact absurd c3 (h c (by omega) c2)
    · obtain ⟨x, h⟩ := Classical.not_forall.mp h
      obtain ⟨hx, h'⟩ := Classical.not_imp.mp h
      obtain ⟨he, h''⟩ := Classical.not_imp.mp h'
      subst he
      have hnd : ND σ 3 x := Classical.byContradiction h''
      refine pm_of (k_nameM hI hN hK (nI x) v3) (m_nameM hI hM hN hnd v3) (fun a b p p' => ⟨?_, σ, hI, p'.2, p.2⟩)
      rcases p.1 with ⟨no, _⟩ | ⟨d, d2, d3, d4⟩
      · exact absurd hnd (no x hx rfl)
      · have := ((nd_th hI 3 d d3).2 rfl).1
        have := hI.1.2.1
        have e := (nI_eq (by omega) (by omega)).mp d2
        subst e
        exact d4.trans p'.1.symm
theorem p_mapping (hN : 80 < N) : pm_mapping N INV := by
  intro K M v1 hi
  obtain ⟨σ, hI, hM, hK⟩ := hi
  exact pm_same hI (k_mapping hI hN hK v1) (m_mapping hI hM hN v1)
theorem p_trace (hN : 80 < N) : pm_trace N INV := by
  intro K M v1 v2 v3 hi hv
  have hi0 := hi
  obtain ⟨σ, hI, hM, hK⟩ := hi
  have go : ∀ v : Nat, (v = 0 ∨ (97 ≤ v ∧ v ≤ 122)) → ∃ (r : Int32) (K' M' : sk_M), K_SF_trace N K (nI v) v2 v3 = some (r, K') ∧ M_trace N M (nI v) v2 v3 = some (r, M') ∧ INV K' M' := by
    intro v hvv
    by_cases h2 : M_in v2 0 1 = 0
    · have jk : K_SF_trace_J15 N K (nI v) v2 v3 = some (-1, K) := by unfold K_SF_trace_J15; rw [if_pos (show K_SF_within v2 0 1 = 0 from h2)]
      have jm : M_trace_J15 N M (nI v) v2 v3 = some (-1, M) := by unfold M_trace_J15; rw [if_pos h2]
      refine pm_no hi0 (r := -1) ?_ ?_
      · unfold K_SF_trace
        by_cases z : nI v = 0
        · rw [if_pos z]; exact jk
        · rw [if_neg z]
          by_cases y : K_SF_within (nI v) 97 122 = 0
          · rw [if_pos y]
          · rw [if_neg y]; exact jk
      · unfold M_trace
        by_cases z : nI v = 0
        · rw [if_pos z]; exact jm
        · rw [if_neg z]
          by_cases y : M_in (nI v) 97 122 = 0
          · rw [if_pos y]
          · rw [if_neg y]; exact jm
    · obtain ⟨s, _, s2, rfl⟩ := in_yes (a := 0) (b := 1) (by omega) (by omega) h2
      have kd : ∃ q, q ≤ 1 ∧ v3 = nI q := by
        rcases hv with rfl | rfl
        · exact ⟨0, by omega, rfl⟩
        · exact ⟨1, by omega, rfl⟩
      obtain ⟨q, q1, rfl⟩ := kd
      exact pm_of (k_trace hI hN hK hvv s2 q1) (m_trace hI hM hN hvv s2 q1) (fun a b p p' => ⟨TR_unique hI (by omega) p.1 p'.1, σ, hI, p'.2, p.2⟩)
  by_cases h0 : v1 = 0
  · subst h0
    exact go 0 (Or.inl rfl)
  · by_cases h1 : M_in v1 97 122 = 0
    · exact pm_no hi0 (by unfold K_SF_trace; rw [if_neg h0, if_pos (show K_SF_within v1 97 122 = 0 from h1)]) (by unfold M_trace; rw [if_neg h0, if_pos h1])
    · obtain ⟨v, a1, a2, rfl⟩ := in_yes (a := 97) (b := 122) (by omega) (by omega) h1
      exact go v (Or.inr ⟨a1, a2⟩)
theorem p_count (hN : 80 < N) : pm_count N INV := by
  intro K M v1 hi
  have hi0 := hi
  obtain ⟨σ, hI, hM, hK⟩ := hi
  by_cases h1 : M_in v1 0 9 = 0
  · have no := in_no (a := 0) (b := 9) (by omega) (by omega) h1
    have ne : ∀ j : Nat, j ≤ 9 → ¬ v1 = nI j := fun j hj e => no ⟨j, by omega, hj, e⟩
    refine pm_of (P := fun z => z.1 = -1 ∧ RK σ z.2) (Q := fun z => z.1 = -1 ∧ RM σ z.2) ?_ ?_ (fun a b p q => ⟨p.1.trans q.1.symm, σ, hI, q.2, p.2⟩)
    · unfold K_SF_count
      rw [if_pos (show K_SF_within v1 0 9 = 0 from h1)]
      exact ev_some ⟨rfl, hK⟩
    · unfold M_count
      refine ev_oR (m_find hI hM hN) (fun m1 hF => ?_)
      rw [if_neg (show ¬ v1 = 0 from ne 0 (by omega)), if_neg (show ¬ v1 = 1 from ne 1 (by omega)), if_neg (show ¬ v1 = 2 from ne 2 (by omega)), if_neg (show ¬ v1 = 3 from ne 3 (by omega)), if_neg (show ¬ v1 = 4 from ne 4 (by omega)), if_neg (show ¬ v1 = 5 from ne 5 (by omega)), if_neg (show ¬ v1 = 6 from ne 6 (by omega)), if_neg (show ¬ v1 = 7 from ne 7 (by omega)), if_neg (show ¬ v1 = 8 from ne 8 (by omega)), if_neg (show ¬ v1 = 9 from ne 9 (by omega))]
      exact ev_some ⟨rfl, hF.1⟩
  · obtain ⟨w, _, w2, rfl⟩ := in_yes (a := 0) (b := 9) (by omega) (by omega) h1
    exact pm_same hI (k_count hI hN hK w2) (m_count hI hM hN w2)
end
/-! the start -/
def s0A : Ab := fun q j => if j = 0 ∧ (q = 0 ∨ q = 1 ∨ q = 11) then 1 else 0
theorem s0A_z {q j : Nat} (h : ¬ (j = 0 ∧ (q = 0 ∨ q = 1 ∨ q = 11))) : s0A q j = 0 := if_neg h
theorem IA_s0 : IA s0A := by
  have z : ∀ q j, ¬ (j = 0 ∧ (q = 0 ∨ q = 1 ∨ q = 11)) → s0A q j = 0 := fun q j h => s0A_z h
  have e00 : s0A 0 0 = 1 := rfl
  have e10 : s0A 1 0 = 1 := rfl
  refine ⟨⟨by decide, by decide, by decide, by decide, by decide⟩, fun c hc => ⟨?_, ?_, ?_, ?_, fun h => ?_, ?_⟩, ⟨rfl, rfl, rfl, rfl, rfl⟩, fun m hm => ?_, ⟨rfl, rfl, rfl, rfl, rfl⟩, fun c g x y h1 h2 => ?_, fun i hi => ?_, ⟨fun i hi => ?_, fun j hj => ?_⟩, fun r hr => ?_⟩
  · unfold s0A; split <;> omega
  · rw [z 2 c (by omega)]; omega
  · rw [z 3 c (by omega)]; omega
  · rw [z 4 c (by omega)]; omega
  · rw [z 5 c (by omega)]; exact h
  · rw [z 6 c (by omega)]; exact Nat.two_pow_pos c
  · rw [e00] at hm
    have e : m = 0 := by omega
    subst e
    exact ⟨by decide, by decide, by decide, by decide, by decide, fun h => absurd h (by decide), fun h => absurd h (by decide), fun _ => rfl⟩
  · have a := h1.1.1
    have b := h2.1.1
    rw [e00] at a b
    omega
  · exact absurd hi (Nat.not_lt_zero i)
  · exact absurd hi (Nat.not_lt_zero i)
  · rw [z 19 j (by omega)]; omega
  · exact absurd hr (Nat.not_lt_zero r)
theorem M0_at (q j : Nat) : M0.1 q j = nI (s0A q j) := by
  unfold M0
  rw [nar_b1, pu_wi1, pu_wi1, pu_wi1]
  unfold s0A
  by_cases h0 : j = 0
  · by_cases h1 : q = 11
    · rw [if_pos ⟨h1, h0⟩, if_pos ⟨h0, by omega⟩]; rfl
    · rw [if_neg (fun z => h1 z.1)]
      by_cases h2 : q = 1
      · rw [if_pos ⟨h2, h0⟩, if_pos ⟨h0, by omega⟩]
      · rw [if_neg (fun z => h2 z.1)]
        by_cases h3 : q = 0
        · rw [if_pos ⟨h3, h0⟩, if_pos ⟨h0, by omega⟩]; rfl
        · rw [if_neg (fun z => h3 z.1), if_neg (fun z => by omega)]; rfl
  · rw [if_neg (fun z => h0 z.2), if_neg (fun z => h0 z.2), if_neg (fun z => h0 z.2), if_neg (fun z => h0 z.1)]; rfl
theorem RM_s0 : RM s0A M0 := ⟨fun j _ => M0_at 0 j, fun r c _ _ _ => M0_at r c, fun r i _ _ _ => M0_at r i, fun r i _ _ _ => M0_at r i, ⟨fun i _ => M0_at 18 i, fun j _ => M0_at 19 j⟩, fun r hr => absurd hr (Nat.not_lt_zero r)⟩
theorem pm_done : pm_all := by
  have hN : 80 < 400 := by omega
  obtain ⟨stT, eT, hT, hR, f1, f2⟩ := k_typesReset (k := sk_0) (N := 400) IA_s0 hN (fun c hc => ⟨by rw [s0A_z (by omega)]; rfl, by rw [s0A_z (by omega), s0A_z (by omega)]; rfl, by rw [s0A_z (by omega)]; rfl, 0, by omega, rfl, by rw [s0A_z (by omega)]; exact Nat.zero_mod _⟩) (fun d => lb_0 d) (fun c a b => s0A_z (by omega))
  obtain ⟨stM, eM, hM, g1, g2⟩ := k_membersReset (k := sk_0) (N := 400) (by omega)
  refine ⟨400, INV, ⟨p_type hN, p_drop hN, p_member hN, p_remove, p_refer, p_letter, p_rule hN, p_clear (by omega), p_needs hN, p_part hN, p_found hN, p_selected hN, p_name hN, p_mapping hN, p_trace hN, p_count hN⟩, stT, stM, eT, eM, s0A, IA_s0, RM_s0, RB_rk ⟨hT.of (fun _ _ _ _ _ => rfl) (fun q i a b => ?_) rfl, hR.of (fun i => rfl) (fun q i a => ?_), (hM.of (k' := K0 stT stM) (fun q i a => ?_) (fun i a => ?_)).cg rfl (fun q x a b hx => ?_), ⟨rfl, fun i hi => absurd hi (Nat.not_lt_zero i)⟩, ⟨rfl, fun i hi => absurd hi (Nat.not_lt_zero i)⟩, ⟨rfl, fun i hi => absurd hi (Nat.not_lt_zero i)⟩⟩ rfl⟩
  · rcases (show q = 35 ∨ q = 36 ∨ q = 37 ∨ q = 38 by omega) with rfl | rfl | rfl | rfl <;> rfl
  · rcases (show (q = 0 ∧ i = 12) ∨ (q = 0 ∧ i = 13) ∨ q = 40 ∨ q = 41 ∨ q = 42 by omega) with ⟨rfl, rfl⟩ | ⟨rfl, rfl⟩ | rfl | rfl | rfl <;> rfl
  · rcases (show (q = 0 ∧ i = 5) ∨ q = 17 ∨ q = 18 ∨ q = 19 ∨ q = 20 by omega) with ⟨rfl, rfl⟩ | rfl | rfl | rfl | rfl <;> rfl
  · rcases (show i = 0 ∨ i = 1 by omega) with rfl | rfl <;> rfl
  · have hx : x < 1 := hx
    have e : x = 0 := by omega
    subst e
    rcases (show q = 8 ∨ q = 9 ∨ q = 10 ∨ q = 11 ∨ q = 12 by omega) with rfl | rfl | rfl | rfl | rfl <;> rfl
