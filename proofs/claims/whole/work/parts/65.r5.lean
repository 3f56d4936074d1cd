/-! .. by references, by classes; all of it -/
section
variable {σ : Ab} {k : sk_M} {N : Nat}
theorem k_addByReferences (hI : IA σ) (hG : GN σ k) (hN : 80 < N) : Ev (K_Needs_addByReferences N k) (fun k' => PN σ k k' ∧ QN k k' (fun S => ∀ i, i < σ 0 1 → S 3 (σ 13 i) → σ 1 (σ 15 i) = 1 → RF σ S i)) := by
  have hn := hI.1.2.1
  have hn1 := hI.1.2.2.1
  have CL0 := ND_CL σ
  unfold K_Needs_addByReferences
  refine ev_lp (fun n z => ∃ st i, z = (st, nI i) ∧ i + n = σ 0 1 ∧ PN σ k st ∧ QN k st (fun S => ∀ j, j < i → S 3 (σ 13 j) → σ 1 (σ 15 j) = 1 → RF σ S j)) ?_ N (σ 0 1) _ (by omega) ⟨k, 0, rfl, by omega, PN.rf hG, fun _ r h => by omega⟩
  rintro n z self ⟨st, i, rfl, hin, hP, hd⟩ ih
  have hF := hP.1.1.2.2.2.1
  unfold K_Needs_addByReferences_L2
  dsimp only
  refine ev_le (σ 0 1) i (hu := hF.1) (fun h => ?_) (fun hi => ?_)
  · rw [show i = σ 0 1 by omega] at hd
    exact ev_some ⟨hP, hd⟩
  obtain ⟨g1, g2, g3, g4, g5, g6, g7⟩ := hI.2.2.2.2.2.2.1 i hi
  obtain ⟨f1, f2, f3, f4⟩ := hF.2 i hi
  have gl := gI_lt hI hi
  have nextP : ∀ st', PN σ st st' → (SE k st' → kS k 3 (σ 13 i) → σ 1 (σ 15 i) = 1 → RF σ (kS k) i) → Ev (self (st', nI i + 1)) (fun k' => PN σ k k' ∧ QN k k' (fun S => ∀ i, i < σ 0 1 → S 3 (σ 13 i) → σ 1 (σ 15 i) = 1 → RF σ S i)) := fun st' p q => by
    rw [nI_1]
    refine ih (n - 1) _ (by omega) ⟨st', i + 1, rfl, by omega, hP.tr p, fun e j hj a b => ?_⟩
    rcases Nat.lt_or_ge j i with z | z
    · exact hd (SE.l p e) j z a b
    · rw [show j = i by omega] at a b ⊢
      exact q e a b
  refine ev_rI (by omega) (by decide) ?_
  refine ev_rI (by omega) (by decide) ?_
  rw [f1, f3]
  refine ev_has (σ 13 i) (by omega) (P := kS st 3 (σ 13 i)) ⟨fun h => ⟨by omega, h⟩, fun h => h.2⟩ (fun h => nextP st (PN.rf hP.1) (fun _ a _ => absurd (hP.2.2 _ _ a) h)) (fun h => ?_)
  refine ev_has (σ 15 i) (by omega) (hP.1.1.1.2 _) (fun h2 => nextP st (PN.rf hP.1) (fun _ _ b => absurd ⟨g5, b⟩ h2)) (fun h2 => ?_)
  have th := h2.2
  have rf := CL0.2.2.2.2.2 i hi (hP.1.2.2 3 _ h) ((hP.1.nd hI h).2 rfl) th
  refine ev_rI (by omega) (by decide) ?_
  refine ev_fL ?_
  rw [f2]
  have o1 := bit_pn hP.1 (i := 0) (c := σ 15 i) (by omega) (by omega) rf.1
  obtain ⟨st1, e1⟩ : ∃ s, s = sk_wl st 0 4 (st.2 0 4 ||| K_SF_bit (nI (σ 15 i))) := ⟨_, rfl⟩
  rw [← e1]
  have o1 : PN σ st st1 ∧ kS st1 0 (σ 15 i) := by rw [e1]; exact o1
  -- the tails
  have J144 : ∀ st', PN σ st st' → (SE k st' → kS k 0 (σ 15 i) ∧ (σ 14 i = 0 → σ 3 (σ 15 i) = 0 → σ 2 (σ 15 i) = 0 → kS k 1 (σ 15 i) ∧ kS k 2 (σ 15 i)) ∧ (2 ≤ σ 14 i → ∀ x, LK σ (σ 15 i) (gI σ i) (fun _ => True) (some x) → kS k 3 x ∧ (σ 11 x / 2 % 2 = 1 → kS k 2 (σ 8 x)))) → Ev (K_Needs_addByReferences_J144 N self st' (nI i) (nI (σ 15 i)) (nI (σ 14 i))) (fun k' => PN σ k k' ∧ QN k k' (fun S => ∀ i, i < σ 0 1 → S 3 (σ 13 i) → σ 1 (σ 15 i) = 1 → RF σ S i)) := by
    intro st' p q
    unfold K_Needs_addByReferences_J144
    refine ev_qn (σ 14 i) 5 (fun h5 => ?_) (fun h5 => nextP st' p (fun e a b => ⟨(q e).1, (q e).2.1, (q e).2.2, fun z => absurd z h5⟩))
    refine ev_rI (by omega) (by decide) ?_
    rw [((hP.tr p).1.1.2.2.2.1.2 i hi).2.2.2]
    refine ev_oR (k_addSelected hI p.1 hN g5 gl (by unfold gI; rw [if_neg (by omega)]; omega) (fun d x a b c e => rf.2.2.2 h5 d x a b c e)) (fun st2 h3 => ?_)
    refine nextP st2 (p.tr h3.1) (fun e a b => ?_)
    have e2 := SE.l h3.1 e
    refine ⟨(q e2).1, (q e2).2.1, (q e2).2.2, fun _ d x u v w y => ?_⟩
    have := QN.of (hP.tr p) h3.1 h3.2 e
    exact this d x u v w y
  have J125 : ∀ st', PN σ st st' → (SE k st' → kS k 0 (σ 15 i) ∧ (σ 14 i = 0 → σ 3 (σ 15 i) = 0 → σ 2 (σ 15 i) = 0 → kS k 1 (σ 15 i) ∧ kS k 2 (σ 15 i))) → Ev (K_Needs_addByReferences_J125 N self st' (nI i) (nI (σ 15 i)) (nI (σ 14 i))) (fun k' => PN σ k k' ∧ QN k k' (fun S => ∀ i, i < σ 0 1 → S 3 (σ 13 i) → σ 1 (σ 15 i) = 1 → RF σ S i)) := by
    intro st' p q
    unfold K_Needs_addByReferences_J125
    refine ev_lt (σ 14 i) 2 (fun h5 => J144 st' p (fun e => ⟨(q e).1, (q e).2, fun z => by omega⟩)) (fun h5 => ?_)
    refine ev_rI (by omega) (by decide) ?_
    rw [((hP.tr p).1.1.2.2.2.1.2 i hi).2.2.2]
    refine ev_oR (k_addFound hI p.1 hN g5 th gl (fun x hx => rf.2.2.1 h5 x hx)) (fun st2 h3 => ?_)
    refine J144 st2 (p.tr h3.1) (fun e => ?_)
    have e2 := SE.l h3.1 e
    exact ⟨(q e2).1, (q e2).2, fun _ x hx => QN.of (hP.tr p) h3.1 h3.2 e x hx⟩
  refine ev_qn (σ 14 i) 0 (fun h0 => ?_) (fun h0 => ?_)
  · have mk : ∀ x, lb (K_SF_bit (nI (σ 15 i)) &&& st1.2 0 13) x = true ↔ x = σ 15 i ∧ σ 2 x = 0 ∧ σ 3 x = 0 := fun x => by
      rw [lb_and, Bool.and_eq_true, lb_bit (by omega), decide_eq_true_eq, o1.1.1.1.2.1.2.1]
      exact ⟨fun z => ⟨z.1, z.2.2.2⟩, fun z => ⟨z.1, by omega, by rw [z.1]; exact th, z.2⟩⟩
    refine ev_fL ?_
    have o2 := or_pn o1.1.1 (i := 1) (by omega) (s := K_SF_bit (nI (σ 15 i)) &&& st1.2 0 13) (fun x hx => by
      obtain ⟨e, a, b⟩ := (mk x).mp hx
      subst e
      exact (rf.2.1 h0 b a).1)
    obtain ⟨st2, e2⟩ : ∃ s, s = sk_wl st1 0 5 (st1.2 0 5 ||| (K_SF_bit (nI (σ 15 i)) &&& st1.2 0 13)) := ⟨_, rfl⟩
    rw [← e2]
    have o2 : PN σ st1 st2 ∧ ∀ x, lb (K_SF_bit (nI (σ 15 i)) &&& st1.2 0 13) x = true → kS st2 1 x := by rw [e2]; exact o2
    refine ev_fL ?_
    rw [o2.1.2.1.2 0 13 (by omega)]
    have o3 := or_pn o2.1.1 (i := 2) (by omega) (s := K_SF_bit (nI (σ 15 i)) &&& st1.2 0 13) (fun x hx => by
      obtain ⟨e, a, b⟩ := (mk x).mp hx
      subst e
      exact (rf.2.1 h0 b a).2)
    obtain ⟨st3, e3⟩ : ∃ s, s = sk_wl st2 0 6 (st2.2 0 6 ||| (K_SF_bit (nI (σ 15 i)) &&& st1.2 0 13)) := ⟨_, rfl⟩
    rw [← e3]
    have o3 : PN σ st2 st3 ∧ ∀ x, lb (K_SF_bit (nI (σ 15 i)) &&& st1.2 0 13) x = true → kS st3 2 x := by rw [e3]; exact o3
    refine J125 st3 ((o1.1.tr o2.1).tr o3.1) (fun e => ⟨e 0 _ ((o2.1.tr o3.1).2.2 _ _ o1.2), fun _ a b => ⟨e 1 _ (o3.1.2.2 _ _ (o2.2 _ ((mk _).mpr ⟨rfl, b, a⟩))), e 2 _ (o3.2 _ ((mk _).mpr ⟨rfl, b, a⟩))⟩⟩)
  · exact J125 st1 o1.1 (fun e => ⟨e 0 _ o1.2, fun z => absurd z h0⟩)
theorem k_addByClasses (hI : IA σ) (hG : GN σ k) (hN : 80 < N) : Ev (K_Needs_addByClasses N k) (fun k' => PN σ k k' ∧ QN k k' (fun S => ∀ c, 0 < c → c < 10 → (S 0 c → S 0 (sup σ c) ∧ ∀ u, u < c → hasF σ c u → S 0 u) ∧ (S 2 c → S 2 (sup σ c) ∧ ∀ x, own σ c 30 x → σ 11 x / 2 % 2 = 1 → S 3 x))) := by
  have hn := hI.1.2.1
  have CL0 := ND_CL σ
  unfold K_Needs_addByClasses
  refine ev_lp (fun n z => ∃ st, z = (st, nI n) ∧ n ≤ 9 ∧ PN σ k st ∧ QN k st (fun S => ∀ c, n < c → c < 10 → (S 0 c → S 0 (sup σ c) ∧ ∀ u, u < c → hasF σ c u → S 0 u) ∧ (S 2 c → S 2 (sup σ c) ∧ ∀ x, own σ c 30 x → σ 11 x / 2 % 2 = 1 → S 3 x))) ?_ N 9 _ (by omega) ⟨k, rfl, by omega, PN.rf hG, fun _ c h1 h2 => by omega⟩
  rintro c z self ⟨st, rfl, hc9, hP, hd⟩ ih
  unfold K_Needs_addByClasses_L3
  dsimp only
  refine ev_le c 0 (fun h => ?_) (fun h0 => ?_)
  · have e : c = 0 := by omega
    subst e
    exact ev_some ⟨hP, hd⟩
  have hc : c < 10 := by omega
  have hs := sup_lt hI h0 hc
  obtain ⟨c0, rfl⟩ : ∃ j, c = j + 1 := ⟨c - 1, by omega⟩
  have cl := CL0.2.2.2.1 (c0 + 1) hc
  have next : ∀ st', PN σ st st' → (SE k st' → (kS k 0 (c0 + 1) → kS k 0 (sup σ (c0 + 1)) ∧ ∀ u, u < c0 + 1 → hasF σ (c0 + 1) u → kS k 0 u) ∧ (kS k 2 (c0 + 1) → kS k 2 (sup σ (c0 + 1)) ∧ ∀ x, own σ (c0 + 1) 30 x → σ 11 x / 2 % 2 = 1 → kS k 3 x)) → Ev (self (st', nI (c0 + 1) + (-1))) (fun k' => PN σ k k' ∧ QN k k' (fun S => ∀ c, 0 < c → c < 10 → (S 0 c → S 0 (sup σ c) ∧ ∀ u, u < c → hasF σ c u → S 0 u) ∧ (S 2 c → S 2 (sup σ c) ∧ ∀ x, own σ c 30 x → σ 11 x / 2 % 2 = 1 → S 3 x))) := fun st' p q => by
    rw [pk_m1]
    refine ih c0 _ (by omega) ⟨st', rfl, by omega, hP.tr p, fun e c' h1 h2 => ?_⟩
    rcases Nat.lt_or_ge (c0 + 1) c' with z | z
    · exact hd (SE.l p e) c' z h2
    · rw [show c' = c0 + 1 by omega]
      exact q e
  have J49 : ∀ st', PN σ st st' → (SE k st' → (kS k 0 (c0 + 1) → kS k 0 (sup σ (c0 + 1)) ∧ ∀ u, u < c0 + 1 → hasF σ (c0 + 1) u → kS k 0 u)) → Ev (K_Needs_addByClasses_J49 N self st' (nI (c0 + 1))) (fun k' => PN σ k k' ∧ QN k k' (fun S => ∀ c, 0 < c → c < 10 → (S 0 c → S 0 (sup σ c) ∧ ∀ u, u < c → hasF σ c u → S 0 u) ∧ (S 2 c → S 2 (sup σ c) ∧ ∀ x, own σ c 30 x → σ 11 x / 2 % 2 = 1 → S 3 x))) := by
    intro st' p q
    unfold K_Needs_addByClasses_J49
    refine ev_has (c0 + 1) (by omega) (P := kS st' 2 (c0 + 1)) ⟨fun h => ⟨by omega, h⟩, fun h => h.2⟩ (fun h => next st' p (fun e => ⟨q e, fun z => absurd ((hP.tr p).2.2 _ _ z) h⟩)) (fun h => ?_)
    have th := ((p.1.nd hI h).1 (by omega)).2
    have c2 := cl.2.1 (p.1.2.2 2 _ h)
    refine ev_rI (show c0 + 1 < 10 by omega) (by decide) ?_
    rw [((p.1.1.2.1.2.2.2 (c0 + 1) hc th).1 (by omega)).1]
    refine ev_fL ?_
    have o1 := bit_pn p.1 (i := 2) (c := sup σ (c0 + 1)) (by omega) (by omega) (c2.1 (by omega))
    obtain ⟨st1, e1⟩ : ∃ s, s = sk_wl st' 0 6 (st'.2 0 6 ||| K_SF_bit (nI (sup σ (c0 + 1)))) := ⟨_, rfl⟩
    rw [← e1]
    have o1 : PN σ st' st1 ∧ kS st1 2 (sup σ (c0 + 1)) := by rw [e1]; exact o1
    have hM := o1.1.1.1.2.2.1
    rw [pu_oR (show K_Members_at st1 (nI (c0 + 1)) 30 = some (st1.1 20 (32 * (c0 + 1) + 30)) from k_at (g := 30) hc (by omega))]
    rcases hM.2.2.2.2 (c0 + 1) 30 hc (by omega) with ⟨x, hx, e⟩ | ⟨hx, e⟩
    · have hxn := hx.1.1
      rw [e, if_neg (show ¬ nI x = -2 from oI_no (by omega))]
      refine ev_oR (k_hasFlag2 hI hM hxn) (fun r hr => ?_)
      rcases hr with ⟨rfl, hr⟩ | ⟨rfl, hr⟩
      · rw [if_pos rfl]
        refine next st1 (p.tr o1.1) (fun e => ⟨q (SE.l o1.1 e), fun _ => ⟨e 2 _ o1.2, fun y hy z => ?_⟩⟩)
        rw [hI.2.2.2.2.2.1 _ _ y x hy hx] at z
        exact absurd z hr
      · rw [if_neg (by decide)]
        refine ev_fL ?_
        have o2 := bit_pn o1.1.1 (i := 3) (c := x) (by omega) (by omega) (c2.2 x hx hr)
        refine next _ ((p.tr o1.1).tr o2.1) (fun e => ⟨q (SE.l (o1.1.tr o2.1) e), fun _ => ⟨e 2 _ (o2.1.2.2 _ _ o1.2), fun y hy z => ?_⟩⟩)
        rw [hI.2.2.2.2.2.1 _ _ y x hy hx]
        exact e 3 x o2.2
    · rw [e, if_pos rfl]
      exact next st1 (p.tr o1.1) (fun e => ⟨q (SE.l o1.1 e), fun _ => ⟨e 2 _ o1.2, fun y hy => absurd hy (hx y)⟩⟩)
  refine ev_has (c0 + 1) (by omega) (P := kS st 0 (c0 + 1)) ⟨fun h => ⟨by omega, h⟩, fun h => h.2⟩ (fun h => J49 st (PN.rf hP.1) (fun e z => absurd (hP.2.2 _ _ z) h)) (fun h => ?_)
  have th := ((hP.1.nd hI h).1 (by omega)).2
  have c1 := cl.1 (by omega) (hP.1.2.2 0 _ h)
  obtain ⟨r1, r2⟩ := (hP.1.1.2.1.2.2.2 (c0 + 1) hc th).1 (by omega)
  refine ev_rI (show c0 + 1 < 10 by omega) (by decide) ?_
  refine ev_rL (show c0 + 1 < 10 by omega) (by decide) ?_
  rw [r1]
  refine ev_fL ?_
  have uF : ∀ u, hasF σ (c0 + 1) u → u < c0 + 1 := fun u hu => by
    rcases Nat.lt_or_ge u (c0 + 1) with q | q
    · exact q
    · have b6 := (hI.2.1 (c0 + 1) hc).2.2.2.2.2
      have := hu.1
      rw [Nat.testBit_lt_two_pow (Nat.lt_of_lt_of_le b6 (Nat.pow_le_pow_right (by decide) q))] at this
      cases this
  have o1 := or_pn hP.1 (i := 0) (by omega) (s := K_SF_bit (nI (sup σ (c0 + 1))) ||| st.2 40 (c0 + 1)) (fun x hx => by
    rw [lb_or, Bool.or_eq_true, lb_bit (by omega), decide_eq_true_eq, r2] at hx
    rcases hx with hx | hx
    · rw [hx]; exact c1.1
    · exact c1.2 x (uF x hx) hx)
  refine J49 _ o1.1 (fun e _ => ⟨e 0 _ (o1.2 _ ?_), fun u _ hu => e 0 _ (o1.2 _ ?_)⟩)
  · rw [lb_or, Bool.or_eq_true, lb_bit (by omega), decide_eq_true_eq]; exact Or.inl rfl
  · rw [lb_or, Bool.or_eq_true, r2]; exact Or.inr hu
noncomputable def nsz (k : sk_M) : Nat := ct (kS k 0) 64 + ct (kS k 1) 64 + ct (kS k 2) 64 + ct (kS k 3) 64
theorem ct_sub {P Q : Nat → Prop} (h : ∀ i, P i → Q i) : ∀ n, ct P n ≤ ct Q n ∧ (ct Q n ≤ ct P n → ∀ i, i < n → Q i → P i) := by
  intro n
  induction n with
  | zero => exact ⟨Nat.le_refl _, fun _ i hi => by omega⟩
  | succ n ih =>
    by_cases p : P n
    · rw [ct_y p, ct_y (h n p)]
      refine ⟨by omega, fun e i hi q => ?_⟩
      rcases Nat.lt_or_ge i n with z | z
      · exact ih.2 (by omega) i z q
      · rw [show i = n by omega]; exact p
    · by_cases q : Q n
      · rw [ct_n p, ct_y q]
        exact ⟨by omega, fun e => by omega⟩
      · rw [ct_n p, ct_n q]
        refine ⟨ih.1, fun e i hi z => ?_⟩
        rcases Nat.lt_or_ge i n with y | y
        · exact ih.2 e i y z
        · rw [show i = n by omega] at z; exact absurd z q
theorem nsz_eq (hP : ∀ i x, kS k i x → kS k i x) : K_Needs_size k = nI (nsz k) := by
  unfold K_Needs_size
  rw [k_bitCount, k_bitCount, k_bitCount, k_bitCount, nI_add, nI_add, nI_add]
  have e : ∀ i, i < 4 → ct (fun j => lb (k.2 0 (4 + i)) j = true) 64 = ct (kS k i) 64 := fun i hi => ct_cong (fun j _ => ⟨fun h => ⟨hi, h⟩, fun h => h.2⟩)
  have e0 := e 0 (by omega); have e1 := e 1 (by omega); have e2 := e 2 (by omega); have e3 := e 3 (by omega)
  simp only [Nat.reduceAdd] at e0 e1 e2 e3
  rw [e0, e1, e2, e3]
  rfl
theorem nsz_le (hI : IA σ) (hG : GN σ k) : nsz k ≤ 70 := by
  have hn := hI.1.2.1
  have b : ∀ i, i < 3 → ct (kS k i) 64 ≤ 10 := fun i hi => by
    rw [ct_ext (n := 10) (fun j hj h => by have := ((hG.nd hI h).1 hi).1; omega) (by omega)]
    exact ct_le _ _
  have b3 : ct (kS k 3) 64 ≤ 40 := by
    rw [ct_ext (n := 40) (fun j hj h => by have := ((hG.nd hI h).2 rfl).1; omega) (by omega)]
    exact ct_le _ _
  have := b 0 (by omega); have := b 1 (by omega); have := b 2 (by omega)
  unfold nsz; omega
theorem nsz_mono {k' : sk_M} (hP : PN σ k k') : nsz k ≤ nsz k' ∧ (nsz k' ≤ nsz k → SE k k') := by
  have s : ∀ i, _ := fun i => ct_sub (P := kS k i) (Q := kS k' i) (fun x h => hP.2.2 i x h) 64
  have s0 := s 0; have s1 := s 1; have s2 := s 2; have s3 := s 3
  unfold nsz
  refine ⟨by omega, fun e i x h => ?_⟩
  have hx : x < 64 := by
    rcases Nat.lt_or_ge x 64 with q | q
    · exact q
    · have := h.2; rw [lb_big q] at this; cases this
  rcases (show i = 0 ∨ i = 1 ∨ i = 2 ∨ i = 3 by have := h.1; omega) with rfl | rfl | rfl | rfl
  · exact s0.2 (by omega) x hx h
  · exact s1.2 (by omega) x hx h
  · exact s2.2 (by omega) x hx h
  · exact s3.2 (by omega) x hx h
/-- what one round closes -/
def RC (σ : Ab) (S : Nat → Nat → Prop) : Prop := (∀ r, r < σ 0 3 → ∀ x, σ 20 r = 2 → S 0 (σ 8 x) → mnt σ r x → S 3 x) ∧ (∀ x, x < σ 0 0 → S 3 x → S 0 (σ 8 x)) ∧ (∀ i, i < σ 0 1 → S 3 (σ 13 i) → σ 1 (σ 15 i) = 1 → RF σ S i) ∧ (∀ d x, d < 10 → S 1 d → (d = 0 ∨ abv σ d 0) → LK σ d 16 (fun y => σ 11 y < 2) (some x) → S 3 x) ∧ (∀ c, 0 < c → c < 10 → (S 0 c → S 0 (sup σ c) ∧ ∀ u, u < c → hasF σ c u → S 0 u) ∧ (S 2 c → S 2 (sup σ c) ∧ ∀ x, own σ c 30 x → σ 11 x / 2 % 2 = 1 → S 3 x))
theorem k_needsWork (hI : IA σ) (hB : RB σ k) (hA : KA σ k) (hN : 80 < N) : Ev (K_Needs_work N k) (fun k' => Kn k k' ∧ ∀ i x, i < 4 → (lb (k'.2 0 (4 + i)) x = true ↔ ND σ i x)) := by
  have CL0 := ND_CL σ
  unfold K_Needs_work
  refine ev_fL ?_
  refine ev_fL ?_
  refine ev_fL ?_
  refine ev_fL ?_
  obtain ⟨k0, e0⟩ : ∃ s, s = sk_wl (sk_wl (sk_wl (sk_wl k 0 4 (K_SF_bit 0)) 0 7 (K_SF_bit 0)) 0 5 0) 0 6 0 := ⟨_, rfl⟩
  rw [← e0]
  have kn0 : Kn k k0 := ⟨by rw [e0]; rfl, fun q i a => by rw [e0, w2_n (by omega), w2_n (by omega), w2_n (by omega), w2_n (by omega)]⟩
  have s0 : ∀ i x, kS k0 i x ↔ x = 0 ∧ (i = 0 ∨ i = 3) := fun i x => by
    unfold kS
    rw [e0]
    constructor
    · rintro ⟨h1, h2⟩
      rcases (show i = 0 ∨ i = 1 ∨ i = 2 ∨ i = 3 by omega) with rfl | rfl | rfl | rfl
      · rw [w2_n (by omega), w2_n (by omega), w2_n (by omega), w2_s, show (0 : Int32) = nI 0 from rfl, lb_bit (by omega), decide_eq_true_eq] at h2
        exact ⟨h2, Or.inl rfl⟩
      · rw [w2_n (by omega), w2_s, lb_0] at h2; cases h2
      · rw [w2_s, lb_0] at h2; cases h2
      · rw [w2_n (by omega), w2_n (by omega), w2_s, show (0 : Int32) = nI 0 from rfl, lb_bit (by omega), decide_eq_true_eq] at h2
        exact ⟨h2, Or.inr rfl⟩
    · rintro ⟨h1, h2 | h2⟩
      · subst h2
        rw [w2_n (by omega), w2_n (by omega), w2_n (by omega), w2_s, show (0 : Int32) = nI 0 from rfl, lb_bit (by omega), decide_eq_true_eq]
        exact ⟨by omega, h1⟩
      · subst h2
        rw [w2_n (by omega), w2_n (by omega), w2_s, show (0 : Int32) = nI 0 from rfl, lb_bit (by omega), decide_eq_true_eq]
        exact ⟨by omega, h1⟩
  have G0 : GN σ k0 := ⟨hB.same kn0.kb, hA.kn kn0, fun i x h => by
    obtain ⟨h1, h2 | h2⟩ := (s0 i x).mp h
    · rw [h1, h2]; exact CL0.1
    · rw [h1, h2]; exact CL0.2.1⟩
  refine ev_oR (k_addKept hI G0 hN) (fun k1 h1 => ?_)
  obtain ⟨P1, hkept⟩ := h1
  have z0 : kS k1 0 0 := P1.2.2 0 0 ((s0 0 0).mpr ⟨rfl, Or.inl rfl⟩)
  have z3 : kS k1 3 0 := P1.2.2 3 0 ((s0 3 0).mpr ⟨rfl, Or.inr rfl⟩)
  refine ev_lp (fun n z => ∃ st kn rd, z = (st, nI kn, nI rd) ∧ rd + n = 71 ∧ rd ≤ kn ∧ kn ≤ 70 ∧ PN σ k1 st ∧ (kn = 0 ∨ ∃ st0, nsz st0 = kn ∧ PN σ k1 st0 ∧ PN σ st0 st ∧ QN st0 st (RC σ))) ?_ N 71 _ (by omega) ⟨k1, 0, 0, rfl, by omega, by omega, by omega, PN.rf P1.1, Or.inl rfl⟩
  rintro n z self ⟨st, kn, rd, rfl, hrn, hrk, hk70, hP, hlast⟩ ih
  unfold K_Needs_work_L34
  dsimp only
  have sz := nsz_le hI hP.1
  refine ev_le 71 rd (fun h => by omega) (fun hrd => ?_)
  rw [nsz_eq (fun _ _ h => h)]
  refine ev_le (nsz st) kn (fun h => ?_) (fun h => ?_)
  · refine ev_some ⟨(kn0.tr P1.2.1).tr hP.2.1, fun i x hi => ⟨fun hx => hP.1.2.2 i x ⟨hi, hx⟩, fun hx => ?_⟩⟩
    rcases hlast with rfl | ⟨st0, e, p0, p1, q⟩
    · exfalso
      have : 0 < ct (kS st 0) 64 := by
        have := ct_lt (P := kS st 0) (a := 0) (b := 64) (by omega) (hP.2.2 _ _ z0)
        omega
      unfold nsz at h; omega
    · have se := (nsz_mono p1).2 (by omega)
      have rc := q se
      rw [← SE.q p1 se] at rc
      have cl : CL σ (kS st) := by
        refine ⟨hP.2.2 _ _ z0, hP.2.2 _ _ z3, fun r hr => ⟨fun c a b => ?_, fun x a b => hP.2.2 _ _ ((hkept r hr).2 x a b), fun x a b c => rc.1 r hr x a b c⟩, fun c hc => ⟨fun h0 a => (rc.2.2.2.2 c h0 hc).1 a, fun a => ⟨fun h0 => ((rc.2.2.2.2 c h0 hc).2 a).1, fun x ho hf => ?_⟩, fun a x hl => rc.2.2.2.1 c x hc a ?_ hl⟩, fun x hx a => rc.2.1 x hx a, fun i hi a _ b => rc.2.2.1 i hi a b⟩
        · obtain ⟨u1, u2, u3⟩ := (hkept r hr).1 c a b
          exact ⟨hP.2.2 _ _ u1, hP.2.2 _ _ u2, fun v w => hP.2.2 _ _ (u3 v w)⟩
        · rcases Nat.eq_zero_or_pos c with q0 | q0
          · exfalso
            rw [q0] at ho
            have hx := (hI.2.2.2.1 x ho.1.1).2.2.2.2.2.1
            rcases Nat.eq_zero_or_pos x with y | y
            · have := ho.2.2
              rw [y] at this
              unfold sgn at this
              rw [hI.2.2.2.2.1.2.1, hI.2.2.2.2.1.2.2.1, hI.2.2.2.2.1.2.2.2.1] at this
              omega
            · have := hx y
              have := ho.2.1
              omega
          · exact ((rc.2.2.2.2 c q0 hc).2 a).2 x ho hf
        · rcases Nat.eq_zero_or_pos c with q0 | q0
          · exact Or.inl q0
          · exact Or.inr (abv_z hI c q0 hc)
      exact (hx (kS st) cl).2
  · refine ev_oR (k_addByKeepMembers hI hP.1 hN) (fun a1 h1 => ?_)
    refine ev_oR (k_addByMembers hI h1.1.1 hN) (fun a2 h2 => ?_)
    refine ev_oR (k_addByReferences hI h2.1.1 hN) (fun a3 h3 => ?_)
    refine ev_oR (k_addSelected (c := 0) (g := 16) hI h3.1.1 hN (by omega) (by omega) (by omega) (fun d x a b _ e => (CL0.2.2.2.1 d a).2.2 b x e)) (fun a4 h4 => ?_)
    refine ev_oR (k_addByClasses hI h4.1.1 hN) (fun a5 h5 => ?_)
    rw [nI_1]
    have p12 := h1.1.tr h2.1
    have p13 := p12.tr h3.1
    have p14 := p13.tr h4.1
    have p15 := p14.tr h5.1
    refine ih (n - 1) _ (by omega) ⟨a5, nsz st, rd + 1, rfl, by omega, by omega, by omega, hP.tr p15, Or.inr ⟨st, rfl, hP, p15, fun e => ⟨?_, ?_, ?_, ?_, ?_⟩⟩⟩
    · exact (h1.2.tr (h2.1.tr (h3.1.tr (h4.1.tr h5.1)))) e
    · exact (QN.of h1.1 (h2.1.tr (h3.1.tr (h4.1.tr h5.1))) (h2.2.tr (h3.1.tr (h4.1.tr h5.1)))) e
    · exact (QN.of p12 (h3.1.tr (h4.1.tr h5.1)) (h3.2.tr (h4.1.tr h5.1))) e
    · exact (QN.of p13 (h4.1.tr h5.1) (h4.2.tr h5.1)) e
    · exact (QN.of p14 h5.1 h5.2) e
end
