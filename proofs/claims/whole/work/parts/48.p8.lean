section
variable {σ : Ab} {m : sk_M} {N : Nat}
theorem RM.rf (h : RM σ m) (r : Nat) {i : Nat} (h1 : 13 ≤ r) (h2 : r ≤ 17) (hi : i < σ 0 1) : m.1 r i = nI (σ r i) := h.2.2.2.1 r i h1 h2 hi
theorem m_byReference (hI : IA σ) (hG : GS σ m) (hN : 80 < N) {i : Nat} (hi : i < σ 0 1) (hnd : RF σ (ND σ) i) : Ev (M_byReference N m (nI i)) (fun m' => PS σ m m' ∧ QF m' (fun S => RF σ S i)) := by
  have hn := hI.1.2.1
  have hn1 := hI.1.2.2.1
  obtain ⟨g1, g2, g3, g4, g5, g6, g7⟩ := hI.2.2.2.2.2.2.1 i hi
  obtain ⟨n0, n1, n2, n5⟩ := hnd
  have hR := hG.1
  unfold M_byReference
  refine ev_rI (by omega) (by decide) ?_
  refine ev_rI (by omega) (by decide) ?_
  rw [hR.rf 15 (by omega) (by omega) hi, hR.rf 14 (by omega) (by omega) hi]
  refine ev_oR (ps_needClass hG g5 n0) (fun m1 e1 => ?_)
  -- the tail
  have J122 : ∀ st, PS σ m st → sm st 0 (σ 15 i) → 2 ≤ σ 14 i → QF st (fun S => ∀ x, LK σ (σ 15 i) (gI σ i) (fun _ => True) (some x) → S 3 x ∧ (σ 11 x / 2 % 2 = 1 → S 2 (σ 8 x))) → Ev (M_byReference_J122 N st (nI i) (nI (σ 15 i)) (nI (σ 14 i))) (fun m' => PS σ m m' ∧ QF m' (fun S => RF σ S i)) := by
    intro st hP hs h2 hT
    unfold M_byReference_J122
    refine ev_lp (fun k z => ∃ st d, z = (st, nI i, nI (σ 15 i), nI (σ 14 i), nI d) ∧ d + k = 10 ∧ PS σ m st ∧ sm st 0 (σ 15 i) ∧ QF st (fun S => (∀ x, LK σ (σ 15 i) (gI σ i) (fun _ => True) (some x) → S 3 x ∧ (σ 11 x / 2 % 2 = 1 → S 2 (σ 8 x))) ∧ ∀ d', d' < d → σ 14 i = 5 → ∀ x, S 1 d' → (d' = σ 15 i ∨ abv σ d' (σ 15 i)) → LK σ d' (gI σ i) (fun y => σ 11 y < 2) (some x) → S 3 x)) ?_ N 10 _ (by omega) ⟨st, 0, rfl, by omega, hP, hs, fun h0 => ⟨hT h0, fun d' hd' => by omega⟩⟩
    rintro k z self ⟨st, d, rfl, hk, hP, hs, hT⟩ ih
    have fin : (σ 14 i = 5 → d = 10) → Ev (some st) (fun m' => PS σ m m' ∧ QF m' (fun S => RF σ S i)) := fun h5 => ev_some ⟨hP, fun h0 => ⟨⟨by omega, hs⟩, fun h => by omega, fun _ => (hT h0).1, fun h d' x hd' h3 h4 h6 => (hT h0).2 d' (by have := h5 h; omega) h x h3 h4 h6⟩⟩
    unfold M_byReference_L125
    dsimp only
    refine ev_le 10 d (fun h => fin (fun _ => by omega)) (fun hd => ?_)
    refine ev_qn (σ 14 i) 5 (fun h5 => ?_) (fun h5 => fin (fun h => absurd h h5))
    have gI5 : gI σ i = 16 * 1 + 2 * σ 16 i + σ 17 i := by unfold gI; rw [if_neg (by omega)]
    have next : ∀ st', PS σ st st' → QF st' (fun S => ∀ x, S 1 d → (d = σ 15 i ∨ abv σ d (σ 15 i)) → LK σ d (gI σ i) (fun y => σ 11 y < 2) (some x) → S 3 x) → Ev (self (st', nI i, nI (σ 15 i), nI (σ 14 i), nI d + 1)) (fun m' => PS σ m m' ∧ QF m' (fun S => RF σ S i)) := by
      intro st' h1 h2
      rw [nI_1]
      refine ih (k - 1) _ (by omega) ⟨st', d + 1, rfl, by omega, hP.tr h1, h1.up (by omega) hs, fun h0 => ⟨((h1.tp hT) h0).1, fun x' hx' h5 => ?_⟩⟩
      rcases Nat.lt_or_ge x' d with q | q
      · exact ((h1.tp hT) h0).2 x' q h5
      · rw [show x' = d by omega]; exact h2 h0
    refine ev_rI (by omega) (by decide) ?_
    refine ev_if (fun h1 => next st (PS.rf hP.1) (fun _ x h => absurd h1 h.2.2)) (fun h1 => ?_)
    have nd1 := hP.1.2.2.2.2.2 1 d (by omega) ⟨by simp [bd]; omega, h1⟩
    have J170 : (d = σ 15 i ∨ abv σ d (σ 15 i)) → Ev (M_byReference_J170 N self st (nI i) (nI (σ 15 i)) (nI (σ 14 i)) (nI d)) (fun m' => PS σ m m' ∧ QF m' (fun S => RF σ S i)) := by
      intro hu
      have hR := hP.1.1
      unfold M_byReference_J170
      refine ev_rI (by omega) (by decide) ?_
      refine ev_rI (by omega) (by decide) ?_
      rw [hR.rf 16 (by omega) (by omega) hi, hR.rf 17 (by omega) (by omega) hi]
      refine ev_oR (m_look hI hP.1.1 hP.1.2.1 (by omega) look_hnd (kd := 1) hd (by omega) g6 g7 1 0) (fun v hv => ?_)
      obtain ⟨o, rfl, ho⟩ := hv
      rw [wtd_sel, ← gI5] at ho
      refine ev_oR (ps_needMember_o hI hP.1 (o := o) (fun x hx => ?_)) (fun m1 e1 => next m1 e1.1 (fun _ x _ _ hx => ?_))
      · subst hx
        exact ⟨by have := (LK_lt ho).1.1; omega, n5 h5 d x hd nd1 hu ho⟩
      · exact ⟨by omega, e1.2 x (LK_unique hI ho hx)⟩
    refine ev_qn d (σ 15 i) (fun h => J170 (Or.inl h)) (fun hne => ?_)
    refine ev_rI (by omega) (by decide) ?_
    obtain ⟨a1, c1, f1, t1⟩ := hP.1.2.1 d hd
    rw [f1, nI_shrbit (by omega) (by omega)]
    have hbit : a1.testBit (σ 15 i) = true ↔ ¬ a1 / 2 ^ σ 15 i % 2 = 0 := by rw [tb_div]; simp
    refine ev_qn (a1 / 2 ^ σ 15 i % 2) 0 (fun h7 => next st (PS.rf hP.1) (fun _ x _ h => ?_)) (fun h7 => J170 (Or.inr ((t1 _).mp (hbit.mpr h7))))
    rcases h with h | h
    · exact absurd h hne
    · exact absurd h7 (hbit.mp ((t1 _).mpr h))
  have J69 : ∀ st kd, PS σ m st → sm st 0 (σ 15 i) → 2 ≤ σ 14 i → kd < 2 → 16 * kd + 2 * σ 16 i + σ 17 i = gI σ i → Ev (M_byReference_J69 N st (nI i) (nI (σ 15 i)) (nI (σ 14 i)) (nI (σ 15 i)) (nI kd)) (fun m' => PS σ m m' ∧ QF m' (fun S => RF σ S i)) := by
    intro st kd hP hs h2 hkd hg
    have hR := hP.1.1
    unfold M_byReference_J69
    refine ev_rI (by omega) (by decide) ?_
    refine ev_rI (by omega) (by decide) ?_
    rw [hR.rf 16 (by omega) (by omega) hi, hR.rf 17 (by omega) (by omega) hi]
    refine ev_oR (m_look hI hP.1.1 hP.1.2.1 (by omega) look_hnd (kd := kd) g5 hkd g6 g7 0 0) (fun v hv => ?_)
    obtain ⟨o, rfl, ho⟩ := hv
    rw [wtd_all, hg] at ho
    refine ev_oR (ps_needMember_o hI hP.1 (o := o) (fun x hx => ?_)) (fun m1 e1 => ?_)
    · subst hx
      exact ⟨by have := (LK_lt ho).1.1; omega, (n2 h2 x ho).1⟩
    · cases o with
      | none =>
        rw [if_pos (by decide)]
        refine J122 m1 (hP.tr e1.1) (e1.1.up (by omega) hs) h2 (fun _ x hx => ?_)
        exact absurd (LK_unique hI ho hx) (by simp)
      | some x =>
        have hx := (LK_lt ho).1.1
        have b := hI.2.2.2.1 x hx
        have hR1 := e1.1.1.1
        rw [show oI (some x) = nI x from rfl, if_neg (nI_pos (by omega))]
        refine ev_rI (by omega) (by decide) ?_
        rw [hR1.mb 11 (by omega) (by omega) hx]
        refine ev_if (fun h1 => ?_) (fun h1 => ?_)
        · refine J122 m1 (hP.tr e1.1) (e1.1.up (by omega) hs) h2 (fun _ y hy => ?_)
          have e := LK_unique hI ho hy
          cases e
          exact ⟨⟨by omega, e1.2 x rfl⟩, fun h => absurd h ((fl2 _ b.2.2.2.1).mp h1)⟩
        · have h1 : σ 11 x / 2 % 2 = 1 := Classical.byContradiction (fun q => h1 ((fl2 _ b.2.2.2.1).mpr q))
          refine ev_rI (by omega) (by decide) ?_
          rw [hR1.mb 8 (by omega) (by omega) hx]
          refine ev_oR (ps_start e1.1.1 b.1 ((n2 h2 x ho).2 h1)) (fun m2 e2 => ?_)
          refine J122 m2 ((hP.tr e1.1).tr e2.1) ((e1.1.tr e2.1).up (by omega) hs) h2 (fun _ y hy => ?_)
          have e := LK_unique hI ho hy
          cases e
          exact ⟨⟨by omega, e2.1.up (by omega) (e1.2 x rfl)⟩, fun h => ⟨by omega, e2.2⟩⟩
  have J51 : ∀ st, PS σ m st → sm st 0 (σ 15 i) → (σ 14 i = 0 → σ 3 (σ 15 i) = 0 → σ 2 (σ 15 i) = 0 → sm st 1 (σ 15 i) ∧ sm st 2 (σ 15 i)) → Ev (M_byReference_J51 N st (nI i) (nI (σ 15 i)) (nI (σ 14 i))) (fun m' => PS σ m m' ∧ QF m' (fun S => RF σ S i)) := by
    intro st hP hs h0
    unfold M_byReference_J51
    refine ev_le 2 (σ 14 i) (fun h1 => ?_) (fun h1 => ev_some ⟨hP, fun _ => ⟨⟨by omega, hs⟩, fun a b c => ⟨⟨by omega, (h0 a b c).1⟩, ⟨by omega, (h0 a b c).2⟩⟩, fun h => by omega, fun h => by omega⟩⟩)
    refine ev_qn (σ 14 i) 2 (fun h2 => J69 st 0 hP hs h1 (by omega) (by unfold gI; rw [if_pos h2])) (fun h2 => J69 st 1 hP hs h1 (by omega) (by unfold gI; rw [if_neg h2]))
  have b := hI.2.1 _ g5
  refine ev_qn (σ 14 i) 0 (fun h1 => ?_) (fun h1 => J51 m1 e1.1 e1.2 (fun h => absurd h h1))
  refine ev_rI g5 (by decide) ?_
  refine ev_qn (σ 3 (σ 15 i)) 0 (hu := e1.1.1.1.cl 3 (by omega) (by omega) g5) (fun h3 => ?_) (fun h3 => J51 m1 e1.1 e1.2 (fun _ h => absurd h h3))
  refine ev_rI g5 (by decide) ?_
  refine ev_qn (σ 2 (σ 15 i)) 0 (hu := e1.1.1.1.cl 2 (by omega) (by omega) g5) (fun h4 => ?_) (fun h4 => J51 m1 e1.1 e1.2 (fun _ _ h => absurd h h4))
  refine ev_oR (ps_make e1.1.1 g5 (n1 h1 h3 h4).1) (fun m2 e2 => ?_)
  refine ev_oR (ps_start e2.1.1 g5 (n1 h1 h3 h4).2) (fun m3 e3 => ?_)
  have p3 := e2.1.tr e3.1
  exact J51 m3 (e1.1.tr p3) (p3.up (by omega) e1.2) (fun _ _ _ => ⟨e3.1.up (by omega) e2.2, e3.2⟩)
theorem m_isActive (hI : IA σ) (hR : RM σ m) {i : Nat} (hi : i < σ 0 1) : Ev (M_isActive m (nI i)) (fun r => (r = 0 ∧ ¬ (alive σ (σ 13 i) ∧ m.1 38 (σ 13 i) ≠ 0)) ∨ (r = 1 ∧ alive σ (σ 13 i) ∧ m.1 38 (σ 13 i) ≠ 0)) := by
  have hn := hI.1.2.1
  have hn1 := hI.1.2.2.1
  obtain ⟨g1, g2, g3, g4, g5, g6, g7⟩ := hI.2.2.2.2.2.2.1 i hi
  have b := hI.2.2.2.1 _ g2
  unfold M_isActive
  refine ev_rI (by omega) (by decide) ?_
  rw [hR.rf 13 (by omega) (by omega) hi]
  refine ev_rI (by omega) (by decide) ?_
  refine ev_qn (σ 12 (σ 13 i)) 0 (hu := hR.mb 12 (by omega) (by omega) g2) (fun h1 => ?_) (fun h1 => ev_some (Or.inl ⟨rfl, fun h => h1 h.1.2⟩))
  refine ev_rI (by omega) (by decide) ?_
  rw [hR.rf 13 (by omega) (by omega) hi]
  refine ev_rI (by omega) (by decide) ?_
  exact ev_if (fun h2 => ev_some (Or.inl ⟨rfl, fun h => h.2 h2⟩)) (fun h2 => ev_some (Or.inr ⟨rfl, ⟨g2, h1⟩, h2⟩))
/-- the reference after its search -/
def FS (σ : Ab) (m : sk_M) : Prop := RM σ m ∧ AB σ m ∧ AT σ m ∧ ∀ i x, i < 4 → x < bd i → (m.1 (35 + i) x = 0 ↔ ¬ ND σ i x)
theorem m_search (hI : IA σ) (hN : 80 < N) : ∀ st, GS σ st → st.1 0 6 = 1 → sm st 0 0 → sm st 3 0 → Ev (sk_lp N (M_find_L130 N) st) (FS σ) := by
  have hn := hI.1.2.1
  have hn1 := hI.1.2.2.1
  intro st0 hG0 hf0 hz0 hz3
  refine ev_lp (fun k st => GS σ st ∧ (sm st 0 0 ∧ sm st 3 0) ∧ ((st.1 0 6 = 1 ∧ k + cnt st = 71) ∨ (st.1 0 6 = 0 ∧ k = 0 ∧ CL σ (sq st)))) ?_ N (71 - cnt st0) _ (by omega) ⟨hG0, ⟨hz0, hz3⟩, Or.inl ⟨hf0, by have := cnt_le st0; omega⟩⟩
  rintro k st self ⟨hG, hz, hk⟩ ih
  unfold M_find_L130
  rcases hk with ⟨hf, hk⟩ | ⟨hf, rfl, hC⟩
  · rw [if_neg (by rw [hf]; decide)]
    refine ev_fI ?_
    have mt : ∀ q i, (q = 0 → i ≠ 6) → (sk_wi st 0 6 0).1 q i = st.1 q i := fun q i h => by rw [pu_wi1, if_neg (fun z => h z.1 z.2)]
    have f0 : (sk_wi st 0 6 0).1 0 6 = 0 := by rw [pu_wi1, if_pos ⟨rfl, rfl⟩]
    have hG1 : GS σ (sk_wi st 0 6 0) := by
      obtain ⟨a1, a2, a3, a4, a5, a6⟩ := hG
      exact ⟨a1.same (Mb.wi (Or.inr (Or.inr ⟨rfl, by omega⟩))), fun c hc => by obtain ⟨x1, x2, x3, x4⟩ := a2 c hc; exact ⟨x1, x2, by rw [mt 7 c (by omega)]; exact x3, x4⟩, fun r c h1 h2 => by rw [mt 39 _ (by omega)]; exact a3 r c h1 h2, Or.inl f0, fun i x h1 h2 => by rw [mt _ x (by omega)]; exact a5 i x h1 h2, fun i x h1 h2 => a6 i x h1 ⟨h2.1, by rw [← mt _ x (by omega)]; exact h2.2⟩⟩
    have ce : cnt (sk_wi st 0 6 0) = cnt st := rfl
    have hz1 : sm (sk_wi st 0 6 0) 0 0 ∧ sm (sk_wi st 0 6 0) 3 0 := ⟨⟨hz.1.1, by rw [mt _ 0 (by omega)]; exact hz.1.2⟩, ⟨hz.2.1, by rw [mt _ 0 (by omega)]; exact hz.2.2⟩⟩
    generalize hst1 : sk_wi st 0 6 0 = st1 at *
    refine ev_oR (m_byRules hI hG1 hN) (fun m1 e1 => ?_)
    refine ev_oR (m_byClasses hI e1.1.1 hN) (fun m2 e2 => ?_)
    refine ev_lp (fun k z => ∃ st i, z = (st, nI i) ∧ i + k = σ 0 1 ∧ PS σ st1 st ∧ QF st (fun S => (∀ r, r < σ 0 3 → CLr σ S r) ∧ ((∀ c, c < 10 → CLc σ S c) ∧ ∀ x, x < σ 0 0 → S 3 x → S 0 (σ 8 x)) ∧ ∀ i', i' < i → S 3 (σ 13 i') → alive σ (σ 13 i') → σ 1 (σ 15 i') = 1 → RF σ S i')) ?_ N (σ 0 1) _ (by omega) ⟨m2, 0, rfl, by omega, e1.1.tr e2.1, fun h0 => ⟨(e2.1.tp e1.2) h0, e2.2 h0, fun i' h => by omega⟩⟩
    rintro k2 z self2 ⟨st, i, rfl, hk2, hP, hT⟩ ih2
    have hR := hP.1.1
    unfold M_find_L152
    dsimp only
    refine ev_le (σ 0 1) i (hu := hR.1 1 (by omega)) (fun h => ?_) (fun hi => ?_)
    · unfold M_find_J193
      have z0 : sm st 0 0 ∧ sm st 3 0 := ⟨hP.up (by omega) hz1.1, hP.up (by omega) hz1.2⟩
      rcases hP.1.2.2.2.1 with q | q
      · refine ih 0 st (by have := cnt_le st1; omega) ⟨hP.1, z0, Or.inr ⟨q, rfl, ?_⟩⟩
        obtain ⟨t1, t2, t3⟩ := hT q
        exact ⟨⟨by omega, z0.1⟩, ⟨by omega, z0.2⟩, t1, t2.1, t2.2, fun i' h1 => t3 i' (by omega)⟩
      · have := hP.2.2.2.2.2 f0 (by rw [q]; decide)
        exact ih (71 - cnt st) st (by have := cnt_le st; omega) ⟨hP.1, z0, Or.inl ⟨q, by have := cnt_le st; omega⟩⟩
    · obtain ⟨g1, g2, g3, g4, g5, g6, g7⟩ := hI.2.2.2.2.2.2.1 i hi
      have next : ∀ st', PS σ st st' → QF st' (fun S => S 3 (σ 13 i) → alive σ (σ 13 i) → σ 1 (σ 15 i) = 1 → RF σ S i) → Ev (self2 (st', nI i + 1)) (FS σ) := by
        intro st' h1 h2
        rw [nI_1]
        refine ih2 (k2 - 1) _ (by omega) ⟨st', i + 1, rfl, by omega, hP.tr h1, fun h0 => ⟨((h1.tp hT) h0).1, ((h1.tp hT) h0).2.1, fun x' hx' => ?_⟩⟩
        rcases Nat.lt_or_ge x' i with q | q
        · exact ((h1.tp hT) h0).2.2 x' q
        · rw [show x' = i by omega]; exact h2 h0
      refine ev_oR (m_isActive hI hR hi) (fun v hv => ?_)
      rcases hv with ⟨rfl, hv⟩ | ⟨rfl, hv1, hv2⟩
      · rw [if_pos rfl]
        exact next st (PS.rf hP.1) (fun _ h1 h2 => absurd ⟨h2, h1.2.2⟩ hv)
      · rw [if_neg (by decide)]
        refine ev_rI (by omega) (by decide) ?_
        rw [hR.rf 15 (by omega) (by omega) hi]
        refine ev_rI (by omega) (by decide) ?_
        have b1 := (hI.2.1 _ g5).1
        refine ev_qn (σ 1 (σ 15 i)) 0 (hu := hR.cl 1 (by omega) (by omega) g5) (fun h1 => next st (PS.rf hP.1) (fun _ _ _ h => by omega)) (fun h1 => ?_)
        have n3 := hP.1.2.2.2.2.2 3 (σ 13 i) (by omega) ⟨by simp [bd]; omega, hv2⟩
        refine ev_oR (m_byReference hI hP.1 hN hi ((ND_CL σ).2.2.2.2.2 i hi n3 hv1 (by omega))) (fun m3 e3 => ?_)
        exact next m3 e3.1 (fun h0 _ _ _ => e3.2 h0)
  · rw [if_pos hf]
    obtain ⟨a1, a2, a3, a4, a5, a6⟩ := hG
    exact ev_some ⟨a1, a2, a3, fun i x h1 h2 => ⟨fun h hn => ((hn _ hC).2.2 h), fun h => Classical.byContradiction (fun q => h (a6 i x h1 ⟨h2, q⟩))⟩⟩
theorem m_find (hI : IA σ) (hR : RM σ m) (hN : 80 < N) : Ev (M_find N m) (FS σ) := by
  have h8 := hI.1.2.2.2.2
  unfold M_find
  refine ev_oR (m_order hI hR (by omega)) (fun m1 e1 => ?_)
  have hR1 : RM σ m1 := hR.same (fun r i _ h _ => e1.1 r i h)
  refine ev_lp (fun k z => ∃ st r, z = (st, nI r) ∧ r + k = σ 0 3 ∧ RM σ st ∧ AB σ st ∧ ∀ r' c, r' < r → c < 10 → (st.1 39 (10 * r' + c) = 0 ↔ ¬ abt σ r' c)) ?_ N (σ 0 3) _ (by omega) ⟨m1, 0, rfl, by omega, hR1, e1.2, fun r' c h => by omega⟩
  rintro k z self ⟨st, r, rfl, hk, hR, hA, hT⟩ ih
  unfold M_find_L6
  dsimp only
  refine ev_le (σ 0 3) r (hu := hR.1 3 (by omega)) (fun h => ?_) (fun hr => ?_)
  · have hAT : AT σ st := fun r' c h1 h2 => hT r' c (by omega) h2
    clear ih hT
    unfold M_find_J53
    refine ev_lp (fun k z => ∃ st c, z = (st, nI c) ∧ c + k = 10 ∧ RM σ st ∧ AB σ st ∧ AT σ st ∧ ∀ i x, i < 3 → x < c → st.1 (35 + i) x = if i = 0 ∧ x = 0 then 1 else 0) ?_ N 10 _ (by omega) ⟨st, 0, rfl, by omega, hR, hA, hAT, fun i x _ h => by omega⟩
    rintro k z self ⟨st, c, rfl, hk, hR, hA, hAT, hT⟩ ih
    unfold M_find_L55
    dsimp only
    refine ev_le 10 c (fun h => ?_) (fun hc => ?_)
    · unfold M_find_J96
      have hT : ∀ i x, i < 3 → x < 10 → st.1 (35 + i) x = if i = 0 ∧ x = 0 then 1 else 0 := fun i x h1 h2 => hT i x h1 (by omega)
      clear ih
      refine ev_lp (fun k z => ∃ st c, z = (st, nI c) ∧ c + k = 40 ∧ RM σ st ∧ AB σ st ∧ AT σ st ∧ (∀ i x, i < 3 → x < 10 → st.1 (35 + i) x = if i = 0 ∧ x = 0 then 1 else 0) ∧ ∀ x, x < c → st.1 38 x = if x = 0 then 1 else 0) ?_ N 40 _ (by omega) ⟨st, 0, rfl, by omega, hR, hA, hAT, hT, fun x h => by omega⟩
      rintro k z self ⟨st, c, rfl, hk, hR, hA, hAT, hT, hT2⟩ ih
      unfold M_find_L98
      dsimp only
      refine ev_le 40 c (fun h => ?_) (fun hc => ?_)
      · unfold M_find_J125
        refine ev_fI ?_
        have mt : ∀ q i, (q = 0 → i ≠ 6) → (sk_wi st 0 6 1).1 q i = st.1 q i := fun q i h => by rw [pu_wi1, if_neg (fun z => h z.1 z.2)]
        have rows : ∀ i x, i < 4 → x < bd i → (sk_wi st 0 6 1).1 (35 + i) x = if (i = 0 ∨ i = 3) ∧ x = 0 then 1 else 0 := by
          intro i x hi hx
          rw [mt _ x (by omega)]
          unfold bd at hx
          rcases (show i < 3 ∨ i = 3 by omega) with q | q
          · rw [if_neg (by omega)] at hx
            rw [hT i x q hx]
            by_cases h0 : i = 0 ∧ x = 0
            · rw [if_pos h0, if_pos ⟨Or.inl h0.1, h0.2⟩]
            · rw [if_neg h0, if_neg (fun z => h0 ⟨by omega, z.2⟩)]
          · subst q
            rw [hT2 x (by rw [if_pos rfl] at hx; omega)]
            by_cases h0 : x = 0
            · rw [if_pos h0, if_pos ⟨Or.inr rfl, h0⟩]
            · rw [if_neg h0, if_neg (fun z => h0 z.2)]
        refine m_search hI hN _ ⟨hR.same (Mb.wi (Or.inr (Or.inr ⟨rfl, by omega⟩))), fun c hc => by obtain ⟨x1, x2, x3, x4⟩ := hA c hc; exact ⟨x1, x2, by rw [mt 7 c (by omega)]; exact x3, x4⟩, fun r c h1 h2 => by rw [mt 39 _ (by omega)]; exact hAT r c h1 h2, Or.inr (by rw [pu_wi1, if_pos ⟨rfl, rfl⟩]), fun i x h1 h2 => ?_, fun i x h1 h2 => ?_⟩ (by rw [pu_wi1, if_pos ⟨rfl, rfl⟩]) ⟨by decide, by rw [rows 0 0 (by omega) (by decide)]; decide⟩ ⟨by decide, by rw [rows 3 0 (by omega) (by decide)]; decide⟩
        · rw [rows i x h1 h2]
          split
          · exact Or.inr rfl
          · exact Or.inl rfl
        · have h3 := h2.2
          rw [rows i x h1 h2.1] at h3
          by_cases h0 : (i = 0 ∨ i = 3) ∧ x = 0
          · obtain ⟨q | q, rfl⟩ := h0
            · subst q; exact (ND_CL σ).1
            · subst q; exact (ND_CL σ).2.1
          · rw [if_neg h0] at h3; exact absurd rfl h3
      · have J : ∀ v, v = (if c = 0 then 1 else 0 : Int32) → vp_nar .boolean v = v → Ev (M_find_J118 N (fun st => M_find_J125 N st) self st (nI c) (nI c) v) (FS σ) := by
          intro v hv hn
          unfold M_find_J118
          refine ev_wI hc (by decide) ?_
          rw [nI_1, hn]
          refine ih (k - 1) _ (by omega) ⟨_, c + 1, rfl, by omega, hR.same (Mb.wi (Or.inl (by omega))), fun c hc => by obtain ⟨x1, x2, x3, x4⟩ := hA c hc; exact ⟨x1, x2, by rw [pu_wi1, if_neg (by omega)]; exact x3, x4⟩, fun r c h1 h2 => by rw [pu_wi1, if_neg (by omega)]; exact hAT r c h1 h2, fun i x h1 h2 => by rw [pu_wi1, if_neg (by omega)]; exact hT i x h1 h2, fun x hx => ?_⟩
          rw [pu_wi1]
          by_cases h0 : x = c
          · rw [if_pos ⟨rfl, h0⟩, hv, h0]
          · rw [if_neg (fun z => h0 z.2)]; exact hT2 x (by omega)
        refine ev_qn c 0 (fun h0 => J 1 (by rw [if_pos h0]) (by decide)) (fun h0 => J 0 (by rw [if_neg h0]) (by decide))
    · have J : ∀ v, v = (if c = 0 then 1 else 0 : Int32) → vp_nar .boolean v = v → Ev (M_find_J75 N (fun st => M_find_J96 N st) self st (nI c) (nI c) v) (FS σ) := by
        intro v hv hn
        unfold M_find_J75
        refine ev_wI hc (by decide) ?_
        refine ev_wI hc (by decide) ?_
        refine ev_wI hc (by decide) ?_
        rw [nI_1, hn]
        refine ih (k - 1) _ (by omega) ⟨_, c + 1, rfl, by omega, ((hR.same (Mb.wi (Or.inl (by omega)))).same (Mb.wi (Or.inl (by omega)))).same (Mb.wi (Or.inl (by omega))), fun c hc => by obtain ⟨x1, x2, x3, x4⟩ := hA c hc; exact ⟨x1, x2, by rw [pu_wi1, if_neg (by omega), pu_wi1, if_neg (by omega), pu_wi1, if_neg (by omega)]; exact x3, x4⟩, fun r c h1 h2 => by rw [pu_wi1, if_neg (by omega), pu_wi1, if_neg (by omega), pu_wi1, if_neg (by omega)]; exact hAT r c h1 h2, fun i x h1 h2 => ?_⟩
        rw [pu_wi1, pu_wi1, pu_wi1]
        by_cases h0 : x = c
        · subst h0
          rcases (show i = 0 ∨ i = 1 ∨ i = 2 by omega) with rfl | rfl | rfl
          · rw [if_neg (by omega), if_neg (by omega), if_pos ⟨rfl, rfl⟩, hv]
            by_cases hx : x = 0
            · rw [if_pos hx, if_pos ⟨rfl, hx⟩]
            · rw [if_neg hx, if_neg (fun z => hx z.2)]
          · rw [if_neg (by omega), if_pos ⟨rfl, rfl⟩, if_neg (by omega)]; rfl
          · rw [if_pos ⟨rfl, rfl⟩, if_neg (by omega)]; rfl
        · rw [if_neg (fun z => h0 z.2), if_neg (fun z => h0 z.2), if_neg (fun z => h0 z.2)]; exact hT i x h1 (by omega)
      refine ev_qn c 0 (fun h0 => J 1 (by rw [if_pos h0]) (by decide)) (fun h0 => J 0 (by rw [if_neg h0]) (by decide))
  · refine ev_lp (fun k z => ∃ st c, z = (st, nI r, nI c) ∧ c + k = 10 ∧ RM σ st ∧ AB σ st ∧ (∀ r' c, r' < r → c < 10 → (st.1 39 (10 * r' + c) = 0 ↔ ¬ abt σ r' c)) ∧ ∀ c', c' < c → (st.1 39 (10 * r + c') = 0 ↔ ¬ abt σ r c')) ?_ N 10 _ (by omega) ⟨st, 0, rfl, by omega, hR, hA, hT, fun c h => by omega⟩
    rintro k2 z self2 ⟨st, c, rfl, hk2, hR, hA, hT, hT2⟩ ih2
    unfold M_find_L16
    dsimp only
    refine ev_le 10 c (fun h => ?_) (fun hc => ?_)
    · unfold M_find_J47
      rw [nI_1]
      refine ih (k - 1) _ (by omega) ⟨st, r + 1, rfl, by omega, hR, hA, fun r' c' h1 h2 => ?_⟩
      rcases Nat.lt_or_ge r' r with q | q
      · exact hT r' c' q h2
      · rw [show r' = r by omega]; exact hT2 c' (by omega)
    · refine ev_oW (m_isAbout hI hR hA hN hr hc) (fun v m2 e2 => ?_)
      rw [show (10 : Int32) * nI r = nI (10 * r) from pk_mul 10 r, nI_add, nI_1]
      refine ev_wI (by omega) (by decide) ?_
      have hA2 := e2.1.AB hA
      refine ih2 (k2 - 1) _ (by omega) ⟨_, c + 1, rfl, by omega, (hR.same e2.1.mb).same (Mb.wi (Or.inl (by omega))), fun c hc => by obtain ⟨x1, x2, x3, x4⟩ := hA2 c hc; exact ⟨x1, x2, by rw [pu_wi1, if_neg (by omega)]; exact x3, x4⟩, fun r' c' h1 h2 => ?_, fun c' h1 => ?_⟩
      · rw [pu_wi1, if_neg (by omega), e2.1 39 _ (by omega) (by omega) (by omega) (by omega)]; exact hT r' c' h1 h2
      · rw [pu_wi1]
        by_cases h0 : c' = c
        · rw [if_pos ⟨rfl, by omega⟩, h0]
          rcases e2.2 with ⟨h3, h4⟩ | ⟨h3, h4⟩
          · have h3 : v = 0 := h3
            rw [h3]; exact ⟨fun _ => h4, fun _ => by decide⟩
          · have h3 : v = 1 := h3
            rw [h3]; exact ⟨fun h => absurd h (by decide), fun h => absurd h4 h⟩
        · rw [if_neg (by omega), e2.1 39 _ (by omega) (by omega) (by omega) (by omega)]; exact hT2 c' (by omega)
end
