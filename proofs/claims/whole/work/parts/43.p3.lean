/-! what is FOUND or SELECTED: wt says which members count -/
def fcs (σ : Ab) (c g : Nat) (wt : Nat → Prop) (x : Nat) : Prop := alive σ x ∧ abv σ c (σ 8 x) ∧ σ 2 (σ 8 x) = 1 ∧ sgn σ x = g ∧ wt x
def LK (σ : Ab) (c g : Nat) (wt : Nat → Prop) (o : Option Nat) : Prop := match o with
  | some x => (∃ t, lin σ c t ∧ own σ t g x ∧ wt x ∧ ∀ t' x', lin σ c t' → own σ t' g x' → wt x' → t' ≤ t) ∨ ((∀ t x', lin σ c t → own σ t g x' → ¬ wt x') ∧ fcs σ c g wt x ∧ ∀ x', fcs σ c g wt x' → x ≤ x')
  | none => (∀ t x', lin σ c t → own σ t g x' → ¬ wt x') ∧ ∀ x', ¬ fcs σ c g wt x'
def oI (o : Option Nat) : Int32 := match o with
  | none => -2
  | some x => nI x
theorem LK_unique {σ : Ab} (hI : IA σ) {c g : Nat} {wt : Nat → Prop} {o o' : Option Nat} (h : LK σ c g wt o) (h' : LK σ c g wt o') : o = o' := by
  cases o with
  | none =>
    cases o' with
    | none => rfl
    | some x =>
      rcases h' with ⟨t, a1, a2, a3, _⟩ | ⟨_, a2, _⟩
      · exact absurd a3 (h.1 t x a1 a2)
      · exact absurd a2 (h.2 x)
  | some x =>
    cases o' with
    | none =>
      rcases h with ⟨t, a1, a2, a3, _⟩ | ⟨_, a2, _⟩
      · exact absurd a3 (h'.1 t x a1 a2)
      · exact absurd a2 (h'.2 x)
    | some y =>
      rcases h with ⟨t, a1, a2, a3, a4⟩ | ⟨a1, a2, a3⟩
      · rcases h' with ⟨t', b1, b2, b3, b4⟩ | ⟨b1, b2, b3⟩
        · have e1 := a4 t' y b1 b2 b3
          have e2 := b4 t x a1 a2 a3
          have e : t = t' := by omega
          subst e
          rw [hI.2.2.2.2.2.1 t g x y a2 b2]
        · exact absurd a3 (b1 t x a1 a2)
      · rcases h' with ⟨t', b1, b2, b3, b4⟩ | ⟨b1, b2, b3⟩
        · exact absurd b3 (a1 t' y b1 b2)
        · have e1 := a3 y b2
          have e2 := b3 x a2
          rw [show x = y by omega]
theorem LK_lt {σ : Ab} {c g : Nat} {wt : Nat → Prop} {x : Nat} (h : LK σ c g wt (some x)) : alive σ x ∧ wt x ∧ sgn σ x = g := by
  rcases h with ⟨t, a1, a2, a3, a4⟩ | ⟨a1, a2, a3⟩
  · exact ⟨a2.1, a3, a2.2.2⟩
  · exact ⟨a2.1, a2.2.2.2.2, a2.2.2.2.1⟩
theorem lin_next {σ : Ab} (hI : IA σ) : ∀ (c : Nat), c < 10 → ∀ t t', lin σ c t → lin σ c t' → t' < t → lin σ (sup σ t) t' := by
  intro c
  induction c using Nat.strongRecOn with
  | ind c ih =>
    intro hc t t' h h' hlt
    rcases Nat.eq_zero_or_pos c with rfl | h0
    · rw [lin_0] at h; omega
    · have hs := sup_lt hI h0 hc
      rcases (lin_iff hI h0 hc t).mp h with h | h
      · subst h
        rcases (lin_iff hI h0 hc t').mp h' with h' | h'
        · omega
        · exact h'
      · rcases (lin_iff hI h0 hc t').mp h' with h' | h'
        · have := lin_le hI _ (by omega) t h; omega
        · exact ih _ hs (by omega) t t' h h' hlt
theorem lin_trans {σ : Ab} (hI : IA σ) : ∀ (c : Nat), c < 10 → ∀ t, 0 < t → lin σ c t → lin σ c (sup σ t) := by
  intro c
  induction c using Nat.strongRecOn with
  | ind c ih =>
    intro hc t ht h
    rcases Nat.eq_zero_or_pos c with rfl | h0
    · rw [lin_0] at h; omega
    · have hs := sup_lt hI h0 hc
      rw [lin_iff hI h0 hc]
      rcases (lin_iff hI h0 hc t).mp h with h | h
      · subst h; exact Or.inr lin_self
      · exact Or.inr (ih _ hs (by omega) t ht h)
/-- the reference's row 'above' holds what is above -/
def AB (σ : Ab) (m : sk_M) : Prop := ∀ c, c < 10 → ∃ a, a < 1024 ∧ m.1 7 c = nI a ∧ ∀ d, a.testBit d = true ↔ abv σ c d
theorem or_lt {a b : Nat} (ha : a < 1024) (hb : b < 1024) : a ||| b < 1024 := Nat.or_lt_two_pow (n := 10) ha hb
theorem pow_lt10 {u : Nat} (h : u < 10) : 2 ^ u < 1024 := Nat.pow_lt_pow_right (by decide) (show u < 10 from h)
theorem tb_pow (u d : Nat) : (2 ^ u).testBit d = true ↔ d = u := by
  rw [Nat.testBit_two_pow]
  constructor
  · intro h; exact (of_decide_eq_true h).symm
  · intro h; exact decide_eq_true h.symm
section
variable {σ : Ab} {m : sk_M} {N : Nat}
theorem m_own (hI : IA σ) (hR : RM σ m) (hN : 40 < N) {c kd w s : Nat} (hc : c < 10) (hk : kd < 2) (hw : w < 8) (hs : s < 2) : Ev (M_own N m (nI c) (nI kd) (nI w) (nI s)) (fun r => (r = -1 ∧ ∀ x, ¬ own σ c (16 * kd + 2 * w + s) x) ∨ ∃ x, r = nI x ∧ own σ c (16 * kd + 2 * w + s) x) := by
  have hn := hI.1.2.1
  unfold M_own
  refine ev_lp (fun k z => ∃ i, z = (nI c, nI kd, nI w, nI s, nI i) ∧ i + k = σ 0 0 ∧ ∀ x, x < i → ¬ own σ c (16 * kd + 2 * w + s) x) ?_ N (σ 0 0) _ (by omega) ⟨0, rfl, by omega, fun x h => by omega⟩
  rintro k z self ⟨i, rfl, hik, hno⟩ ih
  unfold M_own_L3
  dsimp only
  rw [hR.nm]
  refine ev_if (fun h1 => ?_) (fun h1 => ?_)
  · have h1 := (nI_leI (by omega) (by omega)).mp h1
    exact ev_some (Or.inl ⟨rfl, fun x h => by rcases Nat.lt_or_ge x i with q | q; exact hno x q h; have := h.1.1; omega⟩)
  · have hi : i < σ 0 0 := by
      rcases Nat.lt_or_ge i (σ 0 0) with q | q
      · exact q
      · exact absurd ((nI_leI (by omega) (by omega)).mpr q) h1
    obtain ⟨b8, b9, b10, b11, b12, _⟩ := hI.2.2.2.1 i hi
    have next : ¬ own σ c (16 * kd + 2 * w + s) i → Ev (self (nI c, nI kd, nI w, nI s, nI i + 1)) _ := fun hx => by
      rw [nI_1]
      exact ih (k - 1) _ (by omega) ⟨i + 1, rfl, by omega, fun x h => by rcases Nat.lt_or_ge x i with q | q; exact hno x q; rw [show x = i by omega]; exact hx⟩
    refine ev_rI (by omega) (by decide) ?_
    rw [hR.mb 12 (by omega) (by omega) hi]
    refine ev_if (fun h2 => ?_) (fun h2 => next (fun h => h2 ((nI_z (by omega)).mpr h.1.2)))
    have h2 := (nI_z (by omega)).mp h2
    refine ev_rI (by omega) (by decide) ?_
    rw [hR.mb 8 (by omega) (by omega) hi]
    refine ev_if (fun h3 => ?_) (fun h3 => next (fun h => h3 ((nI_eq (by omega) (by omega)).mpr h.2.1)))
    have h3 := (nI_eq (by omega) (by omega)).mp h3
    refine ev_rI (by omega) (by decide) ?_
    rw [hR.mb 11 (by omega) (by omega) hi, nI_and1 _ (by omega)]
    refine ev_if (fun h4 => ?_) (fun h4 => next (fun h => h4 ((nI_eq (by omega) (by omega)).mpr (by have := h.2.2; unfold sgn at this; omega))))
    have h4 := (nI_eq (by omega) (by omega)).mp h4
    refine ev_rI (by omega) (by decide) ?_
    rw [hR.mb 9 (by omega) (by omega) hi]
    refine ev_if (fun h5 => ?_) (fun h5 => next (fun h => h5 ((nI_eq (by omega) (by omega)).mpr (by have := h.2.2; unfold sgn at this; omega))))
    have h5 := (nI_eq (by omega) (by omega)).mp h5
    refine ev_rI (by omega) (by decide) ?_
    rw [hR.mb 10 (by omega) (by omega) hi]
    refine ev_if (fun h6 => ?_) (fun h6 => next (fun h => h6 ((nI_eq (by omega) (by omega)).mpr (by have := h.2.2; unfold sgn at this; omega))))
    have h6 := (nI_eq (by omega) (by omega)).mp h6
    exact ev_some (Or.inr ⟨i, rfl, ⟨hi, h2⟩, h3, by unfold sgn; omega⟩)
/-- which members count: under 'selects' those neither static nor private, under 'needed' those in nd -/
def wtd (σ : Ab) (nd : Nat → Prop) (sel ned : Int32) (x : Nat) : Prop := (sel = 0 ∨ σ 11 x < 2) ∧ (ned = 0 ∨ nd x)
theorem fl6 : ∀ f, f < 8 → (nI f &&& 6 = 0 ↔ f < 2) := by decide
theorem m_isWanted (hI : IA σ) (hR : RM σ m) {nd : Nat → Prop} (hnd : ∀ x, x < σ 0 0 → (m.1 38 x = 0 ↔ ¬ nd x)) {x : Nat} (hx : x < σ 0 0) (sel ned : Int32) : Ev (M_isWanted m (nI x) sel ned) (fun r => (r = 0 ∧ ¬ wtd σ nd sel ned x) ∨ (r = 1 ∧ wtd σ nd sel ned x)) := by
  have hn := hI.1.2.1
  obtain ⟨b8, b9, b10, b11, b12, _⟩ := hI.2.2.2.1 x hx
  unfold M_isWanted wtd
  rw [if_neg (nI_pos (by omega))]
  have tail : ∀ h1 : sel = 0 ∨ σ 11 x < 2, Ev (M_isWanted_J20 m (nI x) ned) (fun r => (r = 0 ∧ ¬ ((sel = 0 ∨ σ 11 x < 2) ∧ (ned = 0 ∨ nd x))) ∨ (r = 1 ∧ ((sel = 0 ∨ σ 11 x < 2) ∧ (ned = 0 ∨ nd x)))) := by
    intro h1
    unfold M_isWanted_J20
    refine ev_if (fun h2 => ev_some (Or.inr ⟨rfl, h1, Or.inl h2⟩)) (fun h2 => ?_)
    refine ev_rI (by omega) (by decide) ?_
    refine ev_if (fun h3 => ev_some (Or.inl ⟨rfl, fun h => ?_⟩)) (fun h3 => ev_some (Or.inr ⟨rfl, h1, Or.inr ?_⟩))
    · rcases h.2 with h | h
      · exact h2 h
      · exact (hnd x hx).mp h3 h
    · exact Classical.byContradiction (fun h => h3 ((hnd x hx).mpr h))
  refine ev_if (fun h1 => tail (Or.inl h1)) (fun h1 => ?_)
  refine ev_rI (by omega) (by decide) ?_
  rw [hR.mb 11 (by omega) (by omega) hx]
  refine ev_if (fun h2 => tail (Or.inr ((fl6 _ b11).mp h2))) (fun h2 => ev_some (Or.inl ⟨rfl, fun h => ?_⟩))
  rcases h.1 with h | h
  · exact h1 h
  · exact h2 ((fl6 _ b11).mpr h)
theorem m_isWanted_no {sel ned : Int32} : M_isWanted m (-1) sel ned = some 0 := by
  unfold M_isWanted
  rw [if_pos (by decide)]
theorem m_order (hI : IA σ) (hR : RM σ m) (hN : 40 < N) : Ev (M_order N m) (fun m' => (∀ r i, r ≠ 7 → m'.1 r i = m.1 r i) ∧ AB σ m') := by
  unfold M_order
  refine ev_wI (i := 0) (by decide) (by decide) ?_
  refine ev_lp (fun k z => ∃ st c, z = (st, nI c) ∧ c + k = 10 ∧ 1 ≤ c ∧ (∀ r i, r ≠ 7 → st.1 r i = m.1 r i) ∧ ∀ c', c' < c → ∃ a, a < 1024 ∧ st.1 7 c' = nI a ∧ ∀ d, a.testBit d = true ↔ abv σ c' d) ?_ N 9 _ (by omega) ⟨_, 1, rfl, by omega, by omega, fun r i h => by rw [pu_wi1, if_neg (fun q => h q.1)], fun c' h => ⟨0, by omega, by rw [show c' = 0 by omega]; rfl, fun d => by rw [show c' = 0 by omega]; simp [abv_0]⟩⟩
  rintro k z self ⟨st, c, rfl, hck, h0, hfr, hab⟩ ih
  unfold M_order_L9
  dsimp only
  refine ev_if (fun h1 => ?_) (fun h1 => ?_)
  · have h1 := (nI_leI (a := 10) (by omega) (by omega)).mp h1
    exact ev_some ⟨hfr, fun c' hc' => hab c' (by omega)⟩
  · have hc : c < 10 := by
      rcases Nat.lt_or_ge c 10 with q | q
      · exact q
      · exact absurd ((nI_leI (a := 10) (by omega) (by omega)).mpr q) h1
    have hR' : RM σ st := hR.same (fun r i _ h _ => hfr r i h)
    have hs := sup_lt hI h0 hc
    rw [pu_oR (m_superOf hI hR' hc h0)]
    refine ev_rI (by omega) (by decide) ?_
    obtain ⟨a0, b0, e0, t0⟩ := hab _ hs
    have hp := pow_lt10 (show sup σ c < 10 by omega)
    rw [e0, nI_shl1 (by omega), nI_or (by omega) (by omega)]
    refine ev_lp (fun j z => ∃ st' a u, z = (st', nI c, nI a, nI u) ∧ st' = st ∧ u + j = c ∧ a < 1024 ∧ ∀ d, a.testBit d = true ↔ (d = sup σ c ∨ abv σ (sup σ c) d ∨ ∃ u', u' < u ∧ hasF σ c u' ∧ (d = u' ∨ abv σ u' d))) ?_ N (c - 1) _ (by omega) ⟨st, _, 1, rfl, rfl, by omega, or_lt hp b0, fun d => ?_⟩
    · rintro j z self2 ⟨_, a, u, rfl, rfl, huj, ha, ht⟩ ih2
      unfold M_order_L35
      dsimp only
      refine ev_if (fun h2 => ?_) (fun h2 => ?_)
      · have h2 := (nI_leI (by omega) (by omega)).mp h2
        have hu : u = c := by omega
        subst hu
        unfold M_order_J72
        refine ev_wI hc (by decide) ?_
        rw [nI_1]
        refine ih (k - 1) _ (by omega) ⟨_, u + 1, rfl, by omega, by omega, fun r i h => by rw [pu_wi1, if_neg (fun q => h q.1)]; exact hfr r i h, fun c' h => ?_⟩
        rcases Nat.lt_or_ge c' u with q | q
        · obtain ⟨a1, b1, e1, t1⟩ := hab c' q
          exact ⟨a1, b1, by rw [pu_wi1, if_neg (fun q => by omega)]; exact e1, t1⟩
        · have e : c' = u := by omega
          subst e
          exact ⟨a, ha, by rw [pu_wi1, if_pos ⟨rfl, rfl⟩], fun d => by rw [ht, abv_iff hI h0 hc]⟩
      · have hu : u < c := by
          rcases Nat.lt_or_ge u c with q | q
          · exact q
          · exact absurd ((nI_leI (by omega) (by omega)).mpr q) h2
        refine ev_oR (m_hasFace hI hR' hc (by omega)) (fun x hx => ?_)
        refine ev_if (fun h3 => ?_) (fun h3 => ?_)
        · have hnf : ¬ hasF σ c u := by
            rcases hx with hx | hx
            · exact hx.2
            · rw [hx.1] at h3; exact absurd h3 (by decide)
          rw [nI_1]
          refine ih2 (j - 1) _ (by omega) ⟨_, a, u + 1, rfl, rfl, by omega, ha, fun d => ?_⟩
          rw [ht]
          constructor
          · rintro (h | h | ⟨u', h1, h2, h3⟩)
            · exact Or.inl h
            · exact Or.inr (Or.inl h)
            · exact Or.inr (Or.inr ⟨u', by omega, h2, h3⟩)
          · rintro (h | h | ⟨u', h1, h2, h3⟩)
            · exact Or.inl h
            · exact Or.inr (Or.inl h)
            · exact Or.inr (Or.inr ⟨u', by rcases Nat.lt_or_ge u' u with q | q; exact q; rw [show u' = u by omega] at h2; exact absurd h2 hnf, h2, h3⟩)
        · have hf : hasF σ c u := by
            rcases hx with hx | hx
            · exact absurd hx.1 h3
            · exact hx.2
          refine ev_rI (by omega) (by decide) ?_
          obtain ⟨a1, b1, e1, t1⟩ := hab u (by omega)
          have hp1 := pow_lt10 (show u < 10 by omega)
          have hq := or_lt hp1 b1
          rw [e1, nI_shl1 (by omega), nI_or (by omega) (by omega), nI_or (by omega) (by omega), nI_1]
          refine ih2 (j - 1) _ (by omega) ⟨_, _, u + 1, rfl, rfl, by omega, or_lt ha hq, fun d => ?_⟩
          rw [Nat.testBit_or, Nat.testBit_or, Bool.or_eq_true, Bool.or_eq_true, ht, t1, tb_pow]
          constructor
          · rintro ((h | h | ⟨u', h1, h2, h3⟩) | h)
            · exact Or.inl h
            · exact Or.inr (Or.inl h)
            · exact Or.inr (Or.inr ⟨u', by omega, h2, h3⟩)
            · exact Or.inr (Or.inr ⟨u, by omega, hf, h⟩)
          · rintro (h | h | ⟨u', h1, h2, h3⟩)
            · exact Or.inl (Or.inl h)
            · exact Or.inl (Or.inr (Or.inl h))
            · rcases Nat.lt_or_ge u' u with q | q
              · exact Or.inl (Or.inr (Or.inr ⟨u', q, h2, h3⟩))
              · rw [show u' = u by omega] at h3
                exact Or.inr h3
    · rw [Nat.testBit_or, Bool.or_eq_true, t0, tb_pow]
      constructor
      · rintro (h | h)
        · exact Or.inl h
        · exact Or.inr (Or.inl h)
      · rintro (h | h | ⟨u', h1, h2, h3⟩)
        · exact Or.inl h
        · exact Or.inr h
        · have := h2.2.2
          rw [show u' = 0 by omega, hI.2.2.1.2.1] at this
          omega
theorem m_look (hI : IA σ) (hR : RM σ m) (hA : AB σ m) (hN : 40 < N) {nd : Nat → Prop} (hnd : ∀ x, x < σ 0 0 → (m.1 38 x = 0 ↔ ¬ nd x)) {c kd w s : Nat} (hc : c < 10) (hk : kd < 2) (hw : w < 8) (hs : s < 2) (sel ned : Int32) : Ev (M_look N m (nI c) (nI kd) (nI w) (nI s) sel ned) (fun r => ∃ o, r = oI o ∧ LK σ c (16 * kd + 2 * w + s) (wtd σ nd sel ned) o) := by
  have hn := hI.1.2.1
  unfold M_look
  refine ev_lp (fun k z => ∃ v, z = (nI c, nI kd, nI w, nI s, sel, ned, v) ∧ ((v = -1 ∧ k = 0 ∧ ∀ t x, lin σ c t → own σ t (16 * kd + 2 * w + s) x → ¬ wtd σ nd sel ned x) ∨ ∃ t, v = nI t ∧ k = t + 1 ∧ lin σ c t ∧ ∀ t' x, lin σ c t' → t < t' → own σ t' (16 * kd + 2 * w + s) x → ¬ wtd σ nd sel ned x)) ?_ N (c + 1) _ (by omega) ⟨nI c, rfl, Or.inr ⟨c, rfl, rfl, lin_self, fun t' x h1 h2 => by have := lin_le hI c hc t' h1; omega⟩⟩
  rintro k z self ⟨v, rfl, hv⟩ ih
  unfold M_look_L3
  dsimp only
  rcases hv with ⟨rfl, -, hno⟩ | ⟨t, rfl, rfl, hlt, hno⟩
  · rw [if_pos (by decide)]
    unfold M_look_J47
    refine ev_lp (fun k z => ∃ i, z = (nI c, nI kd, nI w, nI s, sel, ned, nI i) ∧ i + k = σ 0 0 ∧ ∀ x, x < i → ¬ fcs σ c (16 * kd + 2 * w + s) (wtd σ nd sel ned) x) ?_ N (σ 0 0) _ (by omega) ⟨0, rfl, by omega, fun x h => by omega⟩
    rintro k z self2 ⟨i, rfl, hik, hnf⟩ ih2
    unfold M_look_L50
    dsimp only
    rw [hR.nm]
    refine ev_if (fun h1 => ?_) (fun h1 => ?_)
    · have h1 := (nI_leI (by omega) (by omega)).mp h1
      exact ev_some ⟨none, rfl, hno, fun x h => by rcases Nat.lt_or_ge x i with q | q; exact hnf x q h; have := h.1.1; omega⟩
    · have hi : i < σ 0 0 := by
        rcases Nat.lt_or_ge i (σ 0 0) with q | q
        · exact q
        · exact absurd ((nI_leI (by omega) (by omega)).mpr q) h1
      obtain ⟨b8, b9, b10, b11, b12, _⟩ := hI.2.2.2.1 i hi
      have next : ¬ fcs σ c (16 * kd + 2 * w + s) (wtd σ nd sel ned) i → Ev (self2 (nI c, nI kd, nI w, nI s, sel, ned, nI i + 1)) _ := fun hx => by
        rw [nI_1]
        exact ih2 (k - 1) _ (by omega) ⟨i + 1, rfl, by omega, fun x h => by rcases Nat.lt_or_ge x i with q | q; exact hnf x q; rw [show x = i by omega]; exact hx⟩
      refine ev_rI (by omega) (by decide) ?_
      refine ev_rI (by omega) (by decide) ?_
      rw [hR.mb 8 (by omega) (by omega) hi, hR.mb 12 (by omega) (by omega) hi]
      refine ev_if (fun h2 => ?_) (fun h2 => next (fun h => h2 ((nI_z (by omega)).mpr h.1.2)))
      have h2 := (nI_z (by omega)).mp h2
      refine ev_rI (by omega) (by decide) ?_
      obtain ⟨a1, c1, e1, t1⟩ := hA c hc
      rw [e1, nI_shrbit (by omega) (by omega)]
      have hbit : a1.testBit (σ 8 i) = true ↔ ¬ a1 / 2 ^ σ 8 i % 2 = 0 := by
        rw [tb_div]; simp
      refine ev_if (fun h3 => next (fun h => ?_)) (fun h3 => ?_)
      · have h3 := (nI_z (by omega)).mp h3
        exact (hbit.mp ((t1 _).mpr h.2.1)) h3
      · have h3 : abv σ c (σ 8 i) := (t1 _).mp (hbit.mpr (fun e => h3 ((nI_z (by omega)).mpr e)))
        refine ev_rI (by omega) (by decide) ?_
        have b2 := (hI.2.1 _ b8).2.1
        rw [hR.cl 2 (by omega) (by omega) b8]
        refine ev_if (fun h4 => next (fun h => ?_)) (fun h4 => ?_)
        · have h4 := (nI_z (by omega)).mp h4
          have := h.2.2.1; omega
        · have h4 : σ 2 (σ 8 i) = 1 := by
            have : ¬ σ 2 (σ 8 i) = 0 := fun e => h4 ((nI_z (by omega)).mpr e)
            omega
          refine ev_rI (by omega) (by decide) ?_
          rw [hR.mb 11 (by omega) (by omega) hi, nI_and1 _ (by omega)]
          refine ev_if (fun h5 => ?_) (fun h5 => next (fun h => h5 ((nI_eq (by omega) (by omega)).mpr (by have := h.2.2.2.1; unfold sgn at this; omega))))
          have h5 := (nI_eq (by omega) (by omega)).mp h5
          refine ev_rI (by omega) (by decide) ?_
          rw [hR.mb 9 (by omega) (by omega) hi]
          refine ev_if (fun h6 => ?_) (fun h6 => next (fun h => h6 ((nI_eq (by omega) (by omega)).mpr (by have := h.2.2.2.1; unfold sgn at this; omega))))
          have h6 := (nI_eq (by omega) (by omega)).mp h6
          refine ev_rI (by omega) (by decide) ?_
          rw [hR.mb 10 (by omega) (by omega) hi]
          refine ev_if (fun h7 => ?_) (fun h7 => next (fun h => h7 ((nI_eq (by omega) (by omega)).mpr (by have := h.2.2.2.1; unfold sgn at this; omega))))
          have h7 := (nI_eq (by omega) (by omega)).mp h7
          refine ev_oR (m_isWanted hI hR hnd hi sel ned) (fun x hx => ?_)
          refine ev_if (fun h8 => next (fun h => ?_)) (fun h8 => ?_)
          · rcases hx with hx | hx
            · exact hx.2 h.2.2.2.2
            · rw [hx.1] at h8; exact absurd h8 (by decide)
          · have hwt : wtd σ nd sel ned i := by
              rcases hx with hx | hx
              · exact absurd hx.1 h8
              · exact hx.2
            have hf : fcs σ c (16 * kd + 2 * w + s) (wtd σ nd sel ned) i := ⟨⟨hi, h2⟩, h3, h4, by unfold sgn; omega, hwt⟩
            exact ev_some ⟨some i, rfl, Or.inr ⟨hno, hf, fun x' h => by rcases Nat.lt_or_ge x' i with q | q; exact absurd h (hnf x' q); exact q⟩⟩
  · have htc := lin_le hI c hc t hlt
    rw [if_neg (nI_pos (by omega))]
    refine ev_oR (m_own hI hR hN (by omega) hk hw hs) (fun x hx => ?_)
    have go : (∀ x, own σ t (16 * kd + 2 * w + s) x → ¬ wtd σ nd sel ned x) → Ev (sk_oR (M_superOf m (nI t)) fun x39 => self (nI c, nI kd, nI w, nI s, sel, ned, x39)) (fun r => ∃ o, r = oI o ∧ LK σ c (16 * kd + 2 * w + s) (wtd σ nd sel ned) o) := by
      intro hnt
      rcases Nat.eq_zero_or_pos t with ht0 | ht0
      · subst ht0
        have e : M_superOf m (nI 0) = some (-1) := by unfold M_superOf; rw [if_pos nI_0]
        rw [pu_oR e]
        refine ih 0 _ (by omega) ⟨-1, rfl, Or.inl ⟨rfl, rfl, fun t' x' h1 h2 => ?_⟩⟩
        rcases Nat.eq_zero_or_pos t' with q | q
        · subst q; exact hnt x' h2
        · exact hno t' x' h1 q h2
      · rw [pu_oR (m_superOf hI hR (by omega) ht0)]
        have hst := sup_lt hI ht0 (by omega)
        refine ih (sup σ t + 1) _ (by omega) ⟨_, rfl, Or.inr ⟨sup σ t, rfl, rfl, lin_trans hI c hc t ht0 hlt, fun t' x' h1 h2 h3 => ?_⟩⟩
        rcases Nat.lt_or_ge t' t with q | q
        · have := lin_le hI _ (by omega) t' (lin_next hI c hc t t' hlt h1 q)
          omega
        · rcases Nat.lt_or_ge t t' with q2 | q2
          · exact hno t' x' h1 q2 h3
          · rw [show t' = t by omega] at h3; exact hnt x' h3
    rcases hx with ⟨rfl, hx⟩ | ⟨y, rfl, hy⟩
    · rw [pu_oR m_isWanted_no, if_pos rfl]
      exact go (fun x h => absurd h (hx x))
    · refine ev_oR (m_isWanted hI hR hnd hy.1.1 sel ned) (fun x hx => ?_)
      rcases hx with ⟨rfl, hx⟩ | ⟨rfl, hx⟩
      · rw [if_pos rfl]
        exact go (fun x h => by rw [hI.2.2.2.2.2.1 _ _ x y h hy]; exact hx)
      · rw [if_neg (by decide)]
        refine ev_some ⟨some y, rfl, Or.inl ⟨t, hlt, hy, hx, fun t' x' h1 h2 h3 => ?_⟩⟩
        rcases Nat.lt_or_ge t t' with q | q
        · exact absurd h3 (hno t' x' h1 q h2)
        · exact q
end
