section
variable {σ : Ab} {m : sk_M} {N : Nat}
theorem IA_dead {σ' : Ab} (hI : IA σ) (e : ∀ q j, ¬ q = 1 → ¬ q = 12 → σ' q j = σ q j) (e1 : ∀ c, c < 10 → σ' 1 c ≤ 1) (e10 : σ' 1 0 = 1) (e12 : ∀ x, σ' 12 x = σ 12 x ∨ σ' 12 x = 1) (e120 : σ' 12 0 = 0) (ea : ∀ x, x < σ 0 0 → σ' 12 x = 0 → σ' 1 (σ 8 x) = 1) : IA σ' := by
  obtain ⟨i1, i2, i3, i4, i5, i6, i7, i8, i9⟩ := hI
  have ow : ∀ c g x, own σ' c g x → own σ c g x := by
    intro c g x h
    obtain ⟨⟨h1, h2⟩, h3, h4⟩ := h
    rw [e 0 0 (by omega) (by omega)] at h1
    rw [e 8 x (by omega) (by omega)] at h3
    unfold sgn at h4
    rw [e 9 x (by omega) (by omega), e 10 x (by omega) (by omega), e 11 x (by omega) (by omega)] at h4
    exact ⟨⟨h1, by rcases e12 x with q | q <;> omega⟩, h3, h4⟩
  refine ⟨?_, fun d hd => ?_, ?_, fun x hx => ?_, ?_, fun d g x y h1 h2 => i6 d g x y (ow _ _ _ h1) (ow _ _ _ h2), fun i hi => ?_, ⟨fun i hi => ?_, fun k hk => ?_⟩, fun r hr => ?_⟩
  · rw [e 0 0 (by omega) (by omega), e 0 1 (by omega) (by omega), e 0 2 (by omega) (by omega), e 0 3 (by omega) (by omega)]; exact i1
  · rw [e 2 d (by omega) (by omega), e 3 d (by omega) (by omega), e 4 d (by omega) (by omega), e 5 d (by omega) (by omega), e 6 d (by omega) (by omega)]
    exact ⟨e1 d hd, (i2 d hd).2⟩
  · rw [e 2 0 (by omega) (by omega), e 3 0 (by omega) (by omega), e 4 0 (by omega) (by omega), e 5 0 (by omega) (by omega)]
    exact ⟨e10, i3.2⟩
  · rw [e 0 0 (by omega) (by omega)] at hx
    rw [e 8 x (by omega) (by omega), e 9 x (by omega) (by omega), e 10 x (by omega) (by omega), e 11 x (by omega) (by omega)]
    obtain ⟨b1, b2, b3, b4, b5, b6, b7, b8⟩ := i4 x hx
    exact ⟨b1, b2, b3, b4, by rcases e12 x with q | q <;> omega, b6, b7, ea x hx⟩
  · rw [e 8 0 (by omega) (by omega), e 9 0 (by omega) (by omega), e 10 0 (by omega) (by omega), e 11 0 (by omega) (by omega)]
    exact ⟨i5.1, i5.2.1, i5.2.2.1, i5.2.2.2.1, e120⟩
  · rw [e 0 1 (by omega) (by omega)] at hi
    rw [e 13 i (by omega) (by omega), e 14 i (by omega) (by omega), e 15 i (by omega) (by omega), e 16 i (by omega) (by omega), e 17 i (by omega) (by omega), e 0 0 (by omega) (by omega), e 11 _ (by omega) (by omega)]; exact i7 i hi
  · rw [e 0 2 (by omega) (by omega)] at hi
    rw [e 18 i (by omega) (by omega)]; exact i8.1 i hi
  · rw [e 19 k (by omega) (by omega)]; exact i8.2 k hk
  · rw [e 0 3 (by omega) (by omega)] at hr
    obtain ⟨r1, r2, r3, r4, r5, r6, r7⟩ := i9 r hr
    rw [e 20 r (by omega) (by omega), e 21 r (by omega) (by omega), e 22 r (by omega) (by omega), e 23 r (by omega) (by omega), e 24 r (by omega) (by omega), e 25 r (by omega) (by omega)]
    exact ⟨r1, r2, r3, r4, r5, fun k hk => by rw [e 26 _ (by omega) (by omega), e 27 _ (by omega) (by omega), e 28 _ (by omega) (by omega)]; exact r6 k hk, fun k hk => by rw [e 19 _ (by omega) (by omega)]; exact r7 k hk⟩
theorem dpA_o (σ : Ab) (c : Nat) {q : Nat} (j : Nat) (h1 : ¬ q = 1) (h2 : ¬ q = 12) : dpA σ c q j = σ q j := by
  unfold dpA
  rw [if_neg (by omega), if_neg (by omega)]
theorem dpA_1 (σ : Ab) (c d : Nat) : dpA σ c 1 d = if d = c then 0 else σ 1 d := by
  unfold dpA
  by_cases h : d = c
  · rw [if_pos ⟨rfl, h⟩, if_pos h]
  · rw [if_neg (by omega), if_neg (by omega), if_neg h]
theorem dpA_12 (σ : Ab) (c x : Nat) : dpA σ c 12 x = if 1 ≤ x ∧ σ 8 x = c then 1 else σ 12 x := by
  unfold dpA
  rw [if_neg (by omega)]
  by_cases h : 1 ≤ x ∧ σ 8 x = c
  · rw [if_pos ⟨rfl, h⟩, if_pos h]
  · rw [if_neg (fun z => h z.2), if_neg h]
theorem IA_drop (hI : IA σ) {c : Nat} (h0 : 1 ≤ c) (hc : c ≤ 9) : IA (dpA σ c) := by
  refine IA_dead hI (fun q j h1 h2 => dpA_o σ c j h1 h2) (fun d hd => ?_) ?_ (fun x => ?_) ?_ (fun x hx h => ?_)
  · rw [dpA_1]; have := (hI.2.1 d hd).1; split <;> omega
  · rw [dpA_1, if_neg (by omega)]; exact hI.2.2.1.1
  · rw [dpA_12]; split
    · exact Or.inr rfl
    · exact Or.inl rfl
  · rw [dpA_12, if_neg (by omega)]; exact hI.2.2.2.2.1.2.2.2.2
  · rw [dpA_12] at h
    obtain ⟨b1, b2, b3, b4, b5, b6, b7, b8⟩ := hI.2.2.2.1 x hx
    by_cases q : 1 ≤ x ∧ σ 8 x = c
    · rw [if_pos q] at h; omega
    · rw [if_neg q] at h
      rw [dpA_1, if_neg]
      · exact b8 h
      · intro z
        rcases Nat.eq_zero_or_pos x with w | w
        · rw [w, hI.2.2.2.2.1.1] at z; omega
        · exact q ⟨w, z⟩
theorem IA_remove (hI : IA σ) {x : Nat} (h0 : 1 ≤ x) : IA (rmA σ x) := by
  have e : ∀ q j, ¬ q = 12 → rmA σ x q j = σ q j := fun q j h => if_neg (fun z => h z.1)
  refine IA_dead hI (fun q j h1 h2 => e q j h2) (fun d hd => ?_) ?_ (fun y => ?_) ?_ (fun y hy h => ?_)
  · rw [e 1 d (by omega)]; exact (hI.2.1 d hd).1
  · rw [e 1 0 (by omega)]; exact hI.2.2.1.1
  · unfold rmA
    split
    · exact Or.inr rfl
    · exact Or.inl rfl
  · unfold rmA; rw [if_neg (by omega)]; exact hI.2.2.2.2.1.2.2.2.2
  · rw [e 1 _ (by omega)]
    unfold rmA at h
    by_cases q : y = x
    · rw [if_pos ⟨rfl, q⟩] at h; omega
    · rw [if_neg (fun z => q z.2)] at h
      exact (hI.2.2.2.1 y hy).2.2.2.2.2.2.2 h
theorem RM_dead {σ' : Ab} {m' : sk_M} (hR : RM σ m) (e : ∀ q j, ¬ q = 1 → ¬ q = 12 → σ' q j = σ q j) (em : ∀ q j, q ≤ 28 → ¬ q = 1 → ¬ q = 12 → m'.1 q j = m.1 q j) (e1 : ∀ c, c < 10 → m'.1 1 c = nI (σ' 1 c)) (e12 : ∀ x, x < σ 0 0 → m'.1 12 x = nI (σ' 12 x)) : RM σ' m' := by
  have er := RM_rl (σ' := σ') (m' := m') hR (fun q j h => e q j (by omega) (by omega)) (e 0 3 (by omega) (by omega)) (e 0 2 (by omega) (by omega)) (fun q j h1 h2 => em q j (by omega) (by omega) (by omega))
  refine ⟨fun j hj => ?_, fun r d h1 h2 h3 => ?_, fun r i h1 h2 h3 => ?_, fun r i h1 h2 h3 => ?_, er.1, er.2⟩
  · rw [em 0 j (by omega) (by omega) (by omega), e 0 j (by omega) (by omega)]; exact hR.1 j hj
  · by_cases h : r = 1
    · subst h; exact e1 d h3
    · rw [em r d (by omega) h (by omega), e r d h (by omega)]; exact hR.2.1 r d h1 h2 h3
  · rw [e 0 0 (by omega) (by omega)] at h3
    by_cases h : r = 12
    · subst h; exact e12 i h3
    · rw [em r i (by omega) (by omega) h, e r i (by omega) h]; exact hR.2.2.1 r i h1 h2 h3
  · rw [e 0 1 (by omega) (by omega)] at h3
    rw [em r i (by omega) (by omega) (by omega), e r i (by omega) (by omega)]; exact hR.2.2.2.1 r i h1 h2 h3
theorem m_drop (hI : IA σ) (hR : RM σ m) (hN : 80 < N) {c : Nat} (h0 : 1 ≤ c) (hc : c ≤ 9) (ht : σ 1 c = 1) : Ev (M_drop N m (nI c)) (fun z => z.1 = 1 ∧ RM (dpA σ c) z.2) := by
  have hn := hI.1.2.1
  unfold M_drop
  refine ev_in c 1 9 h0 hc ?_
  refine ev_rI (by omega) (by decide) ?_
  rw [hR.cl 1 (by omega) (by omega) (by omega), ht, if_neg (by decide)]
  refine ev_wI (by omega) (by decide) ?_
  refine ev_lp (fun k z => ∃ st x, z = (st, nI c, nI x) ∧ x + k = σ 0 0 ∧ 1 ≤ x ∧ (∀ q j, ¬ q = 12 → st.1 q j = if q = 1 ∧ j = c then nI 0 else m.1 q j) ∧ ∀ y, y < σ 0 0 → st.1 12 y = if 1 ≤ y ∧ y < x ∧ σ 8 y = c then nI 1 else m.1 12 y) ?_ N (σ 0 0 - 1) _ (by omega) ⟨_, 1, rfl, by have := hI.1.1; omega, by omega, fun q j h => by rw [pu_wi1, nar_b0], fun y _ => by rw [pu_wi1, if_neg (by omega), if_neg (by omega)]⟩
  rintro k z self ⟨st, x, rfl, hk, hx1, hq, h12⟩ ih
  unfold M_drop_L30
  dsimp only
  refine ev_le (σ 0 0) x (hu := by rw [hq 0 0 (by omega), if_neg (by omega)]; exact hR.nm) (fun h => ?_) (fun hx => ?_)
  · refine ev_some ⟨rfl, RM_dead hR (fun q j h1 h2 => dpA_o σ c j h1 h2) (fun q j _ h1 h2 => by rw [hq q j h2, if_neg (fun z => h1 z.1)]) (fun d hd => ?_) (fun y hy => ?_)⟩
    · show st.1 1 d = _
      rw [hq 1 d (by omega), dpA_1]
      by_cases h : d = c
      · rw [if_pos ⟨rfl, h⟩, if_pos h]
      · rw [if_neg (fun z => h z.2), if_neg h]; exact hR.cl 1 (by omega) (by omega) hd
    · show st.1 12 y = _
      rw [h12 y hy, dpA_12]
      by_cases h : 1 ≤ y ∧ σ 8 y = c
      · rw [if_pos ⟨h.1, by omega, h.2⟩, if_pos h]
      · rw [if_neg (fun z => h ⟨z.1, z.2.2⟩), if_neg h]; exact hR.mb 12 (by omega) (by omega) hy
  · have b8 := (hI.2.2.2.1 x hx).1
    refine ev_rI (by omega) (by decide) ?_
    refine ev_qn (σ 8 x) c (hu := by rw [hq 8 x (by omega), if_neg (by omega)]; exact hR.mb 8 (by omega) (by omega) hx) (fun h => ?_) (fun h => ?_)
    · refine ev_wI (by omega) (by decide) ?_
      rw [nI_1]
      refine ih (k - 1) _ (by omega) ⟨_, x + 1, rfl, by omega, by omega, fun q j hh => by rw [pu_wi1, if_neg (by omega)]; exact hq q j hh, fun y hy => ?_⟩
      rw [pu_wi1]
      by_cases hyx : y = x
      · rw [if_pos ⟨rfl, hyx⟩, if_pos ⟨by omega, by omega, by rw [hyx]; exact h⟩, nar_b1]
      · rw [if_neg (fun z => hyx z.2), h12 y hy]
        by_cases g : 1 ≤ y ∧ y < x ∧ σ 8 y = c
        · rw [if_pos g, if_pos ⟨g.1, by omega, g.2.2⟩]
        · rw [if_neg g, if_neg (fun z => g ⟨z.1, by omega, z.2.2⟩)]
    · rw [nI_1]
      refine ih (k - 1) _ (by omega) ⟨st, x + 1, rfl, by omega, by omega, hq, fun y hy => ?_⟩
      rw [h12 y hy]
      by_cases g : 1 ≤ y ∧ y < x ∧ σ 8 y = c
      · rw [if_pos g, if_pos ⟨g.1, by omega, g.2.2⟩]
      · rw [if_neg g, if_neg (fun z => g ⟨z.1, by rcases Nat.lt_or_ge y x with q | q; exact q; exact absurd (by rw [← z.2.2, show y = x by omega]) h, z.2.2⟩)]
theorem m_remove (hI : IA σ) (hR : RM σ m) {x : Nat} (h0 : 1 ≤ x) (hx : alive σ x) : Ev (M_remove m (nI x)) (fun z => z.1 = 1 ∧ RM (rmA σ x) z.2) := by
  have hn := hI.1.2.1
  have hxn := hx.1
  unfold M_remove
  refine ev_in x 1 (σ 0 0 - 1) h0 (by omega) ?_ (hw := by rw [hR.nm]; exact nI_m1 (by omega))
  refine ev_rI (by omega) (by decide) ?_
  rw [hR.mb 12 (by omega) (by omega) hxn, hx.2, if_pos nI_0]
  refine ev_wI (by omega) (by decide) ?_
  have e : ∀ q j, ¬ q = 12 → rmA σ x q j = σ q j := fun q j h => if_neg (fun z => h z.1)
  refine ev_some ⟨rfl, RM_dead hR (fun q j _ h2 => e q j h2) (fun q j _ _ h2 => by rw [pu_wi1, if_neg (fun z => h2 z.1)]) (fun d hd => ?_) (fun y hy => ?_)⟩
  · rw [pu_wi1, if_neg (by omega), e 1 d (by omega)]; exact hR.cl 1 (by omega) (by omega) hd
  · rw [pu_wi1]
    unfold rmA
    by_cases h : y = x
    · rw [if_pos ⟨rfl, h⟩, if_pos ⟨rfl, h⟩, nar_b1]
    · rw [if_neg (fun z => h z.2), if_neg (fun z => h z.2)]; exact hR.mb 12 (by omega) (by omega) hy
theorem mbA_n (σ : Ab) (c w s f : Nat) : mbA σ c w s f 8 (σ 0 0) = c ∧ mbA σ c w s f 9 (σ 0 0) = w ∧ mbA σ c w s f 10 (σ 0 0) = s ∧ mbA σ c w s f 11 (σ 0 0) = f ∧ mbA σ c w s f 12 (σ 0 0) = 0 := by
  refine ⟨?_, ?_, ?_, ?_, ?_⟩ <;> (unfold mbA; rw [if_neg (by omega)]; exact if_pos rfl)
theorem mbA_0 (σ : Ab) (c w s f : Nat) : mbA σ c w s f 0 0 = σ 0 0 + 1 := if_pos ⟨rfl, rfl⟩
theorem IA_member (hI : IA σ) {c w s f : Nat} (h0 : 1 ≤ c) (hc : c ≤ 9) (hw : w < 8) (hs : s < 2) (hf : f < 8) (hfw : f % 2 = 0 → w < 6) (ht : σ 1 c = 1) (hn40 : σ 0 0 < 40) (hno : ∀ y, ¬ own σ c (16 * (f % 2) + 2 * w + s) y) : IA (mbA σ c w s f) := by
  obtain ⟨i1, i2, i3, i4, i5, i6, i7, i8, i9⟩ := hI
  have e : ∀ q j, ¬ (q = 0 ∧ j = 0) → (q < 8 ∨ 12 < q ∨ ¬ j = σ 0 0) → mbA σ c w s f q j = σ q j := fun q j h1 h2 => mbA_o σ c w s f j h1 h2
  obtain ⟨n8, n9, n10, n11, n12⟩ := mbA_n σ c w s f
  have n0 := mbA_0 σ c w s f
  have ow : ∀ d g x, own (mbA σ c w s f) d g x → own σ d g x ∨ (x = σ 0 0 ∧ d = c ∧ g = 16 * (f % 2) + 2 * w + s) := by
    intro d g x h
    obtain ⟨⟨h1, h2⟩, h3, h4⟩ := h
    rw [n0] at h1
    by_cases q : x = σ 0 0
    · subst q
      unfold sgn at h4
      rw [n9, n10, n11] at h4
      rw [n8] at h3
      exact Or.inr ⟨rfl, h3.symm, h4.symm⟩
    · rw [e 12 x (by omega) (by omega)] at h2
      rw [e 8 x (by omega) (by omega)] at h3
      unfold sgn at h4
      rw [e 9 x (by omega) (by omega), e 10 x (by omega) (by omega), e 11 x (by omega) (by omega)] at h4
      exact Or.inl ⟨⟨by omega, h2⟩, h3, h4⟩
  refine ⟨?_, fun d hd => ?_, ?_, fun x hx => ?_, ?_, fun d g x y h1 h2 => ?_, fun i hi => ?_, ⟨fun i hi => ?_, fun k hk => ?_⟩, fun r hr => ?_⟩
  · rw [n0, e 0 1 (by omega) (by omega), e 0 2 (by omega) (by omega), e 0 3 (by omega) (by omega)]; exact ⟨by omega, by omega, i1.2.2⟩
  · rw [e 1 d (by omega) (by omega), e 2 d (by omega) (by omega), e 3 d (by omega) (by omega), e 4 d (by omega) (by omega), e 5 d (by omega) (by omega), e 6 d (by omega) (by omega)]
    exact i2 d hd
  · rw [e 1 0 (by omega) (by omega), e 2 0 (by omega) (by omega), e 3 0 (by omega) (by omega), e 4 0 (by omega) (by omega), e 5 0 (by omega) (by omega)]
    exact i3
  · rw [n0] at hx
    by_cases q : x = σ 0 0
    · subst q
      rw [n8, n9, n10, n11, n12, e 1 c (by omega) (by omega)]
      exact ⟨by omega, hw, hs, hf, by omega, fun _ => by omega, hfw, fun _ => ht⟩
    · rw [e 8 x (by omega) (by omega), e 9 x (by omega) (by omega), e 10 x (by omega) (by omega), e 11 x (by omega) (by omega), e 12 x (by omega) (by omega), e 1 _ (by omega) (by omega)]
      exact i4 x (by omega)
  · rw [e 8 0 (by omega) (by omega), e 9 0 (by omega) (by omega), e 10 0 (by omega) (by omega), e 11 0 (by omega) (by omega), e 12 0 (by omega) (by omega)]
    exact i5
  · rcases ow _ _ _ h1 with q | ⟨q1, q2, q3⟩
    · rcases ow _ _ _ h2 with p | ⟨p1, p2, p3⟩
      · exact i6 d g x y q p
      · rw [p2, p3] at q; exact absurd q (hno x)
    · rcases ow _ _ _ h2 with p | ⟨p1, p2, p3⟩
      · rw [q2, q3] at p; exact absurd p (hno y)
      · rw [q1, p1]
  · rw [e 0 1 (by omega) (by omega)] at hi
    have := i7 i hi
    rw [e 13 i (by omega) (by omega), e 14 i (by omega) (by omega), e 15 i (by omega) (by omega), e 16 i (by omega) (by omega), e 17 i (by omega) (by omega), n0, e 11 _ (by omega) (by omega)]
    exact ⟨this.1, by omega, this.2.2⟩
  · rw [e 0 2 (by omega) (by omega)] at hi
    rw [e 18 i (by omega) (by omega)]; exact i8.1 i hi
  · rw [e 19 k (by omega) (by omega)]; exact i8.2 k hk
  · rw [e 0 3 (by omega) (by omega)] at hr
    obtain ⟨r1, r2, r3, r4, r5, r6, r7⟩ := i9 r hr
    rw [e 20 r (by omega) (by omega), e 21 r (by omega) (by omega), e 22 r (by omega) (by omega), e 23 r (by omega) (by omega), e 24 r (by omega) (by omega), e 25 r (by omega) (by omega)]
    exact ⟨r1, r2, r3, r4, r5, fun k hk => by rw [e 26 _ (by omega) (by omega), e 27 _ (by omega) (by omega), e 28 _ (by omega) (by omega)]; exact r6 k hk, fun k hk => by rw [e 19 _ (by omega) (by omega)]; exact r7 k hk⟩
theorem m_memberJ (hI : IA σ) (hR : RM σ m) (hN : 80 < N) {c w s f v : Nat} (h0 : 1 ≤ c) (hc : c ≤ 9) (hw : w < 8) (hs : s < 2) (hf : f < 8) (hfw : w ≤ v) (hv : v < 8) : Ev (M_member_J46 N m (nI c) (nI w) (nI s) (nI f) (nI w) 0 (nI v)) (fun z => (z.1 = -1 ∧ (∃ y, own σ c (16 * (f % 2) + 2 * w + s) y) ∧ z.2 = m) ∨ ((∀ y, ¬ own σ c (16 * (f % 2) + 2 * w + s) y) ∧ ((z.1 = -3 ∧ σ 0 0 = 40 ∧ z.2 = m) ∨ (z.1 = nI (σ 0 0) ∧ σ 0 0 < 40 ∧ RM (mbA σ c w s f) z.2)))) := by
  have hn := hI.1.2.1
  unfold M_member_J46
  refine ev_in w 0 v (by omega) hfw ?_
  refine ev_in s 0 1 (by omega) (by omega) ?_
  rw [nI_and1 _ (by omega)]
  refine ev_oR (m_own hI hR (by omega) (by omega) (by omega) hw hs) (fun y hy => ?_)
  rcases hy with ⟨rfl, hy⟩ | ⟨y, rfl, hy⟩
  · rw [if_pos (by decide)]
    refine ev_qn (σ 0 0) 40 (hu := hR.nm) (fun h => ev_some (Or.inr ⟨hy, Or.inl ⟨rfl, h, rfl⟩⟩)) (fun h => ?_)
    have st0 : ∀ r i v, ¬ r = 0 → (sk_wi m r i v).1 0 0 = m.1 0 0 := fun r i v h => by rw [pu_wi1, if_neg (by omega)]
    simp only [hR.nm]
    refine ev_wI (by omega) (by decide) ?_
    simp only [pu_wi1, hR.nm]
    refine ev_wI (by omega) (by decide) ?_
    simp only [pu_wi1, hR.nm]
    refine ev_wI (by omega) (by decide) ?_
    simp only [pu_wi1, hR.nm]
    refine ev_wI (by omega) (by decide) ?_
    simp only [pu_wi1, hR.nm]
    refine ev_wI (by omega) (by decide) ?_
    refine ev_fI ?_
    simp only [pu_wi1, hR.nm]
    have an : ∀ v q j, ¬ (q = 0 ∧ j = 0) → (q < 8 ∨ 12 < q ∨ ¬ j = σ 0 0) → (sk_wi (sk_wi (sk_wi (sk_wi (sk_wi (sk_wi m 8 (σ 0 0) (nI c)) 9 (σ 0 0) (nI w)) 10 (σ 0 0) (nI s)) 11 (σ 0 0) (nI f)) 12 (σ 0 0) (vp_nar .boolean 0)) 0 0 v).1 q j = m.1 q j := by
      intro v q j h1 h2
      rw [pu_wi1, if_neg (by omega), pu_wi1, if_neg (by omega), pu_wi1, if_neg (by omega), pu_wi1, if_neg (by omega), pu_wi1, if_neg (by omega), pu_wi1, if_neg (by omega)]
    have e : ∀ q j, ¬ (q = 0 ∧ j = 0) → (q < 8 ∨ 12 < q ∨ ¬ j = σ 0 0) → mbA σ c w s f q j = σ q j := fun q j h1 h2 => mbA_o σ c w s f j h1 h2
    obtain ⟨n8, n9, n10, n11, n12⟩ := mbA_n σ c w s f
    have n0 := mbA_0 σ c w s f
    refine ev_some (Or.inr ⟨hy, Or.inr ⟨?_, by omega, ?_⟩⟩)
    · simp
    · simp
      rw [nI_1]
      have er := RM_rl (σ' := mbA σ c w s f) hR (fun q j h => e q j (by omega) (by omega)) (e 0 3 (by omega) (by omega)) (e 0 2 (by omega) (by omega)) (fun q j h1 h2 => an (nI (σ 0 0 + 1)) q j (by omega) (by omega))
      refine ⟨fun j hj => ?_, fun r d h1 h2 h3 => ?_, fun r i h1 h2 h3 => ?_, fun r i h1 h2 h3 => ?_, er.1, er.2⟩
      · by_cases q : j = 0
        · subst q; rw [pu_wi1, if_pos ⟨rfl, rfl⟩, n0]
        · rw [an _ 0 j (by omega) (by omega), e 0 j (by omega) (by omega)]; exact hR.1 j hj
      · rw [an _ r d (by omega) (by omega), e r d (by omega) (by omega)]; exact hR.2.1 r d h1 h2 h3
      · by_cases q : i = σ 0 0
        · subst q
          rcases (show r = 8 ∨ r = 9 ∨ r = 10 ∨ r = 11 ∨ r = 12 by omega) with rfl | rfl | rfl | rfl | rfl
          · rw [n8]; simp [pu_wi1]
          · rw [n9]; simp [pu_wi1]
          · rw [n10]; simp [pu_wi1]
          · rw [n11]; simp [pu_wi1]
          · rw [n12, ← nar_b0]; simp [pu_wi1]
        · rw [n0] at h3
          rw [an _ r i (by omega) (by omega), e r i (by omega) (by omega)]; exact hR.2.2.1 r i h1 h2 (by omega)
      · rw [e 0 1 (by omega) (by omega)] at h3
        rw [an _ r i (by omega) (by omega), e r i (by omega) (by omega)]; exact hR.2.2.2.1 r i h1 h2 h3
  · rw [if_neg (nI_pos (by have := hy.1.1; omega))]
    exact ev_some (Or.inl ⟨rfl, ⟨y, hy⟩, rfl⟩)
theorem m_member (hI : IA σ) (hR : RM σ m) (hN : 80 < N) {c w s f : Nat} (h0 : 1 ≤ c) (hc : c ≤ 9) (ht : σ 1 c = 1) (hs : s < 2) (hf : f < 8) (hw : w < if f % 2 = 1 then 8 else 6) : Ev (M_member N m (nI c) (nI w) (nI s) (nI f)) (fun z => (z.1 = -1 ∧ (∃ y, own σ c (16 * (f % 2) + 2 * w + s) y) ∧ z.2 = m) ∨ ((∀ y, ¬ own σ c (16 * (f % 2) + 2 * w + s) y) ∧ ((z.1 = -3 ∧ σ 0 0 = 40 ∧ z.2 = m) ∨ (z.1 = nI (σ 0 0) ∧ σ 0 0 < 40 ∧ RM (mbA σ c w s f) z.2)))) := by
  unfold M_member
  refine ev_in c 1 9 h0 hc ?_
  refine ev_rI (by omega) (by decide) ?_
  rw [hR.cl 1 (by omega) (by omega) (by omega), ht, if_neg (by decide)]
  refine ev_in f 0 7 (by omega) (by omega) ?_
  rw [nI_and1 _ (by omega)]
  refine ev_qn (f % 2) 1 (fun h => ?_) (fun h => ?_)
  · rw [if_pos h] at hw
    exact m_memberJ hI hR hN (v := 7) h0 hc (by omega) hs hf (by omega) (by omega)
  · rw [if_neg h] at hw
    exact m_memberJ hI hR hN (v := 5) h0 hc (by omega) hs hf (by omega) (by omega)
end
