/-! RELATE: the class works out supers, faces, lines, above -/
theorem w1_s (st : sk_M) (r i : Nat) (v : Int32) : (sk_wi st r i v).1 r i = v := by rw [pu_wi1, if_pos ⟨rfl, rfl⟩]
theorem w1_n {st : sk_M} {r i : Nat} {v : Int32} {q j : Nat} (h : ¬ (q = r ∧ j = i)) : (sk_wi st r i v).1 q j = st.1 q j := by rw [pu_wi1, if_neg h]
theorem w2_s (st : sk_M) (r i : Nat) (v : Int64) : (sk_wl st r i v).2 r i = v := by rw [pu_wl2, if_pos ⟨rfl, rfl⟩]
theorem w2_n {st : sk_M} {r i : Nat} {v : Int64} {q j : Nat} (h : ¬ (q = r ∧ j = i)) : (sk_wl st r i v).2 q j = st.2 q j := by rw [pu_wl2, if_neg h]
theorem lb_lN {f u : Nat} (hf : f < 1024) : lb (lN f) u = f.testBit u := by
  unfold lb lN
  rw [show (Int64.ofNat f).toBitVec = BitVec.ofNat 64 f from rfl, BitVec.getLsbD_ofNat]
  by_cases h : u < 64
  · simp [h]
  · have : f.testBit u = false := Nat.testBit_lt_two_pow (Nat.lt_of_lt_of_le hf (show 1024 ≤ 2 ^ u from Nat.le_trans (show 1024 ≤ 2 ^ 10 by decide) (Nat.pow_le_pow_right (by decide) (by omega))))
    simp [h, this]
theorem bit_m1 : ∀ c, c < 10 → K_SF_bit (nI c) - 1 = lN (2 ^ c - 1) := by decide +kernel
theorem lb_bit1 {c : Nat} (hc : c < 10) (u : Nat) : lb (K_SF_bit (nI c) - 1) u = decide (u < c) := by
  have h : 2 ^ c - 1 < 1024 := by have := pow_lt10 hc; omega
  rw [bit_m1 c hc, lb_lN h, Nat.testBit_two_pow_sub_one]
theorem lb_or_bit {x : Int64} {c : Nat} (hc : c < 64) {P : Nat → Prop} (h : ∀ i, lb x i = true ↔ P i) (i : Nat) : lb (x ||| K_SF_bit (nI c)) i = true ↔ P i ∨ i = c := by
  rw [lb_or, lb_bit hc, Bool.or_eq_true, h, decide_eq_true_eq]
section
variable {σ : Ab} {k : sk_M} {N : Nat}
theorem k_relateOne (hI : IA σ) (hN : 80 < N) (hT : KT σ k) {c : Nat} (h0 : 0 < c) (hc : c < 10) (ht : σ 1 c = 1) (h12 : ∀ i, lb (k.2 0 12) i = true ↔ i ≤ c ∧ σ 1 i = 1 ∧ σ 2 i = 1) (hrel : ∀ c', c' < c → σ 1 c' = 1 → (∀ t, lb (k.2 41 c') t = true ↔ lin σ c' t) ∧ ∀ d, lb (k.2 42 c') d = true ↔ abv σ c' d) : Ev (K_Types_relateOne N k (nI c)) (fun k' => (∀ q i, (q ≠ 39 ∨ i ≠ c) → k'.1 q i = k.1 q i) ∧ (∀ q i, (q < 40 ∨ 42 < q ∨ i ≠ c) → k'.2 q i = k.2 q i) ∧ k'.1 39 c = nI (sup σ c) ∧ (∀ u, lb (k'.2 40 c) u = true ↔ hasF σ c u) ∧ (∀ t, lb (k'.2 41 c) t = true ↔ lin σ c t) ∧ ∀ d, lb (k'.2 42 c) d = true ↔ abv σ c d) := by
  obtain ⟨t1, t2, t3, f, t4, t5, t6⟩ := hT.1 c hc
  have b5 := (hI.2.1 c hc).2.2.2.2.1 h0
  have hs := sup_lt hI h0 hc
  have sth := sup_th hI c
  have hF : ∀ u, hasF σ c u ↔ f.testBit u = true ∧ u < c ∧ σ 1 u = 1 ∧ σ 2 u = 1 := fun u => by
    unfold hasF
    rw [← t6, Nat.testBit_mod_two_pow, Bool.and_eq_true, decide_eq_true_eq]
    exact ⟨fun q => ⟨q.1.2, q.1.1, q.2⟩, fun q => ⟨⟨q.2.1, q.1⟩, q.2.2⟩⟩
  obtain ⟨l1, a1⟩ := hrel (sup σ c) hs sth
  have J : Ev (K_Types_relateOne_J57 N k (nI c) (nI c) (nI (sup σ c))) (fun k' => (∀ q i, (q ≠ 39 ∨ i ≠ c) → k'.1 q i = k.1 q i) ∧ (∀ q i, (q < 40 ∨ 42 < q ∨ i ≠ c) → k'.2 q i = k.2 q i) ∧ k'.1 39 c = nI (sup σ c) ∧ (∀ u, lb (k'.2 40 c) u = true ↔ hasF σ c u) ∧ (∀ t, lb (k'.2 41 c) t = true ↔ lin σ c t) ∧ ∀ d, lb (k'.2 42 c) d = true ↔ abv σ c d) := by
    unfold K_Types_relateOne_J57
    refine ev_wI hc (by decide) ?_
    refine ev_rI hc (by decide) ?_
    refine ev_wL hc (by decide) ?_
    refine ev_rI hc (by decide) ?_
    simp only [pu_wl1, w1_s]
    refine ev_rL (by omega) (by decide) ?_
    refine ev_wL hc (by decide) ?_
    refine ev_rI hc (by decide) ?_
    refine ev_rI hc (by decide) ?_
    simp only [pu_wl1, w1_s]
    refine ev_rL (by omega) (by decide) ?_
    refine ev_rL hc (by decide) ?_
    refine ev_wL hc (by decide) ?_
    rw [w2_n (q := 42) (r := 41) (by omega), w2_n (q := 42) (r := 40) (by omega), w2_n (q := 40) (r := 41) (by omega), w2_s, w2_n (q := 41) (r := 40) (by omega), w1_n (q := 38) (by omega), t5, nI_l (by omega), pu_wi2]
    refine ev_lp (fun n z => ∃ st u, z = (st, nI c, nI u) ∧ u + n = c ∧ (∀ q i, (q ≠ 39 ∨ i ≠ c) → st.1 q i = k.1 q i) ∧ (∀ q i, (q < 40 ∨ 42 < q ∨ i ≠ c) → st.2 q i = k.2 q i) ∧ st.1 39 c = nI (sup σ c) ∧ (∀ u, lb (st.2 40 c) u = true ↔ hasF σ c u) ∧ (∀ t, lb (st.2 41 c) t = true ↔ lin σ c t) ∧ ∀ d, lb (st.2 42 c) d = true ↔ (d = sup σ c ∨ abv σ (sup σ c) d ∨ hasF σ c d ∨ ∃ u', u' < u ∧ hasF σ c u' ∧ abv σ u' d)) ?_ N c _ (by omega) ⟨_, 0, rfl, by omega, ?_, ?_, ?_, ?_, ?_, ?_⟩
    · rintro n z self ⟨st, u, rfl, hu, i1, i2, i3, i4, i5, i6⟩ ih
      unfold K_Types_relateOne_L142
      dsimp only
      refine ev_le c u (fun h => ?_) (fun huc => ?_)
      · have e : u = c := by omega
        subst e
        refine ev_some ⟨i1, i2, i3, i4, i5, fun d => ?_⟩
        rw [i6, abv_iff hI h0 hc]
        constructor
        · rintro (h | h | h | ⟨u', h1, h2, h3⟩)
          · exact Or.inl h
          · exact Or.inr (Or.inl h)
          · exact Or.inr (Or.inr ⟨d, ((hF d).mp h).2.1, h, Or.inl rfl⟩)
          · exact Or.inr (Or.inr ⟨u', h1, h2, Or.inr h3⟩)
        · rintro (h | h | ⟨u', h1, h2, h3 | h3⟩)
          · exact Or.inl h
          · exact Or.inr (Or.inl h)
          · exact Or.inr (Or.inr (Or.inl (by rw [h3]; exact h2)))
          · exact Or.inr (Or.inr (Or.inr ⟨u', h1, h2, h3⟩))
      · refine ev_rL hc (by decide) ?_
        refine ev_has u (by omega) (i4 u) (fun h => ?_) (fun h => ?_)
        · rw [nI_1]
          refine ih (n - 1) _ (by omega) ⟨st, u + 1, rfl, by omega, i1, i2, i3, i4, i5, fun d => ?_⟩
          rw [i6]
          constructor
          · rintro (h | h | h | ⟨u', h1, h2, h3⟩)
            · exact Or.inl h
            · exact Or.inr (Or.inl h)
            · exact Or.inr (Or.inr (Or.inl h))
            · exact Or.inr (Or.inr (Or.inr ⟨u', by omega, h2, h3⟩))
          · rintro (h | h | h | ⟨u', h1, h2, h3⟩)
            · exact Or.inl h
            · exact Or.inr (Or.inl h)
            · exact Or.inr (Or.inr (Or.inl h))
            · exact Or.inr (Or.inr (Or.inr ⟨u', by rcases Nat.lt_or_ge u' u with q | q; exact q; rw [show u' = u by omega] at h2; exact absurd h2 h, h2, h3⟩))
        · refine ev_rL hc (by decide) ?_
          refine ev_rL (by omega) (by decide) ?_
          refine ev_wL hc (by decide) ?_
          rw [nI_1]
          have au := (hrel u huc ((hF u).mp h).2.2.1).2
          refine ih (n - 1) _ (by omega) ⟨_, u + 1, rfl, by omega, fun q i a => by rw [pu_wl1]; exact i1 q i a, fun q i a => by rw [w2_n (by omega)]; exact i2 q i a, by rw [pu_wl1]; exact i3, fun u => by rw [w2_n (by omega)]; exact i4 u, fun t => by rw [w2_n (by omega)]; exact i5 t, fun d => ?_⟩
          rw [w2_s, lb_or, Bool.or_eq_true, i6, i2 42 u (by omega), au]
          constructor
          · rintro ((h | h | h | ⟨u', h1, h2, h3⟩) | h4)
            · exact Or.inl h
            · exact Or.inr (Or.inl h)
            · exact Or.inr (Or.inr (Or.inl h))
            · exact Or.inr (Or.inr (Or.inr ⟨u', by omega, h2, h3⟩))
            · exact Or.inr (Or.inr (Or.inr ⟨u, by omega, h, h4⟩))
          · rintro (h | h | h | ⟨u', h1, h2, h3⟩)
            · exact Or.inl (Or.inl h)
            · exact Or.inl (Or.inr (Or.inl h))
            · exact Or.inl (Or.inr (Or.inr (Or.inl h)))
            · rcases Nat.lt_or_ge u' u with q | q
              · exact Or.inl (Or.inr (Or.inr (Or.inr ⟨u', q, h2, h3⟩)))
              · rw [show u' = u by omega] at h3
                exact Or.inr h3
    · intro q i a
      simp only [pu_wl1]
      rw [w1_n (by omega)]
    · intro q i a
      rw [w2_n (by omega), w2_n (by omega), w2_n (by omega), pu_wi2]
    · simp only [pu_wl1]
      rw [w1_s]
    · intro u
      rw [w2_n (by omega), w2_n (by omega), w2_s, lb_and, lb_and, lb_lN t4, lb_bit1 hc, Bool.and_eq_true, Bool.and_eq_true, h12, hF, decide_eq_true_eq]
      exact ⟨fun q => ⟨q.1.1, q.1.2, q.2.2⟩, fun q => ⟨⟨q.1, q.2.1⟩, by omega, q.2.2⟩⟩
    · intro t
      rw [w2_n (by omega), w2_s, lb_or, lb_bit (by omega), Bool.or_eq_true, l1, lin_iff hI h0 hc, decide_eq_true_eq]
    · intro d
      rw [w2_s, lb_or, lb_or, lb_bit (by omega), Bool.or_eq_true, Bool.or_eq_true, a1, lb_and, lb_and, lb_lN t4, lb_bit1 hc, Bool.and_eq_true, Bool.and_eq_true, h12, hF, decide_eq_true_eq, decide_eq_true_eq]
      constructor
      · rintro ((h | h) | h)
        · exact Or.inl h
        · exact Or.inr (Or.inl h)
        · exact Or.inr (Or.inr (Or.inl ⟨h.1.1, h.1.2, h.2.2⟩))
      · rintro (h | h | h | ⟨u', h1, h2, h3⟩)
        · exact Or.inl (Or.inl h)
        · exact Or.inl (Or.inr h)
        · exact Or.inr ⟨⟨h.1, h.2.1⟩, by omega, h.2.2⟩
        · omega
  have b2 := (hI.2.1 c hc).2.1
  have no : sup σ c = 0 → Ev (K_Types_relateOne_J41 N k (nI c) (nI (σ 5 c))) (fun k' => (∀ q i, (q ≠ 39 ∨ i ≠ c) → k'.1 q i = k.1 q i) ∧ (∀ q i, (q < 40 ∨ 42 < q ∨ i ≠ c) → k'.2 q i = k.2 q i) ∧ k'.1 39 c = nI (sup σ c) ∧ (∀ u, lb (k'.2 40 c) u = true ↔ hasF σ c u) ∧ (∀ t, lb (k'.2 41 c) t = true ↔ lin σ c t) ∧ ∀ d, lb (k'.2 42 c) d = true ↔ abv σ c d) := fun e => by
    unfold K_Types_relateOne_J41 K_Types_relateOne_J42
    rw [if_pos rfl]
    rw [e] at J
    rw [e]
    exact J
  unfold K_Types_relateOne K_Types_isThere
  refine ev_rI hc (by decide) ?_
  rw [t3]
  refine ev_has (σ 5 c) (by omega) (hT.2 _) (fun h => no ?_) (fun h => ?_)
  · unfold sup; rw [if_pos (Or.inr (Or.inl (fun z => h ⟨by omega, z⟩)))]
  refine ev_has (σ 5 c) (by omega) (h12 _) (fun h2 => ?_) (fun h2 => no ?_)
  · refine ev_has c (by omega) (h12 _) (fun h3 => ?_) (fun h3 => no ?_)
    · unfold K_Types_relateOne_J42
      rw [if_neg (by decide)]
      have e : sup σ c = σ 5 c := by
        unfold sup
        rw [if_neg]
        rintro (z | z | z)
        · exact h3 ⟨by omega, ht, z⟩
        · exact z h.2
        · exact h2 ⟨by omega, h.2, z⟩
      rw [e] at J ⊢
      exact J
    · unfold sup; rw [if_pos (Or.inl h3.2.2)]
  · unfold sup; rw [if_pos (Or.inr (Or.inr h2.2.2))]
theorem k_relate (hI : IA σ) (hN : 80 < N) (hT : KT σ k) (h42 : ∀ d, lb (k.2 42 0) d = false) : Ev (K_Types_relate N k) (fun k' => KT σ k' ∧ KR σ k' ∧ (∀ q i, q ≠ 39 → k'.1 q i = k.1 q i) ∧ ∀ q i, q < 40 → (q = 0 → i ≠ 12 ∧ i ≠ 13) → k'.2 q i = k.2 q i) := by
  unfold K_Types_relate
  refine ev_fL ?_
  refine ev_fL ?_
  refine ev_wL (i := 0) (by decide) (by decide) ?_
  refine ev_lp (fun n z => ∃ st c, z = (st, nI c) ∧ c + n = 10 ∧ (∀ q i, q ≠ 39 → st.1 q i = k.1 q i) ∧ (∀ q i, q < 40 → (q = 0 → i ≠ 12 ∧ i ≠ 13) → st.2 q i = k.2 q i) ∧ (∀ i, lb (st.2 0 12) i = true ↔ i < c ∧ σ 1 i = 1 ∧ σ 2 i = 1) ∧ (∀ i, lb (st.2 0 13) i = true ↔ i < c ∧ σ 1 i = 1 ∧ σ 2 i = 0 ∧ σ 3 i = 0) ∧ (∀ d, lb (st.2 42 0) d = false) ∧ (∀ d, lb (st.2 41 0) d = true ↔ d = 0) ∧ ∀ c', c' < c → σ 1 c' = 1 → (0 < c' → st.1 39 c' = nI (sup σ c') ∧ ∀ u, lb (st.2 40 c') u = true ↔ hasF σ c' u) ∧ (∀ t, lb (st.2 41 c') t = true ↔ lin σ c' t) ∧ (∀ d, lb (st.2 42 c') d = true ↔ abv σ c' d)) ?_ N 10 _ (by omega) ⟨_, 0, rfl, by omega, ?_, ?_, ?_, ?_, ?_, ?_, fun c' h => by omega⟩
  · rintro n z self ⟨st, c, rfl, hcn, i1, i2, i3, i4, i5, i6, i7⟩ ih
    have hTs : KT σ st := hT.of (fun _ _ _ _ _ => rfl) (fun q i a b => i1 q i (by omega)) (i2 0 11 (by omega) (by omega))
    unfold K_Types_relate_L22
    dsimp only
    refine ev_le 10 c (fun h => ?_) (fun hc => ?_)
    · refine ev_some ⟨hTs, ⟨fun i => ?_, fun i => ?_, i5, fun c' hc' => i7 c' (by omega)⟩, i1, i2⟩
      · rw [i3, show c = 10 by omega]
      · rw [i4, show c = 10 by omega]
    obtain ⟨t1, t2, t3, f, t4, t5, t6⟩ := hTs.1 c hc
    obtain ⟨b1, b2, b3, b4, b5, b6⟩ := hI.2.1 c hc
    unfold K_Types_isThere
    refine ev_has c (by omega) (hTs.2 c) (fun h => ?_) (fun h => ?_)
    · have h : ¬ σ 1 c = 1 := fun z => h ⟨hc, z⟩
      rw [nI_1]
      refine ih (n - 1) _ (by omega) ⟨st, c + 1, rfl, by omega, i1, i2, fun i => ?_, fun i => ?_, i5, i6, fun c' h1 h2 => i7 c' (by rcases Nat.lt_or_ge c' c with q | q; exact q; rw [show c' = c by omega] at h2; exact absurd h2 h) h2⟩
      · rw [i3]; exact ⟨fun q => ⟨by omega, q.2⟩, fun q => ⟨by rcases Nat.lt_or_ge i c with z | z; exact z; exact absurd (by rw [← show i = c by omega]; exact q.2.1) h, q.2⟩⟩
      · rw [i4]; exact ⟨fun q => ⟨by omega, q.2⟩, fun q => ⟨by rcases Nat.lt_or_ge i c with z | z; exact z; exact absurd (by rw [← show i = c by omega]; exact q.2.1) h, q.2⟩⟩
    · have th := h.2
      have J82 : ∀ st' : sk_M, (∀ q i, q ≠ 39 → st'.1 q i = k.1 q i) → (∀ q i, q < 40 → (q = 0 → i ≠ 12 ∧ i ≠ 13) → st'.2 q i = k.2 q i) → (∀ i, lb (st'.2 0 12) i = true ↔ i < c + 1 ∧ σ 1 i = 1 ∧ σ 2 i = 1) → (∀ i, lb (st'.2 0 13) i = true ↔ i < c + 1 ∧ σ 1 i = 1 ∧ σ 2 i = 0 ∧ σ 3 i = 0) → st'.1 39 = st.1 39 → (∀ q i, 40 ≤ q → st'.2 q i = st.2 q i) → Ev (K_Types_relate_J82 N self st' (nI c)) (fun k' => KT σ k' ∧ KR σ k' ∧ (∀ q i, q ≠ 39 → k'.1 q i = k.1 q i) ∧ ∀ q i, q < 40 → (q = 0 → i ≠ 12 ∧ i ≠ 13) → k'.2 q i = k.2 q i) := by
        intro st' j1 j2 j3 j4 j5 j6
        have hTs' : KT σ st' := hT.of (fun _ _ _ _ _ => rfl) (fun q i a b => j1 q i (by omega)) (j2 0 11 (by omega) (by omega))
        unfold K_Types_relate_J82
        refine ev_le c 0 (fun h0 => ?_) (fun h0 => ?_)
        · have e : c = 0 := by omega
          subst e
          rw [nI_1]
          refine ih (n - 1) _ (by omega) ⟨st', 1, rfl, by omega, j1, j2, j3, j4, fun d => by rw [j6 42 0 (by omega)]; exact i5 d, fun d => by rw [j6 41 0 (by omega)]; exact i6 d, fun c' h1 h2 => ?_⟩
          have e : c' = 0 := by omega
          subst e
          refine ⟨fun q => by omega, fun t => ?_, fun d => ?_⟩
          · rw [j6 41 0 (by omega), i6, lin_0]
          · rw [j6 42 0 (by omega), i5]; simp [abv_0]
        · refine ev_oR (k_relateOne hI hN hTs' h0 hc th (fun i => by rw [j3]; exact ⟨fun q => ⟨by omega, q.2⟩, fun q => ⟨by omega, q.2⟩⟩) (fun c' h1 h2 => by rw [j6 41 c' (by omega), j6 42 c' (by omega)]; exact (i7 c' h1 h2).2)) (fun st2 h2 => ?_)
          obtain ⟨r1, r2, r3, r4, r5, r6⟩ := h2
          rw [nI_1]
          refine ih (n - 1) _ (by omega) ⟨st2, c + 1, rfl, by omega, fun q i a => by rw [r1 q i (by omega)]; exact j1 q i a, fun q i a b => by rw [r2 q i (by omega)]; exact j2 q i a b, fun i => by rw [r2 0 12 (by omega)]; exact j3 i, fun i => by rw [r2 0 13 (by omega)]; exact j4 i, fun d => by rw [r2 42 0 (by omega), j6 42 0 (by omega)]; exact i5 d, fun d => by rw [r2 41 0 (by omega), j6 41 0 (by omega)]; exact i6 d, fun c' h1 h2 => ?_⟩
          rcases Nat.lt_or_ge c' c with q | q
          · rw [r1 39 c' (by omega), r2 40 c' (by omega), r2 41 c' (by omega), r2 42 c' (by omega), j5, j6 40 c' (by omega), j6 41 c' (by omega), j6 42 c' (by omega)]
            exact i7 c' q h2
          · have e : c' = c := by omega
            subst e
            exact ⟨fun _ => ⟨r3, r4⟩, r5, r6⟩
      have J60 : ∀ st' : sk_M, (∀ q i, q ≠ 39 → st'.1 q i = k.1 q i) → (∀ q i, q < 40 → (q = 0 → i ≠ 12 ∧ i ≠ 13) → st'.2 q i = k.2 q i) → (∀ i, lb (st'.2 0 12) i = true ↔ i < c + 1 ∧ σ 1 i = 1 ∧ σ 2 i = 1) → st'.2 0 13 = st.2 0 13 → st'.1 39 = st.1 39 → (∀ q i, 40 ≤ q → st'.2 q i = st.2 q i) → Ev (K_Types_relate_J60 N self st' (nI c)) (fun k' => KT σ k' ∧ KR σ k' ∧ (∀ q i, q ≠ 39 → k'.1 q i = k.1 q i) ∧ ∀ q i, q < 40 → (q = 0 → i ≠ 12 ∧ i ≠ 13) → k'.2 q i = k.2 q i) := by
        intro st' j1 j2 j3 j4 j5 j6
        unfold K_Types_relate_J60
        refine ev_rI hc (by decide) ?_
        refine ev_qn (σ 2 c + 2 * σ 3 c) 0 (hu := by rw [j1 36 c (by omega), ← i1 36 c (by omega)]; exact t2) (fun h => ?_) (fun h => ?_)
        · refine ev_fL ?_
          refine J82 _ j1 (fun q i a b => by rw [w2_n (fun z => (b z.1).2 z.2)]; exact j2 q i a b) (fun i => by rw [w2_n (by omega)]; exact j3 i) (fun i => ?_) j5 (fun q i a => by rw [w2_n (by omega)]; exact j6 q i a)
          rw [w2_s, j4, lb_or_bit (by omega) i4]
          constructor
          · rintro (q | q)
            · exact ⟨by omega, q.2⟩
            · subst q; exact ⟨by omega, th, by omega, by omega⟩
          · intro q
            rcases Nat.lt_or_ge i c with z | z
            · exact Or.inl ⟨z, q.2⟩
            · exact Or.inr (by omega)
        · refine J82 st' j1 j2 j3 (fun i => ?_) j5 j6
          rw [j4, i4]
          refine ⟨fun q => ⟨by omega, q.2⟩, fun q => ⟨?_, q.2⟩⟩
          rcases Nat.lt_or_ge i c with z | z
          · exact z
          · exfalso
            rw [show i = c by omega] at q
            omega
      refine ev_rI hc (by decide) ?_
      rw [t2, nI_and1 _ (by omega)]
      refine ev_qn ((σ 2 c + 2 * σ 3 c) % 2) 0 (fun h => ?_) (fun h => ?_)
      · refine J60 st i1 i2 (fun i => ?_) rfl rfl (fun _ _ _ => rfl)
        rw [i3]
        refine ⟨fun q => ⟨by omega, q.2⟩, fun q => ⟨?_, q.2⟩⟩
        rcases Nat.lt_or_ge i c with z | z
        · exact z
        · exfalso
          rw [show i = c by omega] at q
          omega
      · refine ev_fL ?_
        refine J60 _ i1 (fun q i a b => by rw [w2_n (fun z => (b z.1).1 z.2)]; exact i2 q i a b) (fun i => ?_) (by rw [w2_n (by omega)]) rfl (fun q i a => by rw [w2_n (by omega)])
        rw [w2_s, lb_or_bit (by omega) i3]
        constructor
        · rintro (q | q)
          · exact ⟨by omega, q.2⟩
          · subst q; exact ⟨by omega, th, by omega⟩
        · intro q
          rcases Nat.lt_or_ge i c with z | z
          · exact Or.inl ⟨z, q.2⟩
          · exact Or.inr (by omega)
  · intro q i a; rfl
  · intro q i a b
    rw [w2_n (by omega), w2_n (fun z => (b z.1).2 z.2), w2_n (fun z => (b z.1).1 z.2)]
  · intro i
    rw [w2_n (by omega), w2_n (by omega), w2_s, lb_0]; simp
  · intro i
    rw [w2_n (by omega), w2_s, lb_0]; simp
  · intro d
    rw [w2_n (by omega), w2_n (by omega), w2_n (by omega)]; exact h42 d
  · intro d
    rw [w2_s, show (0 : Int32) = nI 0 from rfl, lb_bit (by omega), decide_eq_true_eq]
end
