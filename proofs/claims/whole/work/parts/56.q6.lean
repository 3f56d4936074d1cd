section
variable {m : sk_M} {N : Nat} {d : Nat → Nat} {n : Nat} {L : List (Nat × Nat)}
theorem m_readsJ (hd : DR m d n) (hW : WM m L) (hL : GW L n) (hN : 80 < N) {r w s a b u c : Nat} (hr : r < 8) (hw : w ≤ L.length) (hI0 : IT m r []) (hH0 : HD m r s a b u c) : Ev (M_reads_J174 N m (nI r) (nI w)) (fun z => z.1 = nI (rdB d L w).1 ∧ Mr r m z.2 ∧ IT z.2 r (rdB d L w).2 ∧ HD z.2 r s a b u c) := by
  have g := hL
  obtain ⟨g0, g1, g2, g3, g4⟩ := g
  unfold M_reads_J174
  refine ev_qn w L.length (hv := hW.1) (fun h => ev_some ?_) (fun h => ?_)
  · have e : rdB d L w = (0, []) := by unfold rdB; rw [cT_y h]
    rw [e]
    exact ⟨rfl, fun _ _ _ _ _ _ _ => rfl, hI0, hH0⟩
  · refine ev_oR (m_isW hd hW hL hN (w := w) (t := [123]) (by omega) (by decide +kernel) (by decide) (lts _ (by decide)) (by decide)) (fun v hv => ?_)
    rcases hv with ⟨rfl, hv⟩ | ⟨rfl, hv⟩
    · rw [if_pos rfl, nI_1]
      have e : rdB d L w = (w + 1, []) := by unfold rdB; rw [cT_n h, cT_n hv]
      rw [e]
      exact ev_some ⟨rfl, fun _ _ _ _ _ _ _ => rfl, hI0, hH0⟩
    · rw [if_neg (by decide), nI_1]
      have e : rdB d L w = rdI d L 80 (w + 1) [] := by unfold rdB; rw [cT_n h, cT_y hv]
      rw [e]
      exact m_items hd hW hL hN hr (by omega) hI0 hH0
theorem m_reads (hd : DR m d n) (hW : WM m L) (hL : GW L n) (hN : 80 < N) {r : Nat} (hr : r < 8) : Ev (M_reads N m (nI r)) (fun z => z.1 = nI (rd d L).1 ∧ Mr r m z.2 ∧ ((rd d L).1 = 0 → IT z.2 r (rd d L).2.1 ∧ HD z.2 r (srt d L) (wa L 2) (we L 2) (if (rd d L).2.2 = 1 then wa L 4 + 1 else 0) (we L 4))) := by
  have g := hL
  obtain ⟨g0, g1, g2, g3, g4⟩ := g
  unfold M_reads
  refine ev_oW (m_sortOf hd hW hL hN) (fun x m1 h1 => ?_)
  obtain ⟨rfl, hW1, hM1⟩ := h1
  have hd1 := hM1.dr hd
  by_cases q1 : srt d L = 3
  · rw [if_pos q1, if_neg (by decide)]
    have e : rd d L = (1, [], 0) := by unfold rd; rw [cT_y q1]
    rw [e]
    exact ev_some ⟨rfl, hM1.mr, fun h => absurd h (show ¬ (1 : Nat) = 0 by decide)⟩
  · rw [if_neg q1, if_pos (nI_pos' (by unfold srt; by_cases z1 : isW d L 0 tKeep; rw [cT_y z1]; omega; rw [cT_n z1]; by_cases z2 : isW d L 0 tKN; rw [cT_y z2]; omega; rw [cT_n z2]; by_cases z3 : isW d L 0 tKM; rw [cT_y z3]; omega; rw [cT_n z3]; omega))]
    refine ev_oR (m_isW hd1 hW1 hL hN (w := 1) (t := tClass) (by omega) (by decide +kernel) (by decide) (lts _ (by decide)) (by decide)) (fun v hv => ?_)
    rcases hv with ⟨rfl, q2⟩ | ⟨rfl, q2⟩
    · rw [if_pos rfl]
      have e : rd d L = (2, [], 0) := by unfold rd; rw [cT_n q1, cT_n q2]
      rw [e]
      exact ev_some ⟨rfl, hM1.mr, fun h => absurd h (show ¬ (2 : Nat) = 0 by decide)⟩
    · rw [if_neg (by decide)]
      refine ev_oR (m_isPattern hd1 hW1 hL hN (w := 2) (less := 0) (by omega) (by omega)) (fun v hv => ?_)
      rcases hv with ⟨rfl, q3⟩ | ⟨rfl, q3⟩
      · rw [if_pos rfl]
        have e : rd d L = (3, [], 0) := by unfold rd; rw [cT_n q1, cT_y q2, cT_n q3]
        rw [e]
        exact ev_some ⟨rfl, hM1.mr, fun h => absurd h (show ¬ (3 : Nat) = 0 by decide)⟩
      · rw [if_neg (by decide)]
        have w2 := hW1.2 2 q3.1
        have e2 := g3 2 q3.1
        refine ev_wI (by omega) (by decide) ?_
        refine ev_rI (i := 2) (by decide) (by decide) ?_
        refine ev_wI (by omega) (by decide) ?_
        refine ev_rI (i := 2) (by decide) (by decide) ?_
        refine ev_wI (by omega) (by decide) ?_
        refine ev_wI (by omega) (by decide) ?_
        refine ev_wI (by omega) (by decide) ?_
        rw [show (sk_wi m1 20 r (nI (srt d L))).1 30 2 = nI (wa L 2) by rw [pu_wi1, if_neg (by omega)]; exact w2.1]
        rw [show (sk_wi (sk_wi m1 20 r (nI (srt d L))) 21 r (nI (wa L 2))).1 31 2 = nI (we L 2) by rw [pu_wi1, if_neg (by omega), pu_wi1, if_neg (by omega)]; exact w2.2]
        have an : ∀ q i, ¬ (20 ≤ q ∧ q ≤ 25 ∧ i = r) → (sk_wi (sk_wi (sk_wi (sk_wi (sk_wi m1 20 r (nI (srt d L))) 21 r (nI (wa L 2))) 22 r (nI (we L 2))) 23 r (-1)) 25 r 0).1 q i = m1.1 q i := fun q i h => by
          rw [pu_wi1, if_neg (by omega), pu_wi1, if_neg (by omega), pu_wi1, if_neg (by omega), pu_wi1, if_neg (by omega), pu_wi1, if_neg (by omega)]
        have hH : HD (sk_wi (sk_wi (sk_wi (sk_wi (sk_wi m1 20 r (nI (srt d L))) 21 r (nI (wa L 2))) 22 r (nI (we L 2))) 23 r (-1)) 25 r 0) r (srt d L) (wa L 2) (we L 2) 0 (we L 4) := by
          refine ⟨?_, ?_, ?_, ?_, fun h => by omega⟩ <;> simp [pu_wi1]
        have hI0 : IT (sk_wi (sk_wi (sk_wi (sk_wi (sk_wi m1 20 r (nI (srt d L))) 21 r (nI (wa L 2))) 22 r (nI (we L 2))) 23 r (-1)) 25 r 0) r [] := ⟨by rw [pu_wi1, if_pos ⟨rfl, rfl⟩]; rfl, fun k hk => absurd hk (Nat.not_lt_zero k)⟩
        generalize sk_wi (sk_wi (sk_wi (sk_wi (sk_wi m1 20 r (nI (srt d L))) 21 r (nI (wa L 2))) 22 r (nI (we L 2))) 23 r (-1)) 25 r 0 = m2 at *
        have hM2 : Mr r m m2 := hM1.mr.tr (fun q i h1 h2 h3 h4 h5 => an q i h4)
        have hd2 := hM2.dr hd
        have hW2 : WM m2 L := ⟨by rw [an 0 4 (by omega)]; exact hW1.1, fun w hw => by rw [an 30 w (by omega), an 31 w (by omega)]; exact hW1.2 w hw⟩
        refine ev_oR (m_isW hd2 hW2 hL hN (w := 3) (t := tExt) (by omega) (by decide +kernel) (by decide) (lts _ (by decide)) (by decide)) (fun v hv => ?_)
        rcases hv with ⟨rfl, q4⟩ | ⟨rfl, q4⟩
        · rw [if_pos rfl]
          have e : rd d L = ((rdB d L 3).1, (rdB d L 3).2, 0) := by unfold rd; rw [cT_n q1, cT_y q2, cT_y q3, cT_n q4]
          rw [e]
          refine (m_readsJ hd2 hW2 hL hN (w := 3) hr (by have := q3.1; omega) hI0 hH).mono (fun z hz => ⟨hz.1, hM2.tr hz.2.1, fun _ => ⟨hz.2.2.1, ?_⟩⟩)
          rw [if_neg (show ¬ (0 : Nat) = 1 by decide)]
          exact hz.2.2.2
        · rw [if_neg (by decide)]
          refine ev_oR (m_isPattern hd2 hW2 hL hN (w := 4) (less := 0) (by omega) (by omega)) (fun v hv => ?_)
          rcases hv with ⟨rfl, q5⟩ | ⟨rfl, q5⟩
          · rw [if_pos rfl]
            have e : rd d L = (5, [], 0) := by unfold rd; rw [cT_n q1, cT_y q2, cT_y q3, cT_y q4, cT_n q5]
            rw [e]
            exact ev_some ⟨rfl, hM2, fun h => absurd h (show ¬ (5 : Nat) = 0 by decide)⟩
          · rw [if_neg (by decide)]
            have w4 := hW2.2 4 q5.1
            refine ev_rI (i := 4) (by decide) (by decide) ?_
            refine ev_wI (by omega) (by decide) ?_
            refine ev_rI (i := 4) (by decide) (by decide) ?_
            refine ev_wI (by omega) (by decide) ?_
            rw [w4.1, show (sk_wi m2 23 r (nI (wa L 4))).1 31 4 = nI (we L 4) by rw [pu_wi1, if_neg (by omega)]; exact w4.2]
            have an2 : ∀ q i, ¬ (23 ≤ q ∧ q ≤ 24 ∧ i = r) → (sk_wi (sk_wi m2 23 r (nI (wa L 4))) 24 r (nI (we L 4))).1 q i = m2.1 q i := fun q i h => by
              rw [pu_wi1, if_neg (by omega), pu_wi1, if_neg (by omega)]
            have hH2 : HD (sk_wi (sk_wi m2 23 r (nI (wa L 4))) 24 r (nI (we L 4))) r (srt d L) (wa L 2) (we L 2) (wa L 4 + 1) (we L 4) := by
              refine ⟨by rw [an2 20 r (by omega)]; exact hH.1, by rw [an2 21 r (by omega)]; exact hH.2.1, by rw [an2 22 r (by omega)]; exact hH.2.2.1, ?_, fun _ => ?_⟩ <;> simp [pu_wi1]
            have hI2 : IT (sk_wi (sk_wi m2 23 r (nI (wa L 4))) 24 r (nI (we L 4))) r [] := ⟨by rw [an2 25 r (by omega)]; exact hI0.1, fun k hk => absurd hk (Nat.not_lt_zero k)⟩
            have hM3 : Mr r m (sk_wi (sk_wi m2 23 r (nI (wa L 4))) 24 r (nI (we L 4))) := hM2.tr (fun q i h1 h2 h3 h4 h5 => an2 q i (by omega))
            have hW3 : WM (sk_wi (sk_wi m2 23 r (nI (wa L 4))) 24 r (nI (we L 4))) L := ⟨by rw [an2 0 4 (by omega)]; exact hW2.1, fun w hw => by rw [an2 30 w (by omega), an2 31 w (by omega)]; exact hW2.2 w hw⟩
            have e : rd d L = ((rdB d L 5).1, (rdB d L 5).2, 1) := by unfold rd; rw [cT_n q1, cT_y q2, cT_y q3, cT_y q4, cT_y q5]
            rw [e]
            exact (m_readsJ (hM3.dr hd) hW3 hL hN (w := 5) hr (by have := q5.1; omega) hI2 hH2).mono (fun z hz => ⟨hz.1, hM3.tr hz.2.1, fun _ => ⟨hz.2.2.1, hz.2.2.2⟩⟩)
theorem m_readsFull (hd : DR m d n) (hW : WM m L) (hL : GW L n) (hN : 80 < N) : Ev (M_readsFull N m) (fun z => z.1 = nI (rd d L).1 ∧ ∀ q i, q ≤ 28 → ¬ (q = 0 ∧ i = 4) → z.2.1 q i = m.1 q i) := by
  unfold M_readsFull
  refine ev_rI (i := 7) (by decide) (by decide) ?_
  refine ev_rI (i := 7) (by decide) (by decide) ?_
  refine ev_rI (i := 7) (by decide) (by decide) ?_
  refine ev_rI (i := 7) (by decide) (by decide) ?_
  refine ev_rI (i := 7) (by decide) (by decide) ?_
  refine ev_rI (i := 7) (by decide) (by decide) ?_
  refine ev_lp (fun k z => ∃ st j, z = (st, m.1 20 7, m.1 21 7, m.1 22 7, m.1 23 7, m.1 24 7, m.1 25 7, nI j) ∧ j + k = 16 ∧ (∀ q i, ¬ q = 29 → st.1 q i = m.1 q i) ∧ ∀ i, i < j → st.1 29 (3 * i) = m.1 26 (112 + i) ∧ st.1 29 (3 * i + 1) = m.1 27 (112 + i) ∧ st.1 29 (3 * i + 2) = m.1 28 (112 + i)) ?_ N 16 _ (by omega) ⟨m, 0, rfl, by omega, fun _ _ _ => rfl, fun i h => by omega⟩
  rintro k z self ⟨st, j, rfl, hk, hq, hs⟩ ih
  unfold M_readsFull_L54
  dsimp only
  refine ev_le 16 j (fun h => ?_) (fun hj => ?_)
  · unfold M_readsFull_J128
    have hs : ∀ i, i < 16 → st.1 29 (3 * i) = m.1 26 (112 + i) ∧ st.1 29 (3 * i + 1) = m.1 27 (112 + i) ∧ st.1 29 (3 * i + 2) = m.1 28 (112 + i) := fun i hi => hs i (by omega)
    clear ih
    have hd1 : DR st d n := ⟨by rw [hq 0 2 (by omega)]; exact hd.1, hd.2.1, fun k hk => by rw [hq 18 k (by omega)]; exact hd.2.2 k hk⟩
    have hW1 : WM st L := ⟨by rw [hq 0 4 (by omega)]; exact hW.1, fun w hw => by rw [hq 30 w (by omega), hq 31 w (by omega)]; exact hW.2 w hw⟩
    refine ev_oW (m_reads hd1 hW1 hL hN (r := 7) (by omega)) (fun x m1 h1 => ?_)
    obtain ⟨rfl, hM, -⟩ := h1
    refine ev_wI (i := 7) (by decide) (by decide) ?_
    refine ev_wI (i := 7) (by decide) (by decide) ?_
    refine ev_wI (i := 7) (by decide) (by decide) ?_
    refine ev_wI (i := 7) (by decide) (by decide) ?_
    refine ev_wI (i := 7) (by decide) (by decide) ?_
    refine ev_wI (i := 7) (by decide) (by decide) ?_
    have hm : ∀ q i, q ≤ 29 → ¬ (q = 0 ∧ i = 4) → ¬ (26 ≤ q ∧ q ≤ 28 ∧ 112 ≤ i ∧ i < 128) → (sk_wi (sk_wi (sk_wi (sk_wi (sk_wi (sk_wi m1 20 7 (m.1 20 7)) 21 7 (m.1 21 7)) 22 7 (m.1 22 7)) 23 7 (m.1 23 7)) 24 7 (m.1 24 7)) 25 7 (m.1 25 7)).1 q i = if q = 29 then st.1 q i else m.1 q i := by
      intro q i h1 h2 h3
      by_cases h4 : 20 ≤ q ∧ q ≤ 25 ∧ i = 7
      · obtain ⟨h5, h6, rfl⟩ := h4
        rw [if_neg (by omega)]
        rcases (show q = 20 ∨ q = 21 ∨ q = 22 ∨ q = 23 ∨ q = 24 ∨ q = 25 by omega) with rfl | rfl | rfl | rfl | rfl | rfl <;> simp [pu_wi1]
      · rw [pu_wi1, if_neg (by omega), pu_wi1, if_neg (by omega), pu_wi1, if_neg (by omega), pu_wi1, if_neg (by omega), pu_wi1, if_neg (by omega), pu_wi1, if_neg (by omega), hM q i (by omega) (by omega) h2 h4 (by omega)]
        by_cases h5 : q = 29
        · rw [if_pos h5]
        · rw [if_neg h5, hq q i h5]
    generalize sk_wi (sk_wi (sk_wi (sk_wi (sk_wi (sk_wi m1 20 7 (m.1 20 7)) 21 7 (m.1 21 7)) 22 7 (m.1 22 7)) 23 7 (m.1 23 7)) 24 7 (m.1 24 7)) 25 7 (m.1 25 7) = m2 at *
    refine ev_lp (fun k z => ∃ st j, z = (st, nI (rd d L).1, nI j) ∧ j + k = 16 ∧ (∀ q i, ¬ (26 ≤ q ∧ q ≤ 28 ∧ 112 ≤ i ∧ i < 128) → st.1 q i = m2.1 q i) ∧ ∀ i, i < j → st.1 26 (112 + i) = m.1 26 (112 + i) ∧ st.1 27 (112 + i) = m.1 27 (112 + i) ∧ st.1 28 (112 + i) = m.1 28 (112 + i)) ?_ N 16 _ (by omega) ⟨m2, 0, rfl, by omega, fun _ _ _ => rfl, fun i h => by omega⟩
    rintro k z self ⟨st2, j, rfl, hk, hq2, hs2⟩ ih
    unfold M_readsFull_L190
    dsimp only
    refine ev_le 16 j (fun h => ?_) (fun hj => ?_)
    · refine ev_some ⟨rfl, fun q i h1 h2 => ?_⟩
      show st2.1 q i = _
      by_cases h3 : 26 ≤ q ∧ q ≤ 28 ∧ 112 ≤ i ∧ i < 128
      · obtain ⟨h4, h5, h6, h7⟩ := h3
        obtain ⟨i, rfl⟩ : ∃ k, i = 112 + k := ⟨i - 112, by omega⟩
        have := hs2 i (by omega)
        rcases (show q = 26 ∨ q = 27 ∨ q = 28 by omega) with rfl | rfl | rfl
        · exact this.1
        · exact this.2.1
        · exact this.2.2
      · rw [hq2 q i h3, hm q i (by omega) h2 h3, if_neg (by omega)]
    · have h29 : ∀ (st' : sk_M) (k : Nat), k < 48 → st'.1 29 k = m2.1 29 k → st'.1 29 k = st.1 29 k := fun st' k h1 h2 => by rw [h2, hm 29 k (by omega) (by omega) (by omega), if_pos rfl]
      obtain ⟨b1, b2, b3⟩ := hs j hj
      rw [show (3 : Int32) * nI j = nI (3 * j) from pk_mul 3 j, show (112 : Int32) + nI j = nI (112 + j) from nI_add 112 j, show nI (3 * j) + 1 = nI (3 * j + 1) from nI_add _ 1, show nI (3 * j) + 2 = nI (3 * j + 2) from nI_add _ 2, nI_1]
      refine ev_rI (by omega) (by decide) ?_
      refine ev_wI (by omega) (by decide) ?_
      refine ev_rI (by omega) (by decide) ?_
      refine ev_wI (by omega) (by decide) ?_
      refine ev_rI (by omega) (by decide) ?_
      refine ev_wI (by omega) (by decide) ?_
      rw [pu_wi1, if_neg (show ¬ (29 = 26 ∧ 3 * j + 1 = 112 + j) by omega), pu_wi1, if_neg (show ¬ (29 = 27 ∧ 3 * j + 2 = 112 + j) by omega), pu_wi1, if_neg (show ¬ (29 = 26 ∧ 3 * j + 2 = 112 + j) by omega), h29 st2 (3 * j) (by omega) (hq2 _ _ (by omega)), h29 st2 (3 * j + 1) (by omega) (hq2 _ _ (by omega)), h29 st2 (3 * j + 2) (by omega) (hq2 _ _ (by omega)), b1, b2, b3]
      refine ih (k - 1) _ (by omega) ⟨_, j + 1, rfl, by omega, fun q i h => ?_, fun i hi => ?_⟩
      · rw [pu_wi1, if_neg (by omega), pu_wi1, if_neg (by omega), pu_wi1, if_neg (by omega)]; exact hq2 q i h
      · rcases Nat.lt_or_ge i j with q | q
        · obtain ⟨e1, e2, e3⟩ := hs2 i q
          refine ⟨?_, ?_, ?_⟩
          · rw [pu_wi1, if_neg (by omega), pu_wi1, if_neg (by omega), pu_wi1, if_neg (by omega)]; exact e1
          · rw [pu_wi1, if_neg (by omega), pu_wi1, if_neg (by omega), pu_wi1, if_neg (by omega)]; exact e2
          · rw [pu_wi1, if_neg (by omega), pu_wi1, if_neg (by omega), pu_wi1, if_neg (by omega)]; exact e3
        · rw [show i = j by omega]
          refine ⟨?_, ?_, ?_⟩ <;> simp [pu_wi1]
  · rw [show (3 : Int32) * nI j = nI (3 * j) from pk_mul 3 j, show (112 : Int32) + nI j = nI (112 + j) from nI_add 112 j, show nI (3 * j) + 1 = nI (3 * j + 1) from nI_add _ 1, show nI (3 * j) + 2 = nI (3 * j + 2) from nI_add _ 2, nI_1]
    refine ev_rI (by omega) (by decide) ?_
    refine ev_wI (by omega) (by decide) ?_
    refine ev_rI (by omega) (by decide) ?_
    refine ev_wI (by omega) (by decide) ?_
    refine ev_rI (by omega) (by decide) ?_
    refine ev_wI (by omega) (by decide) ?_
    rw [pu_wi1, if_neg (show ¬ (27 = 29 ∧ 112 + j = 3 * j) by omega), pu_wi1, if_neg (show ¬ (28 = 29 ∧ 112 + j = 3 * j + 1) by omega), pu_wi1, if_neg (show ¬ (28 = 29 ∧ 112 + j = 3 * j) by omega), hq 26 _ (by omega), hq 27 _ (by omega), hq 28 _ (by omega)]
    refine ih (k - 1) _ (by omega) ⟨_, j + 1, rfl, by omega, fun q i h => ?_, fun i hi => ?_⟩
    · rw [pu_wi1, if_neg (by omega), pu_wi1, if_neg (by omega), pu_wi1, if_neg (by omega)]; exact hq q i h
    · rcases Nat.lt_or_ge i j with q | q
      · obtain ⟨e1, e2, e3⟩ := hs i q
        refine ⟨?_, ?_, ?_⟩
        · rw [pu_wi1, if_neg (by omega), pu_wi1, if_neg (by omega), pu_wi1, if_neg (by omega)]; exact e1
        · rw [pu_wi1, if_neg (by omega), pu_wi1, if_neg (by omega), pu_wi1, if_neg (by omega)]; exact e2
        · rw [pu_wi1, if_neg (by omega), pu_wi1, if_neg (by omega), pu_wi1, if_neg (by omega)]; exact e3
      · rw [show i = j by omega]
        refine ⟨?_, ?_, ?_⟩
        · rw [pu_wi1, if_neg (by omega), pu_wi1, if_neg (by omega), pu_wi1, if_pos ⟨rfl, rfl⟩]
        · rw [pu_wi1, if_neg (by omega), pu_wi1, if_pos ⟨rfl, rfl⟩]
        · rw [pu_wi1, if_pos ⟨rfl, rfl⟩]
end
