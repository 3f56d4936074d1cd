/-- what a rule's items are -/
def OKI (n : Nat) (acc : List (Nat × Nat × Nat)) : Prop := acc.length ≤ 13 ∧ ∀ k, k < acc.length → ((acc.getD k (0, 0, 0)).1 = 102 ∨ (acc.getD k (0, 0, 0)).1 = 109 ∨ (acc.getD k (0, 0, 0)).1 = 120) ∧ (acc.getD k (0, 0, 0)).2.1 ≤ (acc.getD k (0, 0, 0)).2.2 ∧ (acc.getD k (0, 0, 0)).2.2 ≤ n
theorem gd_lo {α : Type} {l : List α} {x z : α} {k : Nat} (h : k < l.length) : (l ++ [x]).getD k z = l.getD k z := by
  rw [List.getD_eq_getElem?_getD, List.getElem?_append_left h, List.getD_eq_getElem?_getD]
theorem gd_hi {α : Type} (l : List α) (x z : α) : (l ++ [x]).getD l.length z = x := by
  rw [List.getD_eq_getElem?_getD, List.getElem?_append_right (Nat.le_refl _)]; simp
theorem isW1 {d : Nat → Nat} {L : List (Nat × Nat)} {w x : Nat} : isW d L w [x] ↔ w < L.length ∧ we L w - wa L w = 1 ∧ d (wa L w) = x := by
  constructor
  · rintro ⟨h1, h2, h3⟩
    exact ⟨h1, h2, h3 0 Nat.one_pos⟩
  · rintro ⟨h1, h2, h3⟩
    refine ⟨h1, h2, fun i hi => ?_⟩
    have e : i = 0 := by have : ([x] : List Nat).length = 1 := rfl; omega
    subst e; exact h3
theorem rdI_s (d : Nat → Nat) (L : List (Nat × Nat)) (f w : Nat) (acc : List (Nat × Nat × Nat)) : rdI d L (f + 1) w acc = cT (0 < acc.length ∧ isW d L w [125]) (cT (w + 1 = L.length) 0 (w + 2), acc) (cT (isW d L w [102] ∨ isW d L w [109] ∨ isW d L w [120]) (cT (isP d L (w + 1) 1 ∧ d (we L (w + 1) - 1) = 59) (rdI d L f (w + 2) (acc ++ [(d (wa L w), wa L (w + 1), we L (w + 1) - 1)])) (w + 2, acc)) (w + 1, acc)) := rfl
/-- one item more -/
theorem OKI_add {d : Nat → Nat} {L : List (Nat × Nat)} {n w : Nat} {acc : List (Nat × Nat × Nat)} (hL : GW L n) (hO : OKI n acc) (h5 : w < L.length → 5 * acc.length ≤ wa L w) (h1 : isW d L w [102] ∨ isW d L w [109] ∨ isW d L w [120]) (h2 : isP d L (w + 1) 1) : OKI n (acc ++ [(d (wa L w), wa L (w + 1), we L (w + 1) - 1)]) ∧ w + 2 ≤ L.length ∧ (w + 2 < L.length → 5 * (acc ++ [(d (wa L w), wa L (w + 1), we L (w + 1) - 1)]).length ≤ wa L (w + 2)) := by
  obtain ⟨g0, g1, g2, g3, g4⟩ := hL
  have p1 := h2.1
  have p2 := h2.2.1
  have hl : w < L.length ∧ we L w - wa L w = 1 ∧ (d (wa L w) = 102 ∨ d (wa L w) = 109 ∨ d (wa L w) = 120) := by
    rcases h1 with h | h | h
    · exact ⟨(isW1.mp h).1, (isW1.mp h).2.1, Or.inl (isW1.mp h).2.2⟩
    · exact ⟨(isW1.mp h).1, (isW1.mp h).2.1, Or.inr (Or.inl (isW1.mp h).2.2)⟩
    · exact ⟨(isW1.mp h).1, (isW1.mp h).2.1, Or.inr (Or.inr (isW1.mp h).2.2)⟩
  have h5 := h5 hl.1
  have q1 := g3 w hl.1
  have q2 := g3 (w + 1) p1
  have q3 := g4 w p1
  have el : (acc ++ [(d (wa L w), wa L (w + 1), we L (w + 1) - 1)]).length = acc.length + 1 := by simp
  refine ⟨⟨by rw [el]; omega, fun k hk => ?_⟩, by omega, fun h => ?_⟩
  · rw [el] at hk
    rcases Nat.lt_or_ge k acc.length with q | q
    · rw [gd_lo q]; exact hO.2 k q
    · rw [show k = acc.length by omega, gd_hi]
      exact ⟨hl.2.2, by show wa L (w + 1) ≤ we L (w + 1) - 1; omega, by show we L (w + 1) - 1 ≤ n; omega⟩
  · rw [el, g4 (w + 1) h]; omega
theorem rdI_ok {d : Nat → Nat} {L : List (Nat × Nat)} {n : Nat} (hL : GW L n) : ∀ f w acc, OKI n acc → (w < L.length → 5 * acc.length ≤ wa L w) → OKI n (rdI d L f w acc).2 := by
  intro f
  induction f with
  | zero => intro w acc h _; exact h
  | succ f ih =>
    intro w acc h h5
    simp only [rdI]
    by_cases q1 : 0 < acc.length ∧ isW d L w [125]
    · rw [cT_y q1]; exact h
    · rw [cT_n q1]
      by_cases q2 : isW d L w [102] ∨ isW d L w [109] ∨ isW d L w [120]
      · rw [cT_y q2]
        by_cases q3 : isP d L (w + 1) 1 ∧ d (we L (w + 1) - 1) = 59
        · rw [cT_y q3]
          obtain ⟨a, b, c⟩ := OKI_add hL h h5 q2 q3.1
          exact ih _ _ a c
        · rw [cT_n q3]; exact h
      · rw [cT_n q2]; exact h
theorem OKI_nil (n : Nat) : OKI n [] := ⟨by decide, fun k hk => absurd hk (Nat.not_lt_zero k)⟩
theorem rd_ok {d : Nat → Nat} {L : List (Nat × Nat)} {n : Nat} (hL : GW L n) : OKI n (rd d L).2.1 := by
  have hB : ∀ w, OKI n (rdB d L w).2 := by
    intro w
    unfold rdB
    by_cases q1 : w = L.length
    · rw [cT_y q1]; exact OKI_nil n
    · rw [cT_n q1]
      by_cases q2 : isW d L w [123]
      · rw [cT_y q2]; exact rdI_ok hL _ _ _ (OKI_nil n) (fun _ => Nat.zero_le _)
      · rw [cT_n q2]; exact OKI_nil n
  unfold rd
  by_cases q1 : srt d L = 3
  · rw [cT_y q1]; exact OKI_nil n
  · rw [cT_n q1]
    by_cases q2 : isW d L 1 tClass
    · rw [cT_y q2]
      by_cases q3 : isP d L 2 0
      · rw [cT_y q3]
        by_cases q4 : isW d L 3 tExt
        · rw [cT_y q4]
          by_cases q5 : isP d L 4 0
          · rw [cT_y q5]; exact hB 5
          · rw [cT_n q5]; exact OKI_nil n
        · rw [cT_n q4]; exact hB 3
      · rw [cT_n q3]; exact OKI_nil n
    · rw [cT_n q2]; exact OKI_nil n
/-- in a rule that reads well the patterns are there -/
theorem rd_good {d : Nat → Nat} {L : List (Nat × Nat)} (h : (rd d L).1 = 0) : srt d L < 3 ∧ 2 < L.length ∧ ((rd d L).2.2 = 1 → 4 < L.length) ∧ (rd d L).2.2 ≤ 1 := by
  have s3 : ¬ srt d L = 3 → srt d L < 3 := by
    intro q
    unfold srt at q ⊢
    by_cases q1 : isW d L 0 tKeep
    · rw [cT_y q1]; omega
    · rw [cT_n q1] at q ⊢
      by_cases q2 : isW d L 0 tKN
      · rw [cT_y q2]; omega
      · rw [cT_n q2] at q ⊢
        by_cases q3 : isW d L 0 tKM
        · rw [cT_y q3]; omega
        · rw [cT_n q3] at q; exact absurd rfl q
  unfold rd at h ⊢
  by_cases q1 : srt d L = 3
  · rw [cT_y q1] at h; exact absurd h (by decide)
  · rw [cT_n q1] at h ⊢
    by_cases q2 : isW d L 1 tClass
    · rw [cT_y q2] at h ⊢
      by_cases q3 : isP d L 2 0
      · rw [cT_y q3] at h ⊢
        by_cases q4 : isW d L 3 tExt
        · rw [cT_y q4] at h ⊢
          by_cases q5 : isP d L 4 0
          · rw [cT_y q5]; exact ⟨s3 q1, q3.1, fun _ => q5.1, Nat.le_refl 1⟩
          · rw [cT_n q5] at h; exact absurd h (by decide)
        · rw [cT_n q4]; exact ⟨s3 q1, q3.1, fun h => absurd h (show ¬ (0 : Nat) = 1 by decide), Nat.zero_le 1⟩
      · rw [cT_n q3] at h; exact absurd h (by decide)
    · rw [cT_n q2] at h; exact absurd h (by decide)
/-- all but the words and rule r's rows has stayed -/
def Mr (r : Nat) (m m' : sk_M) : Prop := ∀ q i, ¬ q = 30 → ¬ q = 31 → ¬ (q = 0 ∧ i = 4) → ¬ (20 ≤ q ∧ q ≤ 25 ∧ i = r) → ¬ (26 ≤ q ∧ q ≤ 28 ∧ 16 * r ≤ i ∧ i < 16 * r + 16) → m'.1 q i = m.1 q i
def IT (m : sk_M) (r : Nat) (acc : List (Nat × Nat × Nat)) : Prop := m.1 25 r = nI acc.length ∧ ∀ k, k < acc.length → m.1 26 (16 * r + k) = nI (acc.getD k (0, 0, 0)).1 ∧ m.1 27 (16 * r + k) = nI (acc.getD k (0, 0, 0)).2.1 ∧ m.1 28 (16 * r + k) = nI (acc.getD k (0, 0, 0)).2.2
def HD (m : sk_M) (r s a b u c : Nat) : Prop := m.1 20 r = nI s ∧ m.1 21 r = nI a ∧ m.1 22 r = nI b ∧ m.1 23 r = (if u = 0 then -1 else nI (u - 1)) ∧ (0 < u → m.1 24 r = nI c)
section
variable {m : sk_M} {N : Nat} {d : Nat → Nat} {n : Nat} {L : List (Nat × Nat)}
theorem Mr.tr {r : Nat} {m' m'' : sk_M} (h : Mr r m m') (h' : Mr r m' m'') : Mr r m m'' := fun q i a b c e f => (h' q i a b c e f).trans (h q i a b c e f)
theorem Mw.mr {r : Nat} {m' : sk_M} (h : Mw m m') : Mr r m m' := fun q i a b c _ _ => h q i a b c
theorem Mr.dr {r : Nat} {m' : sk_M} (h : Mr r m m') (hd : DR m d n) : DR m' d n := ⟨by rw [h 0 2 (by omega) (by omega) (by omega) (by omega) (by omega)]; exact hd.1, hd.2.1, fun k hk => by rw [h 18 k (by omega) (by omega) (by omega) (by omega) (by omega)]; exact hd.2.2 k hk⟩
theorem m_items (hd : DR m d n) (hW : WM m L) (hL : GW L n) (hN : 80 < N) {r w0 s a b u c : Nat} (hr : r < 8) (hw0 : w0 ≤ L.length) (hI0 : IT m r []) (hH0 : HD m r s a b u c) : Ev (sk_lp N (M_reads_L202 N (fun st v3 => M_reads_J406 N st v3)) (m, nI r, nI w0)) (fun z => z.1 = nI (rdI d L 80 w0 []).1 ∧ Mr r m z.2 ∧ IT z.2 r (rdI d L 80 w0 []).2 ∧ HD z.2 r s a b u c) := by
  have g := hL
  obtain ⟨g0, g1, g2, g3, g4⟩ := g
  refine ev_lp (fun k z => ∃ st w acc f, z = (st, nI r, nI w) ∧ w + k = L.length ∧ 2 * f + w ≥ 160 ∧ rdI d L f w acc = rdI d L 80 w0 [] ∧ OKI n acc ∧ (w < L.length → 5 * acc.length ≤ wa L w) ∧ WM st L ∧ Mr r m st ∧ IT st r acc ∧ HD st r s a b u c) ?_ N (L.length - w0) _ (by omega) ⟨m, w0, [], 80, rfl, by omega, by omega, rfl, OKI_nil n, fun _ => Nat.zero_le _, hW, fun _ _ _ _ _ _ _ => rfl, hI0, hH0⟩
  rintro k z self ⟨st, w, acc, f, rfl, hk, hf, hrd, hO, h5, hW, hM, hIT, hHD⟩ ih
  have hds := hM.dr hd
  obtain ⟨f, rfl⟩ : ∃ f', f = f' + 1 := ⟨f - 1, by omega⟩
  have al := hO.1
  rw [rdI_s d L f w acc] at hrd
  -- the four ways out
  have J274 : ¬ (0 < acc.length ∧ isW d L w [125]) → ¬ (isW d L w [102] ∨ isW d L w [109] ∨ isW d L w [120]) → Ev (some (nI w + 1, st)) (fun z => z.1 = nI (rdI d L 80 w0 []).1 ∧ Mr r m z.2 ∧ IT z.2 r (rdI d L 80 w0 []).2 ∧ HD z.2 r s a b u c) := by
    intro q1 q2
    rw [cT_n q1, cT_n q2] at hrd
    rw [nI_1]
    exact ev_some ⟨by rw [← hrd], hM, by rw [← hrd]; exact hIT, hHD⟩
  have J337 : ¬ (0 < acc.length ∧ isW d L w [125]) → (isW d L w [102] ∨ isW d L w [109] ∨ isW d L w [120]) → ¬ (isP d L (w + 1) 1 ∧ d (we L (w + 1) - 1) = 59) → ∀ v5 v6, Ev (M_reads_J337 N (fun st v3 => M_reads_J406 N st v3) self st (nI r) (nI w) v5 v6) (fun z => z.1 = nI (rdI d L 80 w0 []).1 ∧ Mr r m z.2 ∧ IT z.2 r (rdI d L 80 w0 []).2 ∧ HD z.2 r s a b u c) := by
    intro q1 q2 q3 v5 v6
    rw [cT_n q1, cT_y q2, cT_n q3] at hrd
    unfold M_reads_J337 M_reads_J338
    rw [if_pos rfl, show nI w + 2 = nI (w + 2) from nI_add w 2]
    exact ev_some ⟨by rw [← hrd], hM, by rw [← hrd]; exact hIT, hHD⟩
  have J302 : ¬ (0 < acc.length ∧ isW d L w [125]) → (isW d L w [102] ∨ isW d L w [109] ∨ isW d L w [120]) → Ev (M_reads_J302 N (fun st v3 => M_reads_J406 N st v3) self st (nI r) (nI w) (nI (16 * r + acc.length)) (nI (d (wa L w)))) (fun z => z.1 = nI (rdI d L 80 w0 []).1 ∧ Mr r m z.2 ∧ IT z.2 r (rdI d L 80 w0 []).2 ∧ HD z.2 r s a b u c) := by
    intro q1 q2
    unfold M_reads_J302
    rw [nI_1]
    refine ev_oR (m_isPattern hds hW hL hN (w := w + 1) (less := 1) (by omega) (by omega)) (fun v hv => ?_)
    rcases hv with ⟨rfl, hv⟩ | ⟨rfl, hv⟩
    · rw [if_pos rfl]
      exact J337 q1 q2 (fun h => hv h.1) _ _
    · rw [if_neg (by decide)]
      have p1 := hv.1
      have p2 := hv.2.1
      have p3 := g3 (w + 1) p1
      obtain ⟨w1, w2⟩ := hW.2 (w + 1) p1
      refine ev_rI (by omega) (by decide) ?_
      rw [w2, nI_m1 (by omega)]
      obtain ⟨d1, d2, d3⟩ := hds.2.2 (we L (w + 1) - 1) (by omega)
      refine ev_rI (by omega) (by decide) ?_
      refine ev_qn (d (we L (w + 1) - 1)) 59 (hu := d1) (fun h => ?_) (fun h => J337 q1 q2 (fun q => h q.2) _ _)
      obtain ⟨o1, o2, o3⟩ := OKI_add hL hO h5 q2 hv
      rw [cT_n q1, cT_y q2, cT_y ⟨hv, h⟩] at hrd
      unfold M_reads_J338
      rw [if_neg (by decide), nI_1]
      refine ev_wI (by omega) (by decide) ?_
      refine ev_rI (by omega) (by decide) ?_
      refine ev_wI (by omega) (by decide) ?_
      refine ev_rI (by omega) (by decide) ?_
      refine ev_wI (by omega) (by decide) ?_
      refine ev_rI (by omega) (by decide) ?_
      refine ev_wI (by omega) (by decide) ?_
      rw [show nI w + 2 = nI (w + 2) from nI_add w 2]
      rw [show (sk_wi st 26 (16 * r + acc.length) (nI (d (wa L w)))).1 30 (w + 1) = nI (wa L (w + 1)) by rw [pu_wi1, if_neg (by omega)]; exact w1]
      rw [show (sk_wi (sk_wi st 26 (16 * r + acc.length) (nI (d (wa L w)))) 27 (16 * r + acc.length) (nI (wa L (w + 1)))).1 31 (w + 1) = nI (we L (w + 1)) by rw [pu_wi1, if_neg (by omega), pu_wi1, if_neg (by omega)]; exact w2, nI_m1 (by omega)]
      rw [show (sk_wi (sk_wi (sk_wi st 26 (16 * r + acc.length) (nI (d (wa L w)))) 27 (16 * r + acc.length) (nI (wa L (w + 1)))) 28 (16 * r + acc.length) (nI (we L (w + 1) - 1))).1 25 r = nI acc.length by rw [pu_wi1, if_neg (by omega), pu_wi1, if_neg (by omega), pu_wi1, if_neg (by omega)]; exact hIT.1, nI_1]
      have an : ∀ q i, ¬ (26 ≤ q ∧ q ≤ 28 ∧ i = 16 * r + acc.length) → ¬ (q = 25 ∧ i = r) → (sk_wi (sk_wi (sk_wi (sk_wi st 26 (16 * r + acc.length) (nI (d (wa L w)))) 27 (16 * r + acc.length) (nI (wa L (w + 1)))) 28 (16 * r + acc.length) (nI (we L (w + 1) - 1))) 25 r (nI (acc.length + 1))).1 q i = st.1 q i := fun q i h1 h2 => by
        rw [pu_wi1, if_neg (by omega), pu_wi1, if_neg (by omega), pu_wi1, if_neg (by omega), pu_wi1, if_neg (by omega)]
      have el : (acc ++ [(d (wa L w), wa L (w + 1), we L (w + 1) - 1)]).length = acc.length + 1 := by simp
      refine ih (k - 2) _ (by omega) ⟨_, w + 2, acc ++ [(d (wa L w), wa L (w + 1), we L (w + 1) - 1)], f, rfl, by omega, by omega, hrd, o1, o3, ⟨?_, fun v hv => ⟨?_, ?_⟩⟩, hM.tr (fun q i h1 h2 h3 h4 h6 => an q i (by omega) (by omega)), ⟨?_, fun j hj => ?_⟩, ?_⟩
      · rw [an 0 4 (by omega) (by omega)]; exact hW.1
      · rw [an 30 v (by omega) (by omega)]; exact (hW.2 v hv).1
      · rw [an 31 v (by omega) (by omega)]; exact (hW.2 v hv).2
      · rw [el, pu_wi1, if_pos ⟨rfl, rfl⟩]
      · rw [el] at hj
        rcases Nat.lt_or_ge j acc.length with q | q
        · rw [gd_lo q, an 26 _ (by omega) (by omega), an 27 _ (by omega) (by omega), an 28 _ (by omega) (by omega)]; exact hIT.2 j q
        · rw [show j = acc.length by omega, gd_hi]
          refine ⟨?_, ?_, ?_⟩
          · rw [pu_wi1, if_neg (by omega), pu_wi1, if_neg (by omega), pu_wi1, if_neg (by omega), pu_wi1, if_pos ⟨rfl, rfl⟩]
          · rw [pu_wi1, if_neg (by omega), pu_wi1, if_neg (by omega), pu_wi1, if_pos ⟨rfl, rfl⟩]
          · rw [pu_wi1, if_neg (by omega), pu_wi1, if_pos ⟨rfl, rfl⟩]
      · unfold HD
        rw [an 20 r (by omega) (by omega), an 21 r (by omega) (by omega), an 22 r (by omega) (by omega), an 23 r (by omega) (by omega), an 24 r (by omega) (by omega)]
        exact hHD
  have J222 : ¬ (0 < acc.length ∧ isW d L w [125]) → Ev (M_reads_J222 N (fun st v3 => M_reads_J406 N st v3) self st (nI r) (nI w)) (fun z => z.1 = nI (rdI d L 80 w0 []).1 ∧ Mr r m z.2 ∧ IT z.2 r (rdI d L 80 w0 []).2 ∧ HD z.2 r s a b u c) := by
    intro q1
    unfold M_reads_J222
    refine ev_rI (by omega) (by decide) ?_
    rw [hIT.1, show (16 : Int32) * nI r = nI (16 * r) from pk_mul 16 r, nI_add]
    have j274 : ¬ (isW d L w [102] ∨ isW d L w [109] ∨ isW d L w [120]) → Ev (M_reads_J274 N (fun st v3 => M_reads_J406 N st v3) self st (nI r) (nI w) (nI (16 * r + acc.length))) (fun z => z.1 = nI (rdI d L 80 w0 []).1 ∧ Mr r m z.2 ∧ IT z.2 r (rdI d L 80 w0 []).2 ∧ HD z.2 r s a b u c) := by
      intro q2
      unfold M_reads_J274 M_reads_J275
      rw [if_neg (by decide), if_neg (by decide), if_neg (by decide)]
      exact J274 q1 q2
    refine ev_le L.length w (hu := hW.1) (fun h => j274 (fun h2 => ?_)) (fun h => ?_)
    · rcases h2 with h2 | h2 | h2 <;> (have := h2.1; omega)
    · obtain ⟨w1, w2⟩ := hW.2 w h
      have p3 := g3 w h
      refine ev_rI (by omega) (by decide) ?_
      refine ev_rI (by omega) (by decide) ?_
      rw [w1, w2]
      refine ev_qn (we L w - wa L w) 1 (hu := pk_sub p3.1) (fun h1 => ?_) (fun h1 => j274 (fun h2 => ?_))
      · refine ev_rI (by omega) (by decide) ?_
        rw [w1]
        obtain ⟨d1, d2, d3⟩ := hds.2.2 (wa L w) (by omega)
        refine ev_rI (by omega) (by decide) ?_
        rw [d1]
        unfold M_reads_J275
        refine ev_qn (d (wa L w)) 102 (fun h2 => J302 q1 (Or.inl (isW1.mpr ⟨h, h1, h2⟩))) (fun n1 => ?_)
        refine ev_qn (d (wa L w)) 109 (fun h2 => J302 q1 (Or.inr (Or.inl (isW1.mpr ⟨h, h1, h2⟩)))) (fun n2 => ?_)
        refine ev_qn (d (wa L w)) 120 (fun h2 => J302 q1 (Or.inr (Or.inr (isW1.mpr ⟨h, h1, h2⟩)))) (fun n3 => ?_)
        refine J274 q1 (fun h2 => ?_)
        rcases h2 with h2 | h2 | h2
        · exact n1 (isW1.mp h2).2.2
        · exact n2 (isW1.mp h2).2.2
        · exact n3 (isW1.mp h2).2.2
      · rcases h2 with h2 | h2 | h2 <;> exact h1 (isW1.mp h2).2.1
  unfold M_reads_L202
  dsimp only
  refine ev_rI (by omega) (by decide) ?_
  refine ev_qn acc.length 0 (hu := hIT.1) (fun h => J222 (fun q => by omega)) (fun h => ?_)
  refine ev_oR (m_isW hds hW hL hN (w := w) (t := [125]) (by omega) (by decide +kernel) (by decide) (lts _ (by decide)) (by decide)) (fun v hv => ?_)
  rcases hv with ⟨rfl, hv⟩ | ⟨rfl, hv⟩
  · rw [if_pos rfl]; exact J222 (fun q => hv q.2)
  · rw [if_neg (by decide)]
    rw [cT_y ⟨by omega, hv⟩] at hrd
    unfold M_reads_J406
    rw [nI_1, show nI w + 2 = nI (w + 2) from nI_add w 2]
    refine ev_qn (w + 1) L.length (hv := hW.1) (fun h2 => ev_some ⟨?_, hM, by rw [← hrd]; exact hIT, hHD⟩) (fun h2 => ev_some ⟨?_, hM, by rw [← hrd]; exact hIT, hHD⟩)
    · rw [← hrd, cT_y h2]; rfl
    · rw [← hrd, cT_n h2]
end
