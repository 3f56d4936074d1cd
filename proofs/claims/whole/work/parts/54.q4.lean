noncomputable def cT {α : Type} (p : Prop) (a b : α) : α := @ite α p (Classical.propDecidable p) a b
theorem cT_y {α : Type} {p : Prop} (h : p) (a b : α) : cT p a b = a := @if_pos p (Classical.propDecidable p) h α a b
theorem cT_n {α : Type} {p : Prop} (h : ¬ p) (a b : α) : cT p a b = b := @if_neg p (Classical.propDecidable p) h α a b
def tKeep : List Nat := [107, 101, 101, 112]
def tKN : List Nat := [107, 101, 101, 112, 110, 97, 109, 101, 115]
def tKM : List Nat := [107, 101, 101, 112, 109, 101, 109, 98, 101, 114, 115]
def tClass : List Nat := [99, 108, 97, 115, 115]
def tExt : List Nat := [101, 120, 116, 101, 110, 100, 115]
noncomputable def srt (d : Nat → Nat) (L : List (Nat × Nat)) : Nat := cT (isW d L 0 tKeep) 0 (cT (isW d L 0 tKN) 1 (cT (isW d L 0 tKM) 2 3))
noncomputable def rdI (d : Nat → Nat) (L : List (Nat × Nat)) : Nat → Nat → List (Nat × Nat × Nat) → Nat × List (Nat × Nat × Nat)
  | 0, _, acc => (0, acc)
  | n + 1, w, acc => cT (0 < acc.length ∧ isW d L w [125]) (cT (w + 1 = L.length) 0 (w + 2), acc) (cT (isW d L w [102] ∨ isW d L w [109] ∨ isW d L w [120]) (cT (isP d L (w + 1) 1 ∧ d (we L (w + 1) - 1) = 59) (rdI d L n (w + 2) (acc ++ [(d (wa L w), wa L (w + 1), we L (w + 1) - 1)])) (w + 2, acc)) (w + 1, acc))
noncomputable def rdB (d : Nat → Nat) (L : List (Nat × Nat)) (w : Nat) : Nat × List (Nat × Nat × Nat) := cT (w = L.length) (0, []) (cT (isW d L w [123]) (rdI d L 80 (w + 1) []) (w + 1, []))
noncomputable def rd (d : Nat → Nat) (L : List (Nat × Nat)) : Nat × List (Nat × Nat × Nat) × Nat := cT (srt d L = 3) (1, [], 0) (cT (isW d L 1 tClass) (cT (isP d L 2 0) (cT (isW d L 3 tExt) (cT (isP d L 4 0) ((rdB d L 5).1, (rdB d L 5).2, 1) (5, [], 0)) ((rdB d L 3).1, (rdB d L 3).2, 0)) (3, [], 0)) (2, [], 0))
/-- words of a draft of n letters -/
def GW (L : List (Nat × Nat)) (n : Nat) : Prop := n ≤ 60 ∧ 0 < L.length ∧ L.length ≤ n + 1 ∧ (∀ w, w < L.length → wa L w ≤ we L w ∧ we L w ≤ n) ∧ (∀ w, w + 1 < L.length → wa L (w + 1) = we L w + 1)
theorem wds_GW (d : Nat → Nat) {n : Nat} (hn : n ≤ 60) : GW (wds d n) n := ⟨hn, wk_ne d n, wds_g d n⟩
section
variable {m : sk_M} {N : Nat} {d : Nat → Nat} {n : Nat} {L : List (Nat × Nat)}
theorem m_isW (hd : DR m d n) (hW : WM m L) (hL : GW L n) (hN : 80 < N) {w : Nat} {t : List Nat} {c : Int64} (hw : w < 2 ^ 31) (hc : c = lN (cp t t.length)) (ht0 : 0 < t.length) (ht : ∀ i, i < t.length → 0 < t.getD i 0 ∧ t.getD i 0 < 128) (h8 : t.length ≤ 8) : Ev (M_isWord N m (nI w) c) (fun r => (r = 0 ∧ ¬ isW d L w t) ∨ (r = 1 ∧ isW d L w t)) := by
  obtain ⟨g0, g1, g2, g3, g4⟩ := hL
  by_cases h : w < L.length
  · refine (m_isWord hd hN hc ht0 ht h8 h (by omega) hW.1 (hW.2 w h).1 (hW.2 w h).2 (g3 w h).1 (g3 w h).2).mono (fun r hr => ?_)
    rcases hr with ⟨h1, h2⟩ | ⟨h1, h2⟩
    · exact Or.inl ⟨h1, fun q => h2 q.2⟩
    · exact Or.inr ⟨h1, h, h2⟩
  · unfold M_isWord
    refine ev_lt w L.length (hv := hW.1) (fun q => absurd q h) (fun _ => ev_some (Or.inl ⟨rfl, fun q => h q.1⟩))
theorem m_isPattern (hd : DR m d n) (hW : WM m L) (hL : GW L n) (hN : 80 < N) {w less : Nat} (hw : w < 2 ^ 31) (hl : less ≤ 1) : Ev (M_isPattern N m (nI w) (nI less)) (fun r => (r = 0 ∧ ¬ isP d L w less) ∨ (r = 1 ∧ isP d L w less)) := by
  obtain ⟨g0, g1, g2, g3, g4⟩ := hL
  unfold M_isPattern
  refine ev_le L.length w (hu := hW.1) (fun h => ev_some (Or.inl ⟨rfl, fun q => by have := q.1; omega⟩)) (fun h => ?_)
  obtain ⟨w1, w2⟩ := hW.2 w h
  obtain ⟨a1, a2⟩ := g3 w h
  refine ev_rI (by omega) (by decide) ?_
  refine ev_rI (by omega) (by decide) ?_
  rw [w1, w2]
  by_cases h0 : we L w < less
  · rw [if_neg]
    · exact ev_some (Or.inl ⟨rfl, fun q => by have := q.2.1; omega⟩)
    · rw [show we L w = 0 by omega, show less = 1 by omega, show wa L w = 0 by omega]; decide
  · have e : nI (we L w) - nI less = nI (we L w - less) := pk_sub (by omega)
    refine ev_lt (wa L w) (we L w - less) (hv := e) (fun h1 => ?_) (fun h1 => ev_some (Or.inl ⟨rfl, fun q => by have := q.2.1; omega⟩))
    refine ev_rI (by omega) (by decide) ?_
    rw [w1]
    refine ev_lp (fun k z => ∃ j, z = (nI w, nI less, nI j) ∧ j + k = we L w - less ∧ wa L w ≤ j ∧ ∀ i, i < j → wa L w ≤ i → ¬ d i = 59 ∧ ¬ d i = 123 ∧ ¬ d i = 125) ?_ N (we L w - less - wa L w) _ (by omega) ⟨wa L w, rfl, by omega, by omega, fun i h => by omega⟩
    rintro k z self ⟨j, rfl, hk, haj, hj⟩ ih
    unfold M_isPattern_L34
    dsimp only
    refine ev_rI (by omega) (by decide) ?_
    rw [w2]
    refine ev_le (we L w - less) j (hu := e) (fun h2 => ev_some (Or.inr ⟨rfl, h, h1, fun i hi => hj i (by omega)⟩)) (fun h2 => ?_)
    obtain ⟨d1, d2, d3⟩ := hd.2.2 j (by omega)
    refine ev_rI (by omega) (by decide) ?_
    refine ev_qn (d j) 59 (hu := d1) (fun h3 => ev_some (Or.inl ⟨rfl, fun q => (q.2.2 j h2 haj).1 h3⟩)) (fun h3 => ?_)
    refine ev_rI (by omega) (by decide) ?_
    refine ev_qn (d j) 123 (hu := d1) (fun h4 => ev_some (Or.inl ⟨rfl, fun q => (q.2.2 j h2 haj).2.1 h4⟩)) (fun h4 => ?_)
    refine ev_rI (by omega) (by decide) ?_
    refine ev_qn (d j) 125 (hu := d1) (fun h5 => ev_some (Or.inl ⟨rfl, fun q => (q.2.2 j h2 haj).2.2 h5⟩)) (fun h5 => ?_)
    rw [nI_1]
    refine ih (k - 1) _ (by omega) ⟨j + 1, rfl, by omega, by omega, fun i hi hai => ?_⟩
    rcases Nat.lt_or_ge i j with q | q
    · exact hj i q hai
    · rw [show i = j by omega]; exact ⟨h3, h4, h5⟩
theorem m_isMembers (hd : DR m d n) {a : Nat} (ha : a + 7 ≤ n) : Ev (M_isMembers m (nI a)) (fun r => (r = 0 ∧ ¬ ∀ i, i < 7 → d (a + i) = ([109, 101, 109, 98, 101, 114, 115] : List Nat).getD i 0) ∨ (r = 1 ∧ ∀ i, i < 7 → d (a + i) = ([109, 101, 109, 98, 101, 114, 115] : List Nat).getD i 0)) := by
  have hn := hd.2.1
  have D := fun k (hk : k < n) => hd.2.2 k hk
  unfold M_isMembers
  have no : ∀ k x, k < 7 → ([109, 101, 109, 98, 101, 114, 115] : List Nat).getD k 0 = x → ¬ d (a + k) = x → Ev (some (0 : Int32)) (fun r => (r = 0 ∧ ¬ ∀ i, i < 7 → d (a + i) = ([109, 101, 109, 98, 101, 114, 115] : List Nat).getD i 0) ∨ (r = 1 ∧ ∀ i, i < 7 → d (a + i) = ([109, 101, 109, 98, 101, 114, 115] : List Nat).getD i 0)) := fun k x hk hx hno => ev_some (Or.inl ⟨rfl, fun h => hno ((h k hk).trans hx)⟩)
  refine ev_rI (by omega) (by decide) ?_
  refine ev_qn (d (a + 0)) 109 (hu := (D _ (by omega)).1) (fun h0 => ?_) (fun h => no 0 109 (by omega) rfl h) (ha := by have := D (a + 0) (by omega); omega)
  rw [show nI a + 1 = nI (a + 1) from nI_add a 1]
  refine ev_rI (by omega) (by decide) ?_
  refine ev_qn (d (a + 1)) 101 (hu := (D _ (by omega)).1) (fun h1 => ?_) (fun h => no 1 101 (by omega) rfl h) (ha := by have := D (a + 1) (by omega); omega)
  rw [show nI a + 2 = nI (a + 2) from nI_add a 2]
  refine ev_rI (by omega) (by decide) ?_
  refine ev_qn (d (a + 2)) 109 (hu := (D _ (by omega)).1) (fun h2 => ?_) (fun h => no 2 109 (by omega) rfl h) (ha := by have := D (a + 2) (by omega); omega)
  rw [show nI a + 3 = nI (a + 3) from nI_add a 3]
  refine ev_rI (by omega) (by decide) ?_
  refine ev_qn (d (a + 3)) 98 (hu := (D _ (by omega)).1) (fun h3 => ?_) (fun h => no 3 98 (by omega) rfl h) (ha := by have := D (a + 3) (by omega); omega)
  rw [show nI a + 4 = nI (a + 4) from nI_add a 4]
  refine ev_rI (by omega) (by decide) ?_
  refine ev_qn (d (a + 4)) 101 (hu := (D _ (by omega)).1) (fun h4 => ?_) (fun h => no 4 101 (by omega) rfl h) (ha := by have := D (a + 4) (by omega); omega)
  rw [show nI a + 5 = nI (a + 5) from nI_add a 5]
  refine ev_rI (by omega) (by decide) ?_
  refine ev_qn (d (a + 5)) 114 (hu := (D _ (by omega)).1) (fun h5 => ?_) (fun h => no 5 114 (by omega) rfl h) (ha := by have := D (a + 5) (by omega); omega)
  rw [show nI a + 6 = nI (a + 6) from nI_add a 6]
  refine ev_rI (by omega) (by decide) ?_
  refine ev_qn (d (a + 6)) 115 (hu := (D _ (by omega)).1) (fun h6 => ?_) (fun h => no 6 115 (by omega) rfl h) (ha := by have := D (a + 6) (by omega); omega)
  refine ev_some (Or.inr ⟨rfl, fun i hi => ?_⟩)
  rcases (show i = 0 ∨ i = 1 ∨ i = 2 ∨ i = 3 ∨ i = 4 ∨ i = 5 ∨ i = 6 by omega) with rfl | rfl | rfl | rfl | rfl | rfl | rfl <;> assumption
theorem eqW_app {a e : Nat} {t u : List Nat} : eqW d a e (t ++ u) ↔ (∀ i, i < t.length → d (a + i) = t.getD i 0) ∧ t.length ≤ e - a ∧ eqW d (a + t.length) e u := by
  have gl : ∀ i, i < t.length → (t ++ u).getD i 0 = t.getD i 0 := fun i hi => by rw [List.getD_eq_getElem?_getD, List.getElem?_append_left hi, List.getD_eq_getElem?_getD]
  have gr : ∀ i, (t ++ u).getD (t.length + i) 0 = u.getD i 0 := fun i => by rw [List.getD_eq_getElem?_getD, List.getElem?_append_right (by omega), List.getD_eq_getElem?_getD]; congr 2; omega
  unfold eqW
  rw [List.length_append]
  constructor
  · rintro ⟨h1, h2⟩
    refine ⟨fun i hi => ?_, by omega, by omega, fun i hi => ?_⟩
    · rw [h2 i (by omega), gl i hi]
    · rw [show a + t.length + i = a + (t.length + i) by omega, h2 _ (by omega), gr]
  · rintro ⟨h1, h2, h3, h4⟩
    refine ⟨by omega, fun i hi => ?_⟩
    rcases Nat.lt_or_ge i t.length with q | q
    · rw [h1 i q, gl i q]
    · obtain ⟨j, rfl⟩ : ∃ j, i = t.length + j := ⟨i - t.length, by omega⟩
      rw [gr, ← h4 j (by omega), show a + t.length + j = a + (t.length + j) by omega]
theorem lts (t : List Nat) (h : t.all (fun x => decide (0 < x ∧ x < 128)) = true) : ∀ i, i < t.length → 0 < t.getD i 0 ∧ t.getD i 0 < 128 := by
  intro i hi
  rw [List.getD_eq_getElem?_getD, List.getElem?_eq_getElem hi]
  have := List.all_eq_true.mp h _ (List.getElem_mem hi)
  simpa using this
theorem m_sortOf (hd : DR m d n) (hW : WM m L) (hL : GW L n) (hN : 80 < N) : Ev (M_sortOf N m) (fun z => z.1 = (if srt d L = 3 then -1 else nI (srt d L)) ∧ WM z.2 L ∧ Mw m z.2) := by
  obtain ⟨g0, g1, g2, g3, g4⟩ := hL
  obtain ⟨w1, w2⟩ := hW.2 0 g1
  obtain ⟨a1, a2⟩ := g3 0 g1
  unfold M_sortOf
  refine ev_oR (m_isW hd hW ⟨g0, g1, g2, g3, g4⟩ hN (w := 0) (t := tKeep) (by omega) (by decide +kernel) (by decide) (lts _ (by decide)) (by decide)) (fun v hv => ?_)
  rcases hv with ⟨rfl, hv⟩ | ⟨rfl, hv⟩
  · rw [if_pos rfl, hW.1, if_neg (fun h => by have := (nI_z (by omega)).mp h; omega)]
    refine ev_rI (i := 0) (by decide) (by decide) ?_
    refine ev_rI (i := 0) (by decide) (by decide) ?_
    rw [w1, w2]
    have no : (¬ isW d L 0 tKN) → (¬ isW d L 0 tKM) → srt d L = 3 := fun h1 h2 => by unfold srt; rw [cT_n hv, cT_n h1, cT_n h2]
    have bad : ∀ m', (¬ isW d L 0 tKN) → (¬ isW d L 0 tKM) → WM m' L → Mw m m' → Ev (some ((-1 : Int32), m')) (fun z => z.1 = (if srt d L = 3 then -1 else nI (srt d L)) ∧ WM z.2 L ∧ Mw m z.2) := fun m' h1 h2 h3 h4 => ev_some ⟨by rw [if_pos (no h1 h2)], h3, h4⟩
    refine ev_le 9 (we L 0 - wa L 0) (hv := pk_sub a1) (fun h9 => ?_) (fun h9 => bad m (fun h => ?_) (fun h => ?_) hW (fun _ _ _ _ _ => rfl))
    · refine ev_rI (i := 0) (by decide) (by decide) ?_
      refine ev_rI (i := 0) (by decide) (by decide) ?_
      rw [w1, w2, show M_fourOf 107 101 101 112 = lN (cp tKeep 4) by decide +kernel, show M_code (M_fourOf 110 97 109 101) 115 = lN (cp [110, 97, 109, 101, 115] 5) by decide +kernel]
      have pre : ∀ u, isW d L 0 (tKeep ++ u) → ∀ i, i < 4 → d (wa L 0 + i) = tKeep.getD i 0 := fun u h => (eqW_app.mp h.2).1
      refine ev_lp (fun k z => ∃ j, z = (m, lN (cp [110, 97, 109, 101, 115] 5), lN (cp tKeep (4 - j)), nI (wa L 0), nI (we L 0), nI (4 - j) - 1) ∧ j + k = 4 ∧ ∀ i, i < 4 → 4 - j ≤ i → d (wa L 0 + i) = tKeep.getD i 0) ?_ N 4 _ (by omega) ⟨0, rfl, by omega, fun i h1 h2 => by omega⟩
      rintro k z self ⟨j, rfl, hk, hj⟩ ih
      unfold M_sortOf_L89
      dsimp only
      by_cases hj4 : j = 4
      · subst hj4
        rw [if_pos (by decide)]
        unfold M_sortOf_J131
        have p4 : ∀ i, i < 4 → d (wa L 0 + i) = tKeep.getD i 0 := fun i hi => hj i hi (by omega)
        rw [show nI (wa L 0) + 4 = nI (wa L 0 + 4) from nI_add _ 4]
        refine ev_wI (i := 0) (by decide) (by decide) ?_
        have t1 : Mw m (sk_wi m 30 0 (nI (wa L 0 + 4))) := fun q i h1 h2 h3 => by rw [pu_wi1, if_neg (by omega)]
        have hd1 := t1.dr hd
        refine ev_oR (m_isWord hd1 hN (w := 0) (W := L.length) (a := wa L 0 + 4) (e := we L 0) (t := [110, 97, 109, 101, 115]) rfl (by decide) (lts _ (by decide)) (by decide) g1 (by omega) (by rw [pu_wi1, if_neg (by omega)]; exact hW.1) (by rw [pu_wi1, if_pos ⟨rfl, rfl⟩]) (by rw [pu_wi1, if_neg (by omega)]; exact w2) (by omega) a2) (fun v2 hv2 => ?_)
        have isn : isW d L 0 tKN ↔ eqW d (wa L 0 + 4) (we L 0) [110, 97, 109, 101, 115] := ⟨fun h => (eqW_app (t := tKeep).mp h.2).2.2, fun h => ⟨g1, (eqW_app (t := tKeep)).mpr ⟨p4, by show 4 ≤ _; omega, h⟩⟩⟩
        have ism : isW d L 0 tKM ↔ eqW d (wa L 0 + 4) (we L 0) [109, 101, 109, 98, 101, 114, 115] := ⟨fun h => (eqW_app (t := tKeep).mp h.2).2.2, fun h => ⟨g1, (eqW_app (t := tKeep)).mpr ⟨p4, by show 4 ≤ _; omega, h⟩⟩⟩
        have J175 : ∀ s, (s = 0 ∧ ¬ isW d L 0 tKM) ∨ (s = 1 ∧ isW d L 0 tKM) → Ev (M_sortOf_J175 N (sk_wi m 30 0 (nI (wa L 0 + 4))) (nI (wa L 0)) v2 s) (fun z => z.1 = (if srt d L = 3 then -1 else nI (srt d L)) ∧ WM z.2 L ∧ Mw m z.2) := by
          intro s hs
          unfold M_sortOf_J175
          refine ev_wI (i := 0) (by decide) (by decide) ?_
          have hW2 : WM (sk_wi (sk_wi m 30 0 (nI (wa L 0 + 4))) 30 0 (nI (wa L 0))) L := by
            refine ⟨by rw [pu_wi1, if_neg (by omega), pu_wi1, if_neg (by omega)]; exact hW.1, fun w hw => ⟨?_, by rw [pu_wi1, if_neg (by omega), pu_wi1, if_neg (by omega)]; exact (hW.2 w hw).2⟩⟩
            by_cases q : w = 0
            · subst q; rw [pu_wi1, if_pos ⟨rfl, rfl⟩]
            · rw [pu_wi1, if_neg (by omega), pu_wi1, if_neg (by omega)]; exact (hW.2 w hw).1
          have hM2 : Mw m (sk_wi (sk_wi m 30 0 (nI (wa L 0 + 4))) 30 0 (nI (wa L 0))) := fun q i h1 h2 h3 => by rw [pu_wi1, if_neg (by omega), pu_wi1, if_neg (by omega)]
          rcases hv2 with ⟨rfl, hv2⟩ | ⟨rfl, hv2⟩
          · rw [if_pos rfl]
            rcases hs with ⟨rfl, hs⟩ | ⟨rfl, hs⟩
            · rw [if_pos rfl]
              exact bad _ (fun h => hv2 (isn.mp h)) hs hW2 hM2
            · rw [if_neg (by decide)]
              have e : srt d L = 2 := by unfold srt; rw [cT_n hv, cT_n (fun h => hv2 (isn.mp h)), cT_y hs]
              exact ev_some ⟨by rw [e]; rfl, hW2, hM2⟩
          · rw [if_neg (by decide)]
            have e : srt d L = 1 := by unfold srt; rw [cT_n hv, cT_y (isn.mpr hv2)]
            exact ev_some ⟨by rw [e]; rfl, hW2, hM2⟩
        refine ev_qn (we L 0 - wa L 0) 11 (hu := pk_sub a1) (fun h11 => ?_) (fun h11 => ?_)
        · refine ev_oR (m_isMembers hd1 (a := wa L 0 + 4) (by omega)) (fun v3 hv3 => ?_)
          rcases hv3 with ⟨rfl, hv3⟩ | ⟨rfl, hv3⟩
          · rw [if_pos rfl]
            unfold M_sortOf_J174
            exact J175 0 (Or.inl ⟨rfl, fun h => hv3 (ism.mp h).2⟩)
          · rw [if_neg (by decide)]
            exact J175 1 (Or.inr ⟨rfl, ism.mpr ⟨by show _ = 7; omega, hv3⟩⟩)
        · unfold M_sortOf_J174
          exact J175 0 (Or.inl ⟨rfl, fun h => h11 (by have := (ism.mp h).1; have e7 : ([109, 101, 109, 98, 101, 114, 115] : List Nat).length = 7 := rfl; omega)⟩)
      · have hj4 : j < 4 := by omega
        rw [nI_m1 (by omega), if_neg (nI_pos (by omega)), nI_add]
        obtain ⟨d1, d2, d3⟩ := hd.2.2 (wa L 0 + (4 - j - 1)) (by omega)
        refine ev_rI (by omega) (by decide) ?_
        have tl : ∀ i, i < 4 → tKeep.getD i 0 < 128 := by decide
        have ec : cp tKeep (4 - j) = cp tKeep (4 - (j + 1)) * 128 + tKeep.getD (4 - j - 1) 0 := by
          rw [show 4 - j = (4 - (j + 1)) + 1 by omega]
          simp only [cp]
          rw [show 4 - (j + 1) + 1 - 1 = 4 - (j + 1) by omega]
        have b := tl (4 - j - 1) (by omega)
        have bl : cp tKeep (4 - j) < 2 ^ 63 := Nat.lt_of_lt_of_le (cp_lt (lts _ (by decide)) (4 - j) (by show _ ≤ 4; omega)) (Nat.le_trans (Nat.pow_le_pow_right (by decide) (show 4 - j ≤ 8 by omega)) (by decide))
        rw [d1, show (128 : Int64) = lN 128 from rfl, pk_lRem bl (by omega) (by omega), pk_lDiv bl (by omega) (by omega), show cp tKeep (4 - j) % 128 = tKeep.getD (4 - j - 1) 0 by omega, show cp tKeep (4 - j) / 128 = cp tKeep (4 - (j + 1)) by omega]
        refine ev_if (fun h => ?_) (fun h => bad m (fun q => h ((lgi (by omega) (by omega)).mpr (pre [110, 97, 109, 101, 115] q _ (by omega)))) (fun q => h ((lgi (by omega) (by omega)).mpr (pre [109, 101, 109, 98, 101, 114, 115] q _ (by omega)))) hW (fun _ _ _ _ _ => rfl))
        have h := (lgi (by omega) (by omega)).mp h
        rw [show nI (4 - j - 1) + -1 = nI (4 - (j + 1)) - 1 by rw [show 4 - (j + 1) = 4 - j - 1 by omega]; exact (Int32.sub_eq_add_neg ..).symm]
        refine ih (k - 1) _ (by omega) ⟨j + 1, rfl, by omega, fun i h1 h2 => ?_⟩
        rcases Nat.lt_or_ge i (4 - j) with q | q
        · rw [show i = 4 - j - 1 by omega]; exact h
        · exact hj i h1 q
    · have := h.2.1; have e9 : tKN.length = 9 := rfl; omega
    · have := h.2.1; have e9 : tKM.length = 11 := rfl; omega
  · rw [if_neg (by decide)]
    have e : srt d L = 0 := by unfold srt; rw [cT_y hv]
    exact ev_some ⟨by rw [e]; rfl, hW, fun _ _ _ _ _ => rfl⟩
end
