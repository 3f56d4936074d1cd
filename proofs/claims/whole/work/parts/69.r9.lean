/-! THE CLASS READS A RULE: its body, all of it -/
def Kz (k k' : sk_M) : Prop := (∀ q i, ¬ (q = 0 ∧ i = 2) → q ≠ 15 → k'.1 q i = k.1 q i) ∧ ∀ q i, ¬ (q = 0 ∧ i = 10) → k'.2 q i = k.2 q i
theorem Kz.rf {k : sk_M} : Kz k k := ⟨fun _ _ _ _ => rfl, fun _ _ _ => rfl⟩
theorem Kz.tr {k k' k'' : sk_M} (h : Kz k k') (h' : Kz k' k'') : Kz k k'' := ⟨fun q i a b => (h'.1 q i a b).trans (h.1 q i a b), fun q i a => (h'.2 q i a).trans (h.2 q i a)⟩
theorem Kz.kr {k k' : sk_M} (h : Kz k k') : Kr k k' := ⟨fun q i a b _ _ => h.1 q i (by omega) b, fun q i a => h.2 q i (by omega)⟩
theorem Kx.kz {k k' : sk_M} (h : Kx 2 k k') : Kz k k' := ⟨fun q i a b => h.1 q i (by omega) (by omega), fun q i _ => by rw [h.2]⟩
theorem KW.z {k k' : sk_M} {L : List (Nat × Nat)} (h : KW k L) (e : Kz k k') : KW k' L := h.same (fun q i a => e.1 q i (by omega) (by omega))
/-- the signatures that the items mean -/
def TS (d : Nat → Nat) (s : Int64) (acc : List (Nat × Nat × Nat)) : Prop := ∀ g, lb s g = true ↔ g < 32 ∧ ∃ j, j < acc.length ∧ tFt d (acc.getD j (0, 0, 0)).1 (acc.getD j (0, 0, 0)).2.1 (acc.getD j (0, 0, 0)).2.2 g
theorem TS_nil (d : Nat → Nat) : TS d 0 [] := fun g => by rw [lb_0]; simp
theorem TS_add {d : Nat → Nat} {s t : Int64} {acc : List (Nat × Nat × Nat)} {x : Nat × Nat × Nat} (h : TS d s acc) (ht : ∀ g, lb t g = true ↔ g < 32 ∧ tFt d x.1 x.2.1 x.2.2 g) : TS d (s ||| t) (acc ++ [x]) := fun g => by
  rw [lb_or, Bool.or_eq_true, h, ht]
  constructor
  · rintro (⟨a, j, b, c⟩ | ⟨a, b⟩)
    · exact ⟨a, j, by simp; omega, by rw [gd_lo b]; exact c⟩
    · exact ⟨a, acc.length, by simp, by rw [gd_hi]; exact b⟩
  · rintro ⟨a, j, b, c⟩
    simp only [List.length_append, List.length_cons, List.length_nil] at b
    rcases Nat.lt_or_ge j acc.length with q | q
    · rw [gd_lo q] at c
      exact Or.inl ⟨a, j, q, c⟩
    · rw [show j = acc.length by omega, gd_hi] at c
      exact Or.inr ⟨a, c⟩
section
variable {k : sk_M} {N : Nat} {d : Nat → Nat} {n : Nat} {L : List (Nat × Nat)}
theorem k_items (hd : DK k d n) (hW : KW k L) (hL : GW L n) (hN : 80 < N) {w0 : Nat} (hw0 : w0 ≤ L.length) (h10 : k.2 0 10 = 0) : Ev (sk_lp N (K_RuleReader_readBody_L28 N (fun st v3 => K_RuleReader_readBody_J51 N st v3)) (k, nI (w0 + 1), nI (w0 + 1))) (fun z => z.1 = nI (rdI d L 80 w0 []).1 ∧ Kz k z.2 ∧ TS d (z.2.2 0 10) (rdI d L 80 w0 []).2) := by
  have hL' := hL
  obtain ⟨g0, g1, g2, g3, g4⟩ := hL
  refine ev_lp (fun f z => ∃ st w acc, z = (st, nI (w0 + 1), nI (w + 1)) ∧ f + acc.length = 80 ∧ w = w0 + 2 * acc.length ∧ w ≤ L.length ∧ Kz k st ∧ TS d (st.2 0 10) acc ∧ rdI d L f w acc = rdI d L 80 w0 []) ?_ N 80 _ (by omega) ⟨k, w0, [], rfl, rfl, by simp, hw0, Kz.rf, by rw [h10]; exact TS_nil d, rfl⟩
  rintro f z self ⟨st, w, acc, rfl, hf, hw, hwl, hz, hT, hr⟩ ih
  obtain ⟨f, rfl⟩ : ∃ j, f = j + 1 := ⟨f - 1, by omega⟩
  rw [rdI_s] at hr
  have hds := hz.kr.dk hd
  have hWs := hW.z hz
  unfold K_RuleReader_readBody_L28
  dsimp only
  have no : ∀ t, ¬ w < L.length → ¬ isW d L w t := fun t h z => h z.1
  refine ev_lt L.length (w + 1) (hu := hWs.1) (fun h => ?_) (fun h => ?_)
  · have hn : ¬ w < L.length := by omega
    rw [cT_n (fun z => no _ hn z.2), cT_n (fun z => by rcases z with z | z | z <;> exact no _ hn z)] at hr
    rw [hWs.1, nI_1]
    refine ev_some ⟨?_, hz, by rw [← hr]; exact hT⟩
    rw [← hr]
    show nI (L.length + 1) = nI (w + 1)
    rw [show L.length = w by omega]
  have hwn : w < L.length := by omega
  have J99 : (isW d L w [102] ∨ isW d L w [109] ∨ isW d L w [120]) → ¬ (0 < acc.length ∧ isW d L w [125]) → Ev (K_RuleReader_readBody_J99 N (fun st v3 => K_RuleReader_readBody_J51 N st v3) self st (nI (w0 + 1)) (nI (w + 1))) (fun z => z.1 = nI (rdI d L 80 w0 []).1 ∧ Kz k z.2 ∧ TS d (z.2.2 0 10) (rdI d L 80 w0 []).2) := by
    intro hs hnb
    rw [cT_n hnb, cT_y hs] at hr
    unfold K_RuleReader_readBody_J99
    rw [nI_1]
    have bad : ¬ (isP d L (w + 1) 1 ∧ d (we L (w + 1) - 1) = 59) → Ev (some (nI (w + 1 + 1), st)) (fun z => z.1 = nI (rdI d L 80 w0 []).1 ∧ Kz k z.2 ∧ TS d (z.2.2 0 10) (rdI d L 80 w0 []).2) := fun h => by
      rw [cT_n h] at hr
      exact ev_some ⟨by rw [← hr], hz, by rw [← hr]; exact hT⟩
    refine ev_oR (k_endsClause hds hWs hL' (w := w + 1) (by omega)) (fun r h1 => ?_)
    rcases h1 with ⟨rfl, h1⟩ | ⟨rfl, h1⟩
    · rw [if_pos rfl]
      exact bad (fun z => h1 ⟨z.1.1, by have := z.1.2.1; omega, z.2⟩)
    rw [if_neg (by decide)]
    refine ev_oR (k_isPattern hds hWs hL' hN (w := w + 1) (less := 1) (by omega) (by omega)) (fun r h2 => ?_)
    rcases h2 with ⟨rfl, h2⟩ | ⟨rfl, h2⟩
    · rw [if_pos rfl]
      exact bad (fun z => h2 z.1)
    rw [if_neg (by decide)]
    rw [cT_y ⟨h2, h1.2.2⟩] at hr
    refine ev_oW (k_textsFit hds hWs hL' hN (w := w) h2.1 hs h2) (fun t k2 h3 => ?_)
    refine ev_fL ?_
    rw [show nI (w + 1) + 2 = nI (w + 2 + 1) from nI_add (w + 1) 2]
    have h2l := h2.1
    refine ih f _ (by omega) ⟨_, w + 2, _, rfl, by simp; omega, by simp; omega, by omega, (hz.tr h3.2.kz).tr ⟨fun _ _ _ _ => rfl, fun q i a => by rw [w2_n (by omega)]⟩, ?_, hr⟩
    rw [w2_s]
    exact TS_add hT h3.1
  have J67 : ¬ (0 < acc.length ∧ isW d L w [125]) → Ev (K_RuleReader_readBody_J67 N (fun st v3 => K_RuleReader_readBody_J51 N st v3) self st (nI (w0 + 1)) (nI (w + 1))) (fun z => z.1 = nI (rdI d L 80 w0 []).1 ∧ Kz k z.2 ∧ TS d (z.2.2 0 10) (rdI d L 80 w0 []).2) := by
    intro hnb
    unfold K_RuleReader_readBody_J67
    refine ev_oR (k_reads hds hWs hL' hN (w := w) (j := 7) (by omega) (by omega)) (fun r h1 => ?_)
    rcases h1 with ⟨rfl, h1⟩ | ⟨rfl, h1⟩
    · rw [if_pos rfl]
      refine ev_oR (k_reads hds hWs hL' hN (w := w) (j := 8) (by omega) (by omega)) (fun r h2 => ?_)
      rcases h2 with ⟨rfl, h2⟩ | ⟨rfl, h2⟩
      · rw [if_pos rfl]
        refine ev_oR (k_reads hds hWs hL' hN (w := w) (j := 9) (by omega) (by omega)) (fun r h3 => ?_)
        rcases h3 with ⟨rfl, h3⟩ | ⟨rfl, h3⟩
        · rw [if_pos rfl]
          rw [cT_n hnb, cT_n (fun z => by rcases z with z | z | z; exact h1 z; exact h2 z; exact h3 z)] at hr
          exact ev_some ⟨by rw [← hr], hz, by rw [← hr]; exact hT⟩
        · rw [if_neg (by decide)]; exact J99 (Or.inr (Or.inr h3)) hnb
      · rw [if_neg (by decide)]; exact J99 (Or.inr (Or.inl h2)) hnb
    · rw [if_neg (by decide)]; exact J99 (Or.inl h1) hnb
  refine ev_le (w + 1) (w0 + 1) (fun h1 => J67 (fun z => by have := z.1; omega)) (fun h1 => ?_)
  refine ev_oR (k_reads hds hWs hL' hN (w := w) (j := 6) (by omega) (by omega)) (fun r h2 => ?_)
  rcases h2 with ⟨rfl, h2⟩ | ⟨rfl, h2⟩
  · rw [if_pos rfl]
    exact J67 (fun z => h2 z.2)
  · rw [if_neg (by decide)]
    rw [cT_y (⟨by omega, h2⟩ : 0 < acc.length ∧ isW d L w [125])] at hr
    unfold K_RuleReader_readBody_J51
    refine ev_le L.length (w + 1) (hu := hWs.1) (fun h3 => ?_) (fun h3 => ?_)
    · rw [cT_y (show w + 1 = L.length by omega)] at hr
      exact ev_some ⟨by rw [← hr]; rfl, hz, by rw [← hr]; exact hT⟩
    · rw [cT_n (show ¬ w + 1 = L.length by omega)] at hr
      rw [nI_1]
      exact ev_some ⟨by rw [← hr], hz, by rw [← hr]; exact hT⟩
theorem k_readBody (hd : DK k d n) (hW : KW k L) (hL : GW L n) (hN : 80 < N) {w : Nat} (hw : w ≤ L.length) (h10 : k.2 0 10 = 0) : Ev (K_RuleReader_readBody N k (nI (w + 1))) (fun z => z.1 = nI (rdB d L w).1 ∧ Kz k z.2 ∧ TS d (z.2.2 0 10) (rdB d L w).2) := by
  have g2 := hL.2.2.1
  have g0 := hL.1
  unfold K_RuleReader_readBody rdB
  refine ev_le (w + 1) L.length (hv := hW.1) (fun h => ?_) (fun h => ?_)
  · rw [cT_n (show ¬ w = L.length by omega)]
    refine ev_oR (k_reads hd hW hL hN (w := w) (j := 5) (by omega) (by omega)) (fun r h1 => ?_)
    rcases h1 with ⟨rfl, h1⟩ | ⟨rfl, h1⟩
    · rw [if_pos rfl, cT_n (show ¬ isW d L w [123] from h1)]
      exact ev_some ⟨rfl, Kz.rf, by rw [h10]; exact TS_nil d⟩
    · rw [if_neg (by decide), cT_y (show isW d L w [123] from h1), nI_1]
      exact k_items hd hW hL hN (by omega) h10
  · rw [cT_y (show w = L.length by omega)]
    exact ev_some ⟨rfl, Kz.rf, by rw [h10]; exact TS_nil d⟩
/-- what a good rule leaves -/
def GR (d : Nat → Nat) (L : List (Nat × Nat)) (k : sk_M) : Prop := k.1 0 9 = nI (srt d L + 1) ∧ (∀ p c, p < 3 → c < 10 → (lb (k.2 0 8) (10 * p + c) = true ↔ fts d (nmx p c) 3 (wa L 2) (we L 2) = true)) ∧ ((rd d L).2.2 = 0 → k.2 0 9 = -1) ∧ ((rd d L).2.2 = 1 → ∀ p c, p < 3 → c < 10 → (lb (k.2 0 9) (10 * p + c) = true ↔ fts d (nmx p c) 3 (wa L 4) (we L 4) = true)) ∧ TS d (k.2 0 10) (rd d L).2.1
theorem k_read (hd : DK k d n) (hN : 80 < N) : Ev (K_RuleReader_read N k) (fun z => z.1 = nI (rd d (wds d n)).1 ∧ Kr k z.2 ∧ ((rd d (wds d n)).1 = 0 → GR d (wds d n) z.2)) := by
  unfold K_RuleReader_read
  refine ev_oR (k_cut hd hN) (fun k1 h1 => ?_)
  obtain ⟨hW1, r1⟩ := h1
  have hL := wds_GW d hd.2.1
  generalize hLe : wds d n = L at *
  have hd1 := r1.dk hd
  have g2 := hL.2.2.1
  have g0 := hL.1
  have hs : Ev (K_RuleReader_sortOfRule N k1) (fun r => r = nI (if srt d L = 3 then 0 else srt d L + 1) ∧ srt d L ≤ 3) := by
    unfold K_RuleReader_sortOfRule srt
    refine ev_oR (k_reads hd1 hW1 hL hN (w := 0) (j := 0) (by omega) (by omega)) (fun r h1 => ?_)
    rcases h1 with ⟨rfl, h1⟩ | ⟨rfl, h1⟩
    · rw [if_pos rfl, cT_n (show ¬ isW d L 0 tKeep from h1)]
      refine ev_oR (k_reads hd1 hW1 hL hN (w := 0) (j := 1) (by omega) (by omega)) (fun r h2 => ?_)
      rcases h2 with ⟨rfl, h2⟩ | ⟨rfl, h2⟩
      · rw [if_pos rfl, cT_n (show ¬ isW d L 0 tKN from h2)]
        refine ev_oR (k_reads hd1 hW1 hL hN (w := 0) (j := 2) (by omega) (by omega)) (fun r h3 => ?_)
        rcases h3 with ⟨rfl, h3⟩ | ⟨rfl, h3⟩
        · rw [if_pos rfl, cT_n (show ¬ isW d L 0 tKM from h3)]; exact ev_some ⟨rfl, by omega⟩
        · rw [if_neg (by decide), cT_y (show isW d L 0 tKM from h3)]; exact ev_some ⟨rfl, by omega⟩
      · rw [if_neg (by decide), cT_y (show isW d L 0 tKN from h2)]; exact ev_some ⟨rfl, by omega⟩
    · rw [if_neg (by decide), cT_y (show isW d L 0 tKeep from h1)]; exact ev_some ⟨rfl, by omega⟩
  refine ev_oR hs (fun r hr => ?_)
  obtain ⟨rfl, hs3⟩ := hr
  refine ev_fI ?_
  obtain ⟨k2, e2⟩ : ∃ s, s = sk_wi k1 0 9 (nI (if srt d L = 3 then 0 else srt d L + 1)) := ⟨_, rfl⟩
  rw [← e2]
  have e9 : k2.1 0 9 = nI (if srt d L = 3 then 0 else srt d L + 1) := by rw [e2, w1_s]
  have r2 : Kr k1 k2 := ⟨fun q i a _ _ _ => by rw [e2, w1_n (by omega)], fun q i _ => by rw [e2]; rfl⟩
  have rk2 := r1.tr r2
  have hd2 := r2.dk hd1
  have hW2 : KW k2 L := hW1.same (fun q i a => by rw [e2, w1_n (by omega)])
  have bad : ∀ v : Nat, (rd d L).1 = v → v ≠ 0 → Ev (some (nI v, k2)) (fun z => z.1 = nI (rd d L).1 ∧ Kr k z.2 ∧ ((rd d L).1 = 0 → GR d L z.2)) := fun v h h0 => ev_some ⟨by rw [h], rk2, fun z => absurd (h.symm.trans z) h0⟩
  refine ev_qn (if srt d L = 3 then 0 else srt d L + 1) 0 (hu := e9) (fun h => ?_) (fun h => ?_) (ha := by split <;> omega)
  · have h3 : srt d L = 3 := by
      rcases Nat.lt_or_ge (srt d L) 3 with q | q
      · rw [if_neg (by omega)] at h; omega
      · omega
    exact bad 1 (by unfold rd; rw [cT_y h3]) (by omega)
  have h3 : ¬ srt d L = 3 := fun z => h (by rw [if_pos z])
  rw [if_neg h3] at e9
  refine ev_oR (k_reads hd2 hW2 hL hN (w := 1) (j := 3) (by omega) (by omega)) (fun r h4 => ?_)
  rcases h4 with ⟨rfl, h4⟩ | ⟨rfl, h4⟩
  · rw [if_pos rfl]
    exact bad 2 (by unfold rd; rw [cT_n h3, cT_n (show ¬ isW d L 1 tClass from h4)]) (by omega)
  rw [if_neg (by decide)]
  refine ev_oR (k_isPattern hd2 hW2 hL hN (w := 2) (less := 0) (by omega) (by omega)) (fun r h5 => ?_)
  rcases h5 with ⟨rfl, h5⟩ | ⟨rfl, h5⟩
  · rw [if_pos rfl]
    exact bad 3 (by unfold rd; rw [cT_n h3, cT_y (show isW d L 1 tClass from h4), cT_n h5]) (by omega)
  rw [if_neg (by decide)]
  have h52 := h5.1
  have J : ∀ (u : Nat), u ≤ 1 → (u = 1 → 4 < L.length) → rd d L = ((rdB d L (if u = 1 then 5 else 3)).1, (rdB d L (if u = 1 then 5 else 3)).2, u) → Ev (K_RuleReader_read_J67 N k2 (nI u)) (fun z => z.1 = nI (rd d L).1 ∧ Kr k z.2 ∧ ((rd d L).1 = 0 → GR d L z.2)) := by
    intro u hu hu4 hrd
    unfold K_RuleReader_read_J67
    refine ev_oW (k_namesFit hd2 hW2 hL hN (w := 2) h52) (fun s k3 h6 => ?_)
    refine ev_fL ?_
    obtain ⟨k4, e4⟩ : ∃ x, x = sk_wl k3 0 8 s := ⟨_, rfl⟩
    rw [← e4]
    have z4 : Kr k2 k4 := h6.2.kr.tr ⟨fun _ _ _ _ _ _ => by rw [e4]; rfl, fun q i a => by rw [e4, w2_n (by omega)]⟩
    have hW4 : KW k4 L := (hW2.x h6.2).same (fun q i _ => by rw [e4]; rfl)
    have e84 : k4.2 0 8 = s := by rw [e4, w2_s]
    have e94 : k4.1 0 9 = nI (srt d L + 1) := by rw [e4]; show k3.1 0 9 = _; rw [h6.2.1 0 9 (by omega) (by omega)]; exact e9
    have J92 : ∀ (k5 : sk_M) (t : Int64), Kx 2 k4 k5 → (u = 0 → t = -1) → (u = 1 → ∀ p c, p < 3 → c < 10 → (lb t (10 * p + c) = true ↔ fts d (nmx p c) 3 (wa L 4) (we L 4) = true)) → Ev (K_RuleReader_read_J92 N k5 (nI u) t) (fun z => z.1 = nI (rd d L).1 ∧ Kr k z.2 ∧ ((rd d L).1 = 0 → GR d L z.2)) := by
      intro k5 t x5 ht0 ht1
      unfold K_RuleReader_read_J92
      refine ev_fL ?_
      refine ev_fL ?_
      obtain ⟨k6, e6⟩ : ∃ x, x = sk_wl (sk_wl k5 0 9 t) 0 10 0 := ⟨_, rfl⟩
      rw [← e6]
      have z6 : Kr k k6 := ((rk2.tr z4).tr x5.kr).tr ⟨fun _ _ _ _ _ _ => by rw [e6]; rfl, fun q i a => by rw [e6, w2_n (by omega), w2_n (by omega)]⟩
      have hd6 := z6.dk hd
      have hW6 : KW k6 L := (hW4.x x5).same (fun q i _ => by rw [e6]; rfl)
      have e86 : k6.2 0 8 = s := by rw [e6, w2_n (by omega), w2_n (by omega), x5.2]; exact e84
      have e96 : k6.2 0 9 = t := by rw [e6, w2_n (by omega), w2_s]
      have e06 : k6.2 0 10 = 0 := by rw [e6, w2_s]
      have i96 : k6.1 0 9 = nI (srt d L + 1) := by rw [e6]; show k5.1 0 9 = _; rw [x5.1 0 9 (by omega) (by omega)]; exact e94
      have fin : ∀ w, w ≤ L.length → w = (if u = 1 then 5 else 3) → Ev (K_RuleReader_read_J111 N k6 (nI (w + 1))) (fun z => z.1 = nI (rd d L).1 ∧ Kr k z.2 ∧ ((rd d L).1 = 0 → GR d L z.2)) := fun w hw hwu => by
        unfold K_RuleReader_read_J111
        refine ev_oW (k_readBody hd6 hW6 hL hN hw e06) (fun r k7 h7 => ev_some ⟨?_, z6.tr h7.2.1.kr, fun _ => ⟨?_, ?_, ?_, ?_, ?_⟩⟩)
        · rw [hrd, ← hwu]; exact h7.1
        · rw [h7.2.1.1 0 9 (by omega) (by omega)]; exact i96
        · intro p c hp hc
          rw [h7.2.1.2 0 8 (by omega), e86]
          exact h6.1 p c hp hc
        · intro h0
          rw [hrd] at h0
          rw [h7.2.1.2 0 9 (by omega), e96]
          exact ht0 h0
        · intro h0 p c hp hc
          rw [hrd] at h0
          rw [h7.2.1.2 0 9 (by omega), e96]
          exact ht1 h0 p c hp hc
        · rw [hrd]
          show TS d _ (rdB d L (if u = 1 then 5 else 3)).2
          rw [← hwu]
          exact h7.2.2
      refine ev_qn u 0 (fun h => fin 3 (by omega) (by rw [if_neg (by omega)])) (fun h => fin 5 (by have := hu4 (by omega); omega) (by rw [if_pos (by omega)]))
    refine ev_qn u 0 (fun h => J92 k4 (-1) Kx.rf (fun _ => rfl) (fun z => by omega)) (fun h => ?_)
    refine ev_oW (k_namesFit (z4.dk hd2) hW4 hL hN (w := 4) (hu4 (by omega))) (fun t k5 h7 => J92 k5 t h7.2 (fun z => by omega) (fun _ => h7.1))
  refine ev_oR (k_reads hd2 hW2 hL hN (w := 3) (j := 4) (by omega) (by omega)) (fun r h6 => ?_)
  rcases h6 with ⟨rfl, h6⟩ | ⟨rfl, h6⟩
  · rw [if_pos rfl]
    exact J 0 (by omega) (fun z => by omega) (by
      show _ = ((rdB d L 3).1, (rdB d L 3).2, 0)
      unfold rd; rw [cT_n h3, cT_y (show isW d L 1 tClass from h4), cT_y h5, cT_n (show ¬ isW d L 3 tExt from h6)])
  rw [if_neg (by decide)]
  refine ev_oR (k_isPattern hd2 hW2 hL hN (w := 4) (less := 0) (by omega) (by omega)) (fun r h7 => ?_)
  rcases h7 with ⟨rfl, h7⟩ | ⟨rfl, h7⟩
  · rw [if_pos rfl]
    exact bad 5 (by unfold rd; rw [cT_n h3, cT_y (show isW d L 1 tClass from h4), cT_y h5, cT_y (show isW d L 3 tExt from h6), cT_n h7]) (by omega)
  rw [if_neg (by decide)]
  exact J 1 (by omega) (fun _ => h7.1) (by
    show _ = ((rdB d L 5).1, (rdB d L 5).2, 1)
    unfold rd; rw [cT_n h3, cT_y (show isW d L 1 tClass from h4), cT_y h5, cT_y (show isW d L 3 tExt from h6), cT_y h7])
end
