/-! THE CLASS READS A RULE: words, patterns -/
def DK (k : sk_M) (d : Nat → Nat) (n : Nat) : Prop := k.1 0 0 = nI n ∧ n ≤ 60 ∧ ∀ j, j < n → k.1 13 j = nI (d j) ∧ 32 ≤ d j ∧ d j ≤ 126
def KW (k : sk_M) (L : List (Nat × Nat)) : Prop := k.1 0 8 = nI L.length ∧ ∀ w, w < L.length → k.1 33 (w + 1) = nI (wa L w) ∧ k.1 34 (w + 1) = nI (we L w)
/-- only cells of the reader have changed -/
def Kr (k k' : sk_M) : Prop := (∀ q i, ¬ (q = 0 ∧ (i = 2 ∨ i = 8 ∨ i = 9)) → q ≠ 15 → q ≠ 33 → q ≠ 34 → k'.1 q i = k.1 q i) ∧ ∀ q i, ¬ (q = 0 ∧ 8 ≤ i ∧ i ≤ 10) → k'.2 q i = k.2 q i
theorem Kr.rf {k : sk_M} : Kr k k := ⟨fun _ _ _ _ _ _ => rfl, fun _ _ _ => rfl⟩
theorem Kr.tr {k k' k'' : sk_M} (h : Kr k k') (h' : Kr k' k'') : Kr k k'' := ⟨fun q i a b c e => (h'.1 q i a b c e).trans (h.1 q i a b c e), fun q i a => (h'.2 q i a).trans (h.2 q i a)⟩
theorem Kr.dk {k k' : sk_M} {d : Nat → Nat} {n : Nat} (h : Kr k k') (hd : DK k d n) : DK k' d n := ⟨by rw [h.1 0 0 (by omega) (by omega) (by omega) (by omega)]; exact hd.1, hd.2.1, fun j hj => by rw [h.1 13 j (by omega) (by omega) (by omega) (by omega)]; exact hd.2.2 j hj⟩
theorem Kx.kr {k k' : sk_M} (h : Kx 2 k k') : Kr k k' := ⟨fun q i a b _ _ => h.1 q i (by omega) (by omega), fun q i _ => by rw [h.2]⟩
theorem KW.x {k k' : sk_M} {L : List (Nat × Nat)} (h : KW k L) (e : Kx 2 k k') : KW k' L := ⟨by rw [e.1 0 8 (by omega) (by omega)]; exact h.1, fun w hw => by rw [e.1 33 _ (by omega) (by omega), e.1 34 _ (by omega) (by omega)]; exact h.2 w hw⟩
theorem KW.same {k k' : sk_M} {L : List (Nat × Nat)} (h : KW k L) (e : ∀ q i, (q = 0 ∧ i = 8) ∨ q = 33 ∨ q = 34 → k'.1 q i = k.1 q i) : KW k' L := ⟨by rw [e 0 8 (by omega)]; exact h.1, fun w hw => by rw [e 33 _ (by omega), e 34 _ (by omega)]; exact h.2 w hw⟩
section
variable {k : sk_M} {N : Nat} {d : Nat → Nat} {n : Nat} {L : List (Nat × Nat)}
theorem k_cut (hd : DK k d n) (hN : 80 < N) : Ev (K_RuleReader_cut N k) (fun k' => KW k' (wds d n) ∧ Kr k k') := by
  obtain ⟨d1, d2, d3⟩ := hd
  unfold K_RuleReader_cut
  refine ev_fI ?_
  refine ev_lp (fun m z => ∃ st p, z = (st, nI (wk d n p).2, nI p) ∧ p + m = n + 1 ∧ Kr k st ∧ KW st (wk d n p).1) ?_ N (n + 1) _ (by omega) ⟨_, 0, rfl, by omega, ⟨fun q i a _ _ _ => by rw [w1_n (by omega)], fun _ _ _ => rfl⟩, by rw [w1_s]; rfl, fun w hw => by simp [wk] at hw⟩
  rintro m z self ⟨st, p, rfl, hpm, hr, hw⟩ ih
  have g := wk_g d n p
  unfold K_RuleReader_cut_L9
  dsimp only
  have e0 : st.1 0 0 = nI n := by rw [hr.1 0 0 (by omega) (by omega) (by omega) (by omega)]; exact d1
  refine ev_lt n p (hu := e0) (fun h => ?_) (fun h => ?_)
  · have e : p = n + 1 := by omega
    subst e
    exact ev_some ⟨hw, hr⟩
  have J : (p = n ∨ d p = 32) → Ev (K_RuleReader_cut_J45 N self st (nI (wk d n p).2) (nI p)) (fun k' => KW k' (wds d n) ∧ Kr k k') := by
    intro hc
    unfold K_RuleReader_cut_J45
    refine ev_fI ?_
    have gl := g.1
    rw [hw.1, nI_1, w1_s]
    refine ev_wI (by omega) (by decide) ?_
    rw [w1_n (by omega), w1_s]
    refine ev_wI (by omega) (by decide) ?_
    rw [nI_1]
    have ek : wk d n (p + 1) = ((wk d n p).1 ++ [((wk d n p).2, p)], p + 1) := by
      show (if p = n ∨ d p = 32 then _ else _) = _
      rw [if_pos hc]
    refine ih (m - 1) _ (by omega) ⟨sk_wi (sk_wi (sk_wi st 0 8 (nI ((wk d n p).1.length + 1))) 33 ((wk d n p).1.length + 1) (nI (wk d n p).2)) 34 ((wk d n p).1.length + 1) (nI p), p + 1, by rw [ek], by omega, hr.tr ⟨fun q i a b c e => by rw [w1_n (by omega), w1_n (by omega), w1_n (by omega)], fun _ _ _ => rfl⟩, ?_, fun w hwl => ?_⟩
    · rw [w1_n (by omega), w1_n (by omega), w1_s, ek]; simp
    · rw [ek] at hwl ⊢
      simp only [List.length_append, List.length_cons, List.length_nil] at hwl
      rcases Nat.lt_or_ge w (wk d n p).1.length with q | q
      · rw [w1_n (by omega), w1_n (by omega), w1_n (by omega), w1_n (by omega), w1_n (by omega), w1_n (by omega)]
        rw [(wa_lo q).1, (wa_lo q).2]
        exact hw.2 w q
      · have e : w = (wk d n p).1.length := by omega
        subst e
        rw [w1_n (by omega), w1_s, w1_s, (wa_hi _ _).1, (wa_hi _ _).2]
        exact ⟨rfl, rfl⟩
  refine ev_qn p n (hv := e0) (fun h1 => J (Or.inl h1)) (fun h1 => ?_)
  have dp := d3 p (by omega)
  refine ev_rI (by omega) (by decide) ?_
  refine ev_qn (d p) 32 (hu := by rw [hr.1 13 p (by omega) (by omega) (by omega) (by omega)]; exact dp.1) (fun h2 => J (Or.inr h2)) (fun h2 => ?_)
  rw [nI_1]
  have ek : wk d n (p + 1) = wk d n p := by
    show (if p = n ∨ d p = 32 then _ else _) = _
    rw [if_neg (fun z => z.elim h1 h2)]
  exact ih (m - 1) _ (by omega) ⟨st, p + 1, by rw [ek], by omega, hr, by rw [ek]; exact hw⟩
theorem k_reads (hd : DK k d n) (hW : KW k L) (hL : GW L n) (hN : 80 < N) {w j : Nat} (hw : w < 1000) (hj : j < 14) : Ev (K_RuleReader_reads N j k (nI (w + 1))) (fun r => (r = 0 ∧ ¬ isW d L w (sL j)) ∨ (r = 1 ∧ isW d L w (sL j))) := by
  obtain ⟨g0, g1, g2, g3, g4⟩ := hL
  obtain ⟨l1, l2⟩ := j_len j hj
  unfold K_RuleReader_reads
  refine ev_lt L.length (w + 1) (hu := hW.1) (fun h => ev_some (Or.inl ⟨rfl, fun z => by have := z.1; omega⟩)) (fun h => ?_)
  have hwl : w < L.length := by omega
  obtain ⟨w1, w2⟩ := hW.2 w hwl
  obtain ⟨a1, a2⟩ := g3 w hwl
  refine ev_rI (by omega) (by decide) ?_
  refine ev_rI (by omega) (by decide) ?_
  refine ev_qn (we L w - wa L w) (sL j).length (hu := by rw [w1, w2, pk_sub a1]) (hv := l1) (fun h1 => ?_) (fun h1 => ev_some (Or.inl ⟨rfl, fun z => h1 z.2.1⟩))
  refine ev_lp (fun m z => ∃ i, z = (nI (w + 1), nI i) ∧ i + m = (sL j).length ∧ ∀ i', i' < i → d (wa L w + i') = (sL j).getD i' 0) ?_ N (sL j).length _ (by omega) ⟨0, rfl, by omega, fun i h => by omega⟩
  rintro m z self ⟨i, rfl, him, hall⟩ ih
  unfold K_RuleReader_reads_L32
  dsimp only
  refine ev_le (sL j).length i (hu := l1) (fun h2 => ev_some (Or.inr ⟨rfl, hwl, h1, fun i' h' => hall i' (by omega)⟩)) (fun hi => ?_)
  refine ev_rI (by omega) (by decide) ?_
  rw [w1, nI_add]
  have di := hd.2.2 (wa L w + i) (by omega)
  refine ev_rI (by omega) (by decide) ?_
  obtain ⟨c1, c2⟩ := j_chr j hj i (by omega) hi
  rw [pu_oR c1, di.1]
  refine ev_qn (d (wa L w + i)) (lx (sL j) i) (fun h2 => ?_) (fun h2 => ev_some (Or.inl ⟨rfl, fun z => h2 (z.2.2 i hi)⟩))
  rw [nI_1]
  exact ih (m - 1) _ (by omega) ⟨i + 1, rfl, by omega, fun i' h' => by rcases Nat.lt_or_ge i' i with q | q; exact hall i' q; rw [show i' = i by omega]; exact h2⟩
theorem k_isPattern (hd : DK k d n) (hW : KW k L) (hL : GW L n) (hN : 80 < N) {w less : Nat} (hw : w < 1000) (hl : less ≤ 1) : Ev (K_RuleReader_isPattern N k (nI (w + 1)) (nI less)) (fun r => (r = 0 ∧ ¬ isP d L w less) ∨ (r = 1 ∧ isP d L w less)) := by
  obtain ⟨g0, g1, g2, g3, g4⟩ := hL
  unfold K_RuleReader_isPattern
  refine ev_lt L.length (w + 1) (hu := hW.1) (fun h => ev_some (Or.inl ⟨rfl, fun z => by have := z.1; omega⟩)) (fun h => ?_)
  have hwl : w < L.length := by omega
  obtain ⟨w1, w2⟩ := hW.2 w hwl
  obtain ⟨a1, a2⟩ := g3 w hwl
  refine ev_rI (by omega) (by decide) ?_
  refine ev_rI (by omega) (by decide) ?_
  rw [w1, w2]
  by_cases h0 : we L w < less
  · rw [if_neg]
    · exact ev_some (Or.inl ⟨rfl, fun q => by have := q.2.1; omega⟩)
    · rw [show we L w = 0 by omega, show less = 1 by omega, show wa L w = 0 by omega]; decide
  · have e : nI (we L w) - nI less = nI (we L w - less) := pk_sub (by omega)
    refine ev_lt (wa L w) (we L w - less) (hv := e) (fun h1 => ?_) (fun h1 => ev_some (Or.inl ⟨rfl, fun q => by have := q.2.1; omega⟩))
    refine ev_rI (by omega) (by decide) ?_
    rw [w1]
    refine ev_lp (fun m z => ∃ j, z = (nI (w + 1), nI less, nI j) ∧ j + m = we L w - less ∧ wa L w ≤ j ∧ ∀ i, i < j → wa L w ≤ i → ¬ d i = 59 ∧ ¬ d i = 123 ∧ ¬ d i = 125) ?_ N (we L w - less - wa L w) _ (by omega) ⟨wa L w, rfl, by omega, by omega, fun i h => by omega⟩
    rintro m z self ⟨j, rfl, hjm, haj, hj⟩ ih
    unfold K_RuleReader_isPattern_L34
    dsimp only
    refine ev_rI (by omega) (by decide) ?_
    rw [w2]
    refine ev_le (we L w - less) j (hu := e) (fun h2 => ev_some (Or.inr ⟨rfl, hwl, h1, fun i hi ha => hj i (by omega) ha⟩)) (fun h2 => ?_)
    have dj := hd.2.2 j (by omega)
    refine ev_rI (by omega) (by decide) ?_
    rw [dj.1]
    refine ev_qn (d j) 59 (fun h3 => ev_some (Or.inl ⟨rfl, fun q => (q.2.2 j h2 haj).1 h3⟩)) (fun h3 => ?_)
    refine ev_qn (d j) 123 (fun h4 => ev_some (Or.inl ⟨rfl, fun q => (q.2.2 j h2 haj).2.1 h4⟩)) (fun h4 => ?_)
    refine ev_qn (d j) 125 (fun h5 => ev_some (Or.inl ⟨rfl, fun q => (q.2.2 j h2 haj).2.2 h5⟩)) (fun h5 => ?_)
    rw [nI_1]
    exact ih (m - 1) _ (by omega) ⟨j + 1, rfl, by omega, by omega, fun i hi ha => by rcases Nat.lt_or_ge i j with q | q; exact hj i q ha; rw [show i = j by omega]; exact ⟨h3, h4, h5⟩⟩
theorem k_endsClause (hd : DK k d n) (hW : KW k L) (hL : GW L n) {w : Nat} (hw : w < 1000) : Ev (K_RuleReader_endsClause k (nI (w + 1))) (fun r => (r = 0 ∧ ¬ (w < L.length ∧ wa L w < we L w ∧ d (we L w - 1) = 59)) ∨ (r = 1 ∧ (w < L.length ∧ wa L w < we L w ∧ d (we L w - 1) = 59))) := by
  obtain ⟨g0, g1, g2, g3, g4⟩ := hL
  unfold K_RuleReader_endsClause
  refine ev_lt L.length (w + 1) (hu := hW.1) (fun h => ev_some (Or.inl ⟨rfl, fun z => by have := z.1; omega⟩)) (fun h => ?_)
  have hwl : w < L.length := by omega
  obtain ⟨w1, w2⟩ := hW.2 w hwl
  obtain ⟨a1, a2⟩ := g3 w hwl
  refine ev_rI (by omega) (by decide) ?_
  refine ev_rI (by omega) (by decide) ?_
  rw [w1, w2]
  refine ev_le (we L w) (wa L w) (fun h1 => ev_some (Or.inl ⟨rfl, fun z => by have := z.2.1; omega⟩)) (fun h1 => ?_)
  refine ev_rI (by omega) (by decide) ?_
  rw [w2, nI_m1 (by omega)]
  have dj := hd.2.2 (we L w - 1) (by omega)
  refine ev_rI (by omega) (by decide) ?_
  rw [dj.1]
  exact ev_qn (d (we L w - 1)) 59 (fun h2 => ev_some (Or.inr ⟨rfl, hwl, h1, h2⟩)) (fun h2 => ev_some (Or.inl ⟨rfl, fun z => h2 z.2.2⟩))
/-! fits: the class's set of places, as bits of an int -/
def BS (v : Int32) (R : Nat → Bool) (len : Nat) : Prop := ∃ b, v = nI b ∧ b < 1024 ∧ ∀ i, i ≤ len → b.testBit i = R i
theorem shl2 : ∀ i, i < 9 → (2 : Int32) <<< (nI i &&& 31) = nI (2 ^ (i + 1)) := by decide +kernel
theorem bs_bit {b i : Nat} (hb : b < 1024) (hi : i < 31) : ((nI b >>> (nI i &&& 31)) &&& 1 = 0) ↔ b.testBit i = false := by
  rw [nI_shrbit (by omega) hi, nI_z (by omega), tb_div]
  simp
theorem k_afterOne (hN : 80 < N) {tx : Nat → Nat} {len c : Nat} {R : Nat → Bool} {v : Int32} (hX : k.1 0 2 = nI len) (htx : ∀ i, i < len → k.1 15 i = nI (tx i) ∧ tx i < 2 ^ 31) (hlen : len ≤ 8) (hc : c < 2 ^ 31) (hv : BS v R len) : Ev (K_RuleReader_afterOne N k v (nI c)) (fun r => BS r (st1 R tx c) len) := by
  obtain ⟨b, rfl, hb, hbit⟩ := hv
  unfold K_RuleReader_afterOne
  refine ev_lp (fun m z => ∃ a i, z = (nI b, nI c, nI a, nI i) ∧ i + m = len ∧ a < 2 ^ (i + 1) ∧ ∀ j, j ≤ i → a.testBit j = st1 R tx c j) ?_ N len _ (by omega) ⟨0, 0, rfl, by omega, by decide, fun j hj => by rw [show j = 0 by omega]; rfl⟩
  rintro m z self ⟨a, i, rfl, him, ha, hbits⟩ ih
  have pw : 2 ^ (i + 1) ≤ 512 := Nat.pow_le_pow_right (by decide) (show i + 1 ≤ 9 by omega)
  unfold K_RuleReader_afterOne_L5
  dsimp only
  refine ev_le len i (hu := hX) (fun h => ?_) (fun hi => ?_)
  · have e : i = len := by omega
    subst e
    exact ev_some ⟨a, rfl, by omega, hbits⟩
  obtain ⟨t1, t2⟩ := htx i hi
  have top : a.testBit (i + 1) = false := Nat.testBit_lt_two_pow ha
  have pw2 : 2 ^ (i + 2) = 2 * 2 ^ (i + 1) := by rw [Nat.pow_succ]; omega
  have J : ∀ s0 : Int32, (s0 = 0 → (if c = 63 then decide (tx i ≠ 46) else decide (tx i = c)) = false) → (¬ s0 = 0 → (if c = 63 then decide (tx i ≠ 46) else decide (tx i = c)) = true) → Ev (K_RuleReader_afterOne_J61 N k self (nI b) (nI c) (nI a) (nI i) s0) (fun r => BS r (st1 R tx c) len) := by
    intro s0 h1 h2
    have no : st1 R tx c (i + 1) = false → Ev (self (nI b, nI c, nI a, nI i + 1)) (fun r => BS r (st1 R tx c) len) := fun e => by
      rw [nI_1]
      refine ih (m - 1) _ (by omega) ⟨a, i + 1, rfl, by omega, by omega, fun j hj => ?_⟩
      rcases Nat.lt_or_ge j (i + 1) with q | q
      · exact hbits j (by omega)
      · rw [show j = i + 1 by omega, e]; exact top
    unfold K_RuleReader_afterOne_J61
    refine ev_if (fun h => no (by simp only [st1]; rw [h1 h]; simp)) (fun h => ?_)
    refine ev_if (fun h3 => no ?_) (fun h3 => ?_)
    · rw [bs_bit hb (by omega)] at h3
      simp only [st1]
      rw [← hbit i (by omega), h3]; rfl
    · have h3 : b.testBit i = true := by
        cases q : b.testBit i with
        | true => rfl
        | false => exact absurd ((bs_bit hb (by omega)).mpr q) h3
      rw [shl2 i (by omega), nI_or (by omega) (by omega), nI_1]
      refine ih (m - 1) _ (by omega) ⟨_, i + 1, rfl, by omega, Nat.or_lt_two_pow (by omega) (by rw [show i + 1 + 1 = i + 2 by omega]; omega), fun j hj => ?_⟩
      rw [Nat.testBit_or, Nat.testBit_two_pow]
      rcases Nat.lt_or_ge j (i + 1) with q | q
      · rw [hbits j (by omega)]
        simp [show ¬ i + 1 = j by omega]
      · rw [show j = i + 1 by omega]
        simp only [st1]
        rw [← hbit i (by omega), h3, h2 h]
        simp
  refine ev_rI (by omega) (by decide) ?_
  rw [t1]
  refine ev_qn c 63 (fun h => ?_) (fun h => ?_)
  · exact ev_qn (tx i) 46 (fun h2 => J 0 (fun _ => by rw [if_pos h]; simp [h2]) (fun z => absurd rfl z)) (fun h2 => J 1 (fun z => absurd z (by decide)) (fun _ => by rw [if_pos h]; simp [h2]))
  · exact ev_qn (tx i) c (fun h2 => J 1 (fun z => absurd z (by decide)) (fun _ => by rw [if_neg h]; simp [h2])) (fun h2 => J 0 (fun _ => by rw [if_neg h]; simp [h2]) (fun z => absurd rfl z))
theorem k_afterMany (hN : 80 < N) {tx : Nat → Nat} {len : Nat} {R : Nat → Bool} {v : Int32} (dots : Bool) (hX : k.1 0 2 = nI len) (htx : ∀ i, i < len → k.1 15 i = nI (tx i) ∧ tx i < 2 ^ 31) (hlen : len ≤ 8) (hv : BS v R len) : Ev (K_RuleReader_afterMany N k v (bI dots)) (fun r => BS r (stM R tx dots) len) := by
  obtain ⟨b, rfl, hb, hbit⟩ := hv
  unfold K_RuleReader_afterMany
  refine ev_lp (fun m z => ∃ a i, z = (bI dots, nI a, nI i) ∧ i + m = len ∧ a < 1024 ∧ (∀ j, j ≤ i → a.testBit j = stM R tx dots j) ∧ ∀ j, i < j → j ≤ len → a.testBit j = R j) ?_ N len _ (by omega) ⟨b, 0, rfl, by omega, hb, (fun j hj => by rw [show j = 0 by omega]; exact hbit 0 (by omega)), fun j _ hj => hbit j hj⟩
  rintro m z self ⟨a, i, rfl, him, ha, hb1, hb2⟩ ih
  unfold K_RuleReader_afterMany_L5
  dsimp only
  refine ev_le len i (hu := hX) (fun h => ?_) (fun hi => ?_)
  · have e : i = len := by omega
    subst e
    exact ev_some ⟨a, rfl, ha, hb1⟩
  obtain ⟨t1, t2⟩ := htx i hi
  have pw : 2 ^ (i + 1) < 1024 := Nat.lt_of_le_of_lt (Nat.pow_le_pow_right (by decide) (show i + 1 ≤ 8 by omega)) (by decide)
  have no : (stM R tx dots i && (dots || decide (tx i ≠ 46))) = false → Ev (self (bI dots, nI a, nI i + 1)) (fun r => BS r (stM R tx dots) len) := fun e => by
    rw [nI_1]
    refine ih (m - 1) _ (by omega) ⟨a, i + 1, rfl, by omega, ha, fun j hj => ?_, fun j h1 h2 => hb2 j (by omega) h2⟩
    rcases Nat.lt_or_ge j (i + 1) with q | q
    · exact hb1 j (by omega)
    · rw [show j = i + 1 by omega]
      simp only [stM]
      rw [e, hb2 (i + 1) (by omega) (by omega)]; simp
  have J36 : (dots || decide (tx i ≠ 46)) = true → Ev (K_RuleReader_afterMany_J36 N k self (bI dots) (nI a) (nI i)) (fun r => BS r (stM R tx dots) len) := by
    intro e
    unfold K_RuleReader_afterMany_J36
    refine ev_if (fun h3 => no ?_) (fun h3 => ?_)
    · rw [bs_bit ha (by omega)] at h3
      rw [← hb1 i (by omega), h3]; rfl
    · have h3 : a.testBit i = true := by
        cases q : a.testBit i with
        | true => rfl
        | false => exact absurd ((bs_bit ha (by omega)).mpr q) h3
      rw [shl2 i (by omega), nI_or (by omega) (by omega), nI_1]
      refine ih (m - 1) _ (by omega) ⟨_, i + 1, rfl, by omega, or_lt ha pw, fun j hj => ?_, fun j h1 h2 => ?_⟩
      · rw [Nat.testBit_or, Nat.testBit_two_pow]
        rcases Nat.lt_or_ge j (i + 1) with q | q
        · rw [hb1 j (by omega)]
          simp [show ¬ i + 1 = j by omega]
        · rw [show j = i + 1 by omega]
          simp only [stM]
          rw [← hb1 i (by omega), h3, e]
          simp
      · rw [Nat.testBit_or, Nat.testBit_two_pow, hb2 j (by omega) h2]
        simp [show ¬ i + 1 = j by omega]
  refine ev_if (fun h => ?_) (fun h => ?_)
  · have h := (bI_0 _).mp h
    refine ev_rI (by omega) (by decide) ?_
    rw [t1]
    exact ev_qn (tx i) 46 (fun h2 => no (by rw [h]; simp [h2])) (fun h2 => J36 (by simp [h2]))
  · have h : dots = true := by
      cases q : dots with
      | true => rfl
      | false => exact absurd ((bI_0 _).mpr q) h
    exact J36 (by rw [h]; simp)
theorem k_fits (hd : DK k d n) (hN : 80 < N) {tx : Nat → Nat} {len a e : Nat} (hX : k.1 0 2 = nI len) (htx : ∀ i, i < len → k.1 15 i = nI (tx i) ∧ tx i < 2 ^ 31) (hlen : len ≤ 8) (hae : a ≤ e) (he : e ≤ n) : Ev (K_RuleReader_fits N k (nI a) (nI e)) (fun r => r = bI (fts d tx len a e)) := by
  have hn := hd.2.1
  unfold K_RuleReader_fits
  refine ev_lp (fun m z => ∃ v p R, z = (nI e, v, nI p) ∧ p + m = e ∧ a ≤ p ∧ BS v R len ∧ ftN d tx e (e - p) p R len = fts d tx len a e) ?_ N (e - a) _ (by omega) ⟨1, a, fun i => decide (i = 0), rfl, by omega, by omega, ⟨1, rfl, by omega, fun i _ => by cases i <;> simp [Nat.testBit_succ]⟩, rfl⟩
  rintro m z self ⟨v, p, R, rfl, hpm, hap, hv, hft⟩ ih
  unfold K_RuleReader_fits_L5
  dsimp only
  refine ev_le e p (fun h => ?_) (fun hp => ?_)
  · unfold K_RuleReader_fits_J96
    rw [ftN_end h] at hft
    obtain ⟨b, rfl, hb, hbit⟩ := hv
    rw [hX, ← hft, ← hbit len (by omega)]
    refine ev_if (fun h2 => ?_) (fun h2 => ?_)
    · rw [bs_bit hb (by omega)] at h2
      rw [h2]; exact ev_some rfl
    · have h2 : b.testBit len = true := by
        cases q : b.testBit len with
        | true => rfl
        | false => exact absurd ((bs_bit hb (by omega)).mpr q) h2
      rw [h2]; exact ev_some rfl
  have dp := hd.2.2 p (by omega)
  have one : d p = 42 → ¬ (p + 1 < e ∧ d (p + 1) = 42) → Ev (K_RuleReader_fits_J83 N k (fun v3 => K_RuleReader_fits_J96 N k v3) self (nI e) v (nI p)) (fun r => r = bI (fts d tx len a e)) := by
    intro h1 h2
    unfold K_RuleReader_fits_J83
    refine ev_oR (k_afterMany hN false hX htx hlen hv) (fun r hr => ?_)
    rw [nI_1]
    exact ih (m - 1) _ (by omega) ⟨r, p + 1, _, rfl, by omega, by omega, hr, by rw [← ftN_star hp h1 h2]; exact hft⟩
  refine ev_rI (by omega) (by decide) ?_
  refine ev_qn (d p) 42 (hu := dp.1) (fun h1 => ?_) (fun h1 => ?_)
  · rw [nI_1]
    refine ev_le e (p + 1) (fun h2 => one h1 (fun z => by omega)) (fun h2 => ?_)
    have dp1 := hd.2.2 (p + 1) (by omega)
    refine ev_rI (by omega) (by decide) ?_
    refine ev_qn (d (p + 1)) 42 (hu := dp1.1) (fun h3 => ?_) (fun h3 => one h1 (fun z => h3 z.2))
    refine ev_oR (k_afterMany hN true hX htx hlen hv) (fun r hr => ?_)
    rw [nI_1]
    exact ih (m - 2) _ (by omega) ⟨r, p + 2, _, rfl, by omega, by omega, hr, by rw [← ftN_two h2 h1 h3]; exact hft⟩
  · refine ev_rI (by omega) (by decide) ?_
    rw [dp.1]
    refine ev_oR (k_afterOne hN hX htx hlen (by omega) hv) (fun r hr => ?_)
    rw [nI_1]
    exact ih (m - 1) _ (by omega) ⟨r, p + 1, _, rfl, by omega, by omega, hr, by rw [← ftN_one hp h1]; exact hft⟩
/-- a text that stands as candidate -/
theorem KX.c {T : List Nat} (h : KX k 2 T) (hb : ∀ i, i < T.length → lx T i < 2 ^ 31) : k.1 0 2 = nI T.length ∧ ∀ i, i < T.length → k.1 15 i = nI (lx T i) ∧ lx T i < 2 ^ 31 := ⟨h.1, fun i hi => ⟨h.2 i hi, hb i hi⟩⟩
theorem k_namesFit (hd : DK k d n) (hW : KW k L) (hL : GW L n) (hN : 80 < N) {w : Nat} (hw : w < L.length) : Ev (K_RuleReader_namesThatFit N k (nI (w + 1))) (fun z => (∀ p c, p < 3 → c < 10 → (lb z.1 (10 * p + c) = true ↔ fts d (nmx p c) 3 (wa L w) (we L w) = true)) ∧ Kx 2 k z.2) := by
  have hL' := hL
  obtain ⟨g0, g1, g2, g3, g4⟩ := hL
  obtain ⟨a1, a2⟩ := g3 w hw
  unfold K_RuleReader_namesThatFit
  refine ev_lp (fun m z => ∃ st s i, z = (st, nI (w + 1), s, nI i) ∧ i + m = 30 ∧ Kx 2 k st ∧ ∀ j, lb s j = true ↔ j < i ∧ fts d (nmx (j / 10) (j % 10)) 3 (wa L w) (we L w) = true) ?_ N 30 _ (by omega) ⟨k, 0, 0, rfl, by omega, Kx.rf, fun j => by rw [lb_0]; simp⟩
  rintro m z self ⟨st, s, i, rfl, him, hx, hs⟩ ih
  unfold K_RuleReader_namesThatFit_L5
  dsimp only
  refine ev_le 30 i (fun h => ev_some ⟨fun p c hp hc => ?_, hx⟩) (fun hi => ?_)
  · rw [hs, show (10 * p + c) / 10 = p by omega, show (10 * p + c) % 10 = c by omega]
    exact ⟨fun q => q.2, fun q => ⟨by omega, q⟩⟩
  refine ev_oR (k_wipe (i := 2) (by omega)) (fun k1 h1 => ?_)
  rw [show nI i / (10 : Int32) = nI (i / 10) from pk_div (d := 10) (by omega) (by omega) (by omega), show nI (i / 10) * (10 : Int32) = nI (i / 10 * 10) from pk_mul _ 10, pk_sub (by omega), show i - i / 10 * 10 = i % 10 by omega]
  refine ev_oR (k_putOldName (i := 2) (by omega) (by omega) (by omega) h1.2 (by simp [capT])) (fun k2 h2 => ?_)
  rw [List.nil_append] at h2
  have x2 := (hx.tr h1.1).tr h2.1
  obtain ⟨w1, w2⟩ := (hW.x x2).2 w hw
  refine ev_rI (by omega) (by decide) ?_
  refine ev_rI (by omega) (by decide) ?_
  rw [w1, w2]
  have tb := h2.2.c (fun j hj => by
    rw [tl_len] at hj
    rw [lx_tl hj]
    have := nmx_lt (p := i / 10) (c := i % 10) (i := j) (by omega) (by omega)
    omega)
  refine ev_oR (k_fits (x2.kr.dk hd) hN (len := 3) (tx := nmx (i / 10) (i % 10)) tb.1 (fun j hj => by have := tb.2 j (by rw [tl_len]; exact hj); rw [lx_tl hj] at this; exact this) (by omega) a1 a2) (fun r hr => ?_)
  subst hr
  rw [nI_1]
  refine ev_if (fun h => ?_) (fun h => ?_)
  · have h := (bI_0 _).mp h
    refine ih (m - 1) _ (by omega) ⟨k2, s, i + 1, rfl, by omega, x2, fun j => ?_⟩
    rw [hs]
    refine ⟨fun q => ⟨by omega, q.2⟩, fun q => ⟨?_, q.2⟩⟩
    rcases Nat.lt_or_ge j i with z | z
    · exact z
    · exfalso
      have q2 := q.2
      rw [show j = i by omega, h] at q2; cases q2
  · have h : fts d (nmx (i / 10) (i % 10)) 3 (wa L w) (we L w) = true := by
      cases q : fts d (nmx (i / 10) (i % 10)) 3 (wa L w) (we L w) with
      | true => rfl
      | false => exact absurd ((bI_0 _).mpr q) h
    refine ih (m - 1) _ (by omega) ⟨k2, _, i + 1, rfl, by omega, x2, fun j => ?_⟩
    rw [lb_or_bit (by omega) hs]
    constructor
    · rintro (q | q)
      · exact ⟨by omega, q.2⟩
      · rw [q]; exact ⟨by omega, h⟩
    · intro q
      rcases Nat.lt_or_ge j i with z | z
      · exact Or.inl ⟨z, q.2⟩
      · exact Or.inr (by omega)
/-- which signatures an item means -/
def tFt (d : Nat → Nat) (s a e g : Nat) : Prop := (s ≠ if g / 16 = 1 then 102 else 109) ∧ fts d (wdx (g / 2 % 8)) (wln (g / 2 % 8)) a e = true
theorem k_textsFit (hd : DK k d n) (hW : KW k L) (hL : GW L n) (hN : 80 < N) {w : Nat} (hw : w + 1 < L.length) (hs : isW d L w [102] ∨ isW d L w [109] ∨ isW d L w [120]) (hp : isP d L (w + 1) 1) : Ev (K_RuleReader_textsThatFit N k (nI (w + 1))) (fun z => (∀ g, lb z.1 g = true ↔ g < 32 ∧ tFt d (d (wa L w)) (wa L (w + 1)) (we L (w + 1) - 1) g) ∧ Kx 2 k z.2) := by
  obtain ⟨g0, g1, g2, g3, g4⟩ := hL
  obtain ⟨a1, a2⟩ := g3 w (by omega)
  obtain ⟨b1, b2⟩ := g3 (w + 1) hw
  have p1 := hp.2.1
  rw [isW1, isW1, isW1] at hs
  have hone : we L w - wa L w = 1 := by
    rcases hs with h | h | h
    · exact h.2.1
    · exact h.2.1
    · exact h.2.1
  have hsv : d (wa L w) = 102 ∨ d (wa L w) = 109 ∨ d (wa L w) = 120 := hs.imp (fun h => h.2.2) (fun h => h.imp (fun h => h.2.2) (fun h => h.2.2))
  have ds := hd.2.2 (wa L w) (by omega)
  obtain ⟨w1, w2⟩ := hW.2 w (by omega)
  unfold K_RuleReader_textsThatFit
  refine ev_rI (by omega) (by decide) ?_
  rw [w1]
  refine ev_rI (by omega) (by decide) ?_
  rw [ds.1]
  refine ev_lp (fun m z => ∃ st s i, z = (st, nI (w + 1), nI (d (wa L w)), s, nI i) ∧ i + m = 32 ∧ Kx 2 k st ∧ ∀ j, lb s j = true ↔ j < i ∧ tFt d (d (wa L w)) (wa L (w + 1)) (we L (w + 1) - 1) j) ?_ N 32 _ (by omega) ⟨k, 0, 0, rfl, by omega, Kx.rf, fun j => by rw [lb_0]; simp⟩
  rintro m z self ⟨st, s, i, rfl, him, hx, hset⟩ ih
  unfold K_RuleReader_textsThatFit_L20
  dsimp only
  refine ev_le 32 i (fun h => ?_) (fun hi => ?_)
  · rw [show i = 32 by omega] at hset
    exact ev_some ⟨hset, hx⟩
  refine ev_oR (k_wipe (i := 2) (by omega)) (fun k1 h1 => ?_)
  rw [k_word i hi]
  have wl := wln_le (i / 2 % 8)
  refine ev_oR (k_putOldText (i := 2) hN (by omega) (by omega) h1.2 (by simp [capT]; omega)) (fun k2 h2 => ?_)
  rw [List.nil_append] at h2
  have x2 := (hx.tr h1.1).tr h2.1
  have no : ¬ tFt d (d (wa L w)) (wa L (w + 1)) (we L (w + 1) - 1) i → Ev (self (k2, nI (w + 1), nI (d (wa L w)), s, nI i + 1)) (fun z => (∀ g, lb z.1 g = true ↔ g < 32 ∧ tFt d (d (wa L w)) (wa L (w + 1)) (we L (w + 1) - 1) g) ∧ Kx 2 k z.2) := fun hno => by
    rw [nI_1]
    refine ih (m - 1) _ (by omega) ⟨k2, s, i + 1, rfl, by omega, x2, fun j => ?_⟩
    rw [hset]
    refine ⟨fun q => ⟨by omega, q.2⟩, fun q => ⟨?_, q.2⟩⟩
    rcases Nat.lt_or_ge j i with z | z
    · exact z
    · exfalso
      have q2 := q.2
      rw [show j = i by omega] at q2; exact hno q2
  have J71 : (d (wa L w) ≠ if i / 16 = 1 then 102 else 109) → Ev (K_RuleReader_textsThatFit_J71 N self k2 (nI (w + 1)) (nI (d (wa L w))) s (nI i)) (fun z => (∀ g, lb z.1 g = true ↔ g < 32 ∧ tFt d (d (wa L w)) (wa L (w + 1)) (we L (w + 1) - 1) g) ∧ Kx 2 k z.2) := by
    intro hne
    unfold K_RuleReader_textsThatFit_J71 K_RuleReader_textsThatFit_J76
    rw [if_neg (by decide), nI_1]
    obtain ⟨y1, y2⟩ := (hW.x x2).2 (w + 1) hw
    refine ev_rI (by omega) (by decide) ?_
    refine ev_rI (by omega) (by decide) ?_
    rw [y1, y2, nI_m1 (by omega)]
    have tb := h2.2.c (fun j hj => by
      rw [tl_len] at hj
      rw [lx_tl hj]
      have := wdx_lt (w := i / 2 % 8) (i := j) (by omega)
      omega)
    refine ev_oR (k_fits (x2.kr.dk hd) hN (len := wln (i / 2 % 8)) (tx := wdx (i / 2 % 8)) (by have := tb.1; rw [tl_len] at this; exact this) (fun j hj => by have := tb.2 j (by rw [tl_len]; exact hj); rw [lx_tl hj] at this; exact this) (by omega) (a := wa L (w + 1)) (e := we L (w + 1) - 1) (by omega) (by omega)) (fun r hr => ?_)
    subst hr
    refine ev_if (fun h => no (fun z => ?_)) (fun h => ?_)
    · have h := (bI_0 _).mp h
      have := z.2
      rw [h] at this; cases this
    · have h : fts d (wdx (i / 2 % 8)) (wln (i / 2 % 8)) (wa L (w + 1)) (we L (w + 1) - 1) = true := by
        cases q : fts d (wdx (i / 2 % 8)) (wln (i / 2 % 8)) (wa L (w + 1)) (we L (w + 1) - 1) with
        | true => rfl
        | false => exact absurd ((bI_0 _).mpr q) h
      rw [nI_1]
      refine ih (m - 1) _ (by omega) ⟨k2, _, i + 1, rfl, by omega, x2, fun j => ?_⟩
      rw [lb_or_bit (by omega) hset]
      constructor
      · rintro (q | q)
        · exact ⟨by omega, q.2⟩
        · rw [q]; exact ⟨by omega, hne, h⟩
      · intro q
        rcases Nat.lt_or_ge j i with z | z
        · exact Or.inl ⟨z, q.2⟩
        · exact Or.inr (by omega)
  have J0 : d (wa L w) = (if i / 16 = 1 then 102 else 109) → Ev (K_RuleReader_textsThatFit_J76 N self k2 (nI (w + 1)) (nI (d (wa L w))) s (nI i) 0) (fun z => (∀ g, lb z.1 g = true ↔ g < 32 ∧ tFt d (d (wa L w)) (wa L (w + 1)) (we L (w + 1) - 1) g) ∧ Kx 2 k z.2) := by
    intro he
    unfold K_RuleReader_textsThatFit_J76
    rw [if_pos rfl]
    exact no (fun z => z.1 he)
  refine ev_qn (d (wa L w)) 120 (fun h => J71 (by rw [h]; split <;> decide)) (fun h => ?_)
  refine ev_qn (d (wa L w)) 109 (fun h2 => ?_) (fun h2 => ?_)
  · unfold K_RuleReader_textsThatFit_J63
    rw [k_isMethod i hi]
    refine ev_qn 1 (i / 16) (fun h3 => J71 (by rw [h2, if_pos h3.symm]; decide)) (fun h3 => J0 (by rw [h2, if_neg (fun z => h3 z.symm)]))
  · have h4 : d (wa L w) = 102 := by omega
    unfold K_RuleReader_textsThatFit_J63
    rw [k_isMethod i hi]
    refine ev_qn 0 (i / 16) (fun h3 => J71 (by rw [h4, if_neg (by omega)]; decide)) (fun h3 => J0 (by rw [h4, if_pos (by omega)]))
end
