/-! NAMES TOLD, THE MAPPING WRITTEN by the class -/
def KSm (σ : Ab) (k : sk_M) : Prop := KA σ k ∧ KND σ k ∧ (∀ c, lb (k.2 0 2) c = true ↔ kn σ c) ∧ (∀ g, lb (k.2 0 3) g = true ↔ g < 32 ∧ kt σ g) ∧ (∀ c, c < 10 → ND σ 0 c → ¬ kn σ c → k.1 21 c = nI (97 + ct (nP σ) c)) ∧ (∀ g, g < 32 → us σ g → ¬ kt σ g → k.1 22 g = nI (97 + ct (tP σ g) (g / 2 % 8)))
theorem KS.m {σ : Ab} {k : sk_M} (h : KS σ k) : KSm σ k := ⟨h.1, h.2.1, h.2.2.1, h.2.2.2.1, h.2.2.2.2.1, h.2.2.2.2.2.1⟩
theorem KSm.of {σ : Ab} {k k' : sk_M} (h : KSm σ k) (h1 : ∀ q i, q = 21 ∨ q = 22 → k'.1 q i = k.1 q i) (h2 : k'.2 = k.2) : KSm σ k' := by
  obtain ⟨a, b, c, d, e, f⟩ := h
  refine ⟨fun r hr => by rw [h2]; exact a r hr, fun i x hi => by rw [h2]; exact b i x hi, fun x => by rw [h2]; exact c x, fun x => by rw [h2]; exact d x, fun x p q r => by rw [h1 21 x (by omega)]; exact e x p q r, fun x p q r => by rw [h1 22 x (by omega)]; exact f x p q r⟩
theorem KSm.x {σ : Ab} {i : Nat} {k k' : sk_M} (h : KSm σ k) (e : Kx i k k') (hi : i ≤ 3) : KSm σ k' := h.of (fun q j a => e.1 q j (by omega) (by omega)) e.2
/-- settled -/
def SK (σ : Ab) (k : sk_M) : Prop := RB σ k ∧ KS σ k ∧ ¬ k.1 0 10 = 0
theorem SK.rk {σ : Ab} {k : sk_M} (h : SK σ k) : RK σ k := ⟨h.1, fun _ => h.2.1⟩
theorem SK.x {σ : Ab} {i : Nat} {k k' : sk_M} (h : SK σ k) (e : Kx i k k') (h1 : 1 ≤ i) (h2 : i ≤ 2) : SK σ k' := by
  have m := h.2.1.m.x e (by omega)
  refine ⟨h.1.same (e.kb h1 (by omega)), ⟨m.1, m.2.1, m.2.2.1, m.2.2.2.1, m.2.2.2.2.1, m.2.2.2.2.2, fun z => ?_⟩, by rw [e.1 0 10 (by omega) (by omega)]; exact h.2.2⟩
  rw [e.1 0 4 (by omega) (by omega)] at z
  have q := h.2.1.2.2.2.2.2.2 z
  exact ⟨by rw [e.1 0 3 (by omega) (by omega)]; exact q.1, fun j hj => by rw [e.1 (13 + 3) j (by omega) (by omega)]; exact q.2 j hj⟩
theorem tl_nn {σ : Ab} {c : Nat} : tl (nnx σ c) (nnl σ c) = cT (kn σ c) (tl (nmx (σ 4 c) c) 3) [97 + ct (nP σ) c] := by
  by_cases h : kn σ c
  · rw [cT_y h]
    unfold nnl
    rw [cI_y h]
    exact tl_cong (fun i _ => by unfold nnx; rw [cI_y h])
  · rw [cT_n h]
    unfold nnl
    rw [cI_n h]
    show [nnx σ c 0] = _
    unfold nnx
    rw [cI_n h]
theorem tl_nt {σ : Ab} {g : Nat} : tl (ntx σ g) (ntl σ g) = cT (kt σ g) (tl (wdx (g / 2 % 8)) (wln (g / 2 % 8))) [97 + ct (tP σ g) (g / 2 % 8)] := by
  by_cases h : kt σ g
  · rw [cT_y h]
    unfold ntl
    rw [cI_y h]
    exact tl_cong (fun i _ => by unfold ntx; rw [cI_y h])
  · rw [cT_n h]
    unfold ntl
    rw [cI_n h]
    show [ntx σ g 0] = _
    unfold ntx
    rw [cI_n h]
section
variable {σ : Ab} {k : sk_M} {N : Nat}
theorem k_tellName (hI : IA σ) (hB : RB σ k) (hS : KSm σ k) {i c : Nat} {L : List Nat} (hi : i ≤ 3) (hc : c < 10) (hn : ND σ 0 c) (hX : KX k i L) (hl : L.length + 3 ≤ capT i) : Ev (K_Names_tellName i k (nI c)) (fun k' => Kx i k k' ∧ KX k' i (L ++ tl (nnx σ c) (nnl σ c))) := by
  rw [tl_nn]
  have cl := ct_le (nP σ) c
  unfold K_Names_tellName
  refine ev_has c (by omega) (hS.2.2.1 c) (fun h => ?_) (fun h => ?_)
  · rw [cT_n h]
    refine ev_rI hc (by decide) ?_
    rw [hS.2.2.2.2.1 c hc hn h]
    exact ev_oW (k_put hi (by omega) rfl hX (by omega)) (fun r k1 h1 => ev_some h1.2)
  · rw [cT_y h]
    refine ev_rI hc (by decide) ?_
    rw [(hB.1.1 c hc).1]
    exact ev_oR (k_putOldName hi (hI.2.1 c hc).2.2.2.1 hc hX hl) (fun k1 h1 => ev_some h1)
theorem k_tellText (hN : 80 < N) (hS : KSm σ k) {i g : Nat} {L : List Nat} (hi : i ≤ 3) (hg : g < 32) (hu : us σ g) (hX : KX k i L) (hl : L.length + 8 ≤ capT i) : Ev (K_Names_tellText N i k (nI g)) (fun k' => Kx i k k' ∧ KX k' i (L ++ tl (ntx σ g) (ntl σ g))) := by
  rw [tl_nt]
  have cl := ct_le (tP σ g) (g / 2 % 8)
  have wl := wln_le (g / 2 % 8)
  unfold K_Names_tellText
  refine ev_has g (by omega) (hS.2.2.2.1 g) (fun h => ?_) (fun h => ?_)
  · have h : ¬ kt σ g := fun z => h ⟨hg, z⟩
    rw [cT_n h]
    refine ev_rI hg (by decide) ?_
    rw [hS.2.2.2.2.2 g hg hu h]
    exact ev_oW (k_put hi (by omega) rfl hX (by omega)) (fun r k1 h1 => ev_some h1.2)
  · rw [cT_y h.2, k_word g hg]
    exact ev_oR (k_putOldText hN hi (by omega) hX (by omega)) (fun k1 h1 => ev_some h1)
theorem k_writeMember (hI : IA σ) (hN : 80 < N) (hS : KSm σ k) {x : Nat} {L : List Nat} (hx : x < σ 0 0) (hu : us σ (sgn σ x)) (hX : KX k 3 L) (hl : L.length ≤ 1083) : Ev (K_Mapping_writeMember N k (nI (sgn σ x))) (fun k' => Kx 3 k k' ∧ KX k' 3 (L ++ mbL σ x)) := by
  obtain ⟨b8, b9, b10, b11, b12, _, b15, _⟩ := hI.2.2.2.1 x hx
  have sg := sgn_lt hI hx
  have ew : sgn σ x / 2 % 8 = σ 9 x := by unfold sgn; omega
  have es : sgn σ x % 2 = σ 10 x := by unfold sgn; omega
  have em : sgn σ x / 16 = σ 11 x % 2 := by unfold sgn; omega
  have w1 := wln_le (σ 9 x)
  have c3 : capT 3 = 1120 := rfl
  unfold K_Mapping_writeMember
  refine ev_oW (k_put (v := 32) (by omega) (by omega) rfl hX (by omega)) (fun r k1 h1 => ?_)
  rw [k_word _ sg, ew, k_isMethod _ sg, em, k_shape _ sg, es]
  refine ev_oR (k_putOldText hN (by omega) b9 h1.2.2 (by simp; omega)) (fun k2 h2 => ?_)
  have x2 := h1.2.1.tr h2.1
  have J : ∀ (k4 : sk_M) (T : List Nat), T.length ≤ 3 → Kx 3 k k4 → KX k4 3 (L ++ [32] ++ tl (wdx (σ 9 x)) (wln (σ 9 x)) ++ T) → (if σ 11 x % 2 = 1 then [40, 48 + σ 10 x, 41] else []) = T → Ev (K_Mapping_writeMember_J63 N k4 (nI (sgn σ x))) (fun k' => Kx 3 k k' ∧ KX k' 3 (L ++ mbL σ x)) := by
    intro k4 T ht x4 h4 eT
    unfold K_Mapping_writeMember_J63
    refine ev_oR (k_putAll (j := 12) hN (by omega) (by omega) h4 (by simp [tl_len, show (sL 12).length = 4 from rfl]; omega)) (fun k5 h5 => ?_)
    have x5 := x4.tr h5.1
    refine ev_oR (k_tellText hN (hS.x x5 (by omega)) (by omega) sg hu h5.2 (by simp [tl_len, show (sL 12).length = 4 from rfl]; omega)) (fun k6 h6 => ?_)
    have w2 := (ntl_b σ (sgn σ x)).2
    refine ev_oW (k_put (v := 10) (by omega) (by omega) rfl h6.2 (by simp [tl_len, show (sL 12).length = 4 from rfl]; omega)) (fun r k7 h7 => ev_some ⟨(x5.tr h6.1).tr h7.2.1, ?_⟩)
    have := h7.2.2
    unfold mbL
    rw [eT]
    rw [show sL 12 = [32, 45, 62, 32] from rfl] at this
    simp only [List.append_assoc, List.cons_append, List.nil_append] at this ⊢
    exact this
  refine ev_qn (σ 11 x % 2) 0 (fun h => ?_) (fun h => ?_)
  · refine J k2 [] (by simp) x2 ?_ (by rw [if_neg (by omega)])
    rw [List.append_nil]; exact h2.2
  · refine ev_oW (k_put (v := 40) (by omega) (by omega) rfl h2.2 (by simp [tl_len]; omega)) (fun r k3 h3 => ?_)
    refine ev_oW (k_put (v := 48 + σ 10 x) (by omega) (by omega) (nI_add 48 _) h3.2.2 (by simp [tl_len]; omega)) (fun r k4 h4 => ?_)
    refine ev_oW (k_put (v := 41) (by omega) (by omega) rfl h4.2.2 (by simp [tl_len]; omega)) (fun r k5 h5 => ?_)
    refine J k5 [40, 48 + σ 10 x, 41] (by simp) (((x2.tr h3.2.1).tr h4.2.1).tr h5.2.1) ?_ (by rw [if_pos (by omega)])
    have := h5.2.2
    simp only [List.append_assoc, List.cons_append, List.nil_append] at this ⊢
    exact this
theorem k_mapWrite (hI : IA σ) (hN : 80 < N) (hS : SK σ k) : Ev (K_Mapping_write N k) (fun k' => SK σ k' ∧ KX k' 3 (mp σ)) := by
  have hn := hI.1.2.1
  have c3 : capT 3 = 1120 := rfl
  unfold K_Mapping_write
  refine ev_if (fun h => ev_some ⟨hS, hS.2.1.2.2.2.2.2.2 h⟩) (fun h => ?_)
  refine ev_fI ?_
  refine ev_oR (k_wipe (i := 3) (by omega)) (fun k1 h1 => ?_)
  -- the frame: text 3 and the flag
  have fr : ∀ k', Kx 3 (sk_wi k 0 4 0) k' → KX k' 3 (mp σ) → SK σ k' ∧ KX k' 3 (mp σ) := fun k' e hx => by
    have m := (hS.2.1.m.of (k' := sk_wi k 0 4 0) (fun q i a => by rw [w1_n (by omega)]) rfl).x e (by omega)
    refine ⟨⟨hS.1.same ⟨fun q i a => ?_, fun q i a => by rw [e.2]; rfl⟩, ⟨m.1, m.2.1, m.2.2.1, m.2.2.2.1, m.2.2.2.2.1, m.2.2.2.2.2, fun _ => hx⟩, ?_⟩, hx⟩
    · rw [e.1 q i (by unfold cbI at a; omega) (by unfold cbI at a; omega), w1_n (by unfold cbI at a; omega)]
    · rw [e.1 0 10 (by omega) (by omega), w1_n (by omega)]; exact hS.2.2
  have hm : ∀ k', Kx 3 (sk_wi k 0 4 0) k' → RB σ k' ∧ KSm σ k' := fun k' e => ⟨hS.1.same ⟨fun q i a => by rw [e.1 q i (by unfold cbI at a; omega) (by unfold cbI at a; omega), w1_n (by unfold cbI at a; omega)], fun q i a => by rw [e.2]; rfl⟩, (hS.2.1.m.of (k' := sk_wi k 0 4 0) (fun q i a => by rw [w1_n (by omega)]) rfl).x e (by omega)⟩
  have e1 : mpL σ 1 = [] := by simp only [mpL]; rw [cT_n (fun h => by omega)]; rfl
  refine ev_lp (fun n z => ∃ st c, z = (st, nI c) ∧ c + n = 10 ∧ 1 ≤ c ∧ Kx 3 (sk_wi k 0 4 0) st ∧ KX st 3 (mpL σ c)) ?_ N 9 _ (by omega) ⟨k1, 1, rfl, by omega, by omega, h1.1, by rw [e1]; exact h1.2⟩
  rintro n z self ⟨st, c, rfl, hcn, hc1, hx, hX⟩ ih
  obtain ⟨B, S⟩ := hm st hx
  unfold K_Mapping_write_L22
  dsimp only
  refine ev_le 10 c (fun h => ?_) (fun hc => ?_)
  · have e : c = 10 := by omega
    subst e
    exact ev_some (fr st hx hX)
  refine ev_has c (by omega) (S.2.1 0 c (by omega)) (fun h => ?_) (fun hnd => ?_)
  · rw [nI_1]
    exact ih (n - 1) _ (by omega) ⟨st, c + 1, rfl, by omega, by omega, hx, by simp only [mpL]; rw [cT_n (fun z => h z.2), List.append_nil]; exact hX⟩
  have hb := mp_b hI (x := 0) hc1 hc (by omega)
  simp only [memL, List.append_nil, List.length_append] at hb
  have cb : (clL σ c).length = 3 + 4 + nnl σ c + 2 := by unfold clL; simp only [List.length_append, tl_len, List.length_cons, List.length_nil]
  have nb := nnl_b σ c
  unfold K_Mapping_writeClass
  refine ev_oR (Q := fun st' => Kx 3 (sk_wi k 0 4 0) st' ∧ KX st' 3 (mpL σ (c + 1))) ?_ (fun st' h' => by
    rw [nI_1]
    exact ih (n - 1) _ (by omega) ⟨st', c + 1, rfl, by omega, by omega, h'.1, h'.2⟩)
  refine ev_rI hc (by decide) ?_
  rw [(B.1.1 c hc).1]
  refine ev_oR (k_putOldName (by omega) (hI.2.1 c hc).2.2.2.1 hc hX (by omega)) (fun a1 g1 => ?_)
  refine ev_oR (k_putAll (j := 12) hN (by omega) (by omega) g1.2 (by simp [tl_len, show (sL 12).length = 4 from rfl]; omega)) (fun a2 g2 => ?_)
  have x2 := (hx.tr g1.1).tr g2.1
  obtain ⟨B2, S2⟩ := hm a2 x2
  refine ev_oR (k_tellName hI B2 S2 (by omega) hc hnd g2.2 (by simp [tl_len, show (sL 12).length = 4 from rfl]; omega)) (fun a3 g3 => ?_)
  refine ev_oR (k_putAll (j := 13) hN (by omega) (by omega) g3.2 (by simp [tl_len, show (sL 12).length = 4 from rfl, show (sL 13).length = 2 from rfl]; omega)) (fun a4 g4 => ?_)
  have x4 := (x2.tr g3.1).tr g4.1
  have w4 : KX a4 3 (mpL σ c ++ clL σ c ++ memL σ c 1) := by
    have := g4.2
    have e : memL σ c 1 = [] := by
      simp only [memL]
      rw [cT_n (fun z => by have := z.1; rw [hI.2.2.2.2.1.1] at this; omega)]; rfl
    rw [e]
    unfold clL
    rw [show sL 12 = [32, 45, 62, 32] from rfl, show sL 13 = [58, 10] from rfl] at this
    simp only [List.append_assoc, List.cons_append, List.nil_append, List.append_nil] at this ⊢
    exact this
  refine ev_lp (fun n z => ∃ st x, z = (st, nI c, nI x) ∧ x + n = σ 0 0 ∧ Kx 3 (sk_wi k 0 4 0) st ∧ KX st 3 (mpL σ c ++ clL σ c ++ memL σ c x)) ?_ N (σ 0 0 - 1) _ (by omega) ⟨a4, 1, rfl, by have := hI.1.1; omega, x4, w4⟩
  rintro n2 z self2 ⟨st, x, rfl, hk2, hx2, hw2⟩ ih2
  obtain ⟨B3, S3⟩ := hm st hx2
  unfold K_Mapping_writeClass_L49
  dsimp only
  refine ev_le (σ 0 0) x (hu := B3.2.2.1.1) (fun h => ?_) (fun hxn => ?_)
  · have e : x = σ 0 0 := by omega
    subst e
    refine ev_some ⟨hx2, ?_⟩
    simp only [mpL]; rw [cT_y ⟨hc1, hnd⟩, ← List.append_assoc]; exact hw2
  · obtain ⟨b8, b9, b10, b11, b12, _⟩ := hI.2.2.2.1 x hxn
    have next : ¬ (σ 8 x = c ∧ alive σ x ∧ ND σ 3 x) → Ev (self2 (st, nI c, nI x + 1)) (fun st' => Kx 3 (sk_wi k 0 4 0) st' ∧ KX st' 3 (mpL σ (c + 1))) := fun h => by
      rw [nI_1]
      exact ih2 (n2 - 1) _ (by omega) ⟨st, x + 1, rfl, by omega, hx2, by simp only [memL]; rw [cT_n h, List.append_nil]; exact hw2⟩
    refine ev_rI (by omega) (by decide) ?_
    refine ev_qn (σ 8 x) c (hu := (B3.2.2.1.2.1 x hxn).1) (fun g5 => ?_) (fun g5 => next (fun h => g5 h.1))
    refine ev_has x (by omega) (S3.2.1 3 x (by omega)) (fun g6 => next (fun h => g6 h.2.2)) (fun g6 => ?_)
    have al := (nd_th hI 3 x g6).2 rfl
    refine ev_rI (by omega) (by decide) ?_
    rw [(B3.2.2.1.2.1 x hxn).2.1]
    have hb := mp_b hI (x := x) hc1 hc (by omega)
    refine ev_oR (k_writeMember hI hN S3 hxn ⟨x, al, g6, rfl⟩ hw2 hb) (fun a5 g7 => ?_)
    rw [nI_1]
    exact ih2 (n2 - 1) _ (by omega) ⟨a5, x + 1, rfl, by omega, hx2.tr g7.1, by simp only [memL]; rw [cT_y ⟨g5, al, g6⟩, ← List.append_assoc]; exact g7.2⟩
/-! the class's queries -/
theorem has_cases {x : Int64} {P : Nat → Prop} (h : ∀ i, lb x i = true ↔ P i) (v : Int32) : (K_SF_has x v = 0 ∧ ∀ i, i < 64 → v = nI i → ¬ P i) ∨ ∃ i, i < 64 ∧ v = nI i ∧ P i ∧ K_SF_has x v = 1 := by
  by_cases h0 : v < 0
  · refine Or.inl ⟨has_neg x h0, fun i hi e => ?_⟩
    rw [e] at h0
    exact absurd h0 (nI_pos (by omega))
  · obtain ⟨j, hj, rfl⟩ := nI_of h0
    rcases Nat.lt_or_ge j 64 with q | q
    · rw [has_nI x q]
      by_cases p : P j
      · exact Or.inr ⟨j, q, rfl, p, if_pos ((h j).mpr p)⟩
      · refine Or.inl ⟨if_neg (fun z => p ((h j).mp z)), fun i hi e => ?_⟩
        rw [← (nI_eq (by omega) (by omega)).mp e]; exact p
    · refine Or.inl ⟨has_big x q hj, fun i hi e => ?_⟩
      have := (nI_eq (by omega) (by omega)).mp e
      omega
theorem k_needs (hI : IA σ) (hN : 80 < N) (hR : RK σ k) {c w : Nat} (hc : c < 10) (ht : σ 1 c = 1) (hw : w ≤ 5) : Ev (K_SF_needs N k (nI c) (nI w)) (fun z => z.1 = nV σ c w ∧ RK σ z.2) := by
  unfold K_SF_needs
  refine ev_wn w 0 5 (by omega) hw ?_
  unfold K_Types_isThere
  rw [if_neg (show ¬ K_SF_has (k.2 0 11) (nI c) = 0 from fun z => by rw [has_0 _ (by omega)] at z; rw [(hR.1.1.2 c).mpr ⟨hc, ht⟩] at z; cases z)]
  refine ev_oR (k_settle hI hN hR) (fun k1 h1 => ?_)
  have S1 : SK σ k1 := h1
  have nd := S1.2.1.2.1
  refine ev_qn w 0 (fun h => ?_) (fun h0 => ?_)
  · subst h; exact ev_some ⟨asN_has (by omega) (nd 0 c (by omega)), S1.rk⟩
  refine ev_qn w 1 (fun h => ?_) (fun h1 => ?_)
  · subst h; exact ev_some ⟨asN_has (by omega) (nd 1 c (by omega)), S1.rk⟩
  refine ev_qn w 2 (fun h => ?_) (fun h2 => ?_)
  · subst h; exact ev_some ⟨asN_has (by omega) (nd 2 c (by omega)), S1.rk⟩
  refine ev_qn w 3 (fun h => ?_) (fun h3 => ?_)
  · subst h; exact ev_some ⟨asN_has (by omega) (S1.2.1.2.2.1 c), S1.rk⟩
  refine ev_qn w 4 (fun h => ?_) (fun h4 => ?_)
  · subst h
    refine ev_rL hc (by decide) ?_
    refine ev_some ⟨?_, S1.rk⟩
    dsimp only
    rw [k_bitCount, show nV σ c 4 = nI (ct (abv σ c) 10) from rfl, ct_cong (fun i _ => (S1.1.2.1.2.2.2 c hc ht).2.2 i), ct_ext (n := 10) (fun i hi h => by have := abv_lt hI c hc i h; omega) (by omega)]
  · have e : w = 5 := by omega
    subst e
    exact ev_oR (k_greatest hI S1.1.2.2.2.2.2 S1.2.1.1 hN hc) (fun v hv => ev_some ⟨hv, S1.rk⟩)
theorem k_part (hI : IA σ) (hN : 80 < N) (hR : RK σ k) {x w : Nat} (hx : alive σ x) (hw : w ≤ 5) : Ev (K_SF_part N k (nI x) (nI w)) (fun z => z.1 = pV σ x w ∧ RK σ z.2) := by
  have hn := hI.1.2.1
  have hxn := hx.1
  have sg := sgn_lt hI hxn
  obtain ⟨b8, b9, b10, b11, _⟩ := hI.2.2.2.1 x hxn
  unfold K_SF_part
  refine ev_wn w 0 5 (by omega) hw ?_
  unfold K_Members_isAlive
  rw [if_neg (show ¬ K_SF_has (k.2 0 0) (nI x) = 0 from fun z => by rw [has_0 _ (by omega)] at z; rw [(hR.1.2.2.1.2.2.1 x).mpr hx] at z; cases z)]
  refine ev_oR (k_settle hI hN hR) (fun k1 h1 => ?_)
  have S1 : SK σ k1 := h1
  have nd := S1.2.1.2.1
  obtain ⟨m1, m2, m3⟩ := S1.1.2.2.1.2.1 x hxn
  refine ev_qn w 0 (fun h => ?_) (fun h0 => ?_)
  · subst h; exact ev_some ⟨asN_has (by omega) (nd 3 x (by omega)), S1.rk⟩
  refine ev_qn w 1 (fun h => ?_) (fun h1 => ?_)
  · subst h
    refine ev_rI (by omega) (by decide) ?_
    rw [m2]
    refine ev_some ⟨asN_has (by omega) ⟨fun z => ((S1.2.1.2.2.2.1 _).mp z).2, fun z => (S1.2.1.2.2.2.1 _).mpr ⟨sg, z⟩⟩, S1.rk⟩
  refine ev_qn w 2 (fun h => ?_) (fun h2 => ?_)
  · subst h
    refine ev_rI (by omega) (by decide) ?_
    exact ev_some ⟨m1, S1.rk⟩
  refine ev_qn w 3 (fun h => ?_) (fun h3 => ?_)
  · subst h
    refine ev_rI (by omega) (by decide) ?_
    rw [m2, k_word _ sg]
    refine ev_some ⟨?_, S1.rk⟩
    show nI _ = nI (σ 9 x)
    congr 1; unfold sgn; omega
  refine ev_qn w 4 (fun h => ?_) (fun h4 => ?_)
  · subst h
    refine ev_rI (by omega) (by decide) ?_
    rw [m2, k_shape _ sg]
    refine ev_some ⟨?_, S1.rk⟩
    show nI _ = nI (σ 10 x)
    congr 1; unfold sgn; omega
  · have e : w = 5 := by omega
    subst e
    refine ev_rI (by omega) (by decide) ?_
    exact ev_some ⟨m3, S1.rk⟩
theorem isWanted_y {c w s : Nat} (hc : c ≤ 9) (hw : w ≤ 7) (hs : s ≤ 1) : K_SF_isWanted (nI c) (nI w) (nI s) = 1 := by
  unfold K_SF_isWanted
  have q : ∀ a b v : Nat, a ≤ v → v ≤ b → b < 2 ^ 31 → K_SF_within (nI v) (nI a) (nI b) = 1 := fun a b v h1 h2 h3 => by
    rw [within_in]
    rcases in_cases (nI v) (a := a) (b := b) (by omega) h3 with h | h
    · exact absurd ⟨v, h1, h2, rfl⟩ h.2
    · exact h.1
  rw [if_neg (by rw [show (K_SF_within (nI c) 0 9) = 1 from q 0 9 c (by omega) hc (by omega)]; decide), if_neg (by rw [show (K_SF_within (nI w) 0 7) = 1 from q 0 7 w (by omega) hw (by omega)]; decide), if_neg (by rw [show (K_SF_within (nI s) 0 1) = 1 from q 0 1 s (by omega) hs (by omega)]; decide)]
theorem isWanted_n {u v w : Int32} (h : ¬ ((∃ c, c ≤ 9 ∧ u = nI c) ∧ (∃ c, c ≤ 7 ∧ v = nI c) ∧ ∃ c, c ≤ 1 ∧ w = nI c)) : K_SF_isWanted u v w = 0 := by
  unfold K_SF_isWanted
  by_cases h1 : K_SF_within u 0 9 = 0
  · rw [if_pos h1]
  · rw [if_neg h1]
    by_cases h2 : K_SF_within v 0 7 = 0
    · rw [if_pos h2]
    · rw [if_neg h2]
      by_cases h3 : K_SF_within w 0 1 = 0
      · rw [if_pos h3]
      · exfalso
        obtain ⟨j1, _, a1, e1⟩ := in_yes (a := 0) (b := 9) (by omega) (by omega) h1
        obtain ⟨j2, _, a2, e2⟩ := in_yes (a := 0) (b := 7) (by omega) (by omega) h2
        obtain ⟨j3, _, a3, e3⟩ := in_yes (a := 0) (b := 1) (by omega) (by omega) h3
        exact h ⟨⟨j1, a1, e1⟩, ⟨j2, a2, e2⟩, ⟨j3, a3, e3⟩⟩
theorem k_found (hI : IA σ) (hN : 80 < N) (hR : RK σ k) {kd c w s : Nat} (hk : 2 ≤ kd) (hk5 : kd ≤ 5) (hc : c ≤ 9) (hw : w ≤ 7) (hs : s ≤ 1) {ned : Int32} (hned : ned = 0 ∨ ned = 1) : Ev (K_SF_found N k (nI kd) (nI c) (nI w) (nI s) ned) (fun z => FO σ c ((if kd = 2 then 0 else 16) + 2 * w + s) (wtd σ (ND σ 3) 0 ned) z.1 ∧ RK σ z.2) := by
  unfold K_SF_found
  refine ev_wn kd 2 5 hk hk5 ?_
  rw [if_neg (by rw [isWanted_y hc hw hs]; decide)]
  refine ev_oR (k_settle hI hN hR) (fun k1 h1 => ?_)
  have S1 : SK σ k1 := h1
  have T : ∀ (set : Int64), (∀ i, i < 40 → (lb set i = true ↔ alive σ i ∧ wtd σ (ND σ 3) 0 ned i)) → Ev (K_SF_found_J47 N k1 (nI kd) (nI c) (nI w) (nI s) set) (fun z => FO σ c ((if kd = 2 then 0 else 16) + 2 * w + s) (wtd σ (ND σ 3) 0 ned) z.1 ∧ RK σ z.2) := by
    intro set hset
    have fin : ∀ g, g < 32 → Ev (sk_oR (K_Members_find N k1 (nI c) (nI g) set) fun x72 => some (x72, k1)) (fun z => FO σ c g (wtd σ (ND σ 3) 0 ned) z.1 ∧ RK σ z.2) := fun g hg =>
      ev_oR (k_find hI S1.1.1 S1.1.2.1 S1.1.2.2.1 hN (by omega) hg hset) (fun r hr => ev_some ⟨by
        obtain ⟨o, e1, e2, e3⟩ := hr
        exact ⟨o, e1, e2, fun z => LK_cong (fun x ha _ => ⟨fun q => q.2, fun q => ⟨ha, q⟩⟩) (e3 z)⟩, S1.rk⟩)
    unfold K_SF_found_J47 K_SF_found_J64
    refine ev_qn kd 2 (fun h => ?_) (fun h => ?_)
    · rw [if_pos h, show K_SF_signature 0 (nI w) (nI s) = nI (16 * 0 + 2 * w + s) from k_sig (kd := 0) (by omega)]
      exact fin _ (by omega)
    · rw [if_neg h, show K_SF_signature 1 (nI w) (nI s) = nI (16 * 1 + 2 * w + s) from k_sig (kd := 1) (by omega)]
      exact fin _ (by omega)
  refine ev_if (fun h => T _ (fun i _ => ?_)) (fun h => T _ (fun i _ => ?_))
  · rw [S1.1.2.2.1.2.2.1 i]
    exact ⟨fun z => ⟨z, Or.inl rfl, Or.inl h⟩, fun z => z.1⟩
  · rw [S1.2.1.2.1 3 i (by omega)]
    exact ⟨fun z => ⟨(nd_th hI 3 i z).2 rfl, Or.inl rfl, Or.inr z⟩, fun z => z.2.2.resolve_left h⟩
theorem k_selected (hI : IA σ) (hN : 80 < N) (hR : RK σ k) {c w s : Nat} (hc : c ≤ 9) (hw : w ≤ 7) (hs : s ≤ 1) {ned : Int32} (hned : ned = 0 ∨ ned = 1) : Ev (K_SF_selected N k (nI c) (nI w) (nI s) ned) (fun z => FO σ c (16 + 2 * w + s) (wtd σ (ND σ 3) 1 ned) z.1 ∧ RK σ z.2) := by
  unfold K_SF_selected
  rw [if_neg (by rw [isWanted_y hc hw hs]; decide)]
  refine ev_oR (k_settle hI hN hR) (fun k1 h1 => ?_)
  have S1 : SK σ k1 := h1
  have T : ∀ (set : Int64), (∀ i, i < 40 → (lb set i = true ↔ alive σ i ∧ (ned = 0 ∨ ND σ 3 i))) → Ev (K_SF_selected_J37 N k1 (nI c) (nI w) (nI s) set) (fun z => FO σ c (16 + 2 * w + s) (wtd σ (ND σ 3) 1 ned) z.1 ∧ RK σ z.2) := by
    intro set hset
    unfold K_SF_selected_J37
    rw [show K_SF_signature 1 (nI w) (nI s) = nI (16 * 1 + 2 * w + s) from k_sig (kd := 1) (by omega)]
    refine ev_oR (k_find hI S1.1.1 S1.1.2.1 S1.1.2.2.1 hN (g := 16 * 1 + 2 * w + s) (by omega) (by omega) (A := fun i => (alive σ i ∧ (ned = 0 ∨ ND σ 3 i)) ∧ alive σ i ∧ σ 11 i = 1) (fun i hi => by rw [lb_and, Bool.and_eq_true, hset i hi, S1.1.2.2.1.2.2.2.1])) (fun r hr => ev_some ⟨?_, S1.rk⟩)
    obtain ⟨o, e1, e2, e3⟩ := hr
    refine ⟨o, e1, e2, fun z => LK_cong (fun x ha hs => ?_) (e3 z)⟩
    have b := hI.2.2.2.1 x ha.1
    unfold sgn at hs
    exact ⟨fun q => ⟨Or.inr (by omega), q.1.2⟩, fun q => ⟨⟨ha, q.2⟩, ha, by have := q.1.resolve_left (by decide); omega⟩⟩
  refine ev_if (fun h => T _ (fun i _ => ?_)) (fun h => T _ (fun i _ => ?_))
  · rw [S1.1.2.2.1.2.2.1 i]
    exact ⟨fun z => ⟨z, Or.inl h⟩, fun z => z.1⟩
  · rw [S1.2.1.2.1 3 i (by omega)]
    exact ⟨fun z => ⟨(nd_th hI 3 i z).2 rfl, Or.inr z⟩, fun z => z.2.resolve_left h⟩
theorem lx_tl {tx : Nat → Nat} {n : Nat} {i : Nat} (h : i < n) : lx (tl tx n) i = tx i := by
  unfold lx tl
  rw [List.getD_eq_getElem?_getD, List.getElem?_map, List.getElem?_range h]
  rfl
theorem tV_tl {tx : Nat → Nat} {n : Nat} (h0 : 0 < n) (hn : n ≤ 16) (v : Int32) : tV (tl tx n).length (lx (tl tx n)) v = tV n tx v := by
  unfold tV
  rw [tl_len]
  by_cases h : v = -1
  · rw [if_pos h, if_pos h]
  · rw [if_neg h, if_neg h]
    by_cases h2 : M_in v 0 (nI n - 1) = 0
    · rw [if_pos h2, if_pos h2]
    · rw [if_neg h2, if_neg h2]
      rw [nI_m1 h0] at h2
      obtain ⟨j, _, hj, rfl⟩ := in_yes (a := 0) (b := n - 1) (by omega) (by omega) h2
      rw [nI_clamp (by omega), lx_tl (by omega)]
theorem k_nameC (hI : IA σ) (hN : 80 < N) (hR : RK σ k) (u v : Int32) : Ev (K_SF_name N k 0 u v) (fun z => (((∀ c, c < 10 → u = nI c → ¬ ND σ 0 c) ∧ z.1 = -2) ∨ ∃ c, c < 10 ∧ u = nI c ∧ ND σ 0 c ∧ z.1 = tV (nnl σ c) (nnx σ c) v) ∧ RK σ z.2) := by
  unfold K_SF_name
  refine ev_oR (k_settle hI hN hR) (fun k1 h1 => ?_)
  have S1 : SK σ k1 := h1
  rw [if_pos rfl]
  unfold K_SF_name_J25
  rcases has_cases (fun i => S1.2.1.2.1 0 i (by omega)) u with ⟨h, hno⟩ | ⟨c, _, rfl, hc, h⟩
  · rw [if_pos h]
    exact ev_some ⟨Or.inl ⟨fun c a b => hno c (by omega) b, rfl⟩, S1.rk⟩
  · rw [if_neg (by rw [h]; decide)]
    have hc10 := ((nd_th hI 0 c hc).1 (by omega)).1
    refine ev_oR (k_wipe (i := 1) (by omega)) (fun k2 h2 => ?_)
    have S2 := S1.x h2.1 (by omega) (by omega)
    rw [if_pos rfl]
    refine ev_oR (k_tellName hI S2.1 S2.2.1.m (by omega) hc10 hc h2.2 (by simp [capT])) (fun k3 h3 => ?_)
    unfold K_SF_name_J81
    rw [List.nil_append] at h3
    have nb := nnl_b σ c
    rw [pu_oR (k_answer (by omega) h3.2 (by rw [tl_len]; exact nb.2) v)]
    exact ev_some ⟨Or.inr ⟨c, hc10, rfl, hc, tV_tl nb.1 (by omega) v⟩, (S2.x h3.1 (by omega) (by omega)).rk⟩
theorem k_nameM (hI : IA σ) (hN : 80 < N) (hR : RK σ k) (u v : Int32) : Ev (K_SF_name N k 1 u v) (fun z => (((∀ x, x < 40 → u = nI x → ¬ ND σ 3 x) ∧ z.1 = -2) ∨ ∃ x, u = nI x ∧ ND σ 3 x ∧ z.1 = tV (ntl σ (sgn σ x)) (ntx σ (sgn σ x)) v) ∧ RK σ z.2) := by
  have hn := hI.1.2.1
  unfold K_SF_name
  refine ev_oR (k_settle hI hN hR) (fun k1 h1 => ?_)
  have S1 : SK σ k1 := h1
  rw [if_neg (by decide)]
  unfold K_SF_name_J25
  rcases has_cases (fun i => S1.2.1.2.1 3 i (by omega)) u with ⟨h, hno⟩ | ⟨x, _, rfl, hx, h⟩
  · rw [if_pos h]
    exact ev_some ⟨Or.inl ⟨fun c a b => hno c (by omega) b, rfl⟩, S1.rk⟩
  · rw [if_neg (by rw [h]; decide)]
    have al := (nd_th hI 3 x hx).2 rfl
    have hxn := al.1
    refine ev_oR (k_wipe (i := 1) (by omega)) (fun k2 h2 => ?_)
    have S2 := S1.x h2.1 (by omega) (by omega)
    rw [if_neg (by decide)]
    refine ev_rI (by omega) (by decide) ?_
    rw [(S2.1.2.2.1.2.1 x hxn).2.1]
    refine ev_oR (k_tellText hN S2.2.1.m (by omega) (sgn_lt hI hxn) ⟨x, al, hx, rfl⟩ h2.2 (by simp [capT])) (fun k3 h3 => ?_)
    unfold K_SF_name_J81
    rw [List.nil_append] at h3
    have nb := ntl_b σ (sgn σ x)
    rw [pu_oR (k_answer (by omega) h3.2 (by rw [tl_len]; exact nb.2) v)]
    exact ev_some ⟨Or.inr ⟨x, rfl, hx, tV_tl nb.1 (by omega) v⟩, (S2.x h3.1 (by omega) (by omega)).rk⟩
theorem k_mapping (hI : IA σ) (hN : 80 < N) (hR : RK σ k) (v : Int32) : Ev (K_SF_mapping N k v) (fun z => z.1 = tV (mp σ).length (lx (mp σ)) v ∧ RK σ z.2) := by
  unfold K_SF_mapping
  refine ev_oR (k_settle hI hN hR) (fun k1 h1 => ?_)
  refine ev_oR (k_mapWrite hI hN h1) (fun k2 h2 => ?_)
  have hl : (mp σ).length ≤ 1083 := mpL_len hI (Nat.le_refl 10)
  rw [pu_oR (k_answer (by omega) h2.2 (by simp [capT]; omega) v)]
  exact ev_some ⟨rfl, h2.1.rk⟩
theorem k_classNamed (hI : IA σ) (hN : 80 < N) (hS : SK σ k) : Ev (K_SF_classNamedByDraft N k) (fun z => CN σ z.1 ∧ SK σ z.2) := by
  unfold K_SF_classNamedByDraft
  refine ev_lp (fun n z => ∃ st c, z = (st, nI c) ∧ c + n = 10 ∧ SK σ st ∧ ∀ c', c' < c → ¬ cNm σ c') ?_ N 10 _ (by omega) ⟨k, 0, rfl, by omega, hS, fun c h => by omega⟩
  rintro n z self ⟨st, c, rfl, hcn, hS, hno⟩ ih
  unfold K_SF_classNamedByDraft_L2
  dsimp only
  refine ev_le 10 c (fun h => ev_some ⟨Or.inl ⟨rfl, fun c' h' => hno c' (by have := ((nd_th hI 0 c' h'.1).1 (by omega)).1; omega) h'⟩, hS⟩) (fun hc => ?_)
  have next : ∀ st', SK σ st' → ¬ cNm σ c → Ev (self (st', nI c + 1)) (fun z => CN σ z.1 ∧ SK σ z.2) := fun st' h1 h2 => by
    rw [nI_1]
    exact ih (n - 1) _ (by omega) ⟨st', c + 1, rfl, by omega, h1, fun c' h => by rcases Nat.lt_or_ge c' c with q | q; exact hno c' q; rw [show c' = c by omega]; exact h2⟩
  refine ev_has c (by omega) (hS.2.1.2.1 0 c (by omega)) (fun h => next st hS (fun z => h z.1)) (fun hnd => ?_)
  refine ev_oR (k_wipe (i := 1) (by omega)) (fun k2 h2 => ?_)
  have S2 := hS.x h2.1 (by omega) (by omega)
  refine ev_oR (k_tellName hI S2.1 S2.2.1.m (by omega) hc hnd h2.2 (by simp [capT])) (fun k3 h3 => ?_)
  rw [List.nil_append] at h3
  have S3 := S2.x h3.1 (by omega) (by omega)
  have nb := nnl_b σ c
  have hq : dQ σ (lx (tl (nnx σ c) (nnl σ c))) (tl (nnx σ c) (nnl σ c)).length ↔ dQ σ (nnx σ c) (nnl σ c) := by
    unfold dQ
    rw [tl_len]
    exact and_congr_right (fun _ => ⟨fun h i hi => by rw [← h i hi, lx_tl hi], fun h i hi => by rw [← h i hi, lx_tl hi]⟩)
  refine ev_oR (k_isSame hI hN S3.1.2.2.2.2.1 h3.2 (by rw [tl_len]; exact nb.2) (fun i => ?_)) (fun r hr => ?_)
  · rcases Nat.lt_or_ge i (nnl σ c) with q | q
    · rw [lx_tl q]
      unfold nnx
      by_cases z : kn σ c
      · rw [cI_y z]; have := nmx_lt (i := i) (hI.2.1 c hc).2.2.2.1 hc; omega
      · rw [cI_n z]; have := ct_le (nP σ) c; omega
    · unfold lx
      rw [List.getD_eq_getElem?_getD, List.getElem?_eq_none (by rw [tl_len]; exact q)]
      decide
  · rcases hr with ⟨rfl, hr⟩ | ⟨rfl, hr⟩
    · rw [if_pos rfl]
      exact next k3 S3 (fun z => hr (hq.mpr z.2))
    · rw [if_neg (by decide)]
      exact ev_some ⟨Or.inr ⟨c, rfl, hc, ⟨hnd, hq.mp hr⟩, hno⟩, S3⟩
theorem k_memberWith (hI : IA σ) (hN : 80 < N) (hS : SK σ k) {c v s kd : Nat} (hc : c < 10) (hv : 97 ≤ v ∧ v ≤ 122) (hs : s ≤ 1) (hk : kd ≤ 1) : Ev (K_SF_memberWithText N k (nI c) (nI v) (nI s) (nI kd)) (fun z => MW σ c kd s v z.1 ∧ SK σ z.2) := by
  have hn := hI.1.2.1
  unfold K_SF_memberWithText
  refine ev_lp (fun n z => ∃ st w, z = (st, nI c, nI v, nI s, nI kd, nI w) ∧ w + n = 8 ∧ SK σ st ∧ ∀ x, σ 9 x < w → ¬ mNm σ c kd s v x) ?_ N 8 _ (by omega) ⟨k, 0, rfl, by omega, hS, fun x h => by omega⟩
  rintro n z self ⟨st, w, rfl, hwn, hS, hno⟩ ih
  unfold K_SF_memberWithText_L3
  dsimp only
  have hb : ∀ x, mNm σ c kd s v x → σ 9 x < 8 ∧ own σ c (16 * kd + 2 * σ 9 x + s) x := fun x h => by
    have al := (nd_th hI 3 x h.1).2 rfl
    exact ⟨(hI.2.2.2.1 x al.1).2.1, al, h.2.1, by unfold sgn; have := h.2.2.1; have := h.2.2.2.1; omega⟩
  refine ev_le 8 w (fun h => ev_some ⟨Or.inl ⟨rfl, fun x hx => hno x (by have := (hb x hx).1; omega) hx⟩, hS⟩) (fun hw => ?_)
  rw [k_sig (by omega)]
  have gl : 16 * kd + 2 * w + s < 32 := by omega
  rw [pu_oR (k_at hc gl)]
  have next : ∀ st', SK σ st' → (∀ x, σ 9 x = w → ¬ mNm σ c kd s v x) → Ev (self (st', nI c, nI v, nI s, nI kd, nI w + 1)) (fun z => MW σ c kd s v z.1 ∧ SK σ z.2) := fun st' h1 h2 => by
    rw [nI_1]
    exact ih (n - 1) _ (by omega) ⟨st', w + 1, rfl, by omega, h1, fun x h => by rcases Nat.lt_or_ge (σ 9 x) w with q | q; exact hno x q; exact h2 x (by omega)⟩
  rcases hS.1.2.2.1.2.2.2.2 c _ hc gl with ⟨x, hx, e⟩ | ⟨hx, e⟩
  · have hxn := hx.1.1
    rw [e]
    have only : ∀ y, σ 9 y = w → mNm σ c kd s v y → y = x := fun y h1 h2 => hI.2.2.2.2.2.1 c _ y x (by have := (hb y h2).2; rw [h1] at this; exact this) hx
    refine ev_has x (by omega) (hS.2.1.2.1 3 x (by omega)) (fun h => next st hS (fun y h1 h2 => h (by rw [← only y h1 h2]; exact h2.1))) (fun hnd => ?_)
    refine ev_oR (k_wipe (i := 1) (by omega)) (fun k2 h2 => ?_)
    have S2 := hS.x h2.1 (by omega) (by omega)
    have esg : sgn σ x = 16 * kd + 2 * w + s := hx.2.2
    refine ev_oR (k_tellText hN S2.2.1.m (by omega) gl ⟨x, hx.1, hnd, esg⟩ h2.2 (by simp [capT])) (fun k3 h3 => ?_)
    rw [List.nil_append] at h3
    have S3 := S2.x h3.1 (by omega) (by omega)
    have nb := ntl_b σ (16 * kd + 2 * w + s)
    rw [pu_oR (k_answer (by omega) h3.2 (by rw [tl_len]; exact nb.2) 0), tV_tl nb.1 (by omega)]
    have e0 : tV (ntl σ (16 * kd + 2 * w + s)) (ntx σ (16 * kd + 2 * w + s)) 0 = nI (ntx σ (16 * kd + 2 * w + s) 0) := by
      unfold tV
      rw [if_neg (by decide), nI_m1 nb.1, if_neg]
      · rfl
      · rcases in_cases (nI 0) (a := 0) (b := ntl σ (16 * kd + 2 * w + s) - 1) (by omega) (by omega) with q | q
        · exact absurd ⟨0, by omega, by omega, rfl⟩ q.2
        · intro z
          rw [show (0 : Int32) = nI 0 from rfl, q.1] at z
          exact absurd z (by decide)
    have d : ntx σ (16 * kd + 2 * w + s) 0 < 2 ^ 31 := by
      unfold ntx
      by_cases q : kt σ (16 * kd + 2 * w + s)
      · rw [cI_y q]; have := wdx_lt (w := (16 * kd + 2 * w + s) / 2 % 8) (i := 0) (by omega); omega
      · rw [cI_n q]; have := ct_le (tP σ (16 * kd + 2 * w + s)) ((16 * kd + 2 * w + s) / 2 % 8); omega
    rw [e0]
    have p := hI.2.2.2.1 x hxn
    refine ev_qn (ntx σ (16 * kd + 2 * w + s) 0) v (fun h => ?_) (fun h => ?_)
    · exact ev_some ⟨Or.inr ⟨x, rfl, hnd, hx.2.1, by unfold sgn at esg; omega, by unfold sgn at esg; omega, by rw [esg]; exact h⟩, S3⟩
    · refine next k3 S3 (fun y h1 h2 => ?_)
      have := only y h1 h2
      subst this
      exact h (by rw [← esg]; exact h2.2.2.2.2)
  · rw [e]
    exact ev_hasN (by decide) (next st hS (fun y h1 h2 => hx y (by have := (hb y h2).2; rw [h1] at this; exact this)))
theorem k_trace (hI : IA σ) (hN : 80 < N) (hR : RK σ k) {v s kd : Nat} (hv : v = 0 ∨ (97 ≤ v ∧ v ≤ 122)) (hs : s ≤ 1) (hk : kd ≤ 1) : Ev (K_SF_trace N k (nI v) (nI s) (nI kd)) (fun z => TR σ v s kd z.1 ∧ RK σ z.2) := by
  have J : Ev (K_SF_trace_J15 N k (nI v) (nI s) (nI kd)) (fun z => TR σ v s kd z.1 ∧ RK σ z.2) := by
    unfold K_SF_trace_J15
    refine ev_wn s 0 1 (by omega) hs ?_
    refine ev_oR (k_settle hI hN hR) (fun k1 h1 => ?_)
    refine ev_oW (k_classNamed hI hN h1) (fun r k2 h2 => ?_)
    obtain ⟨hc, S2⟩ := h2
    have hcn := hc
    rcases hc with ⟨rfl, hc⟩ | ⟨c, rfl, hc10, hc, hcl⟩
    · rw [if_pos rfl]
      exact ev_some ⟨⟨fun _ => hcn, fun _ => Or.inl ⟨hcn, rfl⟩⟩, S2.rk⟩
    · rw [if_neg (show ¬ nI c = -2 from oI_no (x := c) (by omega))]
      refine ev_qn v 0 (fun h => ev_some ⟨⟨fun _ => hcn, fun q => absurd h q⟩, S2.rk⟩) (fun hv0 => ?_)
      refine ev_oW (k_memberWith hI hN S2 hc10 (by omega) hs hk) (fun r k3 h3 => ev_some ⟨⟨fun q => absurd q hv0, fun _ => Or.inr ⟨c, hc10, hcn, h3.1⟩⟩, h3.2.rk⟩)
  unfold K_SF_trace
  refine ev_qn v 0 (fun _ => J) (fun h => ?_)
  exact ev_wn v 97 122 (by omega) (by omega) J
theorem k_countRefs (hI : IA σ) (hN : 80 < N) (hS : SK σ k) : Ev (K_Needs_countReferences N k) (fun r => r = nI (ct (actv σ) (σ 0 1))) := by
  have hn := hI.1.2.1
  have hn1 := hI.1.2.2.1
  unfold K_Needs_countReferences
  refine ev_lp (fun n z => ∃ i, z = (nI (ct (actv σ) i), nI i) ∧ i + n = σ 0 1) ?_ N (σ 0 1) _ (by omega) ⟨0, rfl, by omega⟩
  rintro n z self ⟨i, rfl, hin⟩ ih
  unfold K_Needs_countReferences_L4
  dsimp only
  refine ev_le (σ 0 1) i (hu := hS.1.2.2.2.1.1) (fun h => ?_) (fun hi => ?_)
  · rw [show i = σ 0 1 by omega]; exact ev_some rfl
  have g := hI.2.2.2.2.2.2.1 i hi
  refine ev_rI (by omega) (by decide) ?_
  rw [(hS.1.2.2.2.1.2 i hi).1, asN_has (by omega) (hS.2.1.2.1 3 _ (by omega)), nI_1]
  by_cases a : ND σ 3 (σ 13 i)
  · rw [pI_y a, nI_1]
    exact ih (n - 1) _ (by omega) ⟨i + 1, by rw [ct_y (P := actv σ) a], by omega⟩
  · rw [pI_n a, Int32.add_zero]
    exact ih (n - 1) _ (by omega) ⟨i + 1, by rw [ct_n (P := actv σ) a], by omega⟩
theorem k_countMisses (hI : IA σ) (hN : 80 < N) (hS : SK σ k) : Ev (K_Needs_countMisses N k) (fun r => r = nI (ct (miss σ) (σ 0 1))) := by
  have hn := hI.1.2.1
  have hn1 := hI.1.2.2.1
  unfold K_Needs_countMisses
  refine ev_lp (fun n z => ∃ i, z = (nI (ct (miss σ) i), nI i) ∧ i + n = σ 0 1) ?_ N (σ 0 1) _ (by omega) ⟨0, rfl, by omega⟩
  rintro n z self ⟨i, rfl, hin⟩ ih
  unfold K_Needs_countMisses_L4
  dsimp only
  refine ev_le (σ 0 1) i (hu := hS.1.2.2.2.1.1) (fun h => ?_) (fun hi => ?_)
  · rw [show i = σ 0 1 by omega]; exact ev_some rfl
  obtain ⟨g1, g2, g3, g4, g5, g6, g7⟩ := hI.2.2.2.2.2.2.1 i hi
  obtain ⟨f1, f2, f3, f4⟩ := hS.1.2.2.2.1.2 i hi
  have b1 := (hI.2.1 (σ 15 i) g5).1
  refine ev_rI (by omega) (by decide) ?_
  rw [f1]
  refine ev_has (σ 13 i) (by omega) (hS.2.1.2.1 3 _ (by omega)) (fun h => ?_) (fun hnd => ?_)
  · rw [nI_1]
    exact ih (n - 1) _ (by omega) ⟨i + 1, by rw [ct_n (P := miss σ) (fun z => h z.1)], by omega⟩
  have J : ∀ (s0 : Int32) , (s0 = 0 ↔ miss σ i) → Ev (K_Needs_countMisses_J108 N k self (nI (ct (miss σ) i)) (nI i) s0) (fun r => r = nI (ct (miss σ) (σ 0 1))) := by
    intro s0 hs
    unfold K_Needs_countMisses_J108 K_Needs_countMisses_J119
    refine ev_if (fun h => ?_) (fun h => ?_)
    · rw [show K_SF_asNumber 1 = 1 from rfl, nI_1, nI_1]
      exact ih (n - 1) _ (by omega) ⟨i + 1, by rw [ct_y (hs.mp h)], by omega⟩
    · rw [show K_SF_asNumber 0 = 0 from rfl, Int32.add_zero, nI_1]
      exact ih (n - 1) _ (by omega) ⟨i + 1, by rw [ct_n (fun z => h (hs.mpr z))], by omega⟩
  refine ev_rI (by omega) (by decide) ?_
  refine ev_le 2 (σ 14 i) (hv := f2) (fun h2 => ?_) (fun h2 => ?_)
  · refine ev_rI (by omega) (by decide) ?_
    refine ev_rI (by omega) (by decide) ?_
    rw [f3, f4]
    refine ev_oR (k_findA hI hS.1 hN g5 (gI_lt hI hi)) (fun r hr => ?_)
    obtain ⟨o, rfl, e1, e2⟩ := hr
    cases o with
    | none =>
      rw [if_pos (show oI none = -2 from rfl)]
      refine J 0 ⟨fun _ => ⟨hnd, ?_⟩, fun _ => rfl⟩
      rcases (show σ 1 (σ 15 i) = 0 ∨ σ 1 (σ 15 i) = 1 by omega) with q | q
      · exact Or.inl q
      · exact Or.inr ⟨h2, e2 q⟩
    | some x =>
      have th : σ 1 (σ 15 i) = 1 := by
        rcases (show σ 1 (σ 15 i) = 0 ∨ σ 1 (σ 15 i) = 1 by omega) with q | q
        · have := e1 q; cases this
        · exact q
      have hx := (LK_lt (e2 th)).1.1
      rw [if_neg (oI_no (by omega))]
      refine J 1 ⟨fun z => absurd z (by decide), fun z => ?_⟩
      rcases z.2 with z | z
      · omega
      · have := LK_unique hI (e2 th) z.2
        cases this
  · refine ev_rI (by omega) (by decide) ?_
    rw [f3]
    unfold K_Types_isThere
    refine J _ ?_
    rw [has_0 _ (by omega)]
    constructor
    · intro z
      refine ⟨hnd, Or.inl ?_⟩
      have : ¬ σ 1 (σ 15 i) = 1 := fun q => by
        rw [(hS.1.1.2 _).mpr ⟨g5, q⟩] at z; cases z
      omega
    · intro z
      rcases z.2 with z | z
      · cases q : lb (k.2 0 11) (σ 15 i) with
        | false => rfl
        | true => have := ((hS.1.1.2 _).mp q).2; omega
      · have := z.1; omega
theorem k_count (hI : IA σ) (hN : 80 < N) (hR : RK σ k) {w : Nat} (hw : w ≤ 9) : Ev (K_SF_count N k (nI w)) (fun z => z.1 = nI (cV σ w) ∧ RK σ z.2) := by
  have hn := hI.1.2.1
  unfold K_SF_count
  refine ev_wn w 0 9 (by omega) hw ?_
  refine ev_oR (k_settle hI hN hR) (fun k1 h1 => ?_)
  have S1 : SK σ k1 := h1
  have nd := S1.2.1.2.1
  have ndc : ∀ i, i < 3 → J_bitCount (k1.2 0 (4 + i)) = nI (ct (ND σ i) 10) := fun i hi => by
    rw [k_bitCount, ct_cong (fun j _ => nd i j (by omega)), ct_ext (n := 10) (fun j hj h => by have := ((nd_th hI i j h).1 hi).1; omega) (by omega)]
  refine ev_qn w 0 (fun h => ?_) (fun h0 => ?_)
  · subst h
    refine ev_some ⟨?_, S1.rk⟩
    dsimp only
    rw [k_bitCount, ct_ext (n := 10) (fun j hj h => by have := ((S1.1.1.2 j).mp h).1; omega) (by omega), ct_cong (Q := fun c => σ 1 c = 1) (fun j hj => by rw [S1.1.1.2 j]; exact ⟨fun z => z.2, fun z => ⟨hj, z⟩⟩)]
    rfl
  refine ev_qn w 1 (fun h => ?_) (fun h1 => ?_)
  · subst h
    refine ev_some ⟨?_, S1.rk⟩
    dsimp only
    rw [k_bitCount, ct_cong (fun j _ => S1.1.2.2.1.2.2.1 j), ct_ext (n := 40) (fun j hj h => by have := h.1; omega) (by omega)]
    rfl
  refine ev_qn w 2 (fun h => by subst h; exact ev_some ⟨S1.1.2.2.2.1.1, S1.rk⟩) (fun h2 => ?_)
  refine ev_qn w 3 (fun h => by subst h; exact ev_some ⟨S1.1.2.2.2.2.2.1, S1.rk⟩) (fun h3 => ?_)
  refine ev_qn w 4 (fun h => by subst h; exact ev_some ⟨ndc 0 (by omega), S1.rk⟩) (fun h4 => ?_)
  refine ev_qn w 5 (fun h => by subst h; exact ev_some ⟨ndc 1 (by omega), S1.rk⟩) (fun h5 => ?_)
  refine ev_qn w 6 (fun h => by subst h; exact ev_some ⟨ndc 2 (by omega), S1.rk⟩) (fun h6 => ?_)
  refine ev_qn w 7 (fun h => ?_) (fun h7 => ?_)
  · subst h
    refine ev_some ⟨?_, S1.rk⟩
    dsimp only
    rw [k_bitCount, ct_cong (fun j _ => nd 3 j (by omega)), ct_ext (n := 40) (fun j hj h => by have := ((nd_th hI 3 j h).2 rfl).1; omega) (by omega)]
    rfl
  refine ev_qn w 8 (fun h => ?_) (fun h8 => ?_)
  · subst h
    exact ev_oR (k_countRefs hI hN S1) (fun r hr => ev_some ⟨hr, S1.rk⟩)
  · have e : w = 9 := by omega
    subst e
    exact ev_oR (k_countMisses hI hN S1) (fun r hr => ev_some ⟨hr, S1.rk⟩)
end
