/-! WHAT DEPENDS ON WHAT -/
section
variable {σ σ' : Ab} {k : sk_M}
theorem sup_cg (e1 : σ' 1 = σ 1) (e2 : σ' 2 = σ 2) (e5 : σ' 5 = σ 5) : sup σ' = sup σ := by
  funext c; simp only [sup, e1, e2, e5]
theorem hasF_cg (e1 : σ' 1 = σ 1) (e2 : σ' 2 = σ 2) (e6 : σ' 6 = σ 6) : hasF σ' = hasF σ := by
  funext c u; simp only [hasF, e1, e2, e6]
theorem abv_cg (es : sup σ' = sup σ) (eh : hasF σ' = hasF σ) : abv σ' = abv σ := by
  have h : ∀ n, abN σ' n = abN σ n := fun n => by
    induction n with
    | zero => rfl
    | succ n ih => funext c d; simp only [abN, es, eh, ih]
  funext c d
  simp only [abv, h]
theorem lin_cg (es : sup σ' = sup σ) : lin σ' = lin σ := by
  have h : ∀ n, lnN σ' n = lnN σ n := fun n => by
    induction n with
    | zero => rfl
    | succ n ih => funext c d; simp only [lnN, es, ih]
  funext c d
  simp only [lin, h]
theorem KR.cg (h : KR σ k) (e1 : σ' 1 = σ 1) (e2 : σ' 2 = σ 2) (e3 : σ' 3 = σ 3) (e5 : σ' 5 = σ 5) (e6 : σ' 6 = σ 6) : KR σ' k := by
  have es := sup_cg e1 e2 e5
  have eh := hasF_cg e1 e2 e6
  have ea := abv_cg es eh
  have el := lin_cg es
  unfold KR at *
  simp only [e1, e2, e3, es, eh, ea, el]
  exact h
theorem own_cg (e0 : σ' 0 0 = σ 0 0) (e : ∀ q x, 8 ≤ q → q ≤ 12 → x < σ 0 0 → σ' q x = σ q x) (c g x : Nat) : (alive σ' x ↔ alive σ x) ∧ (own σ' c g x ↔ own σ c g x) := by
  have ha : alive σ' x ↔ alive σ x := by
    unfold alive
    rw [e0]
    exact and_congr_right (fun hx => by rw [e 12 x (by omega) (by omega) hx])
  refine ⟨ha, ?_⟩
  unfold own
  rw [ha]
  refine and_congr_right (fun hx => ?_)
  have hx := hx.1
  unfold sgn
  rw [e 8 x (by omega) (by omega) hx, e 9 x (by omega) (by omega) hx, e 10 x (by omega) (by omega) hx, e 11 x (by omega) (by omega) hx]
theorem KM.cg (h : KM σ k) (e0 : σ' 0 0 = σ 0 0) (e : ∀ q x, 8 ≤ q → q ≤ 12 → x < σ 0 0 → σ' q x = σ q x) : KM σ' k := by
  have ow := own_cg e0 e
  obtain ⟨h1, h2, h3, h4, h5⟩ := h
  refine ⟨by rw [e0]; exact h1, fun x hx => ?_, fun i => ?_, fun i => ?_, fun c g hc hg => ?_⟩
  · rw [e0] at hx
    unfold sgn
    rw [e 8 x (by omega) (by omega) hx, e 9 x (by omega) (by omega) hx, e 10 x (by omega) (by omega) hx, e 11 x (by omega) (by omega) hx]
    exact h2 x hx
  · rw [(ow 0 0 i).1]; exact h3 i
  · rw [(ow 0 0 i).1, h4]
    exact and_congr_right (fun ha => by rw [e 11 i (by omega) (by omega) ha.1])
  · rcases h5 c g hc hg with ⟨x, a, b⟩ | ⟨a, b⟩
    · exact Or.inl ⟨x, (ow c g x).2.mpr a, b⟩
    · exact Or.inr ⟨fun x hx => a x ((ow c g x).2.mp hx), b⟩
theorem KF.cg (h : KF σ k) (e0 : σ' 0 1 = σ 0 1) (e : ∀ q i, 13 ≤ q → q ≤ 17 → i < σ 0 1 → σ' q i = σ q i) : KF σ' k := by
  refine ⟨by rw [e0]; exact h.1, fun i hi => ?_⟩
  rw [e0] at hi
  unfold gI
  rw [e 13 i (by omega) (by omega) hi, e 14 i (by omega) (by omega) hi, e 15 i (by omega) (by omega) hi, e 16 i (by omega) (by omega) hi, e 17 i (by omega) (by omega) hi]
  exact h.2 i hi
theorem KD.cg (h : KD σ k) (e0 : σ' 0 2 = σ 0 2) (e : σ' 18 = σ 18) : KD σ' k := by
  unfold KD at *
  rw [e0, e]; exact h
theorem KB.cg (h : KB σ k) (e0 : σ' 0 3 = σ 0 3) (e : ∀ q, 19 ≤ q → q ≤ 28 → σ' q = σ q) : KB σ' k := by
  have ep : ∀ r, pat σ' r = pat σ r := fun r => by funext j; unfold pat; rw [e 19 (by omega) (by omega)]
  unfold KB at *
  simp only [e0, ep, e 20 (by omega) (by omega), e 21 (by omega) (by omega), e 22 (by omega) (by omega), e 23 (by omega) (by omega), e 24 (by omega) (by omega), e 25 (by omega) (by omega), e 26 (by omega) (by omega), e 27 (by omega) (by omega), e 28 (by omega) (by omega)]
  exact h
/-- two states that differ in the draft alone -/
def ED (σ' σ : Ab) : Prop := (∀ q, q ≠ 0 → q ≠ 18 → σ' q = σ q) ∧ σ' 0 0 = σ 0 0 ∧ σ' 0 1 = σ 0 1 ∧ σ' 0 3 = σ 0 3
theorem KS.ed (h : KS σ k) (e : ED σ' σ) : KS σ' k := by
  obtain ⟨er, z0, z1, z3⟩ := e
  have e1 := er 1 (by omega) (by omega)
  have e2 := er 2 (by omega) (by omega)
  have e3 := er 3 (by omega) (by omega)
  have e4 := er 4 (by omega) (by omega)
  have e5 := er 5 (by omega) (by omega)
  have e6 := er 6 (by omega) (by omega)
  have e8 := er 8 (by omega) (by omega)
  have e9 := er 9 (by omega) (by omega)
  have e10 := er 10 (by omega) (by omega)
  have e11 := er 11 (by omega) (by omega)
  have e12 := er 12 (by omega) (by omega)
  have e13 := er 13 (by omega) (by omega)
  have e14 := er 14 (by omega) (by omega)
  have e15 := er 15 (by omega) (by omega)
  have e16 := er 16 (by omega) (by omega)
  have e17 := er 17 (by omega) (by omega)
  have e19 := er 19 (by omega) (by omega)
  have e20 := er 20 (by omega) (by omega)
  have e21 := er 21 (by omega) (by omega)
  have e22 := er 22 (by omega) (by omega)
  have e23 := er 23 (by omega) (by omega)
  have e24 := er 24 (by omega) (by omega)
  have e25 := er 25 (by omega) (by omega)
  have e26 := er 26 (by omega) (by omega)
  have e27 := er 27 (by omega) (by omega)
  have e28 := er 28 (by omega) (by omega)
  have es := sup_cg e1 e2 e5
  have eh := hasF_cg e1 e2 e6
  have ea := abv_cg es eh
  have el := lin_cg es
  have eal : alive σ' = alive σ := by funext x; simp only [alive, z0, e12]
  have esg : sgn σ' = sgn σ := by funext x; simp only [sgn, e9, e10, e11]
  have eow : own σ' = own σ := by funext c g x; simp only [own, eal, e8, esg]
  have efc : fcs σ' = fcs σ := by funext c g w x; simp only [fcs, eal, ea, e2, e8, esg]
  have eLK : LK σ' = LK σ := by
    funext c g w o
    cases o with
    | none => simp only [LK, el, eow, efc]
    | some x => simp only [LK, el, eow, efc]
  have ep : pat σ' = pat σ := by funext r j; simp only [pat, e19]
  have eab : abt σ' = abt σ := by funext r c; simp only [abt, e1, e4, ep, e21, e22, e23, e24, ea]
  have emn : mnt σ' = mnt σ := by funext r x; simp only [mnt, eal, eab, e8, e25, e26, e11, ep, e9, e27, e28]
  have eg : gI σ' = gI σ := by funext i; simp only [gI, e14, e16, e17]
  have eRF : RF σ' = RF σ := by funext S i; simp only [RF, e15, e14, e3, e2, eLK, eg, e11, e8, ea]
  have eCr : CLr σ' = CLr σ := by funext S r; simp only [CLr, e20, eab, e3, e2, emn, e8]
  have eCc : CLc σ' = CLc σ := by funext S c; simp only [CLc, es, eh, eow, e11, eLK]
  have eCL : CL σ' = CL σ := by funext S; simp only [CL, z3, eCr, eCc, z0, e8, z1, e13, eal, e1, e15, eRF]
  have eN : ND σ' = ND σ := by funext i x; simp only [ND, eCL]
  have ekn : kn σ' = kn σ := by funext c; simp only [kn, z3, e20, eab]
  have ekt : kt σ' = kt σ := by funext g; simp only [kt, eal, esg, z3, e20, eN, e8, emn]
  have eus : us σ' = us σ := by funext g; simp only [us, eal, eN, esg]
  have enP : nP σ' = nP σ := by funext c; simp only [nP, eN, ekn]
  have etP : tP σ' = tP σ := by funext g w; simp only [tP, eus, ekt]
  have ennl : nnl σ' = nnl σ := by funext c; simp only [nnl, ekn]
  have ennx : nnx σ' = nnx σ := by funext c i; simp only [nnx, ekn, e4, enP]
  have entl : ntl σ' = ntl σ := by funext c; simp only [ntl, ekt]
  have entx : ntx σ' = ntx σ := by funext c i; simp only [ntx, ekt, etP]
  have emb : mbL σ' = mbL σ := by funext x; simp only [mbL, e9, e11, e10, entx, esg, entl]
  have ecl : clL σ' = clL σ := by funext c; simp only [clL, e4, ennx, ennl]
  have eme : memL σ' = memL σ := by
    funext c x
    induction x with
    | zero => rfl
    | succ x ih => simp only [memL, ih, e8, eal, eN, emb]
  have emp : mpL σ' = mpL σ := by
    funext c
    induction c with
    | zero => rfl
    | succ c ih => simp only [mpL, ih, eN, ecl, eme, z0]
  unfold KS KA KND mp at *
  simp only [z3, eab, emn, eN, ekn, ekt, enP, etP, eus, emp]
  exact h
end
/-! THE CLASS'S BASE CALLS -/
section
variable {σ : Ab} {k : sk_M} {N : Nat}
theorem RB_rk (h : RB σ k) (h0 : k.1 0 10 = 0) : RK σ k := ⟨h, fun z => absurd h0 z⟩
theorem RB_set (h : RB σ k) : RK σ (sk_wi k 0 10 0) := RB_rk (h.same ⟨fun q i a => by rw [w1_n (by unfold cbI at a; omega)], fun _ _ _ => rfl⟩) (by rw [w1_s])
theorem k_type (hI : IA σ) (hN : 80 < N) (hR : RK σ k) {c p f a fs : Nat} (h0 : 1 ≤ c) (hc : c ≤ 9) (hp : p ≤ 2) (hf : f ≤ 3) (ha : a ≤ c - 1) (hfs : fs ≤ 1023) : Ev (K_SF_type N k (nI c) (nI p) (nI f) (nI a) (nI fs)) (fun z => z.1 = 1 ∧ RK (tyA σ c p f a fs) z.2) := by
  obtain ⟨hT, hRr, hM, hF, hD, hB⟩ := hR.1
  have hI' : IA (tyA σ c p f a fs) := IA_type hI h0 hc hp hf ha
  unfold K_SF_type
  refine ev_wn c 1 9 h0 hc ?_
  refine ev_wn p 0 2 (by omega) hp ?_
  refine ev_wn f 0 3 (by omega) hf ?_
  refine ev_wn a 0 (c - 1) (by omega) ha ?_ (hw := nI_m1 h0)
  refine ev_wn fs 0 1023 (by omega) hfs ?_
  unfold K_Types_declare
  refine ev_oR (Q := fun k' => KT (tyA σ c p f a fs) k' ∧ KR (tyA σ c p f a fs) k' ∧ (∀ q i, (q < 35 ∨ 39 < q) → k'.1 q i = k.1 q i) ∧ ∀ q i, q < 40 → (q = 0 → i < 11 ∨ 13 < i) → k'.2 q i = k.2 q i) ?_ (fun k1 h1 => ?_)
  · refine ev_wI (by omega) (by decide) ?_
    refine ev_wI (by omega) (by decide) ?_
    refine ev_wI (by omega) (by decide) ?_
    refine ev_wI (by omega) (by decide) ?_
    refine ev_fL ?_
    refine ev_oR (k_relate hI' hN ?_ ?_) (fun k2 h2 => ev_some ⟨h2.1, h2.2.1, fun q i z => ?_, fun q i z y => ?_⟩)
    · refine ⟨fun d hd => ?_, fun i => ?_⟩
      · simp only [pu_wl1]
        by_cases q : d = c
        · subst q
          rw [w1_n (by omega), w1_n (by omega), w1_n (by omega), w1_s, w1_n (by omega), w1_n (by omega), w1_s, w1_n (by omega), w1_s, w1_s, tyA4, tyA2, tyA3, tyA5, tyA6]
          exact ⟨rfl, by congr 1; omega, rfl, fs, by omega, rfl, rfl⟩
        · rw [w1_n (by omega), w1_n (by omega), w1_n (by omega), w1_n (by omega), w1_n (by omega), w1_n (by omega), w1_n (by omega), w1_n (by omega), w1_n (by omega), w1_n (by omega), w1_n (by omega), w1_n (by omega), w1_n (by omega), w1_n (by omega), w1_n (by omega), w1_n (by omega), tyA_n σ 4 q, tyA_n σ 2 q, tyA_n σ 3 q, tyA_n σ 5 q, tyA_n σ 6 q]
          exact hT.1 d hd
      · rw [w2_s]
        simp only [pu_wi2]
        rw [lb_or_bit (by omega) (fun i => hT.2 i)]
        by_cases q : i = c
        · subst q
          rw [tyA1]
          exact ⟨fun _ => ⟨by omega, rfl⟩, fun _ => Or.inr rfl⟩
        · rw [tyA_n σ 1 q]
          exact ⟨fun z => z.resolve_right q, Or.inl⟩
    · intro d
      rw [w2_n (by omega)]
      exact hRr.2.2.1 d
    · rw [h2.2.2.1 q i (by omega)]
      simp only [pu_wl1]
      rw [w1_n (by omega), w1_n (by omega), w1_n (by omega), w1_n (by omega)]
    · rw [h2.2.2.2 q i z (by omega), w2_n (by omega)]
      rfl
  · obtain ⟨a1, a2, a3, a4⟩ := h1
    refine ev_fI ?_
    have B1 : RB (tyA σ c p f a fs) k1 := ⟨a1, a2, (hM.of (k' := k1) (fun q i z => a3 q i (by omega)) (fun i z => a4 0 i (by omega) (by omega))).cg (tyA_o σ c p f a fs 0 (by omega)) (fun q x z y _ => tyA_o σ c p f a fs x (by omega)), (hF.of (k' := k1) (fun q i z => a3 q i (by omega))).cg (tyA_o σ c p f a fs 1 (by omega)) (fun q x z y _ => tyA_o σ c p f a fs x (by omega)), (hD.of (k' := k1) (fun q i z => a3 q i (by omega))).cg (tyA_o σ c p f a fs 2 (by omega)) (by funext x; exact tyA_o σ c p f a fs x (by omega)), (hB.of (k' := k1) (fun q i z => a3 q i (by omega)) (fun q i z y => a4 q i (by omega) (by omega))).cg (tyA_o σ c p f a fs 3 (by omega)) (fun q z y => by funext x; exact tyA_o σ c p f a fs x (by omega))⟩
    exact ev_some ⟨rfl, RB_set B1⟩
/-- a member leaves -/
theorem k_discard (hI : IA σ) (hM : KM σ k) {x : Nat} (hx : alive σ x) : Ev (K_Members_discard k (nI x)) (fun k' => KM (rmA σ x) k' ∧ (∀ q i, q ≠ 20 → k'.1 q i = k.1 q i) ∧ ∀ q i, ¬ (q = 0 ∧ i ≤ 1) → k'.2 q i = k.2 q i) := by
  have hn := hI.1.2.1
  have hxn := hx.1
  have sl := sgn_lt hI hxn
  have b8 := (hI.2.2.2.1 x hxn).1
  obtain ⟨h1, h2, h3, h4, h5⟩ := hM
  obtain ⟨m1, m2, m3⟩ := h2 x hxn
  unfold K_Members_discard
  refine ev_rI (by omega) (by decide) ?_
  refine ev_rI (by omega) (by decide) ?_
  rw [m1, m2, show nI (σ 8 x) * (32 : Int32) = nI (σ 8 x * 32) from pk_mul _ 32, nI_add, show σ 8 x * 32 + sgn σ x = 32 * σ 8 x + sgn σ x by omega]
  refine ev_wI (by omega) (by decide) ?_
  refine ev_fL ?_
  refine ev_fL ?_
  have rr : ∀ q i, q ≠ 12 → rmA σ x q i = σ q i := fun q i h => if_neg (fun z => h z.1)
  have al : ∀ i, alive (rmA σ x) i ↔ alive σ i ∧ i ≠ x := fun i => by
    unfold alive
    rw [rr 0 0 (by omega)]
    unfold rmA
    by_cases q : i = x
    · rw [if_pos ⟨rfl, q⟩]
      exact ⟨fun z => by omega, fun z => absurd q z.2⟩
    · rw [if_neg (fun z => q z.2)]
      exact ⟨fun z => ⟨z, q⟩, fun z => z.1⟩
  have ow : ∀ c g i, own (rmA σ x) c g i ↔ own σ c g i ∧ i ≠ x := fun c g i => by
    unfold own sgn
    rw [al, rr 8 i (by omega), rr 9 i (by omega), rr 10 i (by omega), rr 11 i (by omega)]
    exact ⟨fun z => ⟨⟨z.1.1, z.2⟩, z.1.2⟩, fun z => ⟨⟨z.1.1, z.2⟩, z.1.2⟩⟩
  have clr : ∀ (s : Int64) (P : Nat → Prop), (∀ i, lb s i = true ↔ P i) → ∀ i, lb (s &&& (K_SF_bit (nI x) ^^^ (-1 : Int64))) i = true ↔ P i ∧ i ≠ x := fun s P h i => by
    rw [lb_and, Bool.and_eq_true, h]
    rcases Nat.lt_or_ge i 64 with q | q
    · rw [lb_not _ q, lb_bit (by omega)]
      simp
    · constructor
      · rintro ⟨_, z⟩; rw [lb_big q] at z; cases z
      · rintro ⟨z, _⟩; have := (h i).mpr z; rw [lb_big q] at this; cases this
  refine ev_some ⟨⟨?_, fun y hy => ?_, fun i => ?_, fun i => ?_, fun c g hc hg => ?_⟩, fun q i z => ?_, fun q i z => ?_⟩
  · simp only [pu_wl1]; rw [w1_n (by omega), rr 0 0 (by omega)]; exact h1
  · rw [rr 0 0 (by omega)] at hy
    simp only [pu_wl1]
    unfold sgn
    rw [w1_n (by omega), w1_n (by omega), w1_n (by omega), rr 8 y (by omega), rr 9 y (by omega), rr 10 y (by omega), rr 11 y (by omega)]
    exact h2 y hy
  · rw [w2_n (by omega), w2_s, al]
    exact clr _ _ h3 i
  · rw [w2_s, al, rr 11 i (by omega), w2_n (by omega)]
    have := clr _ _ h4 i
    rw [pu_wi2]
    rw [this]
    exact ⟨fun z => ⟨⟨z.1.1, z.2⟩, z.1.2⟩, fun z => ⟨⟨z.1.1, z.2⟩, z.1.2⟩⟩
  · simp only [pu_wl1]
    by_cases q : 32 * c + g = 32 * σ 8 x + sgn σ x
    · have e1 : c = σ 8 x := by omega
      have e2 : g = sgn σ x := by omega
      rw [q, w1_s]
      refine Or.inr ⟨fun y hy => ?_, rfl⟩
      have := (ow c g y).mp hy
      exact this.2 (hI.2.2.2.2.2.1 c g y x this.1 ⟨hx, e1.symm, e2.symm⟩)
    · rw [w1_n (fun z => q z.2)]
      rcases h5 c g hc hg with ⟨y, a, b⟩ | ⟨a, b⟩
      · refine Or.inl ⟨y, (ow c g y).mpr ⟨a, fun z => q ?_⟩, b⟩
        rw [z] at a
        rw [a.2.1, a.2.2]
      · exact Or.inr ⟨fun y hy => a y ((ow c g y).mp hy).1, b⟩
  · simp only [pu_wl1]; rw [w1_n (by omega)]
  · rw [w2_n (by omega), w2_n (by omega)]; rfl
theorem IA_rm' {σ' : Ab} (hI : IA σ) (e : ∀ q j, ¬ q = 12 → σ' q j = σ q j) (e12 : ∀ x, σ' 12 x = σ 12 x ∨ σ' 12 x = 1) (e0 : σ' 12 0 = 0) : IA σ' :=
  IA_dead hI (fun q j _ h => e q j h) (fun c hc => by rw [e 1 c (by omega)]; exact (hI.2.1 c hc).1) (by rw [e 1 0 (by omega)]; exact hI.2.2.1.1) e12 e0 (fun x hx h => by
    rw [e 1 _ (by omega)]
    rcases e12 x with q | q
    · exact (hI.2.2.2.1 x hx).2.2.2.2.2.2.2 (by rw [← q]; exact h)
    · omega)
/-- those of class c below x are gone -/
def dxA (σ : Ab) (c x : Nat) : Ab := fun q j => if q = 12 ∧ 1 ≤ j ∧ j < x ∧ σ 8 j = c then 1 else σ q j
theorem dxA_o (σ : Ab) (c x : Nat) {q : Nat} (j : Nat) (h : q ≠ 12) : dxA σ c x q j = σ q j := if_neg (fun z => h z.1)
theorem IA_dx (hI : IA σ) (c x : Nat) : IA (dxA σ c x) := by
  refine IA_rm' hI (fun q j h => dxA_o σ c x j h) (fun y => ?_) ?_
  · unfold dxA
    split
    · exact Or.inr rfl
    · exact Or.inl rfl
  · unfold dxA
    rw [if_neg (by omega)]
    exact hI.2.2.2.2.1.2.2.2.2
theorem k_discardAll (hI : IA σ) (hN : 80 < N) (hM : KM σ k) {c : Nat} (hc : c < 10) : Ev (K_Members_discardAllOf N k (nI c)) (fun k' => KM (dxA σ c (σ 0 0)) k' ∧ (∀ q i, q ≠ 20 → k'.1 q i = k.1 q i) ∧ ∀ q i, ¬ (q = 0 ∧ i ≤ 1) → k'.2 q i = k.2 q i) := by
  have hn := hI.1.2.1
  unfold K_Members_discardAllOf
  refine ev_lp (fun n z => ∃ st x, z = (st, nI c, nI x) ∧ x + n = σ 0 0 ∧ 1 ≤ x ∧ KM (dxA σ c x) st ∧ (∀ q i, q ≠ 20 → st.1 q i = k.1 q i) ∧ ∀ q i, ¬ (q = 0 ∧ i ≤ 1) → st.2 q i = k.2 q i) ?_ N (σ 0 0 - 1) _ (by omega) ⟨k, 1, rfl, by have := hI.1.1; omega, by omega, hM.cg rfl (fun q x a b _ => by unfold dxA; rw [if_neg (by omega)]), fun _ _ _ => rfl, fun _ _ _ => rfl⟩
  rintro n z self ⟨st, x, rfl, hxn, hx1, hMs, f1, f2⟩ ih
  have e00 : dxA σ c x 0 0 = σ 0 0 := dxA_o σ c x 0 (by omega)
  unfold K_Members_discardAllOf_L2
  dsimp only
  refine ev_le (σ 0 0) x (hu := by rw [← e00]; exact hMs.1) (fun h => ?_) (fun hx => ?_)
  · rw [show x = σ 0 0 by omega] at hMs
    exact ev_some ⟨hMs, f1, f2⟩
  have next : (¬ alive σ x ∨ σ 8 x ≠ c ∨ ¬ 1 ≤ x) → Ev (self (st, nI c, nI x + 1)) (fun k' => KM (dxA σ c (σ 0 0)) k' ∧ (∀ q i, q ≠ 20 → k'.1 q i = k.1 q i) ∧ ∀ q i, ¬ (q = 0 ∧ i ≤ 1) → k'.2 q i = k.2 q i) := fun h => by
    rw [nI_1]
    refine ih (n - 1) _ (by omega) ⟨st, x + 1, rfl, by omega, by omega, hMs.cg (by rw [dxA_o σ c _ 0 (by omega), e00]) (fun q y a b hy => ?_), f1, f2⟩
    unfold dxA
    by_cases q0 : q = 12 ∧ 1 ≤ y ∧ y < x ∧ σ 8 y = c
    · rw [if_pos q0, if_pos ⟨q0.1, q0.2.1, by omega, q0.2.2.2⟩]
    · rw [if_neg q0]
      by_cases q1 : q = 12 ∧ 1 ≤ y ∧ y < x + 1 ∧ σ 8 y = c
      · have e : y = x := by omega
        subst e
        rw [if_pos q1, q1.1]
        rcases h with h | h | h
        · rw [e00] at hy
          have b := (hI.2.2.2.1 y hy).2.2.2.2.1
          have : ¬ σ 12 y = 0 := fun z => h ⟨hy, z⟩
          omega
        · exact absurd q1.2.2.2 h
        · exact absurd q1.2.1 h
      · rw [if_neg q1]
  have ax : alive (dxA σ c x) x ↔ alive σ x := by
    unfold alive
    rw [e00]
    refine and_congr_right (fun _ => ?_)
    unfold dxA
    rw [if_neg (by omega)]
  unfold K_Members_isAlive
  refine ev_has x (by omega) (hMs.2.2.1 x) (fun h => next (Or.inl (fun z => h (ax.mpr z)))) (fun h => ?_)
  refine ev_rI (by omega) (by decide) ?_
  have b8 := (hI.2.2.2.1 x hx).1
  refine ev_qn (σ 8 x) c (hu := by rw [(hMs.2.1 x (by rw [e00]; exact hx)).1, dxA_o σ c x x (by omega)]) (fun h2 => ?_) (fun h2 => next (Or.inr (Or.inl h2)))
  refine ev_oR (k_discard (IA_dx hI c x) hMs h) (fun st2 h3 => ?_)
  rw [nI_1]
  refine ih (n - 1) _ (by omega) ⟨st2, x + 1, rfl, by omega, by omega, h3.1.cg ?_ (fun q y a b hy => ?_), fun q i z => by rw [h3.2.1 q i z]; exact f1 q i z, fun q i z => by rw [h3.2.2 q i z]; exact f2 q i z⟩
  · rw [dxA_o σ c _ 0 (by omega)]
    show σ 0 0 = rmA (dxA σ c x) x 0 0
    unfold rmA
    rw [if_neg (by omega), e00]
  · unfold rmA
    by_cases q0 : q = 12 ∧ y = x
    · rw [if_pos q0]
      unfold dxA
      by_cases x1 : 1 ≤ x
      · rw [if_pos ⟨q0.1, by omega, by omega, by rw [q0.2]; exact h2⟩]
      · exfalso
        omega
    · rw [if_neg q0]
      unfold dxA
      by_cases q1 : q = 12 ∧ 1 ≤ y ∧ y < x ∧ σ 8 y = c
      · rw [if_pos q1, if_pos ⟨q1.1, q1.2.1, by omega, q1.2.2.2⟩]
      · rw [if_neg q1, if_neg (fun z => q1 ⟨z.1, z.2.1, by omega, z.2.2.2⟩)]
end
