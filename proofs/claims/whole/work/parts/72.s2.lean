/-! THE CLASS: letters, rules, clear, reset -/
section
variable {σ : Ab} {k : sk_M} {N : Nat}
theorem ED_lt {v : Nat} : ED (ltA σ v) σ := ⟨fun q h1 h2 => funext (fun j => ltA_o σ v j (by omega) (by omega)), ltA_o σ v 0 (by omega) (by omega), ltA_o σ v 1 (by omega) (by omega), ltA_o σ v 3 (by omega) (by omega)⟩
theorem ED_dz : ED (dzA σ) σ := ⟨fun q h1 h2 => funext (fun j => if_neg (fun z => h1 z.1)), rfl, rfl, rfl⟩
/-- all but the draft -/
theorem RB.ed {σ' : Ab} {k' : sk_M} (h : RB σ k) (e : ED σ' σ) (hD : KD σ' k') (f1 : ∀ q i, cbI q i → ¬ (q = 0 ∧ i = 0) → q ≠ 13 → k'.1 q i = k.1 q i) (f2 : ∀ q i, cbL q i → k'.2 q i = k.2 q i) : RB σ' k' := by
  obtain ⟨hT, hRr, hM, hF, _, hB⟩ := h
  obtain ⟨er, z0, z1, z3⟩ := e
  have rr : ∀ q i, q ≠ 0 → q ≠ 18 → σ' q i = σ q i := fun q i a b => by rw [er q a b]
  exact ⟨hT.of (fun r d a b _ => rr r d (by omega) (by omega)) (fun q i z y => f1 q i (by unfold cbI; omega) (by omega) (by omega)) (f2 0 11 (by unfold cbL; omega)), (hRr.of (k' := k') (fun i => f1 39 i (by unfold cbI; omega) (by omega) (by omega)) (fun q i z => f2 q i (by unfold cbL; omega))).cg (er 1 (by omega) (by omega)) (er 2 (by omega) (by omega)) (er 3 (by omega) (by omega)) (er 5 (by omega) (by omega)) (er 6 (by omega) (by omega)), (hM.of (k' := k') (fun q i z => f1 q i (by unfold cbI; omega) (by omega) (by omega)) (fun i z => f2 0 i (by unfold cbL; omega))).cg z0 (fun q i a b _ => rr q i (by omega) (by omega)), (hF.of (k' := k') (fun q i z => f1 q i (by unfold cbI; omega) (by omega) (by omega))).cg z1 (fun q i a b _ => rr q i (by omega) (by omega)), hD, (hB.of (k' := k') (fun q i z => f1 q i (by unfold cbI; omega) (by omega) (by omega)) (fun q i z y => f2 q i (by unfold cbL; omega))).cg z3 (fun q a b => er q (by omega) (by omega))⟩
theorem k_letter (hI : IA σ) (hR : RK σ k) {v : Nat} (h1 : 32 ≤ v) (h2 : v ≤ 126) : Ev (K_SF_letter k (nI v)) (fun z => (z.1 = -3 ∧ σ 0 2 = 60 ∧ RK σ z.2) ∨ (z.1 = nI (σ 0 2 + 1) ∧ σ 0 2 < 60 ∧ RK (ltA σ v) z.2)) := by
  have hd := hI.1.2.2.2.1
  have hD := hR.1.2.2.2.2.1
  unfold K_SF_letter
  refine ev_wn v 32 126 h1 h2 ?_
  refine ev_oW (Q := fun z => (z.1 = 0 ∧ σ 0 2 = 60 ∧ z.2 = k) ∨ (z.1 = 1 ∧ σ 0 2 < 60 ∧ z.2 = sk_wi (sk_wi k 13 (σ 0 2) (nI v)) 0 0 (nI (σ 0 2 + 1)))) ?_ (fun r k2 h3 => ?_)
  · unfold K_Text_put
    rw [hD.1]
    refine ev_lt (σ 0 2) 60 (hv := rfl) (fun h => ?_) (fun h => ev_some (Or.inl ⟨rfl, by omega, rfl⟩))
    refine ev_wI (show σ 0 2 < capT 0 from h) (cap_lt 0) ?_
    refine ev_fI ?_
    rw [nar_c v (by omega), w1_n (by omega), hD.1, nI_1]
    exact ev_some (Or.inr ⟨rfl, h, rfl⟩)
  · rcases h3 with ⟨e1, e2, e3⟩ | ⟨e1, e2, e3⟩
    · dsimp only at e1 e3
      subst e1 e3
      rw [if_pos rfl]
      exact ev_some (Or.inl ⟨rfl, e2, hR⟩)
    · dsimp only at e1 e3
      subst e1
      rw [if_neg (by decide)]
      have f1 : ∀ q i, ¬ (q = 0 ∧ i = 0) → q ≠ 13 → k2.1 q i = k.1 q i := fun q i a b => by rw [e3, w1_n a, w1_n (by omega)]
      have f2 : k2.2 = k.2 := by rw [e3]; rfl
      refine ev_some (Or.inr ⟨by show k2.1 0 0 = _; rw [e3, w1_s], e2, hR.1.ed ED_lt ⟨by rw [ltA_2, e3, w1_s], fun i hi => ?_⟩ (fun q i _ a b => f1 q i a b) (fun q i _ => by rw [f2]), fun z => ?_⟩)
      · rw [ltA_2] at hi
        rw [e3, w1_n (by omega)]
        by_cases q : i = σ 0 2
        · rw [q, ltA_n, w1_s]
        · rw [w1_n (by omega), ltA_o σ v i (by omega) (by omega)]
          exact hD.2 i (by omega)
      · rw [f1 0 10 (by omega) (by omega)] at z
        exact ((hR.2 z).fr (fun q i a => f1 q i (by omega) (by omega)) (fun q i a => by rw [f2])).ed ED_lt
theorem k_rule (hI : IA σ) (hN : 80 < N) (hR : RK σ k) : Ev (K_SF_rule N k) (fun z => (¬ (rd (σ 18) (Lw σ)).1 = 0 ∧ z.1 = -10 - nI (rd (σ 18) (Lw σ)).1 ∧ RK (dzA σ) z.2) ∨ ((rd (σ 18) (Lw σ)).1 = 0 ∧ ((σ 0 3 = 8 ∧ z.1 = -3 ∧ RK (dzA σ) z.2) ∨ (σ 0 3 < 8 ∧ z.1 = nI (σ 0 3 + 1) ∧ RK (ruA σ) z.2)))) := by
  have hn := hI.1.2.2.2.1
  have h8 := hI.1.2.2.2.2
  have hD := hR.1.2.2.2.2.1
  have hd : DK k (σ 18) (σ 0 2) := ⟨hD.1, hn, fun j hj => ⟨hD.2 j hj, hI.2.2.2.2.2.2.2.1.1 j hj⟩⟩
  have hLe : wds (σ 18) (σ 0 2) = Lw σ := rfl
  have hL : GW (Lw σ) (σ 0 2) := wds_GW (σ 18) hn
  have hle := rd_le (d := σ 18) hL
  unfold K_SF_rule
  refine ev_oW (k_read hd hN) (fun r k1 h1 => ?_)
  rw [hLe] at h1
  obtain ⟨e1, kr, hg⟩ := h1
  dsimp only at e1 kr hg
  subst e1
  refine ev_oR (k_wipe (i := 0) (by omega)) (fun k2 h2 => ?_)
  obtain ⟨x2, t2⟩ := h2
  have f1 : ∀ q i, ¬ (q = 0 ∧ (i = 0 ∨ i = 2 ∨ i = 8 ∨ i = 9)) → q ≠ 13 → q ≠ 15 → q ≠ 33 → q ≠ 34 → k2.1 q i = k.1 q i := fun q i a b c d e => by
    rw [x2.1 q i (by omega) (by omega), kr.1 q i (by omega) c d e]
  have f2 : ∀ q i, ¬ (q = 0 ∧ 8 ≤ i ∧ i ≤ 10) → k2.2 q i = k.2 q i := fun q i a => by rw [x2.2]; exact kr.2 q i a
  have B2 : RB (dzA σ) k2 := hR.1.ed ED_dz ⟨t2.1, fun i hi => absurd hi (Nat.not_lt_zero i)⟩ (fun q i a b c => f1 q i (by unfold cbI at a; omega) c (by unfold cbI at a; omega) (by unfold cbI at a; omega) (by unfold cbI at a; omega)) (fun q i a => f2 q i (by unfold cbL at a; omega))
  refine ev_qn (rd (σ 18) (Lw σ)).1 0 (fun hz => ?_) (fun hz => ?_)
  · have gr := hg hz
    refine ev_fI ?_
    obtain ⟨k3, e3⟩ : ∃ s, s = sk_wi k2 0 10 0 := ⟨_, rfl⟩
    rw [← e3]
    have R3 : RK (dzA σ) k3 := by rw [e3]; exact RB_set B2
    have z10 : k3.1 0 10 = 0 := by rw [e3, w1_s]
    have c9 : k3.1 0 9 = k1.1 0 9 := by rw [e3, w1_n (by omega), x2.1 0 9 (by omega) (by omega)]
    have L3 : k3.2 = k1.2 := by rw [e3]; exact x2.2
    have e07 : k3.1 0 7 = nI (σ 0 3) := R3.1.2.2.2.2.2.1
    obtain ⟨gr1, gr2, gr3, gr4, gr5⟩ := gr
    rw [← c9] at gr1
    rw [← L3] at gr2 gr3 gr4 gr5
    clear hg c9 L3 e3 f1 f2 x2 t2 B2
    refine ev_oW (Q := fun z => (σ 0 3 = 8 ∧ z.1 = -3 ∧ RK (dzA σ) z.2) ∨ (σ 0 3 < 8 ∧ z.1 = nI (σ 0 3 + 1) ∧ RK (ruA σ) z.2)) ?_ (fun r k4 h4 => ev_some (Or.inr ⟨hz, h4⟩))
    unfold K_RuleBook_add
    refine ev_lt (σ 0 3) 8 (hu := e07) (fun hlt => ?_) (fun hge => ev_some (Or.inl ⟨by omega, rfl, R3⟩))
    rw [e07, gr1]
    refine ev_wI (by omega) (by decide) ?_
    rw [w1_n (by omega), e07]
    refine ev_wL (by omega) (by decide) ?_
    rw [pu_wl1, w1_n (by omega), e07]
    refine ev_wL (by omega) (by decide) ?_
    simp only [pu_wl1]
    rw [w1_n (by omega), e07]
    refine ev_wL (by omega) (by decide) ?_
    refine ev_fI ?_
    simp only [pu_wl1]
    rw [w1_s, w1_n (by omega), e07, nI_1]
    simp only [pu_wi2]
    rw [w2_n (q := 0) (j := 9) (by omega), w2_n (q := 0) (j := 10) (by omega), w2_n (q := 0) (j := 10) (by omega)]
    simp only [pu_wi2]
    refine ev_some (Or.inr ⟨hlt, rfl, ?_⟩)
    generalize ek : sk_wi (sk_wl (sk_wl (sk_wl (sk_wi k3 27 (σ 0 3) (nI (srt (σ 18) (Lw σ) + 1))) 28 (σ 0 3) (k3.2 0 8)) 29 (σ 0 3) (k3.2 0 9)) 30 (σ 0 3) (k3.2 0 10)) 0 7 (nI (σ 0 3 + 1)) = k4
    have g1 : ∀ q i, q ≠ 27 → ¬ (q = 0 ∧ i = 7) → k4.1 q i = k3.1 q i := fun q i a b => by
      rw [← ek, w1_n b]
      simp only [pu_wl1]
      rw [w1_n (by omega)]
    have g2 : ∀ q i, (q < 28 ∨ 30 < q) → k4.2 q i = k3.2 q i := fun q i a => by
      rw [← ek, pu_wi2, w2_n (by omega), w2_n (by omega), w2_n (by omega), pu_wi2]
    have a27 : ∀ i, k4.1 27 i = if i = σ 0 3 then nI (srt (σ 18) (Lw σ) + 1) else k3.1 27 i := fun i => by
      rw [← ek, w1_n (by omega)]
      simp only [pu_wl1]
      by_cases q : i = σ 0 3
      · rw [if_pos q, q, w1_s]
      · rw [if_neg q, w1_n (by omega)]
    have a28 : ∀ i, k4.2 28 i = if i = σ 0 3 then k3.2 0 8 else k3.2 28 i := fun i => by
      rw [← ek, pu_wi2, w2_n (by omega), w2_n (by omega)]
      by_cases q : i = σ 0 3
      · rw [if_pos q, q, w2_s]
      · rw [if_neg q, w2_n (by omega), pu_wi2]
    have a29 : ∀ i, k4.2 29 i = if i = σ 0 3 then k3.2 0 9 else k3.2 29 i := fun i => by
      rw [← ek, pu_wi2, w2_n (by omega)]
      by_cases q : i = σ 0 3
      · rw [if_pos q, q, w2_s]
      · rw [if_neg q, w2_n (by omega), w2_n (by omega), pu_wi2]
    have a30 : ∀ i, k4.2 30 i = if i = σ 0 3 then k3.2 0 10 else k3.2 30 i := fun i => by
      rw [← ek, pu_wi2]
      by_cases q : i = σ 0 3
      · rw [if_pos q, q, w2_s]
      · rw [if_neg q, w2_n (by omega), w2_n (by omega), w2_n (by omega), pu_wi2]
    have a07 : k4.1 0 7 = nI (σ 0 3 + 1) := by rw [← ek, w1_s]
    obtain ⟨hT, hRr, hM, hF, hDz, hB⟩ := R3.1
    have ro : ∀ q i, q ≠ 0 → q ≤ 18 → ruA σ q i = dzA σ q i := fun q i a b => by
      rw [ruA_o σ i (by omega) b]
      exact (if_neg (fun z => a z.1)).symm
    have rf : ∀ q, q ≠ 0 → q ≤ 18 → ruA σ q = dzA σ q := fun q a b => funext (fun i => ro q i a b)
    obtain ⟨u0, u1, u2, u3⟩ := ruA_0 σ
    have good := rd_good (d := σ 18) (L := Lw σ) hz
    have ok := rd_ok (d := σ 18) hL
    have gw := hL.2.2.2.1
    refine RB_rk ⟨hT.of (fun r d a b _ => ro r d (by omega) (by omega)) (fun q i z y => g1 q i (by omega) (by omega)) (g2 0 11 (by omega)), (hRr.of (k' := k4) (fun i => g1 39 i (by omega) (by omega)) (fun q i z => g2 q i (by omega))).cg (rf 1 (by omega) (by omega)) (rf 2 (by omega) (by omega)) (rf 3 (by omega) (by omega)) (rf 5 (by omega) (by omega)) (rf 6 (by omega) (by omega)), (hM.of (k' := k4) (fun q i z => g1 q i (by omega) (by omega)) (fun i z => g2 0 i (by omega))).cg rfl (fun q i a b _ => ro q i (by omega) (by omega)), (hF.of (k' := k4) (fun q i z => g1 q i (by omega) (by omega))).cg rfl (fun q i a b _ => ro q i (by omega) (by omega)), (hDz.of (k' := k4) (fun q i z => g1 q i (by omega) (by omega))).cg rfl (rf 18 (by omega) (by omega)), ⟨by rw [u3]; exact a07, fun r hr => ?_⟩⟩ (by rw [g1 0 10 (by omega) (by omega)]; exact z10)
    rw [u3] at hr
    rw [a27, a28, a29, a30]
    by_cases q : r = σ 0 3
    · subst q
      have pe : ∀ e, e ≤ σ 0 2 → ∀ j, j < e → pat (ruA σ) (σ 0 3) j = σ 18 j := fun e he j hj => by
        unfold pat
        rw [ruA_t, if_pos ⟨by omega, by omega⟩, show 60 * σ 0 3 + j - 60 * σ 0 3 = j by omega]
      have fe : ∀ (tx : Nat → Nat) (len a e : Nat), e ≤ σ 0 2 → fts (pat (ruA σ) (σ 0 3)) tx len a e = fts (σ 18) tx len a e := fun tx len a e he => fts_cong (pe e he)
      rw [if_pos rfl, if_pos rfl, if_pos rfl, if_pos rfl, ruA_n σ (q := 20) (by omega) (by omega), ruA_n σ (q := 21) (by omega) (by omega), ruA_n σ (q := 22) (by omega) (by omega), ruA_n σ (q := 23) (by omega) (by omega), ruA_n σ (q := 24) (by omega) (by omega), ruA_n σ (q := 25) (by omega) (by omega)]
      refine ⟨rfl, fun p c hp hc => ?_, fun h23 => gr3 ?_, fun h23 p c hp hc => ?_, fun g hg => ?_⟩
      · rw [gr2 p c hp hc]
        show _ ↔ fts (pat (ruA σ) (σ 0 3)) (nmx p c) 3 (wa (Lw σ) 2) (we (Lw σ) 2) = true
        rw [fe _ _ _ _ (gw 2 good.2.1).2]
      · have h23 : (if (rd (σ 18) (Lw σ)).2.2 = 1 then wa (Lw σ) 4 + 1 else 0) = 0 := h23
        have := good.2.2.2
        by_cases z : (rd (σ 18) (Lw σ)).2.2 = 1
        · rw [if_pos z] at h23; omega
        · omega
      · have h23 : 0 < (if (rd (σ 18) (Lw σ)).2.2 = 1 then wa (Lw σ) 4 + 1 else 0) := h23
        by_cases z : (rd (σ 18) (Lw σ)).2.2 = 1
        · rw [gr4 z p c hp hc]
          show _ ↔ fts (pat (ruA σ) (σ 0 3)) (nmx p c) 3 ((if (rd (σ 18) (Lw σ)).2.2 = 1 then wa (Lw σ) 4 + 1 else 0) - 1) (we (Lw σ) 4) = true
          rw [if_pos z, Nat.add_sub_cancel, fe _ _ _ _ (gw 4 (good.2.2.1 z)).2]
        · rw [if_neg z] at h23; omega
      · rw [gr5 g]
        have l13 := ok.1
        constructor
        · rintro ⟨_, j, hj, t1, t2⟩
          have o := (ok.2 j hj).2.2
          refine ⟨j, hj, ?_, ?_⟩
          · rw [ruA_in σ (q := 26) (by omega) (by omega) (show j < 16 by omega)]; exact t1
          · rw [ruA_in σ (q := 27) (by omega) (by omega) (show j < 16 by omega), ruA_in σ (q := 28) (by omega) (by omega) (show j < 16 by omega)]
            show fts (pat (ruA σ) (σ 0 3)) _ _ ((rd (σ 18) (Lw σ)).2.1.getD j (0, 0, 0)).2.1 ((rd (σ 18) (Lw σ)).2.1.getD j (0, 0, 0)).2.2 = true
            rw [fe _ _ _ _ o]; exact t2
        · rintro ⟨j, hj, t1, t2⟩
          have hj : j < (rd (σ 18) (Lw σ)).2.1.length := hj
          have o := (ok.2 j hj).2.2
          rw [ruA_in σ (q := 26) (by omega) (by omega) (show j < 16 by omega)] at t1
          rw [ruA_in σ (q := 27) (by omega) (by omega) (show j < 16 by omega), ruA_in σ (q := 28) (by omega) (by omega) (show j < 16 by omega)] at t2
          have t2 : fts (pat (ruA σ) (σ 0 3)) (wdx (g / 2 % 8)) (wln (g / 2 % 8)) ((rd (σ 18) (Lw σ)).2.1.getD j (0, 0, 0)).2.1 ((rd (σ 18) (Lw σ)).2.1.getD j (0, 0, 0)).2.2 = true := t2
          rw [fe _ _ _ _ o] at t2
          exact ⟨hg, j, hj, t1, t2⟩
    · have hr : r < σ 0 3 := by omega
      obtain ⟨i1, i2, i3, i4, i5, i6, i7⟩ := hI.2.2.2.2.2.2.2.2 r hr
      have pe : ∀ j, j < 60 → pat (ruA σ) r j = pat (dzA σ) r j := fun j hj => by
        show ruA σ 19 (60 * r + j) = dzA σ 19 (60 * r + j)
        rw [ruA_t, if_neg (by omega)]
        exact (if_neg (fun z => by omega)).symm
      have fe : ∀ (tx : Nat → Nat) (len a e : Nat), e ≤ 60 → fts (pat (ruA σ) r) tx len a e = fts (pat (dzA σ) r) tx len a e := fun tx len a e he => fts_cong (fun j hj => pe j (by omega))
      have dz : ∀ q i, q ≠ 0 → dzA σ q i = σ q i := fun q i a => if_neg (fun z => a z.1)
      rw [if_neg q, if_neg q, if_neg q, if_neg q, ruA_r σ (q := 20) (by omega) (by omega) q, ruA_r σ (q := 21) (by omega) (by omega) q, ruA_r σ (q := 22) (by omega) (by omega) q, ruA_r σ (q := 23) (by omega) (by omega) q, ruA_r σ (q := 24) (by omega) (by omega) q, ruA_r σ (q := 25) (by omega) (by omega) q]
      obtain ⟨j1, j2, j3, j4, j5⟩ := hB.2 r hr
      rw [dz 20 r (by omega)] at j1
      rw [dz 21 r (by omega), dz 22 r (by omega)] at j2
      rw [dz 23 r (by omega)] at j3
      rw [dz 23 r (by omega), dz 24 r (by omega)] at j4
      rw [dz 25 r (by omega)] at j5
      refine ⟨j1, fun p c hp hc => ?_, j3, fun h23 p c hp hc => ?_, fun g hg => ?_⟩
      · rw [fe _ _ _ _ i3]; exact j2 p c hp hc
      · rw [fe _ _ _ _ (i4 h23).2]; exact j4 h23 p c hp hc
      · rw [j5 g hg]
        have it : ∀ qq j, 26 ≤ qq → qq ≤ 28 → j < σ 25 r → ruA σ qq (16 * r + j) = dzA σ qq (16 * r + j) := fun qq j a b hj => by
          rw [ruA_i σ a b (by omega), dz qq _ (by omega)]
        constructor
        · rintro ⟨j, hj, t1, t2⟩
          have o := (i6 j hj).2.2
          refine ⟨j, hj, by rw [it 26 j (by omega) (by omega) hj]; exact t1, ?_⟩
          rw [it 27 j (by omega) (by omega) hj, it 28 j (by omega) (by omega) hj, fe _ _ _ _ (by rw [dz 28 _ (by omega)]; exact o)]; exact t2
        · rintro ⟨j, hj, t1, t2⟩
          have o := (i6 j hj).2.2
          rw [it 26 j (by omega) (by omega) hj] at t1
          rw [it 27 j (by omega) (by omega) hj, it 28 j (by omega) (by omega) hj, fe _ _ _ _ (by rw [dz 28 _ (by omega)]; exact o)] at t2
          exact ⟨j, hj, t1, t2⟩
  · refine ev_some (Or.inl ⟨hz, rfl, B2, fun z => ?_⟩)
    rw [f1 0 10 (by omega) (by omega) (by omega) (by omega) (by omega)] at z
    exact ((hR.2 z).fr (fun q i a => f1 q i (by omega) (by omega) (by omega) (by omega) (by omega)) (fun q i a => f2 q i (by omega))).ed ED_dz
/-! clear, reset -/
def sE : Ab := fun _ _ => 0
theorem k_fill (hN : 330 < N) : Ev (J_fill N k (-2)) (fun k' => (∀ q i, q ≠ 20 → k'.1 q i = k.1 q i) ∧ k'.2 = k.2 ∧ ∀ i, i < 320 → k'.1 20 i = -2) := by
  unfold J_fill
  refine ev_lp (fun m z => ∃ st i, z = (st, -2, nI i, nI 320) ∧ i + m = 320 ∧ (∀ q j, q ≠ 20 → st.1 q j = k.1 q j) ∧ st.2 = k.2 ∧ ∀ j, j < i → st.1 20 j = -2) ?_ N 320 _ (by omega) ⟨k, 0, rfl, by omega, fun _ _ _ => rfl, rfl, fun j h => by omega⟩
  rintro m z self ⟨st, i, rfl, him, f1, f2, hd⟩ ih
  unfold J_fill_L5
  dsimp only
  refine ev_le 320 i (fun h => ev_some ⟨f1, f2, fun j hj => hd j (by omega)⟩) (fun hi => ?_)
  refine ev_wI hi (by decide) ?_
  rw [nI_1]
  refine ih (m - 1) _ (by omega) ⟨sk_wi st 20 i (-2), i + 1, rfl, by omega, fun q j a => by rw [w1_n (by omega)]; exact f1 q j a, f2, fun j hj => ?_⟩
  by_cases q : j = i
  · rw [q, w1_s]
  · rw [w1_n (by omega)]; exact hd j (by omega)
theorem k_membersReset (hN : 330 < N) : Ev (K_Members_reset N k) (fun k' => KM (mbA sE 0 0 0 1) k' ∧ (∀ q i, ¬ (17 ≤ q ∧ q ≤ 20) → ¬ (q = 0 ∧ i = 5) → k'.1 q i = k.1 q i) ∧ ∀ q i, ¬ (q = 0 ∧ i ≤ 1) → k'.2 q i = k.2 q i) := by
  unfold K_Members_reset
  refine ev_oR (k_fill hN) (fun k1 h1 => ?_)
  obtain ⟨f1, f2, f3⟩ := h1
  refine ev_fI ?_
  refine ev_fL ?_
  refine ev_fL ?_
  obtain ⟨k2, e2⟩ : ∃ s, s = sk_wl (sk_wl (sk_wi k1 0 5 0) 0 0 0) 0 1 0 := ⟨_, rfl⟩
  rw [← e2]
  have noa : ∀ x, ¬ alive sE x := fun x h => absurd h.1 (Nat.not_lt_zero x)
  have hM : KM sE k2 := by
    refine ⟨by rw [e2]; simp only [pu_wl1]; rw [w1_s]; rfl, fun x hx => absurd hx (Nat.not_lt_zero x), fun i => ?_, fun i => ?_, fun c g hc hg => Or.inr ⟨fun x hx => noa x hx.1, ?_⟩⟩
    · rw [e2, w2_n (by omega), w2_s, lb_0]
      exact iff_of_false (by decide) (noa i)
    · rw [e2, w2_s, lb_0]
      exact iff_of_false (by decide) (fun z => noa i z.1)
    · rw [e2]
      simp only [pu_wl1]
      rw [w1_n (by omega)]
      exact f3 _ (by omega)
  refine ev_oW (k_add (c := 0) (w := 0) (s := 0) (f := 1) hM (by show (0 : Nat) < 40; omega) (by omega) (by omega) (by omega) (by omega) (fun y hy => noa y hy.1)) (fun r k3 h3 => ev_some ⟨h3.2.1, fun q i a b => ?_, fun q i a => ?_⟩)
  · rw [h3.2.2.1 q i a b, e2]
    simp only [pu_wl1]
    rw [w1_n b]
    exact f1 q i (by omega)
  · rw [h3.2.2.2 q i a, e2, w2_n (by omega), w2_n (by omega), pu_wi2, f2]
theorem k_typesReset {σ' : Ab} (hI' : IA σ') (hN : 80 < N) (h1 : ∀ c, c < 10 → k.1 35 c = nI (σ' 4 c) ∧ k.1 36 c = nI (σ' 2 c + 2 * σ' 3 c) ∧ k.1 37 c = nI (σ' 5 c) ∧ ∃ f, f < 1024 ∧ k.1 38 c = nI f ∧ f % 2 ^ c = σ' 6 c) (h42 : ∀ d, lb (k.2 42 0) d = false) (h0 : ∀ c, 1 ≤ c → c < 10 → σ' 1 c = 0) : Ev (K_Types_reset N k) (fun k' => KT σ' k' ∧ KR σ' k' ∧ (∀ q i, q ≠ 39 → k'.1 q i = k.1 q i) ∧ ∀ q i, q < 40 → (q = 0 → i < 11 ∨ 13 < i) → k'.2 q i = k.2 q i) := by
  unfold K_Types_reset
  refine ev_fL ?_
  refine ev_oR (k_relate hI' hN ⟨h1, fun i => ?_⟩ (fun d => by rw [w2_n (by omega)]; exact h42 d)) (fun k2 h2 => ev_some ⟨h2.1, h2.2.1, h2.2.2.1, fun q i z y => by rw [h2.2.2.2 q i z (by omega), w2_n (by omega)]⟩)
  rw [w2_s, show (0 : Int32) = nI 0 from rfl, lb_bit (by omega), decide_eq_true_eq]
  constructor
  · intro z; rw [z]; exact ⟨by omega, hI'.2.2.1.1⟩
  · rintro ⟨a, b⟩
    rcases Nat.eq_zero_or_pos i with q | q
    · exact q
    · rw [h0 i q a] at b; omega
theorem k_clear0 (hI : IA σ) (hR : RK σ k) : Ev (K_SF_clear N k 0) (fun z => z.1 = nI (σ 0 3) ∧ RK (c0A σ) z.2) := by
  obtain ⟨hT, hRr, hM, hF, hD, hB⟩ := hR.1
  unfold K_SF_clear
  refine ev_fI ?_
  refine ev_oR (k_wipe (i := 0) (by omega)) (fun k1 h1 => ?_)
  rw [if_pos rfl]
  unfold K_SF_clear_J49
  refine ev_fI ?_
  obtain ⟨z2, z3⟩ := c0A_z σ
  have f1 : ∀ q i, q ≠ 13 → ¬ (q = 0 ∧ (i = 0 ∨ i = 7)) → k1.1 q i = k.1 q i := fun q i a b => by rw [h1.1.1 q i (by omega) (by omega), w1_n (by omega)]
  have f2 : k1.2 = k.2 := by rw [h1.1.2]; rfl
  have ro : ∀ q i, q ≠ 0 → c0A σ q i = σ q i := fun q i a => c0A_o σ i (by omega)
  have rf : ∀ q, q ≠ 0 → c0A σ q = σ q := fun q a => funext (fun i => ro q i a)
  refine ev_some ⟨hB.1, RB_set ⟨hT.of (fun r d a b _ => ro r d (by omega)) (fun q i z y => f1 q i (by omega) (by omega)) (by rw [f2]), (hRr.of (k' := k1) (fun i => f1 39 i (by omega) (by omega)) (fun q i z => by rw [f2])).cg (rf 1 (by omega)) (rf 2 (by omega)) (rf 3 (by omega)) (rf 5 (by omega)) (rf 6 (by omega)), (hM.of (k' := k1) (fun q i z => f1 q i (by omega) (by omega)) (fun i z => by rw [f2])).cg (c0A_o σ 0 (by omega)) (fun q i a b _ => ro q i (by omega)), (hF.of (k' := k1) (fun q i z => f1 q i (by omega) (by omega))).cg (c0A_o σ 1 (by omega)) (fun q i a b _ => ro q i (by omega)), ⟨by rw [z2]; exact h1.2.1, fun i hi => by rw [z2] at hi; omega⟩, ⟨?_, fun r hr => by rw [z3] at hr; omega⟩⟩⟩
  rw [z3, h1.1.1 0 7 (by omega) (by omega), w1_s]; rfl
theorem k_clear1 (hI : IA σ) (hN : 330 < N) (hR : RK σ k) : Ev (K_SF_clear N k 1) (fun z => z.1 = nI (σ 0 3) ∧ RK (c1A σ) z.2) := by
  obtain ⟨hT, hRr, hM, hF, hD, hB⟩ := hR.1
  have hI' := IA_clear1 hI
  obtain ⟨z0, z1, z2, z3⟩ := c1A_z σ
  have ro : ∀ q i, q ≠ 0 → q ≠ 1 → c1A σ q i = σ q i := fun q i a b => c1A_o σ i a (by omega)
  unfold K_SF_clear
  refine ev_fI ?_
  refine ev_oR (k_wipe (i := 0) (by omega)) (fun k1 h1 => ?_)
  rw [if_neg (by decide)]
  have f1 : ∀ q i, q ≠ 13 → ¬ (q = 0 ∧ (i = 0 ∨ i = 7)) → k1.1 q i = k.1 q i := fun q i a b => by rw [h1.1.1 q i (by omega) (by omega), w1_n (by omega)]
  have f2 : k1.2 = k.2 := by rw [h1.1.2]; rfl
  refine ev_oR (k_typesReset (σ' := c1A σ) hI' (by omega) (fun c hc => ?_) (fun d => by rw [f2]; exact hRr.2.2.1 d) (fun c a b => c1A_1 σ a)) (fun k2 h2 => ?_)
  · rw [ro 4 c (by omega) (by omega), ro 2 c (by omega) (by omega), ro 3 c (by omega) (by omega), ro 5 c (by omega) (by omega), ro 6 c (by omega) (by omega), f1 35 c (by omega) (by omega), f1 36 c (by omega) (by omega), f1 37 c (by omega) (by omega), f1 38 c (by omega) (by omega)]
    exact hT.1 c hc
  obtain ⟨t1, t2, t3, t4⟩ := h2
  refine ev_oR (k_membersReset hN) (fun k3 h3 => ?_)
  obtain ⟨m1, m2, m3⟩ := h3
  refine ev_fI ?_
  unfold K_SF_clear_J49
  refine ev_fI ?_
  have B : RB (c1A σ) (sk_wi k3 0 6 0) := by
    refine ⟨t1.of (fun _ _ _ _ _ => rfl) (fun q i z y => by rw [w1_n (by omega)]; exact m2 q i (by omega) (by omega)) (m3 0 11 (by omega)), t2.of (fun i => by rw [w1_n (by omega)]; exact m2 39 i (by omega) (by omega)) (fun q i z => m3 q i (by omega)), (m1.of (k' := sk_wi k3 0 6 0) (fun q i z => by rw [w1_n (by omega)]) (fun i _ => rfl)).cg (by rw [z0]; rfl) (fun q x a b hx => ?_), ⟨by rw [z1, w1_s]; rfl, fun i hi => by rw [z1] at hi; omega⟩, ⟨?_, fun i hi => by rw [z2] at hi; omega⟩, ⟨?_, fun r hr => by rw [z3] at hr; omega⟩⟩
    · have hx : x < 1 := hx
      have e : x = 0 := by omega
      subst e
      obtain ⟨y8, y9, y10, y11, y12⟩ := hI'.2.2.2.2.1
      rcases (show q = 8 ∨ q = 9 ∨ q = 10 ∨ q = 11 ∨ q = 12 by omega) with rfl | rfl | rfl | rfl | rfl
      · rw [y8]; rfl
      · rw [y9]; rfl
      · rw [y10]; rfl
      · rw [y11]; rfl
      · rw [y12]; rfl
    · rw [z2, w1_n (by omega), m2 0 0 (by omega) (by omega), t3 0 0 (by omega)]
      exact h1.2.1
    · rw [z3, w1_n (by omega), m2 0 7 (by omega) (by omega), t3 0 7 (by omega), h1.1.1 0 7 (by omega) (by omega), w1_s]; rfl
  exact ev_some ⟨hB.1, RB_set B⟩
end
