/-! THE CLASS'S BASE CALLS, the rest -/
theorem ftN_cong {pt pt' tx : Nat → Nat} {e : Nat} (h : ∀ k, k < e → pt k = pt' k) : ∀ (n k : Nat) (R : Nat → Bool), ftN pt tx e n k R = ftN pt' tx e n k R := by
  intro n
  induction n with
  | zero => intro k R; rfl
  | succ n ih =>
    intro k R
    simp only [ftN]
    by_cases h1 : e ≤ k
    · rw [if_pos h1, if_pos h1]
    · rw [if_neg h1, if_neg h1, h k (by omega)]
      by_cases h2 : pt' k = 42
      · rw [if_pos h2, if_pos h2]
        have : (k + 1 < e ∧ pt (k + 1) = 42) ↔ (k + 1 < e ∧ pt' (k + 1) = 42) := and_congr_right (fun z => by rw [h _ z])
        by_cases h3 : k + 1 < e ∧ pt' (k + 1) = 42
        · rw [if_pos h3, if_pos (this.mpr h3)]; exact ih _ _
        · rw [if_neg h3, if_neg (fun z => h3 (this.mp z))]; exact ih _ _
      · rw [if_neg h2, if_neg h2]; exact ih _ _
theorem fts_cong {pt pt' tx : Nat → Nat} {len a e : Nat} (h : ∀ k, k < e → pt k = pt' k) : fts pt tx len a e = fts pt' tx len a e := by
  unfold fts
  rw [ftN_cong h]
section
variable {σ : Ab} {k : sk_M} {N : Nat}
theorem KS.fr {k' : sk_M} (h : KS σ k) (h1 : ∀ q i, q = 21 ∨ q = 22 ∨ q = 16 ∨ (q = 0 ∧ (i = 3 ∨ i = 4)) → k'.1 q i = k.1 q i) (h2 : ∀ q i, q = 31 ∨ q = 32 ∨ (q = 0 ∧ 2 ≤ i ∧ i ≤ 7) → k'.2 q i = k.2 q i) : KS σ k' := by
  obtain ⟨a, b, c, d, e, f, g⟩ := h
  refine ⟨fun r hr => by rw [h2 31 r (by omega), h2 32 r (by omega)]; exact a r hr, fun i x hi => by rw [h2 0 (4 + i) (by omega)]; exact b i x hi, fun x => by rw [h2 0 2 (by omega)]; exact c x, fun x => by rw [h2 0 3 (by omega)]; exact d x, fun x p q r => by rw [h1 21 x (by omega)]; exact e x p q r, fun x p q r => by rw [h1 22 x (by omega)]; exact f x p q r, fun z => ?_⟩
  rw [h1 0 4 (by omega)] at z
  have q := g z
  exact ⟨by rw [h1 0 3 (by omega)]; exact q.1, fun j hj => by rw [h1 (13 + 3) j (by omega)]; exact q.2 j hj⟩
theorem k_drop (hI : IA σ) (hN : 80 < N) (hR : RK σ k) {c : Nat} (h0 : 1 ≤ c) (hc : c ≤ 9) (ht : σ 1 c = 1) : Ev (K_SF_drop N k (nI c)) (fun z => z.1 = 1 ∧ RK (dpA σ c) z.2) := by
  obtain ⟨hT, hRr, hM, hF, hD, hB⟩ := hR.1
  have hI' : IA (dpA σ c) := IA_drop hI h0 hc
  unfold K_SF_drop
  refine ev_qn c 0 (fun h => by omega) (fun _ => ?_)
  unfold K_Types_isThere
  refine ev_has c (by omega) (hT.2 c) (fun h => absurd ⟨by omega, ht⟩ h) (fun _ => ?_)
  unfold K_Types_forget
  refine ev_oR (Q := fun k' => KT (dpA σ c) k' ∧ KR (dpA σ c) k' ∧ (∀ q i, q ≠ 39 → k'.1 q i = k.1 q i) ∧ ∀ q i, q < 40 → (q = 0 → i < 11 ∨ 13 < i) → k'.2 q i = k.2 q i) ?_ (fun k1 h1 => ?_)
  · refine ev_fL ?_
    refine ev_oR (k_relate hI' hN ?_ ?_) (fun k2 h2 => ev_some ⟨h2.1, h2.2.1, h2.2.2.1, fun q i z y => by rw [h2.2.2.2 q i z (by omega), w2_n (by omega)]⟩)
    · refine ⟨fun d hd => ?_, fun i => ?_⟩
      · rw [dpA_o σ c d (by omega) (by omega), dpA_o σ c d (by omega) (by omega), dpA_o σ c d (by omega) (by omega), dpA_o σ c d (by omega) (by omega), dpA_o σ c d (by omega) (by omega)]
        exact hT.1 d hd
      · rw [w2_s, lb_and, Bool.and_eq_true, hT.2, dpA_1]
        rcases Nat.lt_or_ge i 64 with q | q
        · rw [lb_not _ q, lb_bit (by omega)]
          by_cases z : i = c
          · rw [if_pos z]; simp [z]
          · rw [if_neg z]; simp [z]
        · constructor
          · rintro ⟨z, _⟩; omega
          · rintro ⟨z, _⟩; omega
    · intro d
      rw [w2_n (by omega)]
      exact hRr.2.2.1 d
  · obtain ⟨a1, a2, a3, a4⟩ := h1
    have hM1 : KM σ k1 := hM.of (fun q i z => a3 q i (by omega)) (fun i z => a4 0 i (by omega) (by omega))
    refine ev_oR (k_discardAll hI hN hM1 (show c < 10 by omega)) (fun k2 h2 => ?_)
    obtain ⟨b1, b2, b3⟩ := h2
    refine ev_fI ?_
    refine ev_some ⟨rfl, RB_set ⟨a1.of (fun _ _ _ _ _ => rfl) (fun q i z y => b2 q i (by omega)) (b3 0 11 (by omega)), a2.of (fun i => b2 39 i (by omega)) (fun q i z => b3 q i (by omega)), b1.cg ?_ (fun q x z y hx => ?_), (hF.of (k' := k2) (fun q i z => by rw [b2 q i (by omega)]; exact a3 q i (by omega))).cg (dpA_o σ c 1 (by omega) (by omega)) (fun q x z y _ => dpA_o σ c x (by omega) (by omega)), (hD.of (k' := k2) (fun q i z => by rw [b2 q i (by omega)]; exact a3 q i (by omega))).cg (dpA_o σ c 2 (by omega) (by omega)) (by funext x; exact dpA_o σ c x (by omega) (by omega)), (hB.of (k' := k2) (fun q i z => by rw [b2 q i (by omega)]; exact a3 q i (by omega)) (fun q i z y => by rw [b3 q i (by omega)]; exact a4 q i (by omega) (by omega))).cg (dpA_o σ c 3 (by omega) (by omega)) (fun q z y => by funext x; exact dpA_o σ c x (by omega) (by omega))⟩⟩
    · rw [dpA_o σ c 0 (by omega) (by omega), dxA_o σ c _ 0 (by omega)]
    · rw [dxA_o σ c _ 0 (by omega)] at hx
      by_cases q12 : q = 12
      · subst q12
        rw [dpA_12]
        unfold dxA
        by_cases g : 1 ≤ x ∧ σ 8 x = c
        · rw [if_pos g, if_pos ⟨rfl, g.1, hx, g.2⟩]
        · rw [if_neg g, if_neg (fun w => g ⟨w.2.1, w.2.2.2⟩)]
      · rw [dpA_o σ c x (by omega) q12, dxA_o σ c _ x q12]
theorem rm_cgs (hR : RB σ k) {k' : sk_M} {x : Nat} (hM' : KM (rmA σ x) k') (b2 : ∀ q i, q ≠ 20 → k'.1 q i = k.1 q i) (b3 : ∀ q i, ¬ (q = 0 ∧ i ≤ 1) → k'.2 q i = k.2 q i) : RB (rmA σ x) k' := by
  obtain ⟨hT, hRr, hM, hF, hD, hB⟩ := hR
  have rr : ∀ q i, q ≠ 12 → rmA σ x q i = σ q i := fun q i h => if_neg (fun z => h z.1)
  have rf : ∀ q, q ≠ 12 → rmA σ x q = σ q := fun q h => funext (fun i => rr q i h)
  exact ⟨hT.of (fun r c a b _ => rr r c (by omega)) (fun q i z y => b2 q i (by omega)) (b3 0 11 (by omega)), (hRr.of (k' := k') (fun i => b2 39 i (by omega)) (fun q i z => b3 q i (by omega))).cg (rf 1 (by omega)) (rf 2 (by omega)) (rf 3 (by omega)) (rf 5 (by omega)) (rf 6 (by omega)), hM', (hF.of (k' := k') (fun q i z => b2 q i (by omega))).cg (rr 0 1 (by omega)) (fun q i a b _ => rr q i (by omega)), (hD.of (k' := k') (fun q i z => b2 q i (by omega))).cg (rr 0 2 (by omega)) (rf 18 (by omega)), (hB.of (k' := k') (fun q i z => b2 q i (by omega)) (fun q i z y => b3 q i (by omega))).cg (rr 0 3 (by omega)) (fun q a b => rf q (by omega))⟩
theorem k_remove (hI : IA σ) (hR : RK σ k) {x : Nat} (h0 : 1 ≤ x) (hx : alive σ x) : Ev (K_SF_remove k (nI x)) (fun z => z.1 = 1 ∧ RK (rmA σ x) z.2) := by
  have hn := hI.1.2.1
  have hxn := hx.1
  unfold K_SF_remove
  refine ev_qn x 0 (fun h => by omega) (fun _ => ?_)
  unfold K_Members_isAlive
  refine ev_has x (by omega) (hR.1.2.2.1.2.2.1 x) (fun h => absurd hx h) (fun _ => ?_)
  refine ev_oR (k_discard hI hR.1.2.2.1 hx) (fun k1 h1 => ?_)
  refine ev_fI ?_
  exact ev_some ⟨rfl, RB_set (rm_cgs hR.1 h1.1 h1.2.1 h1.2.2)⟩
theorem k_add (hM : KM σ k) {c w s f : Nat} (hn : σ 0 0 < 40) (hc : c < 10) (hw : w < 8) (hs : s < 2) (hf : f < 8) (hno : ∀ y, ¬ own σ c (16 * (f % 2) + 2 * w + s) y) : Ev (K_Members_add k (nI c) (nI (16 * (f % 2) + 2 * w + s)) (nI f)) (fun z => z.1 = nI (σ 0 0) ∧ KM (mbA σ c w s f) z.2 ∧ (∀ q i, ¬ (17 ≤ q ∧ q ≤ 20) → ¬ (q = 0 ∧ i = 5) → z.2.1 q i = k.1 q i) ∧ ∀ q i, ¬ (q = 0 ∧ i ≤ 1) → z.2.2 q i = k.2 q i) := by
  obtain ⟨h1, h2, h3, h4, h5⟩ := hM
  obtain ⟨n8, n9, n10, n11, n12⟩ := mbA_n σ c w s f
  have n0 := mbA_0 σ c w s f
  have old : ∀ q y, q ≠ 0 → y ≠ σ 0 0 → mbA σ c w s f q y = σ q y := fun q y a b => mbA_o σ c w s f y (by omega) (by omega)
  have al : ∀ y, alive (mbA σ c w s f) y ↔ alive σ y ∨ y = σ 0 0 := fun y => by
    unfold alive
    rw [n0]
    by_cases q : y = σ 0 0
    · rw [q, n12]
      exact ⟨fun _ => Or.inr rfl, fun _ => ⟨by omega, rfl⟩⟩
    · rw [old 12 y (by omega) q]
      exact ⟨fun z => Or.inl ⟨by omega, z.2⟩, fun z => ⟨by have := (z.resolve_right q).1; omega, (z.resolve_right q).2⟩⟩
  have sgn_n : sgn (mbA σ c w s f) (σ 0 0) = 16 * (f % 2) + 2 * w + s := by unfold sgn; rw [n9, n10, n11]
  have sgn_o : ∀ y, y ≠ σ 0 0 → sgn (mbA σ c w s f) y = sgn σ y := fun y q => by unfold sgn; rw [old 9 y (by omega) q, old 10 y (by omega) q, old 11 y (by omega) q]
  have ow : ∀ c' g' y, own (mbA σ c w s f) c' g' y ↔ own σ c' g' y ∨ (y = σ 0 0 ∧ c' = c ∧ g' = 16 * (f % 2) + 2 * w + s) := fun c' g' y => by
    unfold own
    rw [al]
    by_cases q : y = σ 0 0
    · rw [q, n8, sgn_n]
      constructor
      · rintro ⟨_, z1, z2⟩; exact Or.inr ⟨rfl, z1.symm, z2.symm⟩
      · rintro (z | z)
        · have := z.1.1; omega
        · exact ⟨Or.inr rfl, z.2.1.symm, z.2.2.symm⟩
    · rw [old 8 y (by omega) q, sgn_o y q]
      exact ⟨fun z => Or.inl ⟨z.1.resolve_right q, z.2⟩, fun z => by have := z.resolve_right (fun z => q z.1); exact ⟨Or.inl this.1, this.2⟩⟩
  unfold K_Members_add
  rw [h1]
  refine ev_lt (σ 0 0) 40 (fun _ => ?_) (fun h => by omega)
  refine ev_fI ?_
  refine ev_wI hn (by decide) ?_
  refine ev_wI hn (by decide) ?_
  refine ev_wI hn (by decide) ?_
  rw [show nI c * (32 : Int32) = nI (c * 32) from pk_mul _ 32, nI_add, show c * 32 + (16 * (f % 2) + 2 * w + s) = 32 * c + (16 * (f % 2) + 2 * w + s) by omega, nI_1]
  refine ev_wI (by omega) (by decide) ?_
  refine ev_fL ?_
  obtain ⟨k1, e1⟩ : ∃ x, x = sk_wi (sk_wi (sk_wi (sk_wi (sk_wi k 0 5 (nI (σ 0 0 + 1))) 17 (σ 0 0) (nI c)) 18 (σ 0 0) (nI (16 * (f % 2) + 2 * w + s))) 19 (σ 0 0) (nI f)) 20 (32 * c + (16 * (f % 2) + 2 * w + s)) (nI (σ 0 0)) := ⟨_, rfl⟩
  rw [← e1]
  have L1 : k1.2 = k.2 := by rw [e1]; rfl
  have I05 : k1.1 0 5 = nI (σ 0 0 + 1) := by rw [e1, w1_n (by omega), w1_n (by omega), w1_n (by omega), w1_n (by omega), w1_s]
  have I17 : ∀ y, k1.1 17 y = if y = σ 0 0 then nI c else k.1 17 y := fun y => by
    rw [e1, w1_n (by omega), w1_n (by omega), w1_n (by omega)]
    by_cases q : y = σ 0 0
    · rw [if_pos q, q, w1_s]
    · rw [if_neg q, w1_n (by omega), w1_n (by omega)]
  have I18 : ∀ y, k1.1 18 y = if y = σ 0 0 then nI (16 * (f % 2) + 2 * w + s) else k.1 18 y := fun y => by
    rw [e1, w1_n (by omega), w1_n (by omega)]
    by_cases q : y = σ 0 0
    · rw [if_pos q, q, w1_s]
    · rw [if_neg q, w1_n (by omega), w1_n (by omega), w1_n (by omega)]
  have I19 : ∀ y, k1.1 19 y = if y = σ 0 0 then nI f else k.1 19 y := fun y => by
    rw [e1, w1_n (by omega)]
    by_cases q : y = σ 0 0
    · rw [if_pos q, q, w1_s]
    · rw [if_neg q, w1_n (by omega), w1_n (by omega), w1_n (by omega), w1_n (by omega)]
  have I20 : ∀ y, k1.1 20 y = if y = 32 * c + (16 * (f % 2) + 2 * w + s) then nI (σ 0 0) else k.1 20 y := fun y => by
    rw [e1]
    by_cases q : y = 32 * c + (16 * (f % 2) + 2 * w + s)
    · rw [if_pos q, q, w1_s]
    · rw [if_neg q, w1_n (by omega), w1_n (by omega), w1_n (by omega), w1_n (by omega), w1_n (by omega)]
  have Io : ∀ q i, ¬ (17 ≤ q ∧ q ≤ 20) → ¬ (q = 0 ∧ i = 5) → k1.1 q i = k.1 q i := fun q i a b => by
    rw [e1, w1_n (by omega), w1_n (by omega), w1_n (by omega), w1_n (by omega), w1_n (by omega)]
  have fin : ∀ k2 : sk_M, k2.1 = k1.1 → (∀ i, lb (k2.2 0 0) i = true ↔ alive σ i ∨ i = σ 0 0) → (∀ i, lb (k2.2 0 1) i = true ↔ (alive σ i ∧ σ 11 i = 1) ∨ (i = σ 0 0 ∧ f = 1)) → (∀ q i, ¬ (q = 0 ∧ i ≤ 1) → k2.2 q i = k.2 q i) → Ev (some (nI (σ 0 0), k2)) (fun z => z.1 = nI (σ 0 0) ∧ KM (mbA σ c w s f) z.2 ∧ (∀ q i, ¬ (17 ≤ q ∧ q ≤ 20) → ¬ (q = 0 ∧ i = 5) → z.2.1 q i = k.1 q i) ∧ ∀ q i, ¬ (q = 0 ∧ i ≤ 1) → z.2.2 q i = k.2 q i) := by
    intro k2 ek b0 b1 bo
    refine ev_some ⟨rfl, ⟨by rw [n0]; show k2.1 0 5 = _; rw [ek, I05], fun y hy => ?_, fun i => ?_, fun i => ?_, fun c' g' hc' hg' => ?_⟩, fun q i a b => by show k2.1 q i = _; rw [ek]; exact Io q i a b, bo⟩
    · rw [n0] at hy
      show k2.1 17 y = _ ∧ k2.1 18 y = _ ∧ k2.1 19 y = _
      rw [ek, I17, I18, I19]
      by_cases q : y = σ 0 0
      · rw [if_pos q, if_pos q, if_pos q, q, n8, sgn_n, n11]
        exact ⟨rfl, rfl, rfl⟩
      · rw [if_neg q, if_neg q, if_neg q, old 8 y (by omega) q, sgn_o y q, old 11 y (by omega) q]
        exact h2 y (by omega)
    · rw [al]; exact b0 i
    · rw [al]
      show lb (k2.2 0 1) i = true ↔ _
      rw [b1]
      by_cases q : i = σ 0 0
      · rw [q, n11]
        constructor
        · rintro (z | z)
          · have := z.1.1; omega
          · exact ⟨Or.inr rfl, z.2⟩
        · rintro ⟨_, z⟩; exact Or.inr ⟨rfl, z⟩
      · rw [old 11 i (by omega) q]
        exact ⟨fun z => by have := z.resolve_right (fun z => q z.1); exact ⟨Or.inl this.1, this.2⟩, fun z => Or.inl ⟨z.1.resolve_right q, z.2⟩⟩
    · show (∃ x, own (mbA σ c w s f) c' g' x ∧ k2.1 20 (32 * c' + g') = nI x) ∨ ((∀ x, ¬ own (mbA σ c w s f) c' g' x) ∧ k2.1 20 (32 * c' + g') = -2)
      rw [ek, I20]
      by_cases q : 32 * c' + g' = 32 * c + (16 * (f % 2) + 2 * w + s)
      · rw [if_pos q]
        exact Or.inl ⟨σ 0 0, (ow c' g' _).mpr (Or.inr ⟨rfl, by omega, by omega⟩), rfl⟩
      · rw [if_neg q]
        rcases h5 c' g' hc' hg' with ⟨x, a, b⟩ | ⟨a, b⟩
        · exact Or.inl ⟨x, (ow c' g' x).mpr (Or.inl a), b⟩
        · refine Or.inr ⟨fun x hx => ?_, b⟩
          rcases (ow c' g' x).mp hx with z | z
          · exact a x z
          · exact q (by rw [z.2.1, z.2.2])
  refine ev_qn f 1 (fun hf1 => ?_) (fun hf1 => ?_)
  · refine ev_fL ?_
    refine fin _ rfl (fun i => ?_) (fun i => ?_) (fun q i a => by rw [w2_n (by omega), w2_n (by omega), L1])
    · rw [w2_n (by omega), w2_s, L1, lb_or_bit (by omega) h3]
    · rw [w2_s, w2_n (by omega), L1, lb_or_bit (by omega) h4]
      exact ⟨fun z => z.imp id (fun z => ⟨z, hf1⟩), fun z => z.imp id (fun z => z.1)⟩
  · refine fin _ rfl (fun i => ?_) (fun i => ?_) (fun q i a => by rw [w2_n (by omega), L1])
    · rw [w2_s, L1, lb_or_bit (by omega) h3]
    · rw [w2_n (by omega), L1, h4]
      exact ⟨Or.inl, fun z => z.resolve_right (fun z => hf1 z.2)⟩
theorem k_member (hI : IA σ) (hR : RK σ k) {c w s f : Nat} (h0 : 1 ≤ c) (hc : c ≤ 9) (ht : σ 1 c = 1) (hs : s < 2) (hf : f < 8) (hw : w < if f % 2 = 1 then 8 else 6) : Ev (K_SF_member k (nI c) (nI w) (nI s) (nI f)) (fun z => (z.1 = -1 ∧ (∃ y, own σ c (16 * (f % 2) + 2 * w + s) y) ∧ RK σ z.2) ∨ ((∀ y, ¬ own σ c (16 * (f % 2) + 2 * w + s) y) ∧ ((z.1 = -3 ∧ σ 0 0 = 40 ∧ RK σ z.2) ∨ (z.1 = nI (σ 0 0) ∧ σ 0 0 < 40 ∧ RK (mbA σ c w s f) z.2)))) := by
  have hn := hI.1.2.1
  have hw8 : w < 8 := by split at hw <;> omega
  have J : ∀ kd, kd = f % 2 → ∀ v, v = (if kd = 1 then 8 else 6) → Ev (K_SF_member_J56 k (nI c) (nI w) (nI s) (nI f) (nI kd) (nI w) 0 (nI v)) (fun z => (z.1 = -1 ∧ (∃ y, own σ c (16 * (f % 2) + 2 * w + s) y) ∧ RK σ z.2) ∨ ((∀ y, ¬ own σ c (16 * (f % 2) + 2 * w + s) y) ∧ ((z.1 = -3 ∧ σ 0 0 = 40 ∧ RK σ z.2) ∨ (z.1 = nI (σ 0 0) ∧ σ 0 0 < 40 ∧ RK (mbA σ c w s f) z.2)))) := by
    intro kd hkd v hv
    have hwv : w < v := by rw [hv, hkd]; exact hw
    have hv8 : v ≤ 8 := by rw [hv]; split <;> omega
    unfold K_SF_member_J56
    refine ev_wn w 0 (v - 1) (by omega) (by omega) ?_ (hw := nI_m1 (by omega))
    refine ev_wn s 0 1 (by omega) (by omega) ?_
    rw [k_sig (by omega), hkd]
    have gl : 16 * (f % 2) + 2 * w + s < 32 := by omega
    rw [pu_oR (k_at (show c < 10 by omega) gl)]
    rcases hR.1.2.2.1.2.2.2.2 c _ (show c < 10 by omega) gl with ⟨x, a, b⟩ | ⟨a, b⟩
    · have hx := a.1.1
      rw [b, if_neg (show ¬ nI x = -2 from oI_no (x := x) (by omega))]
      exact ev_some (Or.inl ⟨rfl, ⟨x, a⟩, hR⟩)
    · rw [b, if_pos rfl]
      refine ev_fI ?_
      have hB0 := RB_set hR.1
      rcases (show σ 0 0 < 40 ∨ σ 0 0 = 40 by omega) with q | q
      · refine ev_oW (k_add hB0.1.2.2.1 q (show c < 10 by omega) hw8 hs hf a) (fun r k2 h2 => ev_some (Or.inr ⟨a, Or.inr ⟨h2.1, q, ?_⟩⟩))
        obtain ⟨_, m2, f1, f2⟩ := h2
        obtain ⟨hT, hRr, hM, hF, hD, hB⟩ := hB0.1
        have rr : ∀ q i, q ≠ 0 → (q < 8 ∨ 12 < q) → mbA σ c w s f q i = σ q i := fun q i a b => mbA_o σ c w s f i (by omega) (by omega)
        have r0 : ∀ i, i ≠ 0 → i < 40 → mbA σ c w s f 0 i = σ 0 i := fun i a _ => mbA_o σ c w s f i (by omega) (by omega)
        have rf : ∀ q, q ≠ 0 → (q < 8 ∨ 12 < q) → mbA σ c w s f q = σ q := fun q a b => funext (fun i => rr q i a b)
        refine RB_rk ⟨hT.of (fun r d a b _ => rr r d (by omega) (by omega)) (fun q i z y => f1 q i (by omega) (by omega)) (f2 0 11 (by omega)), (hRr.of (k' := k2) (fun i => f1 39 i (by omega) (by omega)) (fun q i z => f2 q i (by omega))).cg (rf 1 (by omega) (by omega)) (rf 2 (by omega) (by omega)) (rf 3 (by omega) (by omega)) (rf 5 (by omega) (by omega)) (rf 6 (by omega) (by omega)), m2, (hF.of (k' := k2) (fun q i z => f1 q i (by omega) (by omega))).cg (r0 1 (by omega) (by omega)) (fun q i a b _ => rr q i (by omega) (by omega)), (hD.of (k' := k2) (fun q i z => f1 q i (by omega) (by omega))).cg (r0 2 (by omega) (by omega)) (rf 18 (by omega) (by omega)), (hB.of (k' := k2) (fun q i z => f1 q i (by omega) (by omega)) (fun q i z y => f2 q i (by omega))).cg (r0 3 (by omega) (by omega)) (fun q a b => rf q (by omega) (by omega))⟩ ?_
        rw [f1 0 10 (by omega) (by omega), w1_s]
      · unfold K_Members_add
        rw [hB0.1.2.2.1.1, if_neg (by rw [q]; decide)]
        exact ev_some (Or.inr ⟨a, Or.inl ⟨rfl, q, hB0⟩⟩)
  unfold K_SF_member
  refine ev_qn c 0 (fun h => by omega) (fun _ => ?_)
  unfold K_Types_isThere
  refine ev_has c (by omega) (hR.1.1.2 c) (fun h => absurd ⟨by omega, ht⟩ h) (fun _ => ?_)
  refine ev_wn f 0 7 (by omega) (by omega) ?_
  rw [nI_and1 _ (by omega)]
  unfold K_SF_member_J40
  refine ev_qn (f % 2) 0 (fun h => ?_) (fun h => ?_)
  · rw [if_pos rfl]
    exact J 0 h.symm 6 (by rw [if_neg (by omega)])
  · rw [if_neg (by decide)]
    exact J 1 (by omega) 8 (by rw [if_pos rfl])
theorem k_refer (hI : IA σ) (hR : RK σ k) {x kd c w s : Nat} (h0 : 1 ≤ x) (hx : alive σ x) (hm : σ 11 x % 2 = 1) (hk : kd ≤ 5) (hc : c ≤ 9) (hw : w ≤ 7) (hs : s ≤ 1) : Ev (K_SF_refer k (nI x) (nI kd) (nI c) (nI w) (nI s)) (fun z => (z.1 = -3 ∧ σ 0 1 = 60 ∧ RK σ z.2) ∨ (z.1 = nI (σ 0 1 + 1) ∧ σ 0 1 < 60 ∧ RK (rfA σ x kd c w s) z.2)) := by
  have hn := hI.1.2.1
  have hn1 := hI.1.2.2.1
  have hxn := hx.1
  have b11 := (hI.2.2.2.1 x hxn).2.2.2.1
  unfold K_SF_refer
  refine ev_qn x 0 (fun h => by omega) (fun _ => ?_)
  unfold K_Members_isAlive
  refine ev_has x (by omega) (hR.1.2.2.1.2.2.1 x) (fun h => absurd hx h) (fun _ => ?_)
  have hfl : Ev (K_Members_hasFlag k (nI x) 1) (fun r => r = 1) := by
    unfold K_Members_hasFlag
    refine ev_rI (by omega) (by decide) ?_
    rw [(hR.1.2.2.1.2.1 x hxn).2.2, nI_and1 _ (by omega)]
    exact ev_qn (σ 11 x % 2) 0 (fun h => by omega) (fun _ => ev_some rfl)
  refine ev_oR hfl (fun r hr => ?_)
  subst hr
  rw [if_neg (by decide)]
  refine ev_wn kd 0 5 (by omega) hk ?_
  rw [if_neg (by rw [isWanted_y hc hw hs]; decide)]
  refine ev_fI ?_
  have hB0 := RB_set hR.1
  have J : ∀ q, q < 2 → 16 * q = (if kd = 2 then 0 else 16) → Ev (K_SF_refer_J73 (sk_wi k 0 10 0) (nI w) (nI s) (nI x) (nI kd) (nI c) (nI q)) (fun z => (z.1 = -3 ∧ σ 0 1 = 60 ∧ RK σ z.2) ∨ (z.1 = nI (σ 0 1 + 1) ∧ σ 0 1 < 60 ∧ RK (rfA σ x kd c w s) z.2)) := by
    intro q hq eq
    unfold K_SF_refer_J73
    rw [k_sig hq]
    have h10 : (sk_wi k 0 10 0).1 0 10 = 0 := by rw [w1_s]
    generalize sk_wi k 0 10 0 = k0 at hB0 h10 ⊢
    obtain ⟨hT, hRr, hM, hF, hD, hB⟩ := hB0.1
    obtain ⟨n13, n14, n15, n16, n17⟩ := rfA_n σ x kd c w s
    have n01 := rfA_1 σ x kd c w s
    refine ev_oW (Q := fun z => (z.1 = -3 ∧ σ 0 1 = 60 ∧ RK σ z.2) ∨ (z.1 = nI (σ 0 1 + 1) ∧ σ 0 1 < 60 ∧ RK (rfA σ x kd c w s) z.2)) ?_ (fun r k2 h2 => ev_some h2)
    unfold K_References_add
    refine ev_lt (σ 0 1) 60 (hu := hF.1) (fun h60 => ?_) (fun h60 => ev_some (Or.inl ⟨rfl, by omega, hB0⟩))
    rw [hF.1]
    refine ev_wI (by omega) (by decide) ?_
    rw [w1_n (by omega), hF.1]
    refine ev_wI (by omega) (by decide) ?_
    rw [w1_n (by omega), w1_n (by omega), hF.1]
    refine ev_wI (by omega) (by decide) ?_
    rw [w1_n (by omega), w1_n (by omega), w1_n (by omega), hF.1]
    refine ev_wI (by omega) (by decide) ?_
    refine ev_fI ?_
    rw [w1_s, w1_n (by omega), w1_n (by omega), w1_n (by omega), w1_n (by omega), hF.1, nI_1]
    refine ev_some (Or.inr ⟨rfl, h60, ?_⟩)
    generalize ek : sk_wi (sk_wi (sk_wi (sk_wi (sk_wi k0 23 (σ 0 1) (nI x)) 24 (σ 0 1) (nI kd)) 25 (σ 0 1) (nI c)) 26 (σ 0 1) (nI (16 * q + 2 * w + s))) 0 6 (nI (σ 0 1 + 1)) = k2
    have f1 : ∀ q i, ¬ (23 ≤ q ∧ q ≤ 26) → ¬ (q = 0 ∧ i = 6) → k2.1 q i = k0.1 q i := fun q i a b => by
      rw [← ek, w1_n (by omega), w1_n (by omega), w1_n (by omega), w1_n (by omega), w1_n (by omega)]
    have f2 : k2.2 = k0.2 := by rw [← ek]; rfl
    have rr : ∀ q i, q ≠ 0 → (q < 13 ∨ 17 < q) → rfA σ x kd c w s q i = σ q i := fun q i a b => rfA_o σ x kd c w s i (by omega) (by omega)
    have r0 : ∀ i, i ≠ 1 → rfA σ x kd c w s 0 i = σ 0 i := fun i a => rfA_o σ x kd c w s i (by omega) (by omega)
    have rf : ∀ q, q ≠ 0 → (q < 13 ∨ 17 < q) → rfA σ x kd c w s q = σ q := fun q a b => funext (fun i => rr q i a b)
    refine RB_rk ⟨hT.of (fun r d a b _ => rr r d (by omega) (by omega)) (fun q i z y => f1 q i (by omega) (by omega)) (by rw [f2]), (hRr.of (k' := k2) (fun i => f1 39 i (by omega) (by omega)) (fun q i z => by rw [f2])).cg (rf 1 (by omega) (by omega)) (rf 2 (by omega) (by omega)) (rf 3 (by omega) (by omega)) (rf 5 (by omega) (by omega)) (rf 6 (by omega) (by omega)), (hM.of (k' := k2) (fun q i z => f1 q i (by omega) (by omega)) (fun i z => by rw [f2])).cg (r0 0 (by omega)) (fun q i a b _ => rr q i (by omega) (by omega)), ⟨?_, fun i hi => ?_⟩, (hD.of (k' := k2) (fun q i z => f1 q i (by omega) (by omega))).cg (r0 2 (by omega)) (rf 18 (by omega) (by omega)), (hB.of (k' := k2) (fun q i z => f1 q i (by omega) (by omega)) (fun q i z y => by rw [f2])).cg (r0 3 (by omega)) (fun q a b => rf q (by omega) (by omega))⟩ ?_
    · rw [n01, ← ek, w1_s]
    · rw [n01] at hi
      by_cases z : i = σ 0 1
      · rw [z, n13, n14, n15, ← ek]
        have eg : gI (rfA σ x kd c w s) (σ 0 1) = 16 * q + 2 * w + s := by unfold gI; rw [n14, n16, n17, eq]
        rw [eg, w1_n (by omega), w1_n (by omega), w1_n (by omega), w1_n (by omega), w1_s, w1_n (by omega), w1_n (by omega), w1_n (by omega), w1_s, w1_n (by omega), w1_n (by omega), w1_s, w1_n (by omega), w1_s]
        exact ⟨rfl, rfl, rfl, rfl⟩
      · have ro : ∀ q, 13 ≤ q → q ≤ 17 → rfA σ x kd c w s q i = σ q i := fun q a b => rfA_o σ x kd c w s i (by omega) (by omega)
        have eg : gI (rfA σ x kd c w s) i = gI σ i := by unfold gI; rw [ro 14 (by omega) (by omega), ro 16 (by omega) (by omega), ro 17 (by omega) (by omega)]
        rw [eg, ro 13 (by omega) (by omega), ro 14 (by omega) (by omega), ro 15 (by omega) (by omega), ← ek, w1_n (by omega), w1_n (by omega), w1_n (by omega), w1_n (by omega), w1_n (by omega), w1_n (by omega), w1_n (by omega), w1_n (by omega), w1_n (by omega), w1_n (by omega), w1_n (by omega), w1_n (by omega), w1_n (by omega), w1_n (by omega), w1_n (by omega), w1_n (by omega), w1_n (by omega), w1_n (by omega), w1_n (by omega), w1_n (by omega)]
        exact hF.2 i (by omega)
    · rw [f1 0 10 (by omega) (by omega)]
      exact h10
  exact ev_qn kd 2 (fun h => J 0 (by omega) (by rw [if_pos h])) (fun h => J 1 (by omega) (by rw [if_neg h]))
end
