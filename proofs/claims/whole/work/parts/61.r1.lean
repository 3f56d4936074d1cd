/-! THE CLASS'S MEMORY holds σ -/
def KT (σ : Ab) (k : sk_M) : Prop :=
  (∀ c, c < 10 → k.1 35 c = nI (σ 4 c) ∧ k.1 36 c = nI (σ 2 c + 2 * σ 3 c) ∧ k.1 37 c = nI (σ 5 c) ∧ ∃ f, f < 1024 ∧ k.1 38 c = nI f ∧ f % 2 ^ c = σ 6 c) ∧
  (∀ i, lb (k.2 0 11) i = true ↔ i < 10 ∧ σ 1 i = 1)
def KR (σ : Ab) (k : sk_M) : Prop :=
  (∀ i, lb (k.2 0 12) i = true ↔ i < 10 ∧ σ 1 i = 1 ∧ σ 2 i = 1) ∧
  (∀ i, lb (k.2 0 13) i = true ↔ i < 10 ∧ σ 1 i = 1 ∧ σ 2 i = 0 ∧ σ 3 i = 0) ∧
  (∀ d, lb (k.2 42 0) d = false) ∧
  ∀ c, c < 10 → σ 1 c = 1 → (0 < c → k.1 39 c = nI (sup σ c) ∧ ∀ u, lb (k.2 40 c) u = true ↔ hasF σ c u) ∧ (∀ t, lb (k.2 41 c) t = true ↔ lin σ c t) ∧ (∀ d, lb (k.2 42 c) d = true ↔ abv σ c d)
def KM (σ : Ab) (k : sk_M) : Prop :=
  k.1 0 5 = nI (σ 0 0) ∧
  (∀ x, x < σ 0 0 → k.1 17 x = nI (σ 8 x) ∧ k.1 18 x = nI (sgn σ x) ∧ k.1 19 x = nI (σ 11 x)) ∧
  (∀ i, lb (k.2 0 0) i = true ↔ alive σ i) ∧ (∀ i, lb (k.2 0 1) i = true ↔ alive σ i ∧ σ 11 i = 1) ∧
  ∀ c g, c < 10 → g < 32 → (∃ x, own σ c g x ∧ k.1 20 (32 * c + g) = nI x) ∨ ((∀ x, ¬ own σ c g x) ∧ k.1 20 (32 * c + g) = -2)
def KF (σ : Ab) (k : sk_M) : Prop :=
  k.1 0 6 = nI (σ 0 1) ∧ ∀ i, i < σ 0 1 → k.1 23 i = nI (σ 13 i) ∧ k.1 24 i = nI (σ 14 i) ∧ k.1 25 i = nI (σ 15 i) ∧ k.1 26 i = nI (gI σ i)
def KD (σ : Ab) (k : sk_M) : Prop := k.1 0 0 = nI (σ 0 2) ∧ ∀ i, i < σ 0 2 → k.1 13 i = nI (σ 18 i)
def KB (σ : Ab) (k : sk_M) : Prop :=
  k.1 0 7 = nI (σ 0 3) ∧ ∀ r, r < σ 0 3 → k.1 27 r = nI (σ 20 r + 1) ∧
  (∀ p c, p < 3 → c < 10 → (lb (k.2 28 r) (10 * p + c) = true ↔ fts (pat σ r) (nmx p c) 3 (σ 21 r) (σ 22 r) = true)) ∧
  (σ 23 r = 0 → k.2 29 r = -1) ∧
  (0 < σ 23 r → ∀ p c, p < 3 → c < 10 → (lb (k.2 29 r) (10 * p + c) = true ↔ fts (pat σ r) (nmx p c) 3 (σ 23 r - 1) (σ 24 r) = true)) ∧
  (∀ g, g < 32 → (lb (k.2 30 r) g = true ↔ ∃ j, j < σ 25 r ∧ (σ 26 (16 * r + j) ≠ if g / 16 = 1 then 102 else 109) ∧ fts (pat σ r) (wdx (g / 2 % 8)) (wln (g / 2 % 8)) (σ 27 (16 * r + j)) (σ 28 (16 * r + j)) = true))
/-- all of it, but what is worked out -/
def RB (σ : Ab) (k : sk_M) : Prop := KT σ k ∧ KR σ k ∧ KM σ k ∧ KF σ k ∧ KD σ k ∧ KB σ k
/-- the cells of the base -/
def cbI (q i : Nat) : Prop := (q = 0 ∧ (i = 0 ∨ i = 5 ∨ i = 6 ∨ i = 7)) ∨ q = 13 ∨ (17 ≤ q ∧ q ≤ 20) ∨ (23 ≤ q ∧ q ≤ 27) ∨ (35 ≤ q ∧ q ≤ 39)
def cbL (q i : Nat) : Prop := (q = 0 ∧ (i ≤ 1 ∨ 11 ≤ i)) ∨ (28 ≤ q ∧ q ≤ 30) ∨ (40 ≤ q ∧ q ≤ 42)
def Kb (k k' : sk_M) : Prop := (∀ q i, cbI q i → k'.1 q i = k.1 q i) ∧ ∀ q i, cbL q i → k'.2 q i = k.2 q i
theorem Kb.rf {k : sk_M} : Kb k k := ⟨fun _ _ _ => rfl, fun _ _ _ => rfl⟩
theorem Kb.tr {k k' k'' : sk_M} (h : Kb k k') (h' : Kb k' k'') : Kb k k'' := ⟨fun q i a => (h'.1 q i a).trans (h.1 q i a), fun q i a => (h'.2 q i a).trans (h.2 q i a)⟩
theorem KT.of {σ σ' : Ab} {k k' : sk_M} (h : KT σ k) (hs : ∀ r c, 1 ≤ r → r ≤ 6 → c < 10 → σ' r c = σ r c) (hI : ∀ q i, 35 ≤ q → q ≤ 38 → k'.1 q i = k.1 q i) (hL : k'.2 0 11 = k.2 0 11) : KT σ' k' := by
  refine ⟨fun c hc => ?_, fun i => ?_⟩
  · obtain ⟨a, b, d, f, e1, e2, e3⟩ := h.1 c hc
    rw [hI 35 c (by omega) (by omega), hI 36 c (by omega) (by omega), hI 37 c (by omega) (by omega), hI 38 c (by omega) (by omega), hs 4 c (by omega) (by omega) hc, hs 2 c (by omega) (by omega) hc, hs 3 c (by omega) (by omega) hc, hs 5 c (by omega) (by omega) hc, hs 6 c (by omega) (by omega) hc]
    exact ⟨a, b, d, f, e1, e2, e3⟩
  · rw [hL, h.2 i]
    exact ⟨fun q => ⟨q.1, by rw [hs 1 i (by omega) (by omega) q.1]; exact q.2⟩, fun q => ⟨q.1, by rw [← hs 1 i (by omega) (by omega) q.1]; exact q.2⟩⟩
theorem KR.of {σ : Ab} {k k' : sk_M} (h : KR σ k) (hI : ∀ i, k'.1 39 i = k.1 39 i) (hL : ∀ q i, (q = 0 ∧ (i = 12 ∨ i = 13)) ∨ (40 ≤ q ∧ q ≤ 42) → k'.2 q i = k.2 q i) : KR σ k' := by
  refine ⟨fun i => by rw [hL 0 12 (by omega)]; exact h.1 i, fun i => by rw [hL 0 13 (by omega)]; exact h.2.1 i, fun d => by rw [hL 42 0 (by omega)]; exact h.2.2.1 d, fun c hc ht => ?_⟩
  rw [hI c, hL 40 c (by omega), hL 41 c (by omega), hL 42 c (by omega)]
  exact h.2.2.2 c hc ht
theorem KM.of {σ : Ab} {k k' : sk_M} (h : KM σ k) (hI : ∀ q i, (q = 0 ∧ i = 5) ∨ (17 ≤ q ∧ q ≤ 20) → k'.1 q i = k.1 q i) (hL : ∀ i, i ≤ 1 → k'.2 0 i = k.2 0 i) : KM σ k' := by
  refine ⟨by rw [hI 0 5 (by omega)]; exact h.1, fun x hx => ?_, fun i => by rw [hL 0 (by omega)]; exact h.2.2.1 i, fun i => by rw [hL 1 (by omega)]; exact h.2.2.2.1 i, fun c g hc hg => ?_⟩
  · rw [hI 17 x (by omega), hI 18 x (by omega), hI 19 x (by omega)]; exact h.2.1 x hx
  · rw [hI 20 _ (by omega)]; exact h.2.2.2.2 c g hc hg
theorem KF.of {σ : Ab} {k k' : sk_M} (h : KF σ k) (hI : ∀ q i, (q = 0 ∧ i = 6) ∨ (23 ≤ q ∧ q ≤ 26) → k'.1 q i = k.1 q i) : KF σ k' := by
  refine ⟨by rw [hI 0 6 (by omega)]; exact h.1, fun x hx => ?_⟩
  rw [hI 23 x (by omega), hI 24 x (by omega), hI 25 x (by omega), hI 26 x (by omega)]; exact h.2 x hx
theorem KD.of {σ : Ab} {k k' : sk_M} (h : KD σ k) (hI : ∀ q i, (q = 0 ∧ i = 0) ∨ q = 13 → k'.1 q i = k.1 q i) : KD σ k' :=
  ⟨by rw [hI 0 0 (by omega)]; exact h.1, fun x hx => by rw [hI 13 x (by omega)]; exact h.2 x hx⟩
theorem KB.of {σ : Ab} {k k' : sk_M} (h : KB σ k) (hI : ∀ q i, (q = 0 ∧ i = 7) ∨ q = 27 → k'.1 q i = k.1 q i) (hL : ∀ q i, 28 ≤ q → q ≤ 30 → k'.2 q i = k.2 q i) : KB σ k' := by
  refine ⟨by rw [hI 0 7 (by omega)]; exact h.1, fun r hr => ?_⟩
  rw [hI 27 r (by omega), hL 28 r (by omega) (by omega), hL 29 r (by omega) (by omega), hL 30 r (by omega) (by omega)]
  exact h.2 r hr
theorem RB.same {σ : Ab} {k k' : sk_M} (h : RB σ k) (e : Kb k k') : RB σ k' := by
  obtain ⟨h1, h2, h3, h4, h5, h6⟩ := h
  refine ⟨h1.of (fun _ _ _ _ _ => rfl) (fun q i a b => e.1 q i (by unfold cbI; omega)) (e.2 0 11 (by unfold cbL; omega)), h2.of (fun i => e.1 39 i (by unfold cbI; omega)) (fun q i a => e.2 q i (by unfold cbL; omega)), h3.of (fun q i a => e.1 q i (by unfold cbI; omega)) (fun i a => e.2 0 i (by unfold cbL; omega)), h4.of (fun q i a => e.1 q i (by unfold cbI; omega)), h5.of (fun q i a => e.1 q i (by unfold cbI; omega)), h6.of (fun q i a => e.1 q i (by unfold cbI; omega)) (fun q i a b => e.2 q i (by unfold cbL; omega))⟩
/-! has, at -/
theorem ev_has {α : Type} {x : Int64} {v : Int32} {A B : Option α} {P : Prop} {Q : α → Prop} (i : Nat) (hi : i < 64) (h : lb x i = true ↔ P) (h1 : ¬ P → Ev A Q) (h2 : P → Ev B Q) (hv : v = nI i := by rfl) : Ev (if K_SF_has x v = 0 then A else B) Q := by
  subst hv
  refine ev_if (fun z => h1 (fun p => ?_)) (fun z => h2 ?_)
  · rw [has_0 x hi] at z
    rw [h.mpr p] at z; cases z
  · apply h.mp
    cases q : lb x i with
    | true => rfl
    | false => exact absurd ((has_0 x hi).mpr q) z
theorem ev_hasN {α : Type} {x : Int64} {v : Int32} {A B : Option α} {Q : α → Prop} (hv : v < 0) (h1 : Ev A Q) : Ev (if K_SF_has x v = 0 then A else B) Q := by
  rw [if_pos (has_neg x hv)]; exact h1
theorem asN_has {x : Int64} {i : Nat} (hi : i < 64) {P : Prop} (h : lb x i = true ↔ P) : K_SF_asNumber (K_SF_has x (nI i)) = pI P := by
  unfold K_SF_asNumber
  by_cases p : P
  · rw [pI_y p, if_neg]
    rw [has_0 x hi, h.mpr p]; decide
  · rw [pI_n p, if_pos]
    rw [has_0 x hi]
    cases q : lb x i with
    | true => exact absurd (h.mp q) p
    | false => rfl
theorem k_at {k : sk_M} {c g : Nat} (hc : c < 10) (hg : g < 32) : K_Members_at k (nI c) (nI g) = some (k.1 20 (32 * c + g)) := by
  unfold K_Members_at
  rw [show nI c * (32 : Int32) = nI (c * 32) from pk_mul c 32, nI_add, show c * 32 + g = 32 * c + g by omega, pu_rI (by omega) (by decide)]
theorem k_sig {kd w s : Nat} (hk : kd < 2) : K_SF_signature (nI kd) (nI w) (nI s) = nI (16 * kd + 2 * w + s) := by
  unfold K_SF_signature K_SF_signature_J10
  rcases (show kd = 0 ∨ kd = 1 by omega) with rfl | rfl
  · rw [if_pos (by decide), show nI w * (2 : Int32) = nI (w * 2) from pk_mul w 2, show (0 : Int32) = nI 0 from rfl, nI_add, nI_add]
    congr 1; omega
  · rw [if_neg (by decide), show nI w * (2 : Int32) = nI (w * 2) from pk_mul w 2, show (16 : Int32) = nI 16 from rfl, nI_add, nI_add]
    congr 1; omega
theorem k_word : ∀ g, g < 32 → K_SF_wordOf (nI g) = nI (g / 2 % 8) := by decide +kernel
theorem k_shape : ∀ g, g < 32 → K_SF_shapeOf (nI g) = nI (g % 2) := by decide +kernel
theorem k_isMethod : ∀ g, g < 32 → K_SF_isMethod (nI g) = nI (g / 16) := by decide +kernel
theorem sgn_lt {σ : Ab} (hI : IA σ) {x : Nat} (hx : x < σ 0 0) : sgn σ x < 32 := by
  obtain ⟨b8, b9, b10, b11, _⟩ := hI.2.2.2.1 x hx
  unfold sgn; omega
section
variable {σ : Ab} {k : sk_M} {N : Nat}
theorem k_find (hI : IA σ) (hT : KT σ k) (hR : KR σ k) (hM : KM σ k) (hN : 80 < N) {c g : Nat} (hc : c < 10) (hg : g < 32) {A : Nat → Prop} {s : Int64} (hs : ∀ i, i < 40 → (lb s i = true ↔ A i)) : Ev (K_Members_find N k (nI c) (nI g) s) (fun r => FO σ c g A r) := by
  have hn := hI.1.2.1
  have b1 := (hI.2.1 c hc).1
  unfold K_Members_find
  refine ev_has c (by omega) (hT.2 c) (fun h => ev_some ⟨none, rfl, fun _ => rfl, fun h2 => absurd ⟨hc, h2⟩ h⟩) (fun h => ?_)
  have th := h.2
  obtain ⟨_, hL, hAb⟩ := hR.2.2.2 c hc th
  have fin : ∀ o, LK σ c g A o → FO σ c g A (oI o) := fun o ho => ⟨o, rfl, fun q => by omega, fun _ => ho⟩
  refine ev_lp (fun j z => ∃ v, z = (nI c, nI g, s, v) ∧ ((v = -1 ∧ j = 0 ∧ ∀ t x, lin σ c t → own σ t g x → ¬ A x) ∨ ∃ t, v = nI t ∧ j = t + 1 ∧ t ≤ c ∧ ∀ t' x, lin σ c t' → t < t' → own σ t' g x → ¬ A x)) ?_ N (c + 1) _ (by omega) ⟨nI c, rfl, Or.inr ⟨c, rfl, rfl, by omega, fun t' x h1 h2 => by have := lin_le hI c hc t' h1; omega⟩⟩
  rintro j z self ⟨v, rfl, hv⟩ ih
  unfold K_Members_find_L20
  dsimp only
  rcases hv with ⟨rfl, -, hno⟩ | ⟨t, rfl, rfl, htc, hno⟩
  · rw [if_pos (by decide)]
    unfold K_Members_find_J70
    refine ev_rL hc (by decide) ?_
    unfold K_Members_leastOfFaces
    have hset : ∀ d, d < 10 → (lb (k.2 42 c &&& k.2 0 12) d = true ↔ abv σ c d ∧ σ 2 d = 1) := fun d hd => by
      rw [lb_and, Bool.and_eq_true, hAb, hR.1]
      exact ⟨fun q => ⟨q.1, q.2.2.2⟩, fun q => ⟨q.1, hd, abv_th hI c hc d q.1, q.2⟩⟩
    refine ev_oR (Q := fun r => FO σ c g A r) ?_ (fun r hr => ev_some hr)
    refine ev_lp (fun j z => ∃ o d, z = (k.2 42 c &&& k.2 0 12, nI g, s, oI o, nI d) ∧ d + j = 10 ∧ (∀ x, o = some x → fcs σ c g A x) ∧ (∀ x', fcs σ c g A x' → σ 8 x' < d → ∃ x, o = some x ∧ x ≤ x')) ?_ N 10 _ (by omega) ⟨none, 0, rfl, by omega, (fun x h => by cases h), fun x' _ h => by omega⟩
    rintro j z self2 ⟨o, d, rfl, hdj, ho1, ho2⟩ ih2
    unfold K_Members_leastOfFaces_L7
    dsimp only
    refine ev_le 10 d (fun h => ?_) (fun hd => ?_)
    · refine ev_some (fin o ?_)
      have hb : ∀ x', fcs σ c g A x' → σ 8 x' < d := fun x' h' => by have := (hI.2.2.2.1 x' h'.1.1).1; omega
      cases o with
      | none => exact ⟨hno, fun x' h' => by obtain ⟨x, e, _⟩ := ho2 x' h' (hb x' h'); cases e⟩
      | some x => exact Or.inr ⟨hno, ho1 x rfl, fun x' h' => by obtain ⟨y, e, hy⟩ := ho2 x' h' (hb x' h'); cases e; exact hy⟩
    · have next : (∀ x, fcs σ c g A x → σ 8 x ≠ d) → Ev (self2 (k.2 42 c &&& k.2 0 12, nI g, s, oI o, nI d + 1)) (fun r => FO σ c g A r) := fun hx => by
        rw [nI_1]
        exact ih2 (j - 1) _ (by omega) ⟨o, d + 1, rfl, by omega, ho1, fun x' h1 h2 => ho2 x' h1 (by have := hx x' h1; omega)⟩
      refine ev_has d (by omega) (hset d hd) (fun h => next (fun x hx e => h ⟨by rw [← e]; exact hx.2.1, by rw [← e]; exact hx.2.2.1⟩)) (fun h => ?_)
      rw [pu_oR (k_at hd hg)]
      rcases hM.2.2.2.2 d g hd hg with ⟨x, hx, e⟩ | ⟨hx, e⟩
      · have hxn := hx.1.1
        rw [e]
        refine ev_has x (by omega) (hs x (by omega)) (fun h2 => next (fun x' h' e' => ?_)) (fun h2 => ?_)
        · have := hI.2.2.2.2.2.1 d g x x' hx ⟨h'.1, e', h'.2.2.2.1⟩
          subst this
          exact h2 h'.2.2.2.2
        · have hf : fcs σ c g A x := ⟨hx.1, by rw [hx.2.1]; exact h.1, by rw [hx.2.1]; exact h.2, hx.2.2, h2⟩
          rw [pu_oR (k_at hd hg), e]
          have only : ∀ x', fcs σ c g A x' → σ 8 x' = d → x' = x := fun x' h' e' => hI.2.2.2.2.2.1 d g x' x ⟨h'.1, e', h'.2.2.2.1⟩ hx
          cases o with
          | none =>
            rw [if_pos (show oI none = -2 from rfl), nI_1]
            refine ih2 (j - 1) _ (by omega) ⟨some x, d + 1, rfl, by omega, fun y hy => by cases hy; exact hf, fun x' h1 h3 => ?_⟩
            rcases Nat.lt_or_ge (σ 8 x') d with q | q
            · obtain ⟨y, e', _⟩ := ho2 x' h1 q; cases e'
            · exact ⟨x, rfl, by rw [only x' h1 (by omega)]; omega⟩
          | some y =>
            have hy := (ho1 y rfl).1.1
            rw [if_neg (show ¬ oI (some y) = -2 from fun z => by have := nI_pos (n := y) (by omega); rw [show nI y = -2 from z] at this; exact this (by decide)), nI_1]
            by_cases q : x < y
            · rw [if_pos (show nI x < oI (some y) from (nI_ltI (by omega) (by omega)).mpr q)]
              refine ih2 (j - 1) _ (by omega) ⟨some x, d + 1, rfl, by omega, fun z hz => by cases hz; exact hf, fun x' h1 h3 => ⟨x, rfl, ?_⟩⟩
              rcases Nat.lt_or_ge (σ 8 x') d with q2 | q2
              · obtain ⟨y', e', h4⟩ := ho2 x' h1 q2; cases e'; omega
              · rw [only x' h1 (by omega)]; omega
            · rw [if_neg (show ¬ nI x < oI (some y) from fun z => q ((nI_ltI (by omega) (by omega)).mp z))]
              refine ih2 (j - 1) _ (by omega) ⟨some y, d + 1, rfl, by omega, ho1, fun x' h1 h3 => ⟨y, rfl, ?_⟩⟩
              rcases Nat.lt_or_ge (σ 8 x') d with q2 | q2
              · obtain ⟨y', e', h4⟩ := ho2 x' h1 q2; cases e'; omega
              · rw [only x' h1 (by omega)]; omega
      · rw [e]
        exact ev_hasN (by decide) (next (fun x' h' e' => hx x' ⟨h'.1, e', h'.2.2.2.1⟩))
  · rw [if_neg (nI_pos (by omega))]
    have next : (∀ x, lin σ c t → own σ t g x → ¬ A x) → Ev (self (nI c, nI g, s, nI t + (-1))) (fun r => FO σ c g A r) := fun hx => by
      have hno' : ∀ t' x, lin σ c t' → t ≤ t' → own σ t' g x → ¬ A x := fun t' x h1 h2 h3 => by
        rcases Nat.lt_or_ge t t' with q | q
        · exact hno t' x h1 q h3
        · have e : t' = t := by omega
          subst e
          exact hx x h1 h3
      cases t with
      | zero =>
        exact ih 0 _ (by omega) ⟨-1, by rw [show nI 0 + (-1 : Int32) = -1 by decide], Or.inl ⟨rfl, rfl, fun t' x h1 h3 => hno' t' x h1 (by omega) h3⟩⟩
      | succ t =>
        exact ih (t + 1) _ (by omega) ⟨nI t, by rw [pk_m1], Or.inr ⟨t, rfl, rfl, by omega, fun t' x h1 h2 h3 => hno' t' x h1 (by omega) h3⟩⟩
    refine ev_rL hc (by decide) ?_
    refine ev_has t (by omega) (hL t) (fun h2 => next (fun x h3 => absurd h3 h2)) (fun h2 => ?_)
    rw [pu_oR (k_at (by omega) hg)]
    rcases hM.2.2.2.2 t g (by omega) hg with ⟨x, hx, e⟩ | ⟨hx, e⟩
    · have hxn := hx.1.1
      rw [e]
      refine ev_has x (by omega) (hs x (by omega)) (fun h3 => next (fun x' _ h' => ?_)) (fun h3 => ?_)
      · rw [hI.2.2.2.2.2.1 t g x' x h' hx]; exact h3
      · unfold K_Members_find_J56
        rw [pu_oR (k_at (by omega) hg), e]
        refine ev_some (fin (some x) (Or.inl ⟨t, h2, hx, h3, fun t' x' h4 h5 h6 => ?_⟩))
        rcases Nat.lt_or_ge t t' with q | q
        · exact absurd h6 (hno t' x' h4 q h5)
        · exact q
    · rw [e]
      exact ev_hasN (by decide) (next (fun x' _ h' => absurd h' (hx x')))
/-! texts of the class -/
def KX (k : sk_M) (i : Nat) (L : List Nat) : Prop := k.1 0 i = nI L.length ∧ ∀ j, j < L.length → k.1 (13 + i) j = nI (lx L j)
/-- only text i has changed -/
def Kx (i : Nat) (k k' : sk_M) : Prop := (∀ q j, q ≠ 13 + i → (q = 0 → j ≠ i) → k'.1 q j = k.1 q j) ∧ k'.2 = k.2
theorem Kx.rf {i : Nat} {k : sk_M} : Kx i k k := ⟨fun _ _ _ _ => rfl, rfl⟩
theorem Kx.tr {i : Nat} {k k' k'' : sk_M} (h : Kx i k k') (h' : Kx i k' k'') : Kx i k k'' := ⟨fun q j a b => (h'.1 q j a b).trans (h.1 q j a b), h'.2.trans h.2⟩
theorem Kx.kb {i : Nat} {k k' : sk_M} (h : Kx i k k') (h1 : 1 ≤ i) (h3 : i ≤ 3) : Kb k k' := ⟨fun q j a => h.1 q j (by unfold cbI at a; omega) (by unfold cbI at a; omega), fun q j _ => by rw [h.2]⟩
theorem cap_lt (i : Nat) : capT i < 2 ^ 31 := by unfold capT; split <;> decide
theorem nar_c : ∀ v, v < 256 → vp_nar .char (((nI v).toUInt32 % 65536).toInt32) = nI v := by decide +kernel
theorem k_wipe {i : Nat} (hi : i ≤ 3) : Ev (K_Text_wipe i k) (fun k' => Kx i k k' ∧ KX k' i []) := by
  unfold K_Text_wipe
  refine ev_fI (ev_some ⟨⟨fun q j a b => by rw [pu_wi1, if_neg (fun z => b z.1 z.2)], rfl⟩, by rw [pu_wi1, if_pos ⟨rfl, rfl⟩]; rfl, fun j hj => by simp at hj⟩)
theorem k_put {i v : Nat} {u : Int32} {L : List Nat} (hi : i ≤ 3) (hv : v < 256) (hu : u = nI v) (hX : KX k i L) (hl : L.length < capT i) : Ev (K_Text_put i k u) (fun z => z.1 = 1 ∧ Kx i k z.2 ∧ KX z.2 i (L ++ [v])) := by
  subst hu
  have hc := cap_lt i
  unfold K_Text_put
  rw [hX.1]
  refine ev_lt L.length (capT i) (fun _ => ?_) (fun h => by omega)
  refine ev_wI hl hc ?_
  refine ev_fI ?_
  rw [nar_c v hv, pu_wi1, if_neg (fun z => by omega), hX.1, nI_1]
  refine ev_some ⟨rfl, ⟨fun q j a b => ?_, rfl⟩, ?_, fun j hj => ?_⟩
  · rw [pu_wi1, if_neg (fun z => b z.1 z.2), pu_wi1, if_neg (fun z => a z.1)]
  · rw [pu_wi1, if_pos ⟨rfl, rfl⟩]; simp
  · rw [pu_wi1, if_neg (fun z => by omega), pu_wi1]
    simp only [List.length_append, List.length_cons, List.length_nil] at hj
    by_cases q : j = L.length
    · rw [if_pos ⟨rfl, q⟩, q, lx_last]
    · rw [if_neg (fun z => q z.2), lx_app (by omega)]; exact hX.2 j (by omega)
def sL (j : Nat) : List Nat := (bytJK.getD j []).map (fun x => x.toNatClampNeg)
theorem j_len : ∀ j, j < 14 → J_length j = nI (sL j).length ∧ (sL j).length ≤ 11 := by decide +kernel
theorem j_chr : ∀ j, j < 14 → ∀ p, p < 11 → p < (sL j).length → J_charAt j (nI p) = some (nI (lx (sL j) p)) ∧ lx (sL j) p < 128 := by decide +kernel
theorem k_putAll {i j : Nat} {L : List Nat} (hN : 80 < N) (hi : i ≤ 3) (hj : j < 14) (hX : KX k i L) (hl : L.length + (sL j).length ≤ capT i) : Ev (K_Text_putAll N i j k) (fun k' => Kx i k k' ∧ KX k' i (L ++ sL j)) := by
  obtain ⟨e1, e2⟩ := j_len j hj
  unfold K_Text_putAll
  refine ev_lp (fun n z => ∃ st p, z = (st, nI p) ∧ p + n = (sL j).length ∧ Kx i k st ∧ KX st i (L ++ (sL j).take p)) ?_ N (sL j).length _ (by omega) ⟨k, 0, rfl, by omega, Kx.rf, by simpa using hX⟩
  rintro n z self ⟨st, p, rfl, hp, hx, hX⟩ ih
  unfold K_Text_putAll_L2
  dsimp only
  refine ev_le (sL j).length p (hu := e1) (fun h => ?_) (fun h => ?_)
  · rw [List.take_of_length_le h] at hX
    exact ev_some ⟨hx, hX⟩
  · obtain ⟨e3, e4⟩ := j_chr j hj p (by omega) h
    rw [pu_oR e3]
    refine ev_oW (k_put hi (by omega) rfl hX (by simp; omega)) (fun r st' h' => ?_)
    rw [nI_1]
    refine ih (n - 1) _ (by omega) ⟨st', p + 1, rfl, by omega, hx.tr h'.2.1, ?_⟩
    have := h'.2.2
    rw [List.append_assoc] at this
    have e : (sL j).take p ++ [lx (sL j) p] = (sL j).take (p + 1) := by
      rw [List.take_succ_eq_append_getElem h]
      unfold lx
      rw [List.getD_eq_getElem?_getD, List.getElem?_eq_getElem h]; rfl
    rw [e] at this
    exact this
theorem k_putOldName {i p c : Nat} {L : List Nat} (hi : i ≤ 3) (hp : p ≤ 2) (hc : c < 10) (hX : KX k i L) (hl : L.length + 3 ≤ capT i) : Ev (K_Text_putOldName i k (nI p) (nI c)) (fun k' => Kx i k k' ∧ KX k' i (L ++ tl (nmx p c) 3)) := by
  unfold K_Text_putOldName
  refine ev_oW (k_put (v := 111 + p) hi (by omega) (nI_add 111 p) hX (by omega)) (fun r k1 h1 => ?_)
  refine ev_oW (k_put (v := 46) hi (by omega) rfl h1.2.2 (by simp; omega)) (fun r k2 h2 => ?_)
  refine ev_oW (k_put (v := 65 + c) hi (by omega) (nI_add 65 c) h2.2.2 (by simp; omega)) (fun r k3 h3 => ev_some ⟨(h1.2.1.tr h2.2.1).tr h3.2.1, ?_⟩)
  have := h3.2.2
  rw [show tl (nmx p c) 3 = [111 + p, 46, 65 + c] from rfl]
  simp only [List.append_assoc, List.cons_append, List.nil_append] at this
  exact this
theorem k_putOldText {i w : Nat} {L : List Nat} (hN : 80 < N) (hi : i ≤ 3) (hw : w < 8) (hX : KX k i L) (hl : L.length + wln w ≤ capT i) : Ev (K_Text_putOldText N i k (nI w)) (fun k' => Kx i k k' ∧ KX k' i (L ++ tl (wdx w) (wln w))) := by
  unfold K_Text_putOldText
  refine ev_qn w 6 (fun h => ?_) (fun h6 => ?_)
  · subst h
    exact ev_oR (k_putAll (j := 10) hN hi (by omega) hX hl) (fun k1 h1 => ev_some h1)
  refine ev_qn w 7 (fun h => ?_) (fun h7 => ?_)
  · subst h
    exact ev_oR (k_putAll (j := 11) hN hi (by omega) hX hl) (fun k1 h1 => ev_some h1)
  have h6 : w < 6 := by omega
  have e : wln w = 1 := by unfold wln; rw [if_pos h6]
  rw [e] at hl ⊢
  refine ev_oW (k_put (v := 114 + w) hi (by omega) (nI_add 114 w) hX (by omega)) (fun r k1 h1 => ev_some ⟨h1.2.1, ?_⟩)
  rw [show tl (wdx w) 1 = [114 + w] by simp [tl, wdx, h6]]
  exact h1.2.2
theorem k_answer {i : Nat} {L : List Nat} (hi : i ≤ 3) (hX : KX k i L) (hl : L.length ≤ capT i) (v : Int32) : K_Text_answer i k v = some (tV L.length (lx L) v) := by
  have hc := cap_lt i
  unfold K_Text_answer tV
  rw [hX.1, within_in]
  by_cases h : v = -1
  · rw [if_pos h, if_pos h]
  · rw [if_neg h, if_neg h]
    by_cases h3 : M_in v 0 (nI L.length - 1) = 0
    · rw [if_pos h3, if_pos h3]
    · rw [if_neg h3, if_neg h3]
      rcases Nat.eq_zero_or_pos L.length with q | q
      · exfalso
        rw [q] at h3
        apply h3
        unfold M_in
        by_cases hv : v < 0
        · rw [if_pos hv]
        · rw [if_neg hv, if_pos]
          obtain ⟨j, hj, rfl⟩ := nI_of hv
          apply Int32.lt_iff_toInt_lt.mpr
          rw [nI_toInt hj]
          have : (nI 0 - 1 : Int32).toInt = -1 := by decide
          omega
      · rw [nI_m1 q] at h3
        obtain ⟨j, _, hj, rfl⟩ := in_yes (a := 0) (b := L.length - 1) (by omega) (by omega) h3
        rw [pu_rI (by omega) hc, hX.2 j (by omega), nI_clamp (by omega)]
/-- text 1 against the draft -/
theorem k_isSame (hI : IA σ) (hN : 80 < N) (hD : KD σ k) {L : List Nat} (hX : KX k 1 L) (hl : L.length ≤ 8) (hb : ∀ i, lx L i < 2 ^ 31) : Ev (K_Text_isSame N 1 0 k) (fun r => (r = 0 ∧ ¬ dQ σ (lx L) L.length) ∨ (r = 1 ∧ dQ σ (lx L) L.length)) := by
  have hd := hI.1.2.2.2.1
  unfold K_Text_isSame K_Text_isSame_J16
  refine ev_qn L.length (σ 0 2) (hu := hX.1) (hv := hD.1) (fun e => ?_) (fun e => ?_)
  · refine ev_lp (fun n z => (∃ i, z = (1, nI i) ∧ i + n = L.length + 1 ∧ i ≤ L.length ∧ ∀ j, j < i → lx L j = σ 18 j) ∨ (∃ v, z = (0, v) ∧ n = 0 ∧ ¬ dQ σ (lx L) L.length)) ?_ N (L.length + 1) _ (by omega) (Or.inl ⟨0, rfl, by omega, by omega, fun j h => by omega⟩)
    rintro n z self hz ih
    unfold K_Text_isSame_L19
    rcases hz with ⟨i, rfl, hi, hle, hall⟩ | ⟨v, rfl, hn, hno⟩
    · dsimp only
      rw [if_neg (show ¬ (1 : Int32) = 0 by decide), if_pos (show (1 : Int32) &&& 1 = 1 by decide)]
      refine ev_le L.length i (hu := hX.1) (fun h => ev_some (Or.inr ⟨rfl, e, fun j hj => hall j (by omega)⟩)) (fun hin => ?_)
      have d1 := hI.2.2.2.2.2.2.2.1.1 i (by omega)
      have d2 := hb i
      refine ev_rI (show i < capT 1 by simp [capT]; omega) (by decide) ?_
      refine ev_rI (show i < capT 0 by simp [capT]; omega) (by decide) ?_
      refine ev_qn (lx L i) (σ 18 i) (hu := hX.2 i hin) (hv := hD.2 i (by omega)) (fun h => ?_) (fun h => ?_)
      · rw [nI_1]
        exact ih (n - 1) _ (by omega) (Or.inl ⟨i + 1, rfl, by omega, by omega, fun j hj => by rcases Nat.lt_or_ge j i with q | q; exact hall j q; rw [show j = i by omega]; exact h⟩)
      · exact ih 0 _ (by omega) (Or.inr ⟨_, rfl, rfl, fun z => h (z.2 i hin)⟩)
    · dsimp only
      rw [if_pos rfl, if_pos (show (0 : Int32) &&& 1 = 0 by decide)]
      exact ev_some (Or.inl ⟨rfl, hno⟩)
  · rw [pu_lp (by omega)]
    unfold K_Text_isSame_L19
    dsimp only
    rw [if_pos rfl, if_pos (show (0 : Int32) &&& 1 = 0 by decide)]
    exact ev_some (Or.inl ⟨rfl, fun z => e z.1⟩)
end
