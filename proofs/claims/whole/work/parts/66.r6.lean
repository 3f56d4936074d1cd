/-! THE RULES LOOKED AT, THE NAMES GIVEN, by the class -/
theorem lb_z (x : Int64) : lg_cmp x 0 = 0 ↔ ∀ i, lb x i = false := by
  rw [lg_cmp0]
  constructor
  · intro h i; rw [h, lb_0]
  · intro h
    exact lb_ext (fun i _ => by rw [h i, lb_0])
section
variable {σ : Ab} {k : sk_M} {N : Nat}
theorem k_classesNamed (hI : IA σ) (hT : KT σ k) (hN : 80 < N) (s : Int64) : Ev (K_RuleBook_classesNamed N k s) (fun r => ∀ c, lb r c = true ↔ c < 10 ∧ lb s (10 * σ 4 c + c) = true) := by
  unfold K_RuleBook_classesNamed
  refine ev_lp (fun n z => ∃ v c, z = (s, v, nI c) ∧ c + n = 10 ∧ ∀ i, lb v i = true ↔ i < c ∧ lb s (10 * σ 4 i + i) = true) ?_ N 10 _ (by omega) ⟨0, 0, rfl, by omega, fun i => by rw [lb_0]; simp⟩
  rintro n z self ⟨v, c, rfl, hcn, hv⟩ ih
  unfold K_RuleBook_classesNamed_L5
  dsimp only
  refine ev_le 10 c (fun h => ?_) (fun hc => ?_)
  · rw [show c = 10 by omega] at hv
    exact ev_some hv
  have b4 := (hI.2.1 c hc).2.2.2.1
  refine ev_rI hc (by decide) ?_
  rw [(hT.1 c hc).1, show nI (σ 4 c) * (10 : Int32) = nI (σ 4 c * 10) from pk_mul _ 10, nI_add, show σ 4 c * 10 + c = 10 * σ 4 c + c by omega, nI_1]
  refine ev_has (10 * σ 4 c + c) (by omega) Iff.rfl (fun h => ?_) (fun h => ?_)
  · refine ih (n - 1) _ (by omega) ⟨v, c + 1, rfl, by omega, fun i => ?_⟩
    rw [hv]
    refine ⟨fun q => ⟨by omega, q.2⟩, fun q => ⟨?_, q.2⟩⟩
    rcases Nat.lt_or_ge i c with z | z
    · exact z
    · exfalso
      have q2 := q.2
      rw [show i = c by omega] at q2
      exact h q2
  · refine ih (n - 1) _ (by omega) ⟨_, c + 1, rfl, by omega, fun i => ?_⟩
    rw [lb_or_bit (by omega) hv]
    constructor
    · rintro (q | q)
      · exact ⟨by omega, q.2⟩
      · rw [q]; exact ⟨by omega, h⟩
    · intro q
      rcases Nat.lt_or_ge i c with z | z
      · exact Or.inl ⟨z, q.2⟩
      · exact Or.inr (by omega)
theorem k_classesAbout (hI : IA σ) (hB : RB σ k) (hN : 80 < N) {r : Nat} (hr : r < σ 0 3) : Ev (K_RuleBook_classesAbout N k (nI r)) (fun s => ∀ c, lb s c = true ↔ abt σ r c) := by
  have h8 := hI.1.2.2.2.2
  obtain ⟨hT, hR, hM, hF, hD, hBk⟩ := hB
  obtain ⟨r1, r2, r3, r4, r5⟩ := hBk.2 r hr
  unfold K_RuleBook_classesAbout
  refine ev_rL (by omega) (by decide) ?_
  refine ev_oR (k_classesNamed hI hT hN _) (fun u hu => ?_)
  have hup : ∀ c, 0 < c → c < 10 → ((∃ d, abv σ c d ∧ lb u d = true) ↔ (σ 23 r = 0 ∨ ∃ d, abv σ c d ∧ fts (pat σ r) (nmx (σ 4 d) d) 3 (σ 23 r - 1) (σ 24 r) = true)) := fun c h0 hc => by
    by_cases q : σ 23 r = 0
    · refine ⟨fun _ => Or.inl q, fun _ => ⟨0, abv_z hI c h0 hc, ?_⟩⟩
      rw [hu, r3 q]
      have := (hI.2.1 0 (by omega)).2.2.2.1
      exact ⟨by omega, lb_m1 (by omega)⟩
    · constructor
      · rintro ⟨d, h1, h2⟩
        have hd := abv_lt hI c hc d h1
        have b4 := (hI.2.1 d (by omega)).2.2.2.1
        exact Or.inr ⟨d, h1, (r4 (by omega) (σ 4 d) d (by omega) (by omega)).mp ((hu d).mp h2).2⟩
      · rintro (h | ⟨d, h1, h2⟩)
        · exact absurd h q
        · have hd := abv_lt hI c hc d h1
          have b4 := (hI.2.1 d (by omega)).2.2.2.1
          exact ⟨d, h1, (hu d).mpr ⟨by omega, (r4 (by omega) (σ 4 d) d (by omega) (by omega)).mpr h2⟩⟩
  refine ev_lp (fun n z => ∃ v c, z = (nI r, u, v, nI c) ∧ c + n = 10 ∧ 1 ≤ c ∧ ∀ i, lb v i = true ↔ 0 < i ∧ i < c ∧ σ 1 i = 1 ∧ (σ 23 r = 0 ∨ ∃ d, abv σ i d ∧ fts (pat σ r) (nmx (σ 4 d) d) 3 (σ 23 r - 1) (σ 24 r) = true)) ?_ N 9 _ (by omega) ⟨0, 1, rfl, by omega, by omega, fun i => by rw [lb_0]; simp; omega⟩
  rintro n z self ⟨v, c, rfl, hcn, hc1, hv⟩ ih
  unfold K_RuleBook_classesAbout_L17
  dsimp only
  refine ev_le 10 c (fun h => ?_) (fun hc => ?_)
  · unfold K_RuleBook_classesAbout_J63
    refine ev_rL (by omega) (by decide) ?_
    refine ev_oR (k_classesNamed hI hT hN _) (fun w hw => ev_some (fun i => ?_))
    rw [lb_and, Bool.and_eq_true, hv, hw]
    unfold abt
    constructor
    · rintro ⟨⟨a1, a2, a3, a4⟩, b1, b2⟩
      have b4 := (hI.2.1 i b1).2.2.2.1
      exact ⟨a1, b1, a3, (r2 (σ 4 i) i (by omega) b1).mp b2, a4⟩
    · rintro ⟨a1, b1, a3, b2, a4⟩
      have b4 := (hI.2.1 i b1).2.2.2.1
      exact ⟨⟨a1, by omega, a3, a4⟩, b1, (r2 (σ 4 i) i (by omega) b1).mpr b2⟩
  have next : ¬ (σ 1 c = 1 ∧ (σ 23 r = 0 ∨ ∃ d, abv σ c d ∧ fts (pat σ r) (nmx (σ 4 d) d) 3 (σ 23 r - 1) (σ 24 r) = true)) → Ev (self (nI r, u, v, nI c + 1)) (fun s => ∀ c, lb s c = true ↔ abt σ r c) := fun h => by
    rw [nI_1]
    refine ih (n - 1) _ (by omega) ⟨v, c + 1, rfl, by omega, by omega, fun i => ?_⟩
    rw [hv]
    refine ⟨fun q => ⟨q.1, by omega, q.2.2⟩, fun q => ⟨q.1, ?_, q.2.2⟩⟩
    rcases Nat.lt_or_ge i c with z | z
    · exact z
    · exfalso
      have q2 := q.2.2
      rw [show i = c by omega] at q2
      exact h q2
  unfold K_Types_isThere
  refine ev_has c (by omega) (hT.2 c) (fun h => next (fun q => h ⟨hc, q.1⟩)) (fun h => ?_)
  have hab := (hR.2.2.2 c hc h.2).2.2
  refine ev_rL hc (by decide) ?_
  refine ev_if (fun h2 => next (fun q => ?_)) (fun h2 => ?_)
  · obtain ⟨d, g1, g2⟩ := (hup c (by omega) hc).mpr q.2
    have := (lb_z _).mp h2 d
    rw [lb_and, (hab d).mpr g1, g2] at this
    cases this
  · have ex : ∃ d, abv σ c d ∧ lb u d = true := Classical.byContradiction (fun hh => h2 ((lb_z _).mpr (fun i => by
      rw [lb_and]
      cases q1 : lb (k.2 42 c) i with
      | false => rfl
      | true =>
        cases q2 : lb u i with
        | false => rfl
        | true => exact absurd ⟨i, (hab i).mp q1, q2⟩ hh)))
    have hq := (hup c (by omega) hc).mp ex
    rw [nI_1]
    refine ih (n - 1) _ (by omega) ⟨_, c + 1, rfl, by omega, by omega, fun i => ?_⟩
    rw [lb_or_bit (by omega) hv]
    constructor
    · rintro (q | q)
      · exact ⟨q.1, by omega, q.2.2⟩
      · rw [q]; exact ⟨by omega, by omega, h.2, hq⟩
    · intro q
      rcases Nat.lt_or_ge i c with z | z
      · exact Or.inl ⟨q.1, z, q.2.2⟩
      · exact Or.inr (by omega)
theorem k_membersMeant (hI : IA σ) (hB : RB σ k) (hN : 80 < N) {r : Nat} (hr : r < σ 0 3) (ha : ∀ c, lb (k.2 31 r) c = true ↔ abt σ r c) : Ev (K_RuleBook_membersMeant N k (nI r)) (fun s => ∀ x, lb s x = true ↔ mnt σ r x) := by
  have h8 := hI.1.2.2.2.2
  have hn := hI.1.2.1
  obtain ⟨hT, hR, hM, hF, hD, hBk⟩ := hB
  obtain ⟨r1, r2, r3, r4, r5⟩ := hBk.2 r hr
  have key : ∀ x, x < σ 0 0 → (mnt σ r x ↔ alive σ x ∧ abt σ r (σ 8 x) ∧ lb (k.2 30 r) (sgn σ x) = true) := fun x hx => by
    obtain ⟨b8, b9, b10, b11, _⟩ := hI.2.2.2.1 x hx
    rw [r5 _ (sgn_lt hI hx), show sgn σ x / 16 = σ 11 x % 2 by unfold sgn; omega, show sgn σ x / 2 % 8 = σ 9 x by unfold sgn; omega]
    exact Iff.rfl
  unfold K_RuleBook_membersMeant
  refine ev_lp (fun n z => ∃ v i, z = (nI r, v, nI i) ∧ i + n = σ 0 0 ∧ 1 ≤ i ∧ ∀ x, lb v x = true ↔ x < i ∧ abt σ r (σ 8 x) ∧ lb (k.2 30 r) (sgn σ x) = true) ?_ N (σ 0 0 - 1) _ (by omega) ⟨0, 1, rfl, by have := hI.1.1; omega, by omega, fun x => by
    rw [lb_0]
    refine iff_of_false (by decide) (fun h => ?_)
    have h1 := h.2.1.1
    rw [show x = 0 by omega, hI.2.2.2.2.1.1] at h1
    omega⟩
  rintro n z self ⟨v, i, rfl, hin, hi1, hv⟩ ih
  unfold K_RuleBook_membersMeant_L5
  dsimp only
  refine ev_le (σ 0 0) i (hu := hM.1) (fun h => ?_) (fun hi => ?_)
  · refine ev_some (fun x => ?_)
    rw [lb_and, Bool.and_eq_true, hv, hM.2.2.1]
    refine ⟨fun q => (key x (by omega)).mpr ⟨q.2, q.1.2⟩, fun q => ?_⟩
    have hx := q.1.1
    have := (key x hx).mp q
    exact ⟨⟨by omega, this.2⟩, this.1⟩
  have b8 := (hI.2.2.2.1 i hi).1
  have sl := sgn_lt hI hi
  have next : ¬ (abt σ r (σ 8 i) ∧ lb (k.2 30 r) (sgn σ i) = true) → Ev (self (nI r, v, nI i + 1)) (fun s => ∀ x, lb s x = true ↔ mnt σ r x) := fun h => by
    rw [nI_1]
    refine ih (n - 1) _ (by omega) ⟨v, i + 1, rfl, by omega, by omega, fun x => ?_⟩
    rw [hv]
    refine ⟨fun q => ⟨by omega, q.2⟩, fun q => ⟨?_, q.2⟩⟩
    rcases Nat.lt_or_ge x i with z | z
    · exact z
    · exfalso
      have q2 := q.2
      rw [show x = i by omega] at q2
      exact h q2
  refine ev_rL (by omega) (by decide) ?_
  refine ev_rI (by omega) (by decide) ?_
  rw [(hM.2.1 i hi).1]
  refine ev_has (σ 8 i) (by omega) (ha _) (fun h => next (fun q => h q.1)) (fun h => ?_)
  refine ev_rL (by omega) (by decide) ?_
  refine ev_rI (by omega) (by decide) ?_
  rw [(hM.2.1 i hi).2.1]
  refine ev_has (sgn σ i) (by omega) Iff.rfl (fun h2 => next (fun q => h2 q.2)) (fun h2 => ?_)
  rw [nI_1]
  refine ih (n - 1) _ (by omega) ⟨_, i + 1, rfl, by omega, by omega, fun x => ?_⟩
  rw [lb_or_bit (by omega) hv]
  constructor
  · rintro (q | q)
    · exact ⟨by omega, q.2⟩
    · rw [q]; exact ⟨by omega, h, h2⟩
  · intro q
    rcases Nat.lt_or_ge x i with z | z
    · exact Or.inl ⟨z, q.2⟩
    · exact Or.inr (by omega)
theorem k_look (hI : IA σ) (hB : RB σ k) (hN : 80 < N) : Ev (K_RuleBook_look N k) (fun k' => k'.1 = k.1 ∧ (∀ q i, q ≠ 31 → q ≠ 32 → k'.2 q i = k.2 q i) ∧ RB σ k' ∧ KA σ k') := by
  have h8 := hI.1.2.2.2.2
  unfold K_RuleBook_look
  refine ev_lp (fun n z => ∃ st r, z = (st, nI r) ∧ r + n = σ 0 3 ∧ st.1 = k.1 ∧ (∀ q i, q ≠ 31 → q ≠ 32 → st.2 q i = k.2 q i) ∧ ∀ r', r' < r → (∀ c, lb (st.2 31 r') c = true ↔ abt σ r' c) ∧ ∀ x, lb (st.2 32 r') x = true ↔ mnt σ r' x) ?_ N (σ 0 3) _ (by omega) ⟨k, 0, rfl, by omega, rfl, fun _ _ _ _ => rfl, fun r h => by omega⟩
  rintro n z self ⟨st, r, rfl, hrn, hf1, hf2, hd⟩ ih
  have kbl : ∀ st' : sk_M, st'.1 = k.1 → (∀ q i, q ≠ 31 → q ≠ 32 → st'.2 q i = k.2 q i) → RB σ st' := fun st' a b => hB.same ⟨fun q i _ => by rw [a], fun q i c => b q i (by unfold cbL at c; omega) (by unfold cbL at c; omega)⟩
  have hBs := kbl st hf1 hf2
  unfold K_RuleBook_look_L2
  dsimp only
  refine ev_le (σ 0 3) r (hu := hBs.2.2.2.2.2.1) (fun h => ?_) (fun hr => ?_)
  · rw [show r = σ 0 3 by omega] at hd
    exact ev_some ⟨hf1, hf2, hBs, hd⟩
  refine ev_oR (k_classesAbout hI hBs hN hr) (fun s hs => ?_)
  refine ev_wL (by omega) (by decide) ?_
  have hB1 := kbl (sk_wl st 31 r s) hf1 (fun q i a b => by rw [w2_n (by omega)]; exact hf2 q i a b)
  refine ev_oR (k_membersMeant hI hB1 hN hr (fun c => by rw [w2_s]; exact hs c)) (fun t ht => ?_)
  refine ev_wL (by omega) (by decide) ?_
  rw [nI_1]
  refine ih (n - 1) _ (by omega) ⟨_, r + 1, rfl, by omega, hf1, fun q i a b => by rw [w2_n (by omega), w2_n (by omega)]; exact hf2 q i a b, fun r' h' => ?_⟩
  rcases Nat.lt_or_ge r' r with q | q
  · rw [w2_n (by omega), w2_n (by omega), w2_n (by omega), w2_n (by omega)]
    exact hd r' q
  · rw [show r' = r by omega, w2_n (by omega), w2_s, w2_s]
    exact ⟨hs, ht⟩
theorem k_greatest (hI : IA σ) (hB : KB σ k) (hA : KA σ k) (hN : 80 < N) {c : Nat} (hc : c < 10) : Ev (K_RuleBook_greatestAbout N k (nI c)) (fun v => v = la σ c (σ 0 3)) := by
  have h8 := hI.1.2.2.2.2
  unfold K_RuleBook_greatestAbout
  rw [hB.1]
  refine ev_lp (fun n z => z = (nI c, nI n - 1) ∧ n ≤ σ 0 3 ∧ la σ c n = la σ c (σ 0 3)) ?_ N (σ 0 3) _ (by omega) ⟨rfl, Nat.le_refl _, rfl⟩
  rintro n z self ⟨rfl, hn, e⟩ ih
  unfold K_RuleBook_greatestAbout_L7
  dsimp only
  cases n with
  | zero =>
    rw [if_pos (by decide)]
    exact ev_some e
  | succ n =>
    rw [nI_pred, if_neg (nI_pos (by omega))]
    refine ev_rL (by omega) (by decide) ?_
    refine ev_has c (by omega) ((hA n (by omega)).1 c) (fun h => ?_) (fun h => ?_)
    · refine ih n _ (by omega) ⟨by rw [Int32.sub_eq_add_neg], by omega, ?_⟩
      rw [← e]; simp only [la]; rw [cT_n h]
    · refine ev_some ?_
      rw [← e]; simp only [la]; rw [cT_y h]
/-! names -/
theorem k_signaturesOf (hI : IA σ) (hM : KM σ k) (hN : 80 < N) (s : Int64) : Ev (K_Names_signaturesOf N k s) (fun r => ∀ g, lb r g = true ↔ ∃ x, x < σ 0 0 ∧ lb s x = true ∧ sgn σ x = g) := by
  have hn := hI.1.2.1
  unfold K_Names_signaturesOf
  refine ev_lp (fun n z => ∃ v i, z = (s, v, nI i) ∧ i + n = σ 0 0 ∧ ∀ g, lb v g = true ↔ ∃ x, x < i ∧ lb s x = true ∧ sgn σ x = g) ?_ N (σ 0 0) _ (by omega) ⟨0, 0, rfl, by omega, fun g => by rw [lb_0]; simp⟩
  rintro n z self ⟨v, i, rfl, hin, hv⟩ ih
  unfold K_Names_signaturesOf_L5
  dsimp only
  refine ev_le (σ 0 0) i (hu := hM.1) (fun h => ?_) (fun hi => ?_)
  · rw [show i = σ 0 0 by omega] at hv
    exact ev_some hv
  have sl := sgn_lt hI hi
  refine ev_has i (by omega) Iff.rfl (fun h => ?_) (fun h => ?_)
  · rw [nI_1]
    refine ih (n - 1) _ (by omega) ⟨v, i + 1, rfl, by omega, fun g => ?_⟩
    rw [hv]
    refine ⟨fun ⟨x, a, b⟩ => ⟨x, by omega, b⟩, fun ⟨x, a, b⟩ => ⟨x, ?_, b⟩⟩
    rcases Nat.lt_or_ge x i with z | z
    · exact z
    · rw [show x = i by omega] at b; exact absurd b.1 h
  · refine ev_rI (by omega) (by decide) ?_
    rw [(hM.2.1 i hi).2.1, nI_1]
    refine ih (n - 1) _ (by omega) ⟨_, i + 1, rfl, by omega, fun g => ?_⟩
    rw [lb_or_bit (by omega) hv]
    constructor
    · rintro (⟨x, a, b⟩ | q)
      · exact ⟨x, by omega, b⟩
      · exact ⟨i, by omega, h, q.symm⟩
    · rintro ⟨x, a, b⟩
      rcases Nat.lt_or_ge x i with z | z
      · exact Or.inl ⟨x, z, b⟩
      · rw [show x = i by omega] at b; exact Or.inr b.2.symm
/-- only cells of the names have changed -/
def Kq (k k' : sk_M) : Prop := (∀ q i, q ≠ 21 → q ≠ 22 → k'.1 q i = k.1 q i) ∧ ∀ q i, (q ≠ 0 ∨ (i ≠ 2 ∧ i ≠ 3)) → k'.2 q i = k.2 q i
theorem Kq.rf {k : sk_M} : Kq k k := ⟨fun _ _ _ _ => rfl, fun _ _ _ => rfl⟩
theorem Kq.tr {k k' k'' : sk_M} (h : Kq k k') (h' : Kq k' k'') : Kq k k'' := ⟨fun q i a b => (h'.1 q i a b).trans (h.1 q i a b), fun q i a => (h'.2 q i a).trans (h.2 q i a)⟩
theorem Kq.kb {k k' : sk_M} (h : Kq k k') : Kb k k' := ⟨fun q i a => h.1 q i (by unfold cbI at a; omega) (by unfold cbI at a; omega), fun q i a => h.2 q i (by unfold cbL at a; omega)⟩
theorem Kq.ka {k k' : sk_M} (h : Kq k k') (hA : KA σ k) : KA σ k' := fun r hr => by
  rw [h.2 31 r (by omega), h.2 32 r (by omega)]; exact hA r hr
def KND (σ : Ab) (k : sk_M) : Prop := ∀ i x, i < 4 → (lb (k.2 0 (4 + i)) x = true ↔ ND σ i x)
theorem Kq.nd {k k' : sk_M} (h : Kq k k') (hA : KND σ k) : KND σ k' := fun i x hi => by
  rw [h.2 0 (4 + i) (by omega)]; exact hA i x hi
theorem Kq.wl {s : Int64} {j : Nat} (hj : j = 2 ∨ j = 3) : Kq k (sk_wl k 0 j s) := ⟨fun _ _ _ _ => rfl, fun q i a => by rw [w2_n (by omega)]⟩
theorem Kq.wi {v : Int32} {r j : Nat} (hr : r = 21 ∨ r = 22) : Kq k (sk_wi k r j v) := ⟨fun q i a b => by rw [w1_n (by omega)], fun _ _ _ => rfl⟩
theorem k_keepLib (hN : 80 < N) : Ev (K_Names_keepWhatTheLibraryKnows N k) (fun k' => Kq k k' ∧ (∀ c, lb (k'.2 0 2) c = true ↔ c = 0) ∧ ∀ g, lb (k'.2 0 3) g = true ↔ g = 16 ∨ (28 ≤ g ∧ g < 32)) := by
  unfold K_Names_keepWhatTheLibraryKnows
  refine ev_fL ?_
  refine ev_fL ?_
  have e0 : ∀ st : sk_M, ∀ v, v < 2 → K_SF_signature 1 6 (nI v) = nI (28 + v) ∧ K_SF_signature 1 7 (nI v) = nI (30 + v) := fun st v hv => ⟨by rw [show K_SF_signature 1 6 (nI v) = K_SF_signature (nI 1) (nI 6) (nI v) from rfl, k_sig (by omega)], by rw [show K_SF_signature 1 7 (nI v) = K_SF_signature (nI 1) (nI 7) (nI v) from rfl, k_sig (by omega)]⟩
  refine ev_lp (fun n z => ∃ st v, z = (st, nI v) ∧ v + n = 2 ∧ Kq k st ∧ (∀ c, lb (st.2 0 2) c = true ↔ c = 0) ∧ ∀ g, lb (st.2 0 3) g = true ↔ (g = 16 ∨ (28 ≤ g ∧ g < 28 + v) ∨ (30 ≤ g ∧ g < 30 + v))) ?_ N 2 _ (by omega) ⟨_, 0, rfl, by omega, (Kq.wl (by omega)).tr (Kq.wl (by omega)), fun c => ?_, fun g => ?_⟩
  · rintro n z self ⟨st, v, rfl, hvn, hq, h2, h3⟩ ih
    unfold K_Names_keepWhatTheLibraryKnows_L19
    dsimp only
    refine ev_le 2 v (fun h => ?_) (fun hv => ?_)
    · refine ev_some ⟨hq, h2, fun g => ?_⟩
      rw [h3, show v = 2 by omega]
      omega
    · rw [(e0 st v hv).1, (e0 st v hv).2]
      refine ev_fL ?_
      refine ev_fL ?_
      rw [nI_1]
      refine ih (n - 1) _ (by omega) ⟨_, v + 1, rfl, by omega, (hq.tr (Kq.wl (by omega))).tr (Kq.wl (by omega)), fun c => by rw [w2_n (by omega), w2_n (by omega)]; exact h2 c, fun g => ?_⟩
      rw [w2_s, lb_or_bit (P := fun g => (g = 16 ∨ (28 ≤ g ∧ g < 28 + v) ∨ (30 ≤ g ∧ g < 30 + v)) ∨ g = 28 + v) (by omega) (fun g => by rw [w2_s, lb_or_bit (by omega) h3])]
      omega
  · rw [w2_n (by omega), w2_s, show (0 : Int32) = nI 0 from rfl, lb_bit (by omega), decide_eq_true_eq]
  · rw [w2_s, show (16 : Int32) = nI 16 from rfl, lb_bit (by omega), decide_eq_true_eq]
    omega
theorem k_giveNames (hI : IA σ) (hN : 80 < N) (hA : KND σ k) (h2 : ∀ c, lb (k.2 0 2) c = true ↔ kn σ c) : Ev (K_Names_giveNames N k) (fun k' => (∀ q i, q ≠ 21 → k'.1 q i = k.1 q i) ∧ k'.2 = k.2 ∧ ∀ c, c < 10 → ND σ 0 c → ¬ kn σ c → k'.1 21 c = nI (97 + ct (nP σ) c)) := by
  unfold K_Names_giveNames
  refine ev_lp (fun n z => ∃ st c, z = (st, nI (97 + ct (nP σ) c), nI c) ∧ c + n = 10 ∧ (∀ q i, q ≠ 21 → st.1 q i = k.1 q i) ∧ st.2 = k.2 ∧ ∀ c', c' < c → ND σ 0 c' → ¬ kn σ c' → st.1 21 c' = nI (97 + ct (nP σ) c')) ?_ N 10 _ (by omega) ⟨k, 0, rfl, by omega, fun _ _ _ => rfl, rfl, fun c h => by omega⟩
  rintro n z self ⟨st, c, rfl, hcn, f1, f2, hd⟩ ih
  unfold K_Names_giveNames_L5
  dsimp only
  refine ev_le 10 c (fun h => ev_some ⟨f1, f2, fun c' h' => hd c' (by omega)⟩) (fun hc => ?_)
  have cl := ct_le (nP σ) c
  refine ev_has c (by omega) (P := nP σ c) (by
    rw [f2, lb_and, lb_not _ (by omega), Bool.and_eq_true, hA 0 c (by omega)]
    unfold nP
    rw [← h2]
    simp) (fun h => ?_) (fun h => ?_)
  · rw [nI_1]
    refine ih (n - 1) _ (by omega) ⟨st, c + 1, by rw [ct_n h], by omega, f1, f2, fun c' h' a b => ?_⟩
    rcases Nat.lt_or_ge c' c with q | q
    · exact hd c' q a b
    · rw [show c' = c by omega] at a b; exact absurd ⟨a, b⟩ h
  · refine ev_wI hc (by decide) ?_
    rw [nar_c _ (by omega), nI_1, nI_1]
    refine ih (n - 1) _ (by omega) ⟨sk_wi st 21 c (nI (97 + ct (nP σ) c)), c + 1, by rw [ct_y h]; rfl, by omega, fun q i a => by rw [w1_n (by omega)]; exact f1 q i a, f2, fun c' h' a b => ?_⟩
    rcases Nat.lt_or_ge c' c with q | q
    · rw [w1_n (by omega)]; exact hd c' q a b
    · rw [show c' = c by omega, w1_s]
theorem k_giveTextsOf (hN : 80 < N) {s : Int64} (hs : ∀ g, g < 32 → (lb s g = true ↔ us σ g ∧ ¬ kt σ g)) {kd sp : Nat} (hk : kd < 2) (hsp : sp < 2) : Ev (K_Names_giveTextsOf N k s (nI kd) (nI sp)) (fun k' => (∀ q i, (q ≠ 22 ∨ i / 16 ≠ kd ∨ i % 2 ≠ sp) → k'.1 q i = k.1 q i) ∧ k'.2 = k.2 ∧ ∀ w, w < 6 → us σ (16 * kd + 2 * w + sp) → ¬ kt σ (16 * kd + 2 * w + sp) → k'.1 22 (16 * kd + 2 * w + sp) = nI (97 + ct (tP σ (16 * kd + sp)) w)) := by
  unfold K_Names_giveTextsOf
  refine ev_lp (fun n z => ∃ st w, z = (st, s, nI kd, nI sp, nI (97 + ct (tP σ (16 * kd + sp)) w), nI w) ∧ w + n = 6 ∧ (∀ q i, (q ≠ 22 ∨ i / 16 ≠ kd ∨ i % 2 ≠ sp) → st.1 q i = k.1 q i) ∧ st.2 = k.2 ∧ ∀ w', w' < w → us σ (16 * kd + 2 * w' + sp) → ¬ kt σ (16 * kd + 2 * w' + sp) → st.1 22 (16 * kd + 2 * w' + sp) = nI (97 + ct (tP σ (16 * kd + sp)) w')) ?_ N 6 _ (by omega) ⟨k, 0, rfl, by omega, fun _ _ _ => rfl, rfl, fun c h => by omega⟩
  rintro n z self ⟨st, w, rfl, hwn, f1, f2, hd⟩ ih
  unfold K_Names_giveTextsOf_L7
  dsimp only
  refine ev_le 6 w (fun h => ev_some ⟨f1, f2, fun c' h' => hd c' (by omega)⟩) (fun hw => ?_)
  have cl := ct_le (tP σ (16 * kd + sp)) w
  have et : tP σ (16 * kd + sp) w ↔ us σ (16 * kd + 2 * w + sp) ∧ ¬ kt σ (16 * kd + 2 * w + sp) := by
    unfold tP
    rw [show (16 * kd + sp) / 16 = kd by omega, show (16 * kd + sp) % 2 = sp by omega]
  rw [k_sig hk]
  refine ev_has (16 * kd + 2 * w + sp) (by omega) (hs _ (by omega)) (fun h => ?_) (fun h => ?_)
  · rw [nI_1]
    refine ih (n - 1) _ (by omega) ⟨st, w + 1, by rw [ct_n (fun z => h (et.mp z))], by omega, f1, f2, fun c' h' a b => ?_⟩
    rcases Nat.lt_or_ge c' w with q | q
    · exact hd c' q a b
    · rw [show c' = w by omega] at a b; exact absurd ⟨a, b⟩ h
  · refine ev_wI (by omega) (by decide) ?_
    rw [nar_c _ (by omega), nI_1, nI_1]
    refine ih (n - 1) _ (by omega) ⟨sk_wi st 22 (16 * kd + 2 * w + sp) (nI (97 + ct (tP σ (16 * kd + sp)) w)), w + 1, by rw [ct_y (et.mpr h)]; rfl, by omega, fun q i a => by rw [w1_n (by omega)]; exact f1 q i a, f2, fun c' h' a b => ?_⟩
    rcases Nat.lt_or_ge c' w with q | q
    · rw [w1_n (by omega)]; exact hd c' q a b
    · rw [show c' = w by omega, w1_s]
theorem k_giveTexts (hI : IA σ) (hN : 80 < N) (hM : KM σ k) (hA : KND σ k) (h3 : ∀ g, lb (k.2 0 3) g = true ↔ g < 32 ∧ kt σ g) : Ev (K_Names_giveTexts N k) (fun k' => (∀ q i, q ≠ 22 → k'.1 q i = k.1 q i) ∧ k'.2 = k.2 ∧ ∀ g, g < 32 → us σ g → ¬ kt σ g → k'.1 22 g = nI (97 + ct (tP σ g) (g / 2 % 8))) := by
  unfold K_Names_giveTexts
  refine ev_oR (k_signaturesOf hI hM hN _) (fun s hs => ?_)
  have hset : ∀ g, g < 32 → (lb (s &&& (k.2 0 3 ^^^ (-1 : Int64))) g = true ↔ us σ g ∧ ¬ kt σ g) := fun g hg => by
    rw [lb_and, lb_not _ (by omega), Bool.and_eq_true, hs]
    have e : (∃ x, x < σ 0 0 ∧ lb (k.2 0 7) x = true ∧ sgn σ x = g) ↔ us σ g := by
      constructor
      · rintro ⟨x, a, b, c⟩
        have nd := (hA 3 x (by omega)).mp b
        exact ⟨x, (nd_th hI 3 x nd).2 rfl, nd, c⟩
      · rintro ⟨x, a, b, c⟩
        exact ⟨x, a.1, (hA 3 x (by omega)).mpr b, c⟩
    rw [e]
    refine and_congr_right (fun _ => ?_)
    cases q : lb (k.2 0 3) g with
    | true => simpa using ((h3 g).mp q).2
    | false =>
      simp
      intro z
      have := (h3 g).mpr ⟨hg, z⟩
      rw [q] at this; cases this
  have tpe : ∀ g, tP σ (16 * (g / 16) + g % 2) = tP σ g := fun g => by
    funext w
    unfold tP
    rw [show (16 * (g / 16) + g % 2) / 16 = g / 16 by omega, show (16 * (g / 16) + g % 2) % 2 = g % 2 by omega]
  have w6 : ∀ g, g < 32 → us σ g → ¬ kt σ g → g / 2 % 8 < 6 := fun g hg hu hk => by
    obtain ⟨x, a, b, c⟩ := hu
    obtain ⟨b8, b9, b10, b11, b12, _, b15, _⟩ := hI.2.2.2.1 x a.1
    rcases Nat.lt_or_ge (g / 2 % 8) 6 with q | q
    · exact q
    · exfalso
      rcases (show σ 11 x % 2 = 0 ∨ σ 11 x % 2 = 1 by omega) with z | z
      · have := b15 z
        unfold sgn at c; omega
      · exact hk (Or.inl (by unfold sgn at c; omega))
  refine ev_lp (fun n z => ∃ st sp, z = (st, s &&& (k.2 0 3 ^^^ (-1 : Int64)), nI sp) ∧ sp + n = 2 ∧ (∀ q i, q ≠ 22 → st.1 q i = k.1 q i) ∧ st.2 = k.2 ∧ ∀ g, g < 32 → g % 2 < sp → us σ g → ¬ kt σ g → st.1 22 g = nI (97 + ct (tP σ g) (g / 2 % 8))) ?_ N 2 _ (by omega) ⟨k, 0, rfl, by omega, fun _ _ _ => rfl, rfl, fun g _ h => by omega⟩
  rintro n z self ⟨st, sp, rfl, hsn, f1, f2, hd⟩ ih
  unfold K_Names_giveTexts_L23
  dsimp only
  refine ev_le 2 sp (fun h => ev_some ⟨f1, f2, fun g hg => hd g hg (by omega)⟩) (fun hsp => ?_)
  refine ev_oR (k_giveTextsOf (σ := σ) (k := st) (kd := 0) (sp := sp) hN hset (by omega) hsp) (fun st1 h1 => ?_)
  refine ev_oR (k_giveTextsOf (σ := σ) (k := st1) (kd := 1) (sp := sp) hN hset (by omega) hsp) (fun st2 h2 => ?_)
  rw [nI_1]
  refine ih (n - 1) _ (by omega) ⟨st2, sp + 1, rfl, by omega, fun q i a => by rw [h2.1 q i (Or.inl a), h1.1 q i (Or.inl a)]; exact f1 q i a, by rw [h2.2.1, h1.2.1]; exact f2, fun g hg hs1 hu hk => ?_⟩
  rcases Nat.lt_or_ge (g % 2) sp with q | q
  · rw [h2.1 22 g (by omega), h1.1 22 g (by omega)]; exact hd g hg q hu hk
  · have hw := w6 g hg hu hk
    rcases (show g / 16 = 0 ∨ g / 16 = 1 by omega) with z | z
    · have e : 16 * 0 + 2 * (g / 2 % 8) + sp = g := by omega
      rw [h2.1 22 g (by omega)]
      have := h1.2.2 (g / 2 % 8) hw (by rw [e]; exact hu) (by rw [e]; exact hk)
      rw [e, show 16 * 0 + sp = 16 * (g / 16) + g % 2 by omega, tpe] at this
      exact this
    · have e : 16 * 1 + 2 * (g / 2 % 8) + sp = g := by omega
      have := h2.2.2 (g / 2 % 8) hw (by rw [e]; exact hu) (by rw [e]; exact hk)
      rw [e, show 16 * 1 + sp = 16 * (g / 16) + g % 2 by omega, tpe] at this
      exact this
/-- what is worked out -/
def KS (σ : Ab) (k : sk_M) : Prop := KA σ k ∧ KND σ k ∧ (∀ c, lb (k.2 0 2) c = true ↔ kn σ c) ∧ (∀ g, lb (k.2 0 3) g = true ↔ g < 32 ∧ kt σ g) ∧ (∀ c, c < 10 → ND σ 0 c → ¬ kn σ c → k.1 21 c = nI (97 + ct (nP σ) c)) ∧ (∀ g, g < 32 → us σ g → ¬ kt σ g → k.1 22 g = nI (97 + ct (tP σ g) (g / 2 % 8))) ∧ (k.1 0 4 = 0 → KX k 3 (mp σ))
def RK (σ : Ab) (k : sk_M) : Prop := RB σ k ∧ (¬ k.1 0 10 = 0 → KS σ k)
theorem k_namesWork (hI : IA σ) (hN : 80 < N) (hB : RB σ k) (hA : KA σ k) (hD : KND σ k) : Ev (K_Names_work N k) (fun k' => Kq k k' ∧ (∀ c, lb (k'.2 0 2) c = true ↔ kn σ c) ∧ (∀ g, lb (k'.2 0 3) g = true ↔ g < 32 ∧ kt σ g) ∧ (∀ c, c < 10 → ND σ 0 c → ¬ kn σ c → k'.1 21 c = nI (97 + ct (nP σ) c)) ∧ (∀ g, g < 32 → us σ g → ¬ kt σ g → k'.1 22 g = nI (97 + ct (tP σ g) (g / 2 % 8)))) := by
  have h8 := hI.1.2.2.2.2
  unfold K_Names_work
  refine ev_oR (k_keepLib hN) (fun k0 h0 => ?_)
  obtain ⟨q0, c0, g0⟩ := h0
  refine ev_lp (fun n z => ∃ st r, z = (st, nI r) ∧ r + n = σ 0 3 ∧ Kq k st ∧ (∀ c, lb (st.2 0 2) c = true ↔ c = 0 ∨ ∃ r', r' < r ∧ σ 20 r' < 2 ∧ abt σ r' c) ∧ ∀ g, lb (st.2 0 3) g = true ↔ (g = 16 ∨ (28 ≤ g ∧ g < 32)) ∨ ∃ x r', alive σ x ∧ sgn σ x = g ∧ r' < r ∧ (σ 20 r' ≠ 2 ∨ ND σ 0 (σ 8 x)) ∧ mnt σ r' x) ?_ N (σ 0 3) _ (by omega) ⟨k0, 0, rfl, by omega, q0, fun c => by rw [c0]; simp, fun g => by rw [g0]; simp⟩
  rintro n z self ⟨st, r, rfl, hrn, hq, hc, hg⟩ ih
  have hBs := hB.same hq.kb
  have hAs := hq.ka hA
  have hDs := hq.nd hD
  unfold K_Names_work_L6
  dsimp only
  refine ev_le (σ 0 3) r (hu := hBs.2.2.2.2.2.1) (fun h => ?_) (fun hr => ?_)
  · have er : r = σ 0 3 := by omega
    subst er
    have hc : ∀ c, lb (st.2 0 2) c = true ↔ kn σ c := hc
    have hg : ∀ g, lb (st.2 0 3) g = true ↔ g < 32 ∧ kt σ g := fun g => by
      rw [hg]
      unfold kt
      constructor
      · rintro ((h | h) | ⟨x, r', h1, h2, h3⟩)
        · exact ⟨by omega, Or.inr (Or.inl h)⟩
        · exact ⟨by omega, Or.inl h.1⟩
        · exact ⟨by have := sgn_lt hI h1.1; omega, Or.inr (Or.inr ⟨x, r', h1, h2, h3⟩)⟩
      · rintro ⟨h0, h | h | h⟩
        · exact Or.inl (Or.inr ⟨h, h0⟩)
        · exact Or.inl (Or.inl h)
        · exact Or.inr h
    unfold K_Names_work_J90
    refine ev_oR (k_giveNames hI hN hDs hc) (fun k1 h1 => ?_)
    have hq1 : Kq k k1 := hq.tr ⟨fun q i a b => h1.1 q i a, fun q i a => by rw [h1.2.1]⟩
    refine ev_oR (k_giveTexts hI hN (hB.same hq1.kb).2.2.1 (hq1.nd hD) (fun g => by rw [h1.2.1]; exact hg g)) (fun k2 h2 => ev_some ⟨hq1.tr ⟨fun q i a b => h2.1 q i b, fun q i a => by rw [h2.2.1]⟩, fun c => by rw [h2.2.1, h1.2.1]; exact hc c, fun g => by rw [h2.2.1, h1.2.1]; exact hg g, fun c a b d => by rw [h2.1 21 c (by omega)]; exact h1.2.2 c a b d, h2.2.2⟩)
  · have s20 := (hI.2.2.2.2.2.2.2.2 r hr).1
    obtain ⟨ab, mn⟩ := hAs r hr
    have J70 : ∀ (st' : sk_M) (s : Int64), Kq k st' → (∀ c, lb (st'.2 0 2) c = true ↔ c = 0 ∨ ∃ r', r' < r + 1 ∧ σ 20 r' < 2 ∧ abt σ r' c) → st'.2 0 3 = st.2 0 3 → (∀ x, lb s x = true ↔ (σ 20 r ≠ 2 ∨ ND σ 0 (σ 8 x)) ∧ mnt σ r x) → Ev (K_Names_work_J70 N (fun st => K_Names_work_J90 N st) self st' (nI r) s) (fun k' => Kq k k' ∧ (∀ c, lb (k'.2 0 2) c = true ↔ kn σ c) ∧ (∀ g, lb (k'.2 0 3) g = true ↔ g < 32 ∧ kt σ g) ∧ (∀ c, c < 10 → ND σ 0 c → ¬ kn σ c → k'.1 21 c = nI (97 + ct (nP σ) c)) ∧ (∀ g, g < 32 → us σ g → ¬ kt σ g → k'.1 22 g = nI (97 + ct (tP σ g) (g / 2 % 8)))) := by
      intro st' s hq' hc' e3 hs
      unfold K_Names_work_J70
      refine ev_oR (k_signaturesOf hI (hB.same hq'.kb).2.2.1 hN s) (fun t ht => ?_)
      refine ev_fL ?_
      rw [nI_1]
      refine ih (n - 1) _ (by omega) ⟨_, r + 1, rfl, by omega, hq'.tr (Kq.wl (by omega)), fun c => by rw [w2_n (by omega)]; exact hc' c, fun g => ?_⟩
      rw [w2_s, e3, lb_or, Bool.or_eq_true, hg, ht]
      constructor
      · rintro ((h | ⟨x, r', h1, h2, h3, h4⟩) | ⟨x, h1, h2, h3⟩)
        · exact Or.inl h
        · exact Or.inr ⟨x, r', h1, h2, by omega, h4⟩
        · have := (hs x).mp h2
          exact Or.inr ⟨x, r, this.2.1, h3, by omega, this⟩
      · rintro (h | ⟨x, r', h1, h2, h3, h4⟩)
        · exact Or.inl (Or.inl h)
        · rcases Nat.lt_or_ge r' r with q | q
          · exact Or.inl (Or.inr ⟨x, r', h1, h2, q, h4⟩)
          · rw [show r' = r by omega] at h4
            exact Or.inr ⟨x, h1.1, (hs x).mpr h4, h2⟩
    refine ev_rL (by omega) (by decide) ?_
    refine ev_rI (by omega) (by decide) ?_
    refine ev_qn (σ 20 r + 1) 3 (hu := (hBs.2.2.2.2.2.2 r hr).1) (fun h => ?_) (fun h => ?_)
    · refine ev_oR (k_ofNeeded hI hBs.2.2.1 hN _) (fun s hs => ?_)
      refine J70 st s hq (fun c => ?_) rfl (fun x => ?_)
      · rw [hc]
        refine or_congr_right ⟨fun ⟨r', a, b⟩ => ⟨r', by omega, b⟩, fun ⟨r', a, b⟩ => ⟨r', ?_, b⟩⟩
        rcases Nat.lt_or_ge r' r with q | q
        · exact q
        · rw [show r' = r by omega] at b; omega
      · rw [hs, mn]
        constructor
        · rintro ⟨a, b⟩
          exact ⟨Or.inr ((hDs 0 _ (by omega)).mp (b a.1.1).2), a⟩
        · rintro ⟨a, b⟩
          refine ⟨b, fun _ => ⟨by omega, (hDs 0 _ (by omega)).mpr (a.resolve_left (fun z => z (by omega)))⟩⟩
    · refine ev_rL (by omega) (by decide) ?_
      refine ev_fL ?_
      refine J70 _ _ (hq.tr (Kq.wl (by omega))) (fun c => ?_) (by rw [w2_n (by omega)]) (fun x => ?_)
      · rw [w2_s, lb_or, Bool.or_eq_true, hc, ab]
        constructor
        · rintro ((a | ⟨r', a, b⟩) | a)
          · exact Or.inl a
          · exact Or.inr ⟨r', by omega, b⟩
          · exact Or.inr ⟨r, by omega, by omega, a⟩
        · rintro (a | ⟨r', a, b, d⟩)
          · exact Or.inl (Or.inl a)
          · rcases Nat.lt_or_ge r' r with q | q
            · exact Or.inl (Or.inr ⟨r', q, b, d⟩)
            · rw [show r' = r by omega] at d; exact Or.inr d
      · rw [mn]
        exact ⟨fun a => ⟨Or.inl (by omega), a⟩, fun a => a.2⟩
theorem k_settle (hI : IA σ) (hN : 80 < N) (hR : RK σ k) : Ev (K_SF_settle N k) (fun k' => RB σ k' ∧ KS σ k' ∧ ¬ k'.1 0 10 = 0) := by
  unfold K_SF_settle
  refine ev_if (fun h => ?_) (fun h => ev_some ⟨hR.1, hR.2 h, h⟩)
  refine ev_oR (k_look hI hR.1 hN) (fun k1 h1 => ?_)
  obtain ⟨a1, a2, B1, A1⟩ := h1
  refine ev_oR (k_needsWork hI B1 A1 hN) (fun k2 h2 => ?_)
  have B2 := B1.same h2.1.kb
  refine ev_oR (k_namesWork hI hN B2 (A1.kn h2.1) h2.2) (fun k3 h3 => ?_)
  obtain ⟨q3, b1, b2, b3, b4⟩ := h3
  have B3 := B2.same q3.kb
  have A3 := q3.ka (A1.kn h2.1)
  have D3 := q3.nd (σ := σ) h2.2
  refine ev_fI ?_
  refine ev_fI ?_
  refine ev_some ⟨B3.same ⟨fun q i a => by rw [w1_n (by unfold cbI at a; omega), w1_n (by unfold cbI at a; omega)], fun _ _ _ => rfl⟩, ⟨A3, D3, b1, b2, fun c x y z => by rw [w1_n (by omega), w1_n (by omega)]; exact b3 c x y z, fun g x y z => by rw [w1_n (by omega), w1_n (by omega)]; exact b4 g x y z, fun z => ?_⟩, ?_⟩
  · rw [w1_n (by omega), w1_s] at z; exact absurd z (by decide)
  · rw [w1_s]; decide
end
