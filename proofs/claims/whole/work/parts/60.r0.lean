/-! TRACE and COUNT of the reference -/
def dQ (σ : Ab) (tx : Nat → Nat) (len : Nat) : Prop := len = σ 0 2 ∧ ∀ i, i < len → tx i = σ 18 i
def cNm (σ : Ab) (c : Nat) : Prop := ND σ 0 c ∧ dQ σ (nnx σ c) (nnl σ c)
def CN (σ : Ab) (r : Int32) : Prop := (r = -2 ∧ ∀ c, ¬ cNm σ c) ∨ ∃ c, r = nI c ∧ c < 10 ∧ cNm σ c ∧ ∀ c', c' < c → ¬ cNm σ c'
def mNm (σ : Ab) (c kd s v x : Nat) : Prop := ND σ 3 x ∧ σ 8 x = c ∧ σ 11 x % 2 = kd ∧ σ 10 x = s ∧ ntx σ (sgn σ x) 0 = v
def MW (σ : Ab) (c kd s v : Nat) (r : Int32) : Prop := (r = -2 ∧ ∀ x, ¬ mNm σ c kd s v x) ∨ ∃ x, r = nI x ∧ mNm σ c kd s v x
/-- what a trace answers -/
def TR (σ : Ab) (v s kd : Nat) (r : Int32) : Prop := (v = 0 → CN σ r) ∧ (v ≠ 0 → (CN σ (-2) ∧ r = -2) ∨ ∃ c, c < 10 ∧ CN σ (nI c) ∧ MW σ c kd s v r)
theorem CN_unique {σ : Ab} {r r' : Int32} (h : CN σ r) (h' : CN σ r') : r = r' := by
  rcases h with ⟨rfl, h⟩ | ⟨c, rfl, h1, h2, h3⟩
  · rcases h' with ⟨rfl, _⟩ | ⟨c, rfl, _, h2, _⟩
    · rfl
    · exact absurd h2 (h c)
  · rcases h' with ⟨rfl, h⟩ | ⟨c', rfl, _, g2, g3⟩
    · exact absurd h2 (h c)
    · rcases Nat.lt_trichotomy c c' with q | q | q
      · exact absurd h2 (g3 c q)
      · rw [q]
      · exact absurd g2 (h3 c' q)
theorem ct_lt {P : Nat → Prop} {a b : Nat} (h : a < b) (hp : P a) : ct P a < ct P b := by
  have h1 := ct_mono (P := P) (show a + 1 ≤ b from h)
  rw [ct_y hp] at h1
  omega
theorem wdx0 : ∀ w, w < 8 → wdx w 0 = if w < 6 then 114 + w else 60 := by decide
theorem MW_unique {σ : Ab} (hI : IA σ) {c kd s v : Nat} (hv : 97 ≤ v) {r r' : Int32} (h : MW σ c kd s v r) (h' : MW σ c kd s v r') : r = r' := by
  rcases h with ⟨rfl, h⟩ | ⟨x, rfl, h⟩
  · rcases h' with ⟨rfl, _⟩ | ⟨x, rfl, h2⟩
    · rfl
    · exact absurd h2 (h x)
  · rcases h' with ⟨rfl, h2⟩ | ⟨y, rfl, g⟩
    · exact absurd h (h2 x)
    · have ax := (nd_th hI 3 x h.1).2 rfl
      have ay := (nd_th hI 3 y g.1).2 rfl
      obtain ⟨a8, a9, a10, a11, a12, _, a15, _⟩ := hI.2.2.2.1 x ax.1
      obtain ⟨b8, b9, b10, b11, b12, _, b15, _⟩ := hI.2.2.2.1 y ay.1
      obtain ⟨n1, e1, e2, e3, e4⟩ := h
      obtain ⟨n2, f1, f2, f3, f4⟩ := g
      have wx : sgn σ x / 2 % 8 = σ 9 x := by unfold sgn; omega
      have wy : sgn σ y / 2 % 8 = σ 9 y := by unfold sgn; omega
      have tt : tP σ (sgn σ x) = tP σ (sgn σ y) := by
        funext w
        unfold tP
        rw [show sgn σ x / 16 = sgn σ y / 16 by unfold sgn; omega, show sgn σ x % 2 = sgn σ y % 2 by unfold sgn; omega]
      have px : us σ (sgn σ x) := ⟨x, ax, n1, rfl⟩
      have py : us σ (sgn σ y) := ⟨y, ay, n2, rfl⟩
      have bx : ¬ kt σ (sgn σ x) → σ 9 x < 6 := fun h => by
        rcases Nat.lt_or_ge (σ 9 x) 6 with q | q
        · exact q
        · exfalso
          have : σ 11 x % 2 = 1 := by
            rcases (show σ 11 x % 2 = 0 ∨ σ 11 x % 2 = 1 by omega) with z | z
            · have := a15 z; omega
            · exact z
          exact h (Or.inl (by unfold sgn; omega))
      have by' : ¬ kt σ (sgn σ y) → σ 9 y < 6 := fun h => by
        rcases Nat.lt_or_ge (σ 9 y) 6 with q | q
        · exact q
        · exfalso
          have : σ 11 y % 2 = 1 := by
            rcases (show σ 11 y % 2 = 0 ∨ σ 11 y % 2 = 1 by omega) with z | z
            · have := b15 z; omega
            · exact z
          exact h (Or.inl (by unfold sgn; omega))
      have ew : σ 9 x = σ 9 y := by
        unfold ntx at e4 f4
        rw [wx] at e4
        rw [wy] at f4
        by_cases kx : kt σ (sgn σ x)
        · rw [cI_y kx, wdx0 _ a9] at e4
          by_cases ky : kt σ (sgn σ y)
          · rw [cI_y ky, wdx0 _ b9] at f4
            split at e4 <;> split at f4 <;> omega
          · rw [cI_n ky] at f4
            have := ct_le (tP σ (sgn σ y)) (σ 9 y)
            have := by' ky
            split at e4 <;> omega
        · rw [cI_n kx] at e4
          have := ct_le (tP σ (sgn σ x)) (σ 9 x)
          have := bx kx
          by_cases ky : kt σ (sgn σ y)
          · rw [cI_y ky, wdx0 _ b9] at f4
            split at f4 <;> omega
          · rw [cI_n ky, ← tt] at f4
            have sx : tP σ (sgn σ x) (σ 9 x) := by
              unfold tP
              rw [show 16 * (sgn σ x / 16) + 2 * σ 9 x + sgn σ x % 2 = sgn σ x by unfold sgn; omega]
              exact ⟨px, kx⟩
            have sy : tP σ (sgn σ x) (σ 9 y) := by
              rw [tt]
              unfold tP
              rw [show 16 * (sgn σ y / 16) + 2 * σ 9 y + sgn σ y % 2 = sgn σ y by unfold sgn; omega]
              exact ⟨py, ky⟩
            rcases Nat.lt_trichotomy (σ 9 x) (σ 9 y) with q | q | q
            · have := ct_lt q sx; omega
            · exact q
            · have := ct_lt q sy; omega
      rw [hI.2.2.2.2.2.1 c (sgn σ x) x y ⟨ax, e1, rfl⟩ ⟨ay, f1, by unfold sgn; omega⟩]
theorem TR_unique {σ : Ab} (hI : IA σ) {v s kd : Nat} (hv : v = 0 ∨ 97 ≤ v) {r r' : Int32} (h : TR σ v s kd r) (h' : TR σ v s kd r') : r = r' := by
  by_cases q : v = 0
  · exact CN_unique (h.1 q) (h'.1 q)
  · have neg : ∀ c, c < 10 → CN σ (nI c) → CN σ (-2) → False := fun c hc h1 h2 => by
      have := CN_unique h1 h2
      have p := nI_pos (n := c) (by omega)
      rw [this] at p
      exact p (by decide)
    rcases h.2 q with ⟨a1, a2⟩ | ⟨c, hc, a1, a2⟩
    · rcases h'.2 q with ⟨b1, b2⟩ | ⟨c', hc', b1, b2⟩
      · rw [a2, b2]
      · exact (neg c' hc' b1 a1).elim
    · rcases h'.2 q with ⟨b1, b2⟩ | ⟨c', hc', b1, b2⟩
      · exact (neg c hc a1 b1).elim
      · have e := (nI_eq (by omega) (by omega)).mp (CN_unique a1 b1)
        subst e
        exact MW_unique hI (by omega) a2 b2
section
variable {σ : Ab} {m : sk_M} {N : Nat}
theorem m_classNamed (hI : IA σ) (hF : FS σ m) (hN : 80 < N) : Ev (M_classNamed N m) (fun z => CN σ z.1 ∧ FS σ z.2) := by
  unfold M_classNamed
  refine ev_lp (fun k z => ∃ st c, z = (st, nI c) ∧ c + k = 10 ∧ FS σ st ∧ ∀ c', c' < c → ¬ cNm σ c') ?_ N 10 _ (by omega) ⟨m, 0, rfl, by omega, hF, fun c h => by omega⟩
  rintro k z self ⟨st, c, rfl, hk, hF, hno⟩ ih
  unfold M_classNamed_L2
  dsimp only
  refine ev_le 10 c (fun h => ev_some ⟨Or.inl ⟨rfl, fun c' h' => hno c' (by have := ((nd_th hI 0 c' h'.1).1 (by omega)).1; omega) h'⟩, hF⟩) (fun hc => ?_)
  have next : ∀ st', FS σ st' → ¬ cNm σ c → Ev (self (st', nI c + 1)) (fun z => CN σ z.1 ∧ FS σ z.2) := fun st' h1 h2 => by
    rw [nI_1]
    exact ih (k - 1) _ (by omega) ⟨st', c + 1, rfl, by omega, h1, fun c' h => by rcases Nat.lt_or_ge c' c with q | q; exact hno c' q; rw [show c' = c by omega]; exact h2⟩
  have b1 := (hI.2.1 c hc).1
  refine ev_rI hc (by decide) ?_
  refine ev_qn (σ 1 c) 0 (hu := hF.1.cl 1 (by omega) (by omega) hc) (fun h => next st hF (fun z => by have := ((nd_th hI 0 c z.1).1 (by omega)).2; omega)) (fun h1 => ?_)
  refine ev_rI hc (by decide) ?_
  refine ev_if (fun h => next st hF (fun z => (hF.nC hc).mp h z.1)) (fun h => ?_)
  have hnd : ND σ 0 c := Classical.byContradiction (fun q => h ((hF.nC hc).mpr q))
  refine ev_oR (m_newName hI hF hN hc) (fun m1 h2 => ?_)
  have F1 := hF.mt h2.1
  have nb := nnl_b σ c
  have hd := hI.1.2.2.2.1
  refine ev_qn (nnl σ c) (σ 0 2) (hu := h2.2.1) (hv := F1.1.1 2 (by omega)) (fun e => ?_) (fun e => ?_)
  · unfold M_classNamed_J50
    refine ev_lp (fun k2 z => (∃ i, z = (m1, nI c, 1, nI i) ∧ i + k2 = nnl σ c + 1 ∧ i ≤ nnl σ c ∧ ∀ j, j < i → nnx σ c j = σ 18 j) ∨ (∃ i, z = (m1, nI c, 0, nI i) ∧ k2 = 0 ∧ i ≤ nnl σ c ∧ ¬ cNm σ c)) ?_ N (nnl σ c + 1) _ (by omega) (Or.inl ⟨0, rfl, by omega, by omega, fun j h => by omega⟩)
    rintro k2 z self2 hz ih2
    rcases hz with ⟨i, rfl, hi, hle, hall⟩ | ⟨i, rfl, hk2, hle, hn⟩
    · unfold M_classNamed_L53
      dsimp only
      refine ev_le (nnl σ c) i (hu := h2.2.1) (fun h => ?_) (fun hin => ?_)
      · unfold M_classNamed_J92
        rw [if_neg (by decide)]
        exact ev_some ⟨Or.inr ⟨c, rfl, hc, ⟨hnd, e, fun j hj => hall j (by omega)⟩, hno⟩, F1⟩
      · rw [if_neg (by decide)]
        refine ev_rI (by omega) (by decide) ?_
        refine ev_rI (by omega) (by decide) ?_
        rw [h2.2.2 i hin, F1.1.2.2.2.2.1.1 i (by omega)]
        have d1 := hI.2.2.2.2.2.2.2.1.1 i (by omega)
        have d2 : nnx σ c i < 2 ^ 31 := by
          unfold nnx
          by_cases q : kn σ c
          · rw [cI_y q]; have := nmx_lt (i := i) (hI.2.1 c hc).2.2.2.1 hc; omega
          · rw [cI_n q]; have := ct_le (nP σ) c; omega
        refine ev_qn (nnx σ c i) (σ 18 i) (fun h => ?_) (fun h => ?_)
        · rw [nI_1]
          exact ih2 (k2 - 1) _ (by omega) (Or.inl ⟨i + 1, rfl, by omega, by omega, fun j hj => by rcases Nat.lt_or_ge j i with q | q; exact hall j q; rw [show j = i by omega]; exact h⟩)
        · rw [nI_1]
          exact ih2 0 _ (by omega) (Or.inr ⟨i + 1, rfl, rfl, by omega, fun z => h (z.2.2 i hin)⟩)
    · unfold M_classNamed_L53 M_classNamed_J92
      dsimp only
      rw [if_pos rfl, if_pos rfl]
      exact ev_if (fun _ => next m1 F1 hn) (fun _ => next m1 F1 hn)
  · unfold M_classNamed_J50
    rw [pu_lp (by omega)]
    unfold M_classNamed_L53 M_classNamed_J92
    dsimp only
    rw [if_pos rfl, if_pos rfl]
    have hn : ¬ cNm σ c := fun z => e z.2.1
    exact ev_if (fun _ => next m1 F1 hn) (fun _ => next m1 F1 hn)
theorem m_trace (hI : IA σ) (hR : RM σ m) (hN : 80 < N) {v s kd : Nat} (hv : v = 0 ∨ (97 ≤ v ∧ v ≤ 122)) (hs : s ≤ 1) (hk : kd ≤ 1) : Ev (M_trace N m (nI v) (nI s) (nI kd)) (fun z => TR σ v s kd z.1 ∧ RM σ z.2) := by
  have hn := hI.1.2.1
  have J : Ev (M_trace_J15 N m (nI v) (nI s) (nI kd)) (fun z => TR σ v s kd z.1 ∧ RM σ z.2) := by
    unfold M_trace_J15
    refine ev_in s 0 1 (by omega) hs ?_
    refine ev_oR (m_find hI hR hN) (fun m1 hF => ?_)
    refine ev_oW (m_classNamed hI hF hN) (fun r m2 h2 => ?_)
    obtain ⟨hc, F2⟩ := h2
    have hcn := hc
    rcases hc with ⟨rfl, hc⟩ | ⟨c, rfl, hc10, hc, hcl⟩
    · rw [if_pos (by decide)]
      exact ev_some ⟨⟨fun _ => hcn, fun _ => Or.inl ⟨hcn, rfl⟩⟩, F2.1⟩
    · rw [if_neg (nI_pos (by omega))]
      refine ev_qn v 0 (fun h => ev_some ⟨⟨fun _ => hcn, fun q => absurd h q⟩, F2.1⟩) (fun hv0 => ?_)
      refine ev_lp (fun k z => ∃ st x, z = (st, nI v, nI s, nI kd, nI c, nI x) ∧ x + k = σ 0 0 ∧ FS σ st ∧ ∀ y, y < x → ¬ mNm σ c kd s v y) ?_ N (σ 0 0) _ (by omega) ⟨m2, 0, rfl, by omega, F2, fun y h => by omega⟩
      rintro k z self ⟨st, x, rfl, hk2, hF, hno⟩ ih
      unfold M_trace_L51
      dsimp only
      refine ev_le (σ 0 0) x (hu := hF.1.nm) (fun h => ev_some ⟨⟨fun q => absurd q hv0, fun _ => Or.inr ⟨c, hc10, hcn, Or.inl ⟨rfl, fun y hy => hno y (by have := ((nd_th hI 3 y hy.1).2 rfl).1; omega) hy⟩⟩⟩, hF.1⟩) (fun hx => ?_)
      obtain ⟨b8, b9, b10, b11, b12, _, b15, _⟩ := hI.2.2.2.1 x hx
      have next : ∀ st', FS σ st' → ¬ mNm σ c kd s v x → Ev (self (st', nI v, nI s, nI kd, nI c, nI x + 1)) (fun z => TR σ v s kd z.1 ∧ RM σ z.2) := fun st' h1 h2 => by
        rw [nI_1]
        exact ih (k - 1) _ (by omega) ⟨st', x + 1, rfl, by omega, h1, fun y h => by rcases Nat.lt_or_ge y x with q | q; exact hno y q; rw [show y = x by omega]; exact h2⟩
      refine ev_rI (by omega) (by decide) ?_
      refine ev_qn (σ 12 x) 0 (hu := hF.1.mb 12 (by omega) (by omega) hx) (fun g1 => ?_) (fun g1 => next st hF (fun h => g1 ((nd_th hI 3 x h.1).2 rfl).2))
      refine ev_rI (by omega) (by decide) ?_
      refine ev_if (fun g2 => next st hF (fun h => (hF.nM (by omega)).mp g2 h.1)) (fun g2 => ?_)
      have g2 : ND σ 3 x := Classical.byContradiction (fun q => g2 ((hF.nM (by omega)).mpr q))
      refine ev_rI (by omega) (by decide) ?_
      refine ev_qn (σ 8 x) c (hu := hF.1.mb 8 (by omega) (by omega) hx) (fun g3 => ?_) (fun g3 => next st hF (fun h => g3 h.2.1))
      have T : ∀ q, σ 11 x % 2 = q → q ≤ 1 → Ev (M_trace_J110 N self st (nI v) (nI s) (nI kd) (nI c) (nI x) (nI q)) (fun z => TR σ v s kd z.1 ∧ RM σ z.2) := by
        intro q hq hq1
        unfold M_trace_J110
        refine ev_qn q kd (fun g4 => ?_) (fun g4 => next st hF (fun h => g4 (by have := h.2.2.1; omega)))
        refine ev_rI (by omega) (by decide) ?_
        refine ev_qn (σ 10 x) s (hu := hF.1.mb 10 (by omega) (by omega) hx) (fun g5 => ?_) (fun g5 => next st hF (fun h => g5 h.2.2.2.1))
        refine ev_oR (m_newText hI hF hN hx) (fun m3 h3 => ?_)
        have F3 := hF.mt h3.1
        have d : ntx σ (sgn σ x) 0 < 2 ^ 31 := by
          unfold ntx
          by_cases q : kt σ (sgn σ x)
          · rw [cI_y q]; have := wdx_lt (w := sgn σ x / 2 % 8) (i := 0) (by omega); omega
          · rw [cI_n q]; have := ct_le (tP σ (sgn σ x)) (sgn σ x / 2 % 8); omega
        refine ev_rI (i := 0) (by omega) (by decide) ?_
        refine ev_qn (ntx σ (sgn σ x) 0) v (hu := h3.2.2 0 (ntl_b σ _).1) (fun g6 => ?_) (fun g6 => next m3 F3 (fun h => g6 h.2.2.2.2))
        exact ev_some ⟨⟨fun q => absurd q hv0, fun _ => Or.inr ⟨c, hc10, hcn, Or.inr ⟨x, rfl, g2, g3, by omega, g5, g6⟩⟩⟩, F3.1⟩
      refine ev_rI (by omega) (by decide) ?_
      rw [hF.1.mb 11 (by omega) (by omega) hx, nI_and1 _ (by omega)]
      exact ev_qn (σ 11 x % 2) 1 (fun h => T 1 h (by omega)) (fun h => T 0 (by omega) (by omega))
  unfold M_trace
  refine ev_qn v 0 (fun _ => J) (fun h => ?_)
  exact ev_in v 97 122 (by omega) (by omega) J
/-! the counts -/
def actv (σ : Ab) (i : Nat) : Prop := ND σ 3 (σ 13 i)
def miss (σ : Ab) (i : Nat) : Prop := ND σ 3 (σ 13 i) ∧ (σ 1 (σ 15 i) = 0 ∨ (2 ≤ σ 14 i ∧ LK σ (σ 15 i) (gI σ i) (fun _ => True) none))
noncomputable def cV (σ : Ab) (w : Nat) : Nat := if w = 0 then ct (fun c => σ 1 c = 1) 10 else if w = 1 then ct (alive σ) 40 else if w = 2 then σ 0 1 else if w = 3 then σ 0 3 else if w = 4 then ct (ND σ 0) 10 else if w = 5 then ct (ND σ 1) 10 else if w = 6 then ct (ND σ 2) 10 else if w = 7 then ct (ND σ 3) 40 else if w = 8 then ct (actv σ) (σ 0 1) else ct (miss σ) (σ 0 1)
theorem m_classes (hI : IA σ) (hF : FS σ m) (hN : 80 < N) {w : Nat} (hw : w = 0 ∨ w = 4 ∨ w = 5 ∨ w = 6) : Ev (M_classes N m (nI w)) (fun r => r = nI (cV σ w)) := by
  unfold M_classes
  have key : ∃ P : Nat → Prop, cV σ w = ct P 10 ∧ ∀ c, P c ↔ ((w = 0 → σ 1 c = 1) ∧ (w = 4 → ND σ 0 c) ∧ (w = 5 → ND σ 1 c) ∧ (w = 6 → ND σ 2 c)) := by
    rcases hw with rfl | rfl | rfl | rfl
    · exact ⟨_, rfl, fun c => ⟨fun h => ⟨fun _ => h, by omega, by omega, by omega⟩, fun h => h.1 rfl⟩⟩
    · exact ⟨_, rfl, fun c => ⟨fun h => ⟨by omega, fun _ => h, by omega, by omega⟩, fun h => h.2.1 rfl⟩⟩
    · exact ⟨_, rfl, fun c => ⟨fun h => ⟨by omega, by omega, fun _ => h, by omega⟩, fun h => h.2.2.1 rfl⟩⟩
    · exact ⟨_, rfl, fun c => ⟨fun h => ⟨by omega, by omega, by omega, fun _ => h⟩, fun h => h.2.2.2 rfl⟩⟩
  obtain ⟨P, eP, hP⟩ := key
  rw [eP]
  refine ev_lp (fun k z => ∃ c, z = (nI w, nI (ct P c), nI c) ∧ c + k = 10) ?_ N 10 _ (by omega) ⟨0, rfl, by omega⟩
  rintro k z self ⟨c, rfl, hk⟩ ih
  unfold M_classes_L4
  dsimp only
  refine ev_le 10 c (fun h => ?_) (fun hc => ?_)
  · rw [show c = 10 by omega]; exact ev_some rfl
  have b1 := (hI.2.1 c hc).1
  have yes : P c → Ev (self (nI w, nI (ct P c) + 1, nI c + 1)) (fun r => r = nI (ct P 10)) := fun h => by
    rw [nI_1, nI_1]
    exact ih (k - 1) _ (by omega) ⟨c + 1, by rw [ct_y h], by omega⟩
  have no : ¬ P c → Ev (self (nI w, nI (ct P c), nI c + 1)) (fun r => r = nI (ct P 10)) := fun h => by
    rw [nI_1]
    exact ih (k - 1) _ (by omega) ⟨c + 1, by rw [ct_n h], by omega⟩
  have th : ∀ i, i < 3 → ND σ i c → σ 1 c = 1 := fun i hi h => ((nd_th hI i c h).1 hi).2
  refine ev_rI hc (by decide) ?_
  refine ev_qn (σ 1 c) 0 (hu := hF.1.cl 1 (by omega) (by omega) hc) (fun h => no (fun z => ?_)) (fun h1 => ?_)
  · have hz := (hP c).mp z
    rcases hw with q | q | q | q
    · have := hz.1 q; omega
    · have := th 0 (by omega) (hz.2.1 q); omega
    · have := th 1 (by omega) (hz.2.2.1 q); omega
    · have := th 2 (by omega) (hz.2.2.2 q); omega
  refine ev_qn w 0 (fun h => yes ((hP c).mpr ⟨fun _ => by omega, by omega, by omega, by omega⟩)) (fun w0 => ?_)
  have J51 : w = 6 ∨ ¬ P c → Ev (M_classes_J51 N m self (nI w) (nI (ct P c)) (nI c)) (fun r => r = nI (ct P 10)) := by
    intro hq
    unfold M_classes_J51
    refine ev_qn w 6 (fun h => ?_) (fun h => no (hq.resolve_left h))
    refine ev_rI hc (by decide) ?_
    have q := hF.2.2.2 2 c (by omega) hc
    exact ev_if (fun h2 => no (fun z => q.mp h2 (((hP c).mp z).2.2.2 h))) (fun h2 => yes ((hP c).mpr ⟨by omega, by omega, by omega, fun _ => Classical.byContradiction (fun z => h2 (q.mpr z))⟩))
  have J37 : w = 5 ∨ w = 6 ∨ ¬ P c → Ev (M_classes_J37 N m self (nI w) (nI (ct P c)) (nI c)) (fun r => r = nI (ct P 10)) := by
    intro hq
    unfold M_classes_J37
    refine ev_qn w 5 (fun h => ?_) (fun h => J51 (hq.resolve_left h))
    refine ev_rI hc (by decide) ?_
    have q := hF.2.2.2 1 c (by omega) hc
    exact ev_if (fun h2 => J51 (Or.inr (fun z => q.mp h2 (((hP c).mp z).2.2.1 h)))) (fun h2 => yes ((hP c).mpr ⟨by omega, by omega, fun _ => Classical.byContradiction (fun z => h2 (q.mpr z)), by omega⟩))
  refine ev_qn w 4 (fun h => ?_) (fun h => J37 (by omega))
  refine ev_rI hc (by decide) ?_
  have q := hF.2.2.2 0 c (by omega) hc
  exact ev_if (fun h2 => J37 (Or.inr (Or.inr (fun z => q.mp h2 (((hP c).mp z).2.1 h))))) (fun h2 => yes ((hP c).mpr ⟨by omega, fun _ => Classical.byContradiction (fun z => h2 (q.mpr z)), by omega, by omega⟩))
theorem ct_ext {P : Nat → Prop} {n k : Nat} (h : ∀ i, n ≤ i → ¬ P i) (hk : n ≤ k) : ct P k = ct P n := by
  induction k with
  | zero => rw [show n = 0 by omega]
  | succ k ih =>
    rcases Nat.lt_or_ge n (k + 1) with q | q
    · rw [ct_n (h k (by omega)), ih (by omega)]
    · rw [show n = k + 1 by omega]
theorem m_parts (hI : IA σ) (hF : FS σ m) (hN : 80 < N) {w : Nat} (hw : w = 0 ∨ w = 1) : Ev (M_parts N m (nI w)) (fun r => r = nI (ct (fun x => alive σ x ∧ (w = 1 → ND σ 3 x)) 40)) := by
  have hn := hI.1.2.1
  unfold M_parts
  rw [ct_ext (n := σ 0 0) (fun i hi h => by have := h.1.1; omega) (by omega)]
  refine ev_lp (fun k z => ∃ x, z = (nI w, nI (ct (fun x => alive σ x ∧ (w = 1 → ND σ 3 x)) x), nI x) ∧ x + k = σ 0 0) ?_ N (σ 0 0) _ (by omega) ⟨0, rfl, by omega⟩
  rintro k z self ⟨x, rfl, hk⟩ ih
  unfold M_parts_L4
  dsimp only
  refine ev_le (σ 0 0) x (hu := hF.1.nm) (fun h => ?_) (fun hx => ?_)
  · rw [show x = σ 0 0 by omega]; exact ev_some rfl
  obtain ⟨b8, b9, b10, b11, b12, _⟩ := hI.2.2.2.1 x hx
  have yes : (alive σ x ∧ (w = 1 → ND σ 3 x)) → Ev (self (nI w, nI (ct (fun x => alive σ x ∧ (w = 1 → ND σ 3 x)) x) + 1, nI x + 1)) (fun r => r = nI (ct (fun x => alive σ x ∧ (w = 1 → ND σ 3 x)) (σ 0 0))) := fun h => by
    rw [nI_1, nI_1]
    exact ih (k - 1) _ (by omega) ⟨x + 1, by rw [ct_y (P := fun x => alive σ x ∧ (w = 1 → ND σ 3 x)) h], by omega⟩
  have no : ¬ (alive σ x ∧ (w = 1 → ND σ 3 x)) → Ev (self (nI w, nI (ct (fun x => alive σ x ∧ (w = 1 → ND σ 3 x)) x), nI x + 1)) (fun r => r = nI (ct (fun x => alive σ x ∧ (w = 1 → ND σ 3 x)) (σ 0 0))) := fun h => by
    rw [nI_1]
    exact ih (k - 1) _ (by omega) ⟨x + 1, by rw [ct_n (P := fun x => alive σ x ∧ (w = 1 → ND σ 3 x)) h], by omega⟩
  refine ev_rI (by omega) (by decide) ?_
  refine ev_qn (σ 12 x) 0 (hu := hF.1.mb 12 (by omega) (by omega) hx) (fun g1 => ?_) (fun g1 => no (fun h => g1 h.1.2))
  refine ev_qn w 0 (fun h => yes ⟨⟨hx, g1⟩, by omega⟩) (fun w0 => ?_)
  refine ev_rI (by omega) (by decide) ?_
  have q := hF.nM (x := x) (by omega)
  exact ev_if (fun h2 => no (fun z => q.mp h2 (z.2 (by omega)))) (fun h2 => yes ⟨⟨hx, g1⟩, fun _ => Classical.byContradiction (fun z => h2 (q.mpr z))⟩)
theorem m_active (hI : IA σ) (hF : FS σ m) (hN : 80 < N) {w : Nat} (hw : w = 0 ∨ w = 1) : Ev (M_active N m (nI w)) (fun r => r = nI (ct (fun i => actv σ i ∧ (w = 1 → miss σ i)) (σ 0 1))) := by
  have hn := hI.1.2.1
  have hn1 := hI.1.2.2.1
  unfold M_active
  refine ev_lp (fun k z => ∃ x, z = (nI w, nI (ct (fun i => actv σ i ∧ (w = 1 → miss σ i)) x), nI x) ∧ x + k = σ 0 1) ?_ N (σ 0 1) _ (by omega) ⟨0, rfl, by omega⟩
  rintro k z self ⟨i, rfl, hk⟩ ih
  unfold M_active_L4
  dsimp only
  refine ev_le (σ 0 1) i (hu := hF.1.1 1 (by omega)) (fun h => ?_) (fun hi => ?_)
  · rw [show i = σ 0 1 by omega]; exact ev_some rfl
  obtain ⟨g1, g2, g3, g4, g5, g6, g7⟩ := hI.2.2.2.2.2.2.1 i hi
  have b1 := (hI.2.1 (σ 15 i) g5).1
  have yes : (actv σ i ∧ (w = 1 → miss σ i)) → Ev (self (nI w, nI (ct (fun i => actv σ i ∧ (w = 1 → miss σ i)) i) + 1, nI i + 1)) (fun r => r = nI (ct (fun i => actv σ i ∧ (w = 1 → miss σ i)) (σ 0 1))) := fun h => by
    rw [nI_1, nI_1]
    exact ih (k - 1) _ (by omega) ⟨i + 1, by rw [ct_y (P := fun i => actv σ i ∧ (w = 1 → miss σ i)) h], by omega⟩
  have no : ¬ (actv σ i ∧ (w = 1 → miss σ i)) → Ev (self (nI w, nI (ct (fun i => actv σ i ∧ (w = 1 → miss σ i)) i), nI i + 1)) (fun r => r = nI (ct (fun i => actv σ i ∧ (w = 1 → miss σ i)) (σ 0 1))) := fun h => by
    rw [nI_1]
    exact ih (k - 1) _ (by omega) ⟨i + 1, by rw [ct_n (P := fun i => actv σ i ∧ (w = 1 → miss σ i)) h], by omega⟩
  have q := hF.nM (x := σ 13 i) (by omega)
  refine ev_oR (m_isActive hI hF.1 hi) (fun r hr => ?_)
  rcases hr with ⟨rfl, hr⟩ | ⟨rfl, hr1, hr2⟩
  · rw [if_pos rfl]
    exact no (fun z => hr ⟨(nd_th hI 3 _ z.1).2 rfl, fun y => q.mp y z.1⟩)
  rw [if_neg (by decide)]
  have ac : actv σ i := Classical.byContradiction (fun z => hr2 (q.mpr z))
  have J : ∀ s0 : Nat, s0 ≤ 1 → (s0 = 1 ↔ miss σ i) → Ev (M_active_J94 N m self (nI w) (nI (ct (fun i => actv σ i ∧ (w = 1 → miss σ i)) i)) (nI i) (nI s0)) (fun r => r = nI (ct (fun i => actv σ i ∧ (w = 1 → miss σ i)) (σ 0 1))) := by
    intro s0 h01 hs
    unfold M_active_J94
    refine ev_qn w 0 (fun h => yes ⟨ac, by omega⟩) (fun h => ?_)
    exact ev_qn s0 0 (fun h2 => no (fun z => by have := hs.mpr (z.2 (by omega)); omega)) (fun h2 => yes ⟨ac, fun _ => hs.mp (by omega)⟩)
  refine ev_rI (by omega) (by decide) ?_
  rw [hF.1.rf 15 (by omega) (by omega) hi]
  refine ev_rI (by omega) (by decide) ?_
  refine ev_qn (σ 1 (σ 15 i)) 0 (hu := hF.1.cl 1 (by omega) (by omega) g5) (fun h => ?_) (fun h1 => ?_)
  · unfold M_active_J89
    exact J 1 (by omega) ⟨fun _ => ⟨ac, Or.inl h⟩, fun _ => rfl⟩
  refine ev_rI (by omega) (by decide) ?_
  refine ev_le (σ 14 i) 1 (hu := hF.1.rf 14 (by omega) (by omega) hi) (fun h => ?_) (fun h2 => ?_)
  · unfold M_active_J93
    exact J 0 (by omega) ⟨by omega, fun z => by rcases z.2 with z | z; exact absurd z h1; have := z.1; omega⟩
  refine ev_rI (by omega) (by decide) ?_
  refine ev_rI (by omega) (by decide) ?_
  rw [hF.1.rf 15 (by omega) (by omega) hi]
  have L : ∀ kd, kd ≤ 1 → 16 * kd = (if σ 14 i = 2 then 0 else 16) → Ev (M_active_J69 N m self (nI w) (nI (ct (fun i => actv σ i ∧ (w = 1 → miss σ i)) i)) (nI i) (nI (σ 15 i)) (nI kd)) (fun r => r = nI (ct (fun i => actv σ i ∧ (w = 1 → miss σ i)) (σ 0 1))) := by
    intro kd hkd ek
    unfold M_active_J69
    refine ev_rI (by omega) (by decide) ?_
    refine ev_rI (by omega) (by decide) ?_
    rw [hF.1.rf 16 (by omega) (by omega) hi, hF.1.rf 17 (by omega) (by omega) hi]
    refine ev_oR (m_look hI hF.1 hF.2.1 (by omega) (hF.hnd hI) g5 (by omega) g6 g7 0 0) (fun r hr => ?_)
    obtain ⟨o, rfl, hl⟩ := hr
    rw [wtd_all, show 16 * kd + 2 * σ 16 i + σ 17 i = gI σ i by unfold gI; omega] at hl
    cases o with
    | none =>
      rw [if_neg (by decide)]
      unfold M_active_J89
      exact J 1 (by omega) ⟨fun _ => ⟨ac, Or.inr ⟨by omega, hl⟩⟩, fun _ => rfl⟩
    | some x =>
      have hx := (LK_lt hl).1.1
      rw [if_pos (show (0 : Int32) ≤ oI (some x) from nI_pos' (by omega))]
      unfold M_active_J93
      refine J 0 (by omega) ⟨by omega, fun z => ?_⟩
      rcases z.2 with z | z
      · exact absurd z h1
      · have := LK_unique hI hl z.2
        cases this
  exact ev_qn (σ 14 i) 2 (hu := hF.1.rf 14 (by omega) (by omega) hi) (fun h => L 0 (by omega) (by rw [if_pos h])) (fun h => L 1 (by omega) (by rw [if_neg h]))
theorem m_count (hI : IA σ) (hR : RM σ m) (hN : 80 < N) {w : Nat} (hw : w ≤ 9) : Ev (M_count N m (nI w)) (fun z => z.1 = nI (cV σ w) ∧ RM σ z.2) := by
  unfold M_count
  refine ev_oR (m_find hI hR hN) (fun m1 hF => ?_)
  have cl : ∀ w, w = 0 ∨ w = 4 ∨ w = 5 ∨ w = 6 → Ev (sk_oR (M_classes N m1 (nI w)) fun x62 => some (x62, m1)) (fun z => z.1 = nI (cV σ w) ∧ RM σ z.2) := fun w hw =>
    ev_oR (m_classes hI hF hN hw) (fun r hr => ev_some ⟨hr, hF.1⟩)
  refine ev_qn w 0 (fun h => by subst h; exact cl 0 (by omega)) (fun h0 => ?_)
  refine ev_qn w 1 (fun h => ?_) (fun h1 => ?_)
  · subst h
    refine ev_oR (m_parts hI hF hN (w := 0) (by omega)) (fun r hr => ev_some ⟨?_, hF.1⟩)
    dsimp only
    rw [hr, show cV σ 1 = ct (alive σ) 40 from rfl]
    rw [ct_cong (fun i _ => ⟨fun h => h.1, fun h => ⟨h, by omega⟩⟩)]
  refine ev_qn w 2 (fun h => by subst h; exact ev_some ⟨hF.1.1 1 (by omega), hF.1⟩) (fun h2 => ?_)
  refine ev_qn w 3 (fun h => by subst h; exact ev_some ⟨hF.1.1 3 (by omega), hF.1⟩) (fun h3 => ?_)
  refine ev_qn w 4 (fun h => by subst h; exact cl 4 (by omega)) (fun h4 => ?_)
  refine ev_qn w 5 (fun h => by subst h; exact cl 5 (by omega)) (fun h5 => ?_)
  refine ev_qn w 6 (fun h => by subst h; exact cl 6 (by omega)) (fun h6 => ?_)
  refine ev_qn w 7 (fun h => ?_) (fun h7 => ?_)
  · subst h
    refine ev_oR (m_parts hI hF hN (w := 1) (by omega)) (fun r hr => ev_some ⟨?_, hF.1⟩)
    dsimp only
    rw [hr, show cV σ 7 = ct (ND σ 3) 40 from rfl]
    rw [ct_cong (fun i _ => ⟨fun h => h.2 rfl, fun h => ⟨(nd_th hI 3 i h).2 rfl, fun _ => h⟩⟩)]
  refine ev_qn w 8 (fun h => ?_) (fun h8 => ?_)
  · subst h
    refine ev_oR (m_active hI hF hN (w := 0) (by omega)) (fun r hr => ev_some ⟨?_, hF.1⟩)
    dsimp only
    rw [hr, show cV σ 8 = ct (actv σ) (σ 0 1) from rfl]
    rw [ct_cong (fun i _ => ⟨fun h => h.1, fun h => ⟨h, by omega⟩⟩)]
  refine ev_qn w 9 (fun h => ?_) (fun h9 => by omega)
  subst h
  refine ev_oR (m_active hI hF hN (w := 1) (by omega)) (fun r hr => ev_some ⟨?_, hF.1⟩)
  dsimp only
  rw [hr, show cV σ 9 = ct (miss σ) (σ 0 1) from rfl]
  rw [ct_cong (fun i _ => ⟨fun h => h.2 rfl, fun h => ⟨h.1, fun _ => h⟩⟩)]
end
