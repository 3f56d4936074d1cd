/-! rules with numbers -/
theorem ev_le {α : Type} {u v : Int32} {x y : Option α} {P : α → Prop} (a b : Nat) (h1 : a ≤ b → Ev x P) (h2 : b < a → Ev y P) (hu : u = nI a := by rfl) (hv : v = nI b := by rfl) (ha : a < 2 ^ 31 := by omega) (hb : b < 2 ^ 31 := by omega) : Ev (if u ≤ v then x else y) P := by
  subst hu hv
  exact ev_if (fun h => h1 ((nI_leI ha hb).mp h)) (fun h => h2 (nI_gtx ha hb h))
theorem ev_lt {α : Type} {u v : Int32} {x y : Option α} {P : α → Prop} (a b : Nat) (h1 : a < b → Ev x P) (h2 : b ≤ a → Ev y P) (hu : u = nI a := by rfl) (hv : v = nI b := by rfl) (ha : a < 2 ^ 31 := by omega) (hb : b < 2 ^ 31 := by omega) : Ev (if u < v then x else y) P := by
  subst hu hv
  exact ev_if (fun h => h1 ((nI_ltI ha hb).mp h)) (fun h => h2 (nI_nl ha hb h))
theorem ev_qn {α : Type} {u v : Int32} {x y : Option α} {P : α → Prop} (a b : Nat) (h1 : a = b → Ev x P) (h2 : ¬ a = b → Ev y P) (hu : u = nI a := by rfl) (hv : v = nI b := by rfl) (ha : a < 2 ^ 31 := by omega) (hb : b < 2 ^ 31 := by omega) : Ev (if u = v then x else y) P := by
  subst hu hv
  exact ev_if (fun h => h1 ((nI_eq ha hb).mp h)) (fun h => h2 (fun e => h ((nI_eq ha hb).mpr e)))
theorem fl2 : ∀ f, f < 8 → (nI f &&& 2 = 0 ↔ ¬ f / 2 % 2 = 1) := by decide
theorem wtd_sel {σ : Ab} {nd : Nat → Prop} : wtd σ nd 1 0 = fun y => σ 11 y < 2 := by
  funext y
  exact propext ⟨fun h => h.1.resolve_left (by decide), fun h => ⟨Or.inr h, Or.inl rfl⟩⟩
theorem wtd_all {σ : Ab} {nd : Nat → Prop} : wtd σ nd 0 0 = fun _ => True := by
  funext y
  exact propext ⟨fun _ => trivial, fun _ => ⟨Or.inl rfl, Or.inl rfl⟩⟩
def sq (m : sk_M) (i x : Nat) : Prop := i < 4 ∧ sm m i x
def QF (m : sk_M) (T : (Nat → Nat → Prop) → Prop) : Prop := m.1 0 6 = 0 → T (sq m)
section
variable {σ : Ab} {m : sk_M} {N : Nat}
theorem PS.eq {m' : sk_M} (h : PS σ m m') (h0 : m'.1 0 6 = 0) : m.1 0 6 = 0 ∧ sq m' = sq m := by
  obtain ⟨a, b⟩ := h.q h0
  exact ⟨a, funext fun i => funext fun x => propext ⟨fun z => ⟨z.1, (b i x z.1).mp z.2⟩, fun z => ⟨z.1, (b i x z.1).mpr z.2⟩⟩⟩
theorem PS.tp {m' : sk_M} {T : (Nat → Nat → Prop) → Prop} (h : PS σ m m') (ht : QF m T) : QF m' T := fun h0 => by
  obtain ⟨a, b⟩ := h.eq h0
  rw [b]; exact ht a
theorem PS.up {m' : sk_M} (h : PS σ m m') {i x : Nat} (hi : i < 4) (hs : sm m i x) : sm m' i x := h.2.2.1 i x hi hs
theorem look_hnd : ∀ x, x < σ 0 0 → (m.1 38 x = 0 ↔ ¬ (m.1 38 x ≠ 0)) := fun x _ => by simp
theorem m_byRules (hI : IA σ) (hG : GS σ m) (hN : 80 < N) : Ev (M_byRules N m) (fun m' => PS σ m m' ∧ QF m' (fun S => ∀ r, r < σ 0 3 → CLr σ S r)) := by
  have h8 := hI.1.2.2.2.2
  have hn := hI.1.2.1
  unfold M_byRules
  refine ev_lp (fun k z => ∃ st r, z = (st, nI r) ∧ r + k = σ 0 3 ∧ PS σ m st ∧ QF st (fun S => ∀ r', r' < r → CLr σ S r')) ?_ N (σ 0 3) _ (by omega) ⟨m, 0, rfl, by omega, PS.rf hG, fun _ r' h => by omega⟩
  rintro k z self ⟨st, r, rfl, hk, hP, hT⟩ ih
  unfold M_byRules_L2
  dsimp only
  refine ev_le (σ 0 3) r (hu := hP.1.1.1 3 (by omega)) (fun h => ev_some ⟨hP, fun h0 r' hr' => hT h0 r' (by omega)⟩) (fun hr => ?_)
  obtain ⟨c1, c2, c3⟩ := (ND_CL σ).2.2.1 r hr
  have s2 := (hI.2.2.2.2.2.2.2.2 r hr).1
  refine ev_lp (fun k z => ∃ st c, z = (st, nI r, nI c) ∧ c + k = 10 ∧ 1 ≤ c ∧ PS σ m st ∧ QF st (fun S => (∀ r', r' < r → CLr σ S r') ∧ ∀ c', c' < c → σ 20 r = 0 → abt σ r c' → S 0 c' ∧ S 2 c' ∧ (σ 3 c' = 0 → σ 2 c' = 0 → S 1 c'))) ?_ N 9 _ (by omega) ⟨st, 1, rfl, by omega, by omega, hP, fun h0 => ⟨hT h0, fun c' hc' _ hab => by have := hab.1; omega⟩⟩
  rintro k2 z self2 ⟨st, c, rfl, hk2, hc1, hP, hT⟩ ih2
  unfold M_byRules_L12
  dsimp only
  refine ev_le 10 c (fun h => ?_) (fun hc => ?_)
  · unfold M_byRules_J83
    refine ev_lp (fun k z => ∃ st x, z = (st, nI r, nI x) ∧ x + k = σ 0 0 ∧ 1 ≤ x ∧ PS σ m st ∧ QF st (fun S => (∀ r', r' < r → CLr σ S r') ∧ (∀ c', σ 20 r = 0 → abt σ r c' → S 0 c' ∧ S 2 c' ∧ (σ 3 c' = 0 → σ 2 c' = 0 → S 1 c')) ∧ (∀ x', x' < x → σ 20 r = 0 → mnt σ r x' → S 3 x') ∧ (∀ x', x' < x → σ 20 r = 2 → S 0 (σ 8 x') → mnt σ r x' → S 3 x'))) ?_ N (σ 0 0 - 1) _ (by omega) ⟨st, 1, rfl, by have := hI.1.1; omega, by omega, hP, fun h0 => ⟨(hT h0).1, fun c' h20 hab => (hT h0).2 c' (by have := hab.2.1; omega) h20 hab, fun x' hx' _ hm => ?_, fun x' hx' _ _ hm => ?_⟩⟩
    · rintro k3 z self3 ⟨st, x, rfl, hk3, hx1, hP, hT⟩ ih3
      have hR := hP.1.1
      unfold M_byRules_L85
      dsimp only
      refine ev_le (σ 0 0) x (hu := hR.nm) (fun h => ?_) (fun hx => ?_)
      · unfold M_byRules_J156
        rw [nI_1]
        refine ih (k - 1) _ (by omega) ⟨st, r + 1, rfl, by omega, hP, fun h0 r' hr' => ?_⟩
        obtain ⟨t1, t2, t3, t4⟩ := hT h0
        rcases Nat.lt_or_ge r' r with q | q
        · exact t1 r' q
        · rw [show r' = r by omega]
          exact ⟨t2, fun x' h1 h2 => t3 x' (by have := h2.1.1; omega) h1 h2, fun x' h1 h2 h3 => t4 x' (by have := h3.1.1; omega) h1 h2 h3⟩
      · obtain ⟨b8, b9, b10, b11, b12, _⟩ := hI.2.2.2.1 x hx
        have next : ∀ st', PS σ st st' → QF st' (fun S => (σ 20 r = 0 → mnt σ r x → S 3 x) ∧ (σ 20 r = 2 → S 0 (σ 8 x) → mnt σ r x → S 3 x)) → Ev (self3 (st', nI r, nI x + 1)) (fun m' => PS σ m m' ∧ QF m' (fun S => ∀ r, r < σ 0 3 → CLr σ S r)) := by
          intro st' h1 h2
          rw [nI_1]
          refine ih3 (k3 - 1) _ (by omega) ⟨st', x + 1, rfl, by omega, by omega, hP.tr h1, fun h0 => ?_⟩
          obtain ⟨t1, t2, t3, t4⟩ := (h1.tp hT) h0
          refine ⟨t1, t2, fun x' hx' => ?_, fun x' hx' => ?_⟩
          · rcases Nat.lt_or_ge x' x with q | q
            · exact t3 x' q
            · rw [show x' = x by omega]; exact (h2 h0).1
          · rcases Nat.lt_or_ge x' x with q | q
            · exact t4 x' q
            · rw [show x' = x by omega]; exact (h2 h0).2
        have J126 : (mnt σ r x → ND σ 3 x) → Ev (M_byRules_J126 N (fun st v1 => M_byRules_J156 N self st v1) self3 st (nI r) (nI x)) (fun m' => PS σ m m' ∧ QF m' (fun S => ∀ r, r < σ 0 3 → CLr σ S r)) := by
          intro hnd
          unfold M_byRules_J126
          refine ev_oW (m_isMeant hI hR hP.1.2.2.1 hN hr hx) (fun y m1 h1 => ?_)
          have p1 := h1.1.ps hP.1
          rcases h1.2 with ⟨rfl, h2⟩ | ⟨rfl, h2⟩
          · rw [if_pos rfl]
            unfold M_byRules_J139 M_byRules_J140
            rw [if_pos rfl]
            exact next m1 p1 (fun _ => ⟨fun _ h => absurd h h2, fun _ _ h => absurd h h2⟩)
          · rw [if_neg (by decide)]
            unfold M_byRules_J140
            rw [if_neg (by decide)]
            refine ev_oR (ps_needMember p1.1 (x := x) (by omega) (hnd h2)) (fun m2 h3 => ?_)
            exact next m2 (p1.tr h3.1) (fun _ => ⟨fun _ _ => ⟨by omega, h3.2⟩, fun _ _ _ => ⟨by omega, h3.2⟩⟩)
        have s20 := (hR.2.2.2.2.2 r hr).1
        refine ev_rI (by omega) (by decide) ?_
        refine ev_qn (σ 20 r) 0 (hu := s20) (fun h1 => J126 (fun h => c2 x h1 h)) (fun h1 => ?_)
        refine ev_rI (by omega) (by decide) ?_
        refine ev_qn (σ 20 r) 2 (hu := s20) (fun h2 => ?_) (fun h2 => ?_)
        · refine ev_rI (by omega) (by decide) ?_
          rw [hR.mb 8 (by omega) (by omega) hx]
          refine ev_rI (by omega) (by decide) ?_
          refine ev_if (fun h3 => ?_) (fun h3 => J126 (fun h => c3 x h2 (hP.1.2.2.2.2.2 0 _ (by omega) ⟨b8, h3⟩) h))
          unfold M_byRules_J139 M_byRules_J140
          rw [if_pos rfl]
          exact next st (PS.rf hP.1) (fun _ => ⟨fun h => absurd h h1, fun _ h => absurd h3 h.2.2⟩)
        · unfold M_byRules_J139 M_byRules_J140
          rw [if_pos rfl]
          exact next st (PS.rf hP.1) (fun _ => ⟨fun h => absurd h h1, fun h => absurd h h2⟩)
    · have := hm.2.1.1
      rw [show x' = 0 by omega, hI.2.2.2.2.1.1] at this; omega
    · have := hm.2.1.1
      rw [show x' = 0 by omega, hI.2.2.2.2.1.1] at this; omega
  · have hR := hP.1.1
    have next : ∀ st', PS σ st st' → QF st' (fun S => σ 20 r = 0 → abt σ r c → S 0 c ∧ S 2 c ∧ (σ 3 c = 0 → σ 2 c = 0 → S 1 c)) → Ev (self2 (st', nI r, nI c + 1)) (fun m' => PS σ m m' ∧ QF m' (fun S => ∀ r, r < σ 0 3 → CLr σ S r)) := by
      intro st' h1 h2
      rw [nI_1]
      refine ih2 (k2 - 1) _ (by omega) ⟨st', c + 1, rfl, by omega, by omega, hP.tr h1, fun h0 => ⟨((h1.tp hT) h0).1, fun c' hc' => ?_⟩⟩
      rcases Nat.lt_or_ge c' c with q | q
      · exact ((h1.tp hT) h0).2 c' q
      · rw [show c' = c by omega]; exact h2 h0
    rw [show (10 : Int32) * nI r = nI (10 * r) from pk_mul 10 r, nI_add]
    refine ev_rI (by omega) (by decide) ?_
    refine ev_if (fun h1 => next st (PS.rf hP.1) (fun _ _ h => absurd h ((hP.1.2.2.1 r c hr hc).mp h1))) (fun h1 => ?_)
    have h1 : abt σ r c := Classical.byContradiction (fun q => h1 ((hP.1.2.2.1 r c hr hc).mpr q))
    refine ev_rI (by omega) (by decide) ?_
    refine ev_qn (σ 20 r) 0 (hu := (hR.2.2.2.2.2 r hr).1) (fun h2 => ?_) (fun h2 => next st (PS.rf hP.1) (fun _ h => absurd h h2))
    obtain ⟨d1, d2, d3⟩ := c1 c h2 h1
    obtain ⟨b1, b2, b3, b4, _, _⟩ := hI.2.1 c hc
    refine ev_oR (ps_needClass hP.1 hc d1) (fun m1 e1 => ?_)
    refine ev_oR (ps_start e1.1.1 hc d2) (fun m2 e2 => ?_)
    have p2 := e1.1.tr e2.1
    refine ev_rI hc (by decide) ?_
    refine ev_qn (σ 3 c) 0 (hu := p2.1.1.cl 3 (by omega) (by omega) hc) (fun h3 => ?_) (fun h3 => next m2 p2 (fun _ _ _ => ⟨⟨by omega, e2.1.up (by omega) e1.2⟩, ⟨by omega, e2.2⟩, fun h => absurd h h3⟩))
    refine ev_rI hc (by decide) ?_
    refine ev_qn (σ 2 c) 0 (hu := p2.1.1.cl 2 (by omega) (by omega) hc) (fun h4 => ?_) (fun h4 => next m2 p2 (fun _ _ _ => ⟨⟨by omega, e2.1.up (by omega) e1.2⟩, ⟨by omega, e2.2⟩, fun _ h => absurd h h4⟩))
    refine ev_oR (ps_make e2.1.1 hc (d3 h3 h4)) (fun m3 e3 => ?_)
    exact next m3 (p2.tr e3.1) (fun _ _ _ => ⟨⟨by omega, (e2.1.tr e3.1).up (by omega) e1.2⟩, ⟨by omega, e3.1.up (by omega) e2.2⟩, fun _ _ => ⟨by omega, e3.2⟩⟩)
theorem m_byClasses (hI : IA σ) (hG : GS σ m) (hN : 80 < N) : Ev (M_byClasses N m) (fun m' => PS σ m m' ∧ QF m' (fun S => (∀ c, c < 10 → CLc σ S c) ∧ ∀ x, x < σ 0 0 → S 3 x → S 0 (σ 8 x))) := by
  have hn := hI.1.2.1
  unfold M_byClasses
  refine ev_lp (fun k z => ∃ st c, z = (st, nI c) ∧ c + k = 10 ∧ PS σ m st ∧ QF st (fun S => ∀ c', c' < c → CLc σ S c')) ?_ N 10 _ (by omega) ⟨m, 0, rfl, by omega, PS.rf hG, fun _ r' h => by omega⟩
  rintro k z self ⟨st, c, rfl, hk, hP, hT⟩ ih
  unfold M_byClasses_L2
  dsimp only
  refine ev_le 10 c (fun h => ?_) (fun hc => ?_)
  · unfold M_byClasses_J138
    refine ev_lp (fun k z => ∃ st x, z = (st, nI x) ∧ x + k = σ 0 0 ∧ PS σ m st ∧ QF st (fun S => (∀ c', c' < 10 → CLc σ S c') ∧ ∀ x', x' < x → S 3 x' → S 0 (σ 8 x'))) ?_ N (σ 0 0) _ (by omega) ⟨st, 0, rfl, by omega, hP, fun h0 => ⟨fun c' hc' => hT h0 c' (by omega), fun x' hx' => by omega⟩⟩
    rintro k3 z self3 ⟨st, x, rfl, hk3, hP, hT⟩ ih3
    have hR := hP.1.1
    unfold M_byClasses_L140
    dsimp only
    refine ev_le (σ 0 0) x (hu := hR.nm) (fun h => ev_some ⟨hP, fun h0 => ⟨(hT h0).1, fun x' hx' => (hT h0).2 x' (by omega)⟩⟩) (fun hx => ?_)
    obtain ⟨b8, b9, b10, b11, b12, _⟩ := hI.2.2.2.1 x hx
    have next : ∀ st', PS σ st st' → QF st' (fun S => S 3 x → S 0 (σ 8 x)) → Ev (self3 (st', nI x + 1)) (fun m' => PS σ m m' ∧ QF m' (fun S => (∀ c, c < 10 → CLc σ S c) ∧ ∀ x, x < σ 0 0 → S 3 x → S 0 (σ 8 x))) := by
      intro st' h1 h2
      rw [nI_1]
      refine ih3 (k3 - 1) _ (by omega) ⟨st', x + 1, rfl, by omega, hP.tr h1, fun h0 => ⟨((h1.tp hT) h0).1, fun x' hx' => ?_⟩⟩
      rcases Nat.lt_or_ge x' x with q | q
      · exact ((h1.tp hT) h0).2 x' q
      · rw [show x' = x by omega]; exact h2 h0
    refine ev_rI (by omega) (by decide) ?_
    refine ev_if (fun h1 => next st (PS.rf hP.1) (fun _ h => absurd h1 h.2.2)) (fun h1 => ?_)
    refine ev_rI (by omega) (by decide) ?_
    rw [hR.mb 8 (by omega) (by omega) hx]
    have sx : sm st 3 x := ⟨by simp [bd]; omega, h1⟩
    refine ev_oR (ps_needClass hP.1 b8 ((ND_CL σ).2.2.2.2.1 x hx (hP.1.2.2.2.2.2 3 x (by omega) sx))) (fun m1 e1 => ?_)
    exact next m1 e1.1 (fun _ _ => ⟨by omega, e1.2⟩)
  · obtain ⟨c1, c2, c3⟩ := (ND_CL σ).2.2.2.1 c hc
    have J107 : ∀ st, PS σ m st → QF st (fun S => (∀ c', c' < c → CLc σ S c') ∧ (0 < c → S 0 c → S 0 (sup σ c) ∧ ∀ u, u < c → hasF σ c u → S 0 u) ∧ (S 2 c → (0 < c → S 2 (sup σ c)) ∧ ∀ x, own σ c 30 x → σ 11 x / 2 % 2 = 1 → S 3 x)) → Ev (M_byClasses_J107 N (fun st => M_byClasses_J138 N st) self st (nI c)) (fun m' => PS σ m m' ∧ QF m' (fun S => (∀ c, c < 10 → CLc σ S c) ∧ ∀ x, x < σ 0 0 → S 3 x → S 0 (σ 8 x))) := by
      intro st hP hT
      have next : ∀ st', PS σ st st' → QF st' (fun S => S 1 c → ∀ x, LK σ c 16 (fun y => σ 11 y < 2) (some x) → S 3 x) → Ev (self (st', nI c + 1)) (fun m' => PS σ m m' ∧ QF m' (fun S => (∀ c, c < 10 → CLc σ S c) ∧ ∀ x, x < σ 0 0 → S 3 x → S 0 (σ 8 x))) := by
        intro st' h1 h2
        rw [nI_1]
        refine ih (k - 1) _ (by omega) ⟨st', c + 1, rfl, by omega, hP.tr h1, fun h0 c' hc' => ?_⟩
        obtain ⟨t1, t2, t3⟩ := (h1.tp hT) h0
        rcases Nat.lt_or_ge c' c with q | q
        · exact t1 c' q
        · rw [show c' = c by omega]; exact ⟨t2, t3, h2 h0⟩
      unfold M_byClasses_J107
      refine ev_rI hc (by decide) ?_
      refine ev_if (fun h1 => next st (PS.rf hP.1) (fun _ h => absurd h1 h.2.2)) (fun h1 => ?_)
      have n1 := hP.1.2.2.2.2.2 1 c (by omega) ⟨hc, h1⟩
      refine ev_oR (m_look hI hP.1.1 hP.1.2.1 (by omega) look_hnd (kd := 1) (w := 0) (s := 0) hc (by omega) (by omega) (by omega) 1 0) (fun v hv => ?_)
      obtain ⟨o, rfl, ho⟩ := hv
      rw [wtd_sel] at ho
      refine ev_oR (ps_needMember_o hI hP.1 (o := o) (fun x hx => ?_)) (fun m1 e1 => next m1 e1.1 (fun _ _ x hx => ?_))
      · subst hx
        exact ⟨by have := (LK_lt ho).1.1; omega, c3 n1 x ho⟩
      · exact ⟨by omega, e1.2 x (LK_unique hI ho hx)⟩
    have J77 : ∀ st, PS σ m st → (0 < c → sm st 2 (sup σ c)) → ND σ 2 c → QF st (fun S => (∀ c', c' < c → CLc σ S c') ∧ (0 < c → S 0 c → S 0 (sup σ c) ∧ ∀ u, u < c → hasF σ c u → S 0 u)) → Ev (M_byClasses_J77 N (fun st => M_byClasses_J138 N st) self st (nI c)) (fun m' => PS σ m m' ∧ QF m' (fun S => (∀ c, c < 10 → CLc σ S c) ∧ ∀ x, x < σ 0 0 → S 3 x → S 0 (σ 8 x))) := by
      intro st hP hs n2 hT
      have go : ∀ st', PS σ st st' → (∀ x, own σ c 30 x → σ 11 x / 2 % 2 = 1 → sm st' 3 x) → Ev (M_byClasses_J107 N (fun st => M_byClasses_J138 N st) self st' (nI c)) (fun m' => PS σ m m' ∧ QF m' (fun S => (∀ c, c < 10 → CLc σ S c) ∧ ∀ x, x < σ 0 0 → S 3 x → S 0 (σ 8 x))) := by
        intro st' h1 h2
        refine J107 st' (hP.tr h1) (fun h0 => ?_)
        obtain ⟨t1, t2⟩ := (h1.tp hT) h0
        exact ⟨t1, t2, fun _ => ⟨fun h => ⟨by omega, h1.up (by omega) (hs h)⟩, fun x h3 h4 => ⟨by omega, h2 x h3 h4⟩⟩⟩
      unfold M_byClasses_J77
      refine ev_oR (m_own hI hP.1.1 (by omega) (kd := 1) (w := 7) (s := 0) hc (by omega) (by omega) (by omega)) (fun v hv => ?_)
      rcases hv with ⟨rfl, hv⟩ | ⟨x, rfl, hx⟩
      · rw [if_pos (by decide)]
        exact go st (PS.rf hP.1) (fun x h => absurd h (hv x))
      · have hxn := hx.1.1
        rw [if_neg (nI_pos (by omega))]
        refine ev_rI (by omega) (by decide) ?_
        rw [hP.1.1.mb 11 (by omega) (by omega) hxn]
        have b11 := (hI.2.2.2.1 x hxn).2.2.2.1
        refine ev_if (fun h1 => go st (PS.rf hP.1) (fun y h h2 => ?_)) (fun h1 => ?_)
        · rw [hI.2.2.2.2.2.1 _ _ y x h hx] at h2
          exact absurd h2 ((fl2 _ b11).mp h1)
        · have h1 : σ 11 x / 2 % 2 = 1 := Classical.byContradiction (fun q => h1 ((fl2 _ b11).mpr q))
          refine ev_oR (ps_needMember hP.1 (x := x) (by omega) ((c2 n2).2 x hx h1)) (fun m1 e1 => go m1 e1.1 (fun y h _ => ?_))
          rw [hI.2.2.2.2.2.1 _ _ y x h hx]; exact e1.2
    have J59 : ∀ st s, PS σ m st → (0 < c → s = nI (sup σ c)) → QF st (fun S => (∀ c', c' < c → CLc σ S c') ∧ (0 < c → S 0 c → S 0 (sup σ c) ∧ ∀ u, u < c → hasF σ c u → S 0 u)) → Ev (M_byClasses_J59 N (fun st => M_byClasses_J138 N st) self st (nI c) s) (fun m' => PS σ m m' ∧ QF m' (fun S => (∀ c, c < 10 → CLc σ S c) ∧ ∀ x, x < σ 0 0 → S 3 x → S 0 (σ 8 x))) := by
      intro st s hP hs hT
      unfold M_byClasses_J59
      refine ev_rI hc (by decide) ?_
      refine ev_if (fun h1 => J107 st hP (fun h0 => ⟨(hT h0).1, (hT h0).2, fun h => absurd h1 h.2.2⟩)) (fun h1 => ?_)
      have n2 := hP.1.2.2.2.2.2 2 c (by omega) ⟨hc, h1⟩
      refine ev_le c 0 (fun h2 => J77 st hP (fun h => by omega) n2 hT) (fun h2 => ?_)
      rw [hs h2]
      refine ev_oR (ps_start hP.1 (x := sup σ c) (by have := sup_lt hI h2 hc; omega) ((c2 n2).1 h2)) (fun m1 e1 => ?_)
      exact J77 m1 (hP.tr e1.1) (fun _ => e1.2) n2 (e1.1.tp hT)
    rcases Nat.eq_zero_or_pos c with h0 | h0
    · subst h0
      have e : M_superOf st (nI 0) = some (-1) := by unfold M_superOf; rw [if_pos nI_0]
      rw [pu_oR e]
      refine ev_rI hc (by decide) ?_
      have g : Ev (M_byClasses_J59 N (fun st => M_byClasses_J138 N st) self st (nI 0) (-1)) (fun m' => PS σ m m' ∧ QF m' (fun S => (∀ c, c < 10 → CLc σ S c) ∧ ∀ x, x < σ 0 0 → S 3 x → S 0 (σ 8 x))) := J59 st (-1) hP (fun h => by omega) (fun h0 => ⟨hT h0, fun h => by omega⟩)
      refine ev_if (fun _ => g) (fun _ => ?_)
      rw [if_pos (by decide)]
      exact g
    · have hs := sup_lt hI h0 hc
      rw [pu_oR (m_superOf hI hP.1.1 hc h0)]
      refine ev_rI hc (by decide) ?_
      refine ev_if (fun h1 => J59 st _ hP (fun _ => rfl) (fun h => ⟨hT h, fun _ h2 => absurd h1 h2.2.2⟩)) (fun h1 => ?_)
      have n0 := c1 h0 (hP.1.2.2.2.2.2 0 c (by omega) ⟨hc, h1⟩)
      rw [if_neg (nI_nle h0 (by omega))]
      refine ev_oR (ps_needClass hP.1 (x := sup σ c) (by omega) n0.1) (fun m1 e1 => ?_)
      refine ev_lp (fun k z => ∃ st u, z = (st, nI c, nI (sup σ c), nI u) ∧ u + k = c ∧ 1 ≤ u ∧ PS σ m st ∧ sm st 0 (sup σ c) ∧ QF st (fun S => (∀ c', c' < c → CLc σ S c') ∧ ∀ u', u' < u → hasF σ c u' → S 0 u')) ?_ N (c - 1) _ (by omega) ⟨m1, 1, rfl, by omega, by omega, hP.tr e1.1, e1.2, fun h => ⟨(e1.1.tp hT) h, fun u' h1 h2 => ?_⟩⟩
      · rintro k3 z self3 ⟨st, u, rfl, hk3, hu1, hP, hsp, hT⟩ ih3
        unfold M_byClasses_L34
        dsimp only
        refine ev_le c u (fun h => J59 st _ hP (fun _ => rfl) (fun h2 => ⟨(hT h2).1, fun _ _ => ⟨⟨by omega, hsp⟩, fun u' h3 => (hT h2).2 u' (by omega)⟩⟩)) (fun hu => ?_)
        have next : ∀ st', PS σ st st' → QF st' (fun S => hasF σ c u → S 0 u) → Ev (self3 (st', nI c, nI (sup σ c), nI u + 1)) (fun m' => PS σ m m' ∧ QF m' (fun S => (∀ c, c < 10 → CLc σ S c) ∧ ∀ x, x < σ 0 0 → S 3 x → S 0 (σ 8 x))) := by
          intro st' h1 h2
          rw [nI_1]
          refine ih3 (k3 - 1) _ (by omega) ⟨st', u + 1, rfl, by omega, by omega, hP.tr h1, h1.up (by omega) hsp, fun h0 => ⟨((h1.tp hT) h0).1, fun x' hx' => ?_⟩⟩
          rcases Nat.lt_or_ge x' u with q | q
          · exact ((h1.tp hT) h0).2 x' q
          · rw [show x' = u by omega]; exact h2 h0
        refine ev_oR (m_hasFace hI hP.1.1 hc (u := u) (by omega)) (fun v hv => ?_)
        rcases hv with ⟨rfl, hv⟩ | ⟨rfl, hv⟩
        · rw [if_pos rfl]
          exact next st (PS.rf hP.1) (fun _ h => absurd h hv)
        · rw [if_neg (by decide)]
          refine ev_oR (ps_needClass hP.1 (x := u) (by omega) (n0.2 u hu hv)) (fun m2 e2 => ?_)
          exact next m2 e2.1 (fun _ _ => ⟨by omega, e2.2⟩)
      · have := h2.2.2
        rw [show u' = 0 by omega, hI.2.2.1.2.1] at this
        omega
end
