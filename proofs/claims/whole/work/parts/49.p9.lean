/-! what is kept, used, new names and texts -/
def kn (σ : Ab) (c : Nat) : Prop := c = 0 ∨ ∃ r, r < σ 0 3 ∧ σ 20 r < 2 ∧ abt σ r c
def kt (σ : Ab) (g : Nat) : Prop := 28 ≤ g ∨ g = 16 ∨ ∃ x r, alive σ x ∧ sgn σ x = g ∧ r < σ 0 3 ∧ (σ 20 r ≠ 2 ∨ ND σ 0 (σ 8 x)) ∧ mnt σ r x
def us (σ : Ab) (g : Nat) : Prop := ∃ x, alive σ x ∧ ND σ 3 x ∧ sgn σ x = g
noncomputable def cI (p : Prop) (a b : Nat) : Nat := @ite Nat p (Classical.propDecidable p) a b
theorem cI_y {p : Prop} (h : p) (a b : Nat) : cI p a b = a := @if_pos p (Classical.propDecidable p) h Nat a b
theorem cI_n {p : Prop} (h : ¬ p) (a b : Nat) : cI p a b = b := @if_neg p (Classical.propDecidable p) h Nat a b
noncomputable def ct (P : Nat → Prop) : Nat → Nat
  | 0 => 0
  | n + 1 => ct P n + cI (P n) 1 0
theorem ct_y {P : Nat → Prop} {n : Nat} (h : P n) : ct P (n + 1) = ct P n + 1 := by simp only [ct]; rw [cI_y h]
theorem ct_n {P : Nat → Prop} {n : Nat} (h : ¬ P n) : ct P (n + 1) = ct P n := by simp only [ct]; rw [cI_n h]; rfl
theorem ct_le (P : Nat → Prop) (n : Nat) : ct P n ≤ n := by
  induction n with
  | zero => exact Nat.le_refl 0
  | succ n ih => by_cases q : P n
                 · rw [ct_y q]; omega
                 · rw [ct_n q]; omega
theorem ct_cong {P Q : Nat → Prop} {n : Nat} (h : ∀ i, i < n → (P i ↔ Q i)) : ct P n = ct Q n := by
  induction n with
  | zero => rfl
  | succ n ih =>
    have e := ih (fun i hi => h i (by omega))
    by_cases q : P n
    · rw [ct_y q, ct_y ((h n (by omega)).mp q), e]
    · rw [ct_n q, ct_n (fun z => q ((h n (by omega)).mpr z)), e]
theorem ct_mono {P : Nat → Prop} {a b : Nat} (h : a ≤ b) : ct P a ≤ ct P b := by
  induction b with
  | zero => rw [show a = 0 by omega]; exact Nat.le_refl _
  | succ b ih =>
    rcases Nat.lt_or_ge a (b + 1) with q | q
    · have := ih (by omega)
      by_cases q : P b
      · rw [ct_y q]; omega
      · rw [ct_n q]; omega
    · rw [show a = b + 1 by omega]; exact Nat.le_refl _
theorem ct_z {P : Nat → Prop} {n : Nat} (h : ∀ i, i < n → ¬ P i) : ct P n = 0 := by
  induction n with
  | zero => rfl
  | succ n ih => rw [ct_n (h n (by omega)), ih (fun i hi => h i (by omega))]
def nP (σ : Ab) (d : Nat) : Prop := ND σ 0 d ∧ ¬ kn σ d
def tP (σ : Ab) (g w : Nat) : Prop := us σ (16 * (g / 16) + 2 * w + g % 2) ∧ ¬ kt σ (16 * (g / 16) + 2 * w + g % 2)
noncomputable def nnl (σ : Ab) (c : Nat) : Nat := cI (kn σ c) 3 1
noncomputable def nnx (σ : Ab) (c i : Nat) : Nat := cI (kn σ c) (nmx (σ 4 c) c i) (97 + ct (nP σ) c)
noncomputable def ntl (σ : Ab) (g : Nat) : Nat := cI (kt σ g) (wln (g / 2 % 8)) 1
noncomputable def ntx (σ : Ab) (g i : Nat) : Nat := cI (kt σ g) (wdx (g / 2 % 8) i) (97 + ct (tP σ g) (g / 2 % 8))
section
variable {σ : Ab} {m : sk_M} {N : Nat}
theorem FS.mt {m' : sk_M} (h : FS σ m) (t : Mt m m') : FS σ m' := ⟨h.1.same t.mb, t.AB h.2.1, t.AT h.2.2.1, fun i x h1 h2 => by rw [t _ x (by omega) (by omega) (by omega) (by omega)]; exact h.2.2.2 i x h1 h2⟩
theorem FS.nC (h : FS σ m) {c : Nat} (hc : c < 10) : m.1 35 c = 0 ↔ ¬ ND σ 0 c := h.2.2.2 0 c (by omega) hc
theorem FS.nM (h : FS σ m) {x : Nat} (hx : x < 40) : m.1 38 x = 0 ↔ ¬ ND σ 3 x := h.2.2.2 3 x (by omega) hx
theorem m_keepsName (hI : IA σ) (hF : FS σ m) (hN : 80 < N) {c : Nat} (hc : c < 10) : Ev (M_keepsName N m (nI c)) (fun r => (r = 0 ∧ ¬ kn σ c) ∨ (r = 1 ∧ kn σ c)) := by
  have h8 := hI.1.2.2.2.2
  unfold M_keepsName
  refine ev_qn c 0 (fun h => ev_some (Or.inr ⟨rfl, Or.inl h⟩)) (fun h0 => ?_)
  refine ev_lp (fun k z => ∃ r, z = (nI c, nI r) ∧ r + k = σ 0 3 ∧ ∀ r', r' < r → ¬ (σ 20 r' < 2 ∧ abt σ r' c)) ?_ N (σ 0 3) _ (by omega) ⟨0, rfl, by omega, fun x h => by omega⟩
  rintro k z self ⟨r, rfl, hk, hno⟩ ih
  have hR := hF.1
  unfold M_keepsName_L8
  dsimp only
  refine ev_le (σ 0 3) r (hu := hR.1 3 (by omega)) (fun h => ev_some (Or.inl ⟨rfl, fun h => ?_⟩)) (fun hr => ?_)
  · rcases h with h | ⟨r', h1, h2⟩
    · exact h0 h
    · exact hno r' (by omega) h2
  · have next : ¬ (σ 20 r < 2 ∧ abt σ r c) → Ev (self (nI c, nI r + 1)) (fun r => (r = 0 ∧ ¬ kn σ c) ∨ (r = 1 ∧ kn σ c)) := fun hx => by
      rw [nI_1]
      exact ih (k - 1) _ (by omega) ⟨r + 1, rfl, by omega, fun x h => by rcases Nat.lt_or_ge x r with q | q; exact hno x q; rw [show x = r by omega]; exact hx⟩
    have s2 := (hI.2.2.2.2.2.2.2.2 r hr).1
    refine ev_rI (by omega) (by decide) ?_
    refine ev_le 2 (σ 20 r) (hv := (hR.2.2.2.2.2 r hr).1) (fun h1 => next (fun h => by have := h.1; omega)) (fun h1 => ?_)
    rw [show (10 : Int32) * nI r = nI (10 * r) from pk_mul 10 r, nI_add]
    refine ev_rI (by omega) (by decide) ?_
    refine ev_if (fun h2 => next (fun h => (hF.2.2.1 r c hr hc).mp h2 h.2)) (fun h2 => ev_some (Or.inr ⟨rfl, Or.inr ⟨r, hr, h1, Classical.byContradiction (fun q => h2 ((hF.2.2.1 r c hr hc).mpr q))⟩⟩))
theorem m_keepsText (hI : IA σ) (hF : FS σ m) (hN : 80 < N) {kd w s : Nat} (hk : kd < 2) (hw : w < 8) (hs : s < 2) (hkw : kd = 0 → w < 6) : Ev (M_keepsText N m (nI kd) (nI w) (nI s)) (fun z => Mt m z.2 ∧ ((z.1 = 0 ∧ ¬ kt σ (16 * kd + 2 * w + s)) ∨ (z.1 = 1 ∧ kt σ (16 * kd + 2 * w + s)))) := by
  have hn := hI.1.2.1
  have h8 := hI.1.2.2.2.2
  have J20 : ¬ 28 ≤ 16 * kd + 2 * w + s → ¬ 16 * kd + 2 * w + s = 16 → Ev (M_keepsText_J20 N m (nI kd) (nI w) (nI s)) (fun z => Mt m z.2 ∧ ((z.1 = 0 ∧ ¬ kt σ (16 * kd + 2 * w + s)) ∨ (z.1 = 1 ∧ kt σ (16 * kd + 2 * w + s)))) := by
    intro n1 n2
    unfold M_keepsText_J20
    refine ev_lp (fun k z => ∃ st x, z = (st, nI kd, nI w, nI s, nI x) ∧ x + k = σ 0 0 ∧ Mt m st ∧ ∀ x', x' < x → ¬ (alive σ x' ∧ sgn σ x' = 16 * kd + 2 * w + s ∧ ∃ r, r < σ 0 3 ∧ (σ 20 r ≠ 2 ∨ ND σ 0 (σ 8 x')) ∧ mnt σ r x')) ?_ N (σ 0 0 - 1) _ (by omega) ⟨m, 1, rfl, by have := hI.1.1; omega, Mt.rf, fun x h hh => ?_⟩
    · rintro k z self ⟨st, x, rfl, hk, ht, hno⟩ ih
      have hF1 := hF.mt ht
      have hR := hF1.1
      unfold M_keepsText_L23
      dsimp only
      refine ev_le (σ 0 0) x (hu := hR.nm) (fun h => ev_some ⟨ht, Or.inl ⟨rfl, fun h => ?_⟩⟩) (fun hx => ?_)
      · rcases h with h | h | ⟨x', r, h1, h2, h3⟩
        · exact n1 h
        · exact n2 h
        · exact hno x' (by have := h1.1; omega) ⟨h1, h2, r, h3⟩
      · obtain ⟨b8, b9, b10, b11, b12, _⟩ := hI.2.2.2.1 x hx
        have next : ∀ st', Mt m st' → ¬ (alive σ x ∧ sgn σ x = 16 * kd + 2 * w + s ∧ ∃ r, r < σ 0 3 ∧ (σ 20 r ≠ 2 ∨ ND σ 0 (σ 8 x)) ∧ mnt σ r x) → Ev (M_keepsText_J149 N self st' (nI kd) (nI w) (nI s) (nI x)) (fun z => Mt m z.2 ∧ ((z.1 = 0 ∧ ¬ kt σ (16 * kd + 2 * w + s)) ∨ (z.1 = 1 ∧ kt σ (16 * kd + 2 * w + s)))) := fun st' ht' hx' => by
          unfold M_keepsText_J149
          rw [nI_1]
          exact ih (k - 1) _ (by omega) ⟨st', x + 1, rfl, by omega, ht', fun y h => by rcases Nat.lt_or_ge y x with q | q; exact hno y q; rw [show y = x by omega]; exact hx'⟩
        refine ev_rI (by omega) (by decide) ?_
        refine ev_qn (σ 12 x) 0 (hu := hR.mb 12 (by omega) (by omega) hx) (fun h1 => ?_) (fun h1 => next st ht (fun h => h1 h.1.2))
        refine ev_rI (by omega) (by decide) ?_
        rw [hR.mb 11 (by omega) (by omega) hx, nI_and1 _ (by omega)]
        refine ev_qn (σ 11 x % 2) kd (fun h2 => ?_) (fun h2 => next st ht (fun h => by have := h.2.1; unfold sgn at this; omega))
        refine ev_rI (by omega) (by decide) ?_
        refine ev_qn (σ 9 x) w (hu := hR.mb 9 (by omega) (by omega) hx) (fun h3 => ?_) (fun h3 => next st ht (fun h => by have := h.2.1; unfold sgn at this; omega))
        refine ev_rI (by omega) (by decide) ?_
        refine ev_qn (σ 10 x) s (hu := hR.mb 10 (by omega) (by omega) hx) (fun h4 => ?_) (fun h4 => next st ht (fun h => by have := h.2.1; unfold sgn at this; omega))
        have hsg : sgn σ x = 16 * kd + 2 * w + s := by unfold sgn; omega
        refine ev_lp (fun k z => ∃ st r, z = (st, nI kd, nI w, nI s, nI x, nI r) ∧ r + k = σ 0 3 ∧ Mt m st ∧ ∀ r', r' < r → ¬ ((σ 20 r' ≠ 2 ∨ ND σ 0 (σ 8 x)) ∧ mnt σ r' x)) ?_ N (σ 0 3) _ (by omega) ⟨st, 0, rfl, by omega, ht, fun r h => by omega⟩
        rintro k2 z self2 ⟨st, r, rfl, hk2, ht, hno2⟩ ih2
        have hF1 := hF.mt ht
        have hR := hF1.1
        unfold M_keepsText_L83
        dsimp only
        refine ev_le (σ 0 3) r (hu := hR.1 3 (by omega)) (fun h => next st ht (fun h => ?_)) (fun hr => ?_)
        · obtain ⟨r', h5, h6⟩ := h.2.2
          exact hno2 r' (by omega) h6
        · have s2 := (hI.2.2.2.2.2.2.2.2 r hr).1
          have next2 : ∀ st', Mt m st' → ¬ ((σ 20 r ≠ 2 ∨ ND σ 0 (σ 8 x)) ∧ mnt σ r x) → Ev (self2 (st', nI kd, nI w, nI s, nI x, nI r + 1)) (fun z => Mt m z.2 ∧ ((z.1 = 0 ∧ ¬ kt σ (16 * kd + 2 * w + s)) ∨ (z.1 = 1 ∧ kt σ (16 * kd + 2 * w + s)))) := fun st' ht' hx' => by
            rw [nI_1]
            exact ih2 (k2 - 1) _ (by omega) ⟨st', r + 1, rfl, by omega, ht', fun y h => by rcases Nat.lt_or_ge y r with q | q; exact hno2 y q; rw [show y = r by omega]; exact hx'⟩
          have J118 : (σ 20 r ≠ 2 ∨ ND σ 0 (σ 8 x)) → Ev (M_keepsText_J118 N (fun st v1 v2 v3 v4 => M_keepsText_J149 N self st v1 v2 v3 v4) self2 st (nI kd) (nI w) (nI s) (nI x) (nI r)) (fun z => Mt m z.2 ∧ ((z.1 = 0 ∧ ¬ kt σ (16 * kd + 2 * w + s)) ∨ (z.1 = 1 ∧ kt σ (16 * kd + 2 * w + s)))) := by
            intro h5
            unfold M_keepsText_J118
            refine ev_oW (m_isMeant hI hR hF1.2.2.1 hN hr hx) (fun y m1 h6 => ?_)
            rcases h6.2 with ⟨rfl, h7⟩ | ⟨rfl, h7⟩
            · rw [if_pos rfl]
              unfold M_keepsText_J133 M_keepsText_J134
              rw [if_pos rfl]
              exact next2 m1 (ht.tr h6.1) (fun h => h7 h.2)
            · rw [if_neg (by decide)]
              unfold M_keepsText_J134
              rw [if_neg (by decide)]
              exact ev_some ⟨ht.tr h6.1, Or.inr ⟨rfl, Or.inr (Or.inr ⟨x, r, ⟨hx, h1⟩, hsg, hr, h5, h7⟩)⟩⟩
          refine ev_rI (by omega) (by decide) ?_
          refine ev_qn (σ 20 r) 2 (hu := (hR.2.2.2.2.2 r hr).1) (fun h5 => ?_) (fun h5 => J118 (Or.inl h5))
          refine ev_rI (by omega) (by decide) ?_
          rw [hR.mb 8 (by omega) (by omega) hx]
          refine ev_rI (by omega) (by decide) ?_
          refine ev_if (fun h6 => ?_) (fun h6 => J118 (Or.inr (Classical.byContradiction (fun q => h6 ((hF1.nC b8).mpr q)))))
          unfold M_keepsText_J133 M_keepsText_J134
          rw [if_pos rfl]
          exact next2 st ht (fun h => h.1.elim (fun q => q h5) ((hF1.nC b8).mp h6))
    · obtain ⟨_, _, r, _, _, hm⟩ := hh
      have := hm.2.1.1
      rw [show x = 0 by omega, hI.2.2.2.2.1.1] at this; omega
  unfold M_keepsText
  refine ev_qn kd 1 (fun h1 => ?_) (fun h1 => J20 (by omega) (by omega))
  refine ev_lt 5 w (fun h2 => ev_some ⟨Mt.rf, Or.inr ⟨rfl, Or.inl (by omega)⟩⟩) (fun h2 => ?_)
  refine ev_qn w 0 (fun h3 => ?_) (fun h3 => J20 (by omega) (by omega))
  refine ev_qn s 0 (fun h4 => ev_some ⟨Mt.rf, Or.inr ⟨rfl, Or.inr (Or.inl (by omega))⟩⟩) (fun h4 => J20 (by omega) (by omega))
theorem m_isUsed (hI : IA σ) (hF : FS σ m) (hN : 80 < N) {kd w s : Nat} (hk : kd < 2) (hw : w < 8) (hs : s < 2) : Ev (M_isUsed N m (nI kd) (nI w) (nI s)) (fun r => (r = 0 ∧ ¬ us σ (16 * kd + 2 * w + s)) ∨ (r = 1 ∧ us σ (16 * kd + 2 * w + s))) := by
  have hn := hI.1.2.1
  have hR := hF.1
  unfold M_isUsed
  refine ev_lp (fun k z => ∃ x, z = (nI kd, nI w, nI s, nI x) ∧ x + k = σ 0 0 ∧ ∀ x', x' < x → ¬ (alive σ x' ∧ ND σ 3 x' ∧ sgn σ x' = 16 * kd + 2 * w + s)) ?_ N (σ 0 0) _ (by omega) ⟨0, rfl, by omega, fun x h => by omega⟩
  rintro k z self ⟨x, rfl, hk, hno⟩ ih
  unfold M_isUsed_L3
  dsimp only
  refine ev_le (σ 0 0) x (hu := hR.nm) (fun h => ev_some (Or.inl ⟨rfl, fun h => ?_⟩)) (fun hx => ?_)
  · obtain ⟨x', h1, h2⟩ := h
    exact hno x' (by have := h1.1; omega) ⟨h1, h2⟩
  · obtain ⟨b8, b9, b10, b11, b12, _⟩ := hI.2.2.2.1 x hx
    have next : ¬ (alive σ x ∧ ND σ 3 x ∧ sgn σ x = 16 * kd + 2 * w + s) → Ev (self (nI kd, nI w, nI s, nI x + 1)) (fun r => (r = 0 ∧ ¬ us σ (16 * kd + 2 * w + s)) ∨ (r = 1 ∧ us σ (16 * kd + 2 * w + s))) := fun hx' => by
      rw [nI_1]
      exact ih (k - 1) _ (by omega) ⟨x + 1, rfl, by omega, fun y h => by rcases Nat.lt_or_ge y x with q | q; exact hno y q; rw [show y = x by omega]; exact hx'⟩
    refine ev_rI (by omega) (by decide) ?_
    refine ev_qn (σ 12 x) 0 (hu := hR.mb 12 (by omega) (by omega) hx) (fun h1 => ?_) (fun h1 => next (fun h => h1 h.1.2))
    refine ev_rI (by omega) (by decide) ?_
    refine ev_if (fun h5 => next (fun h => (hF.nM (by omega)).mp h5 h.2.1)) (fun h5 => ?_)
    refine ev_rI (by omega) (by decide) ?_
    rw [hR.mb 11 (by omega) (by omega) hx, nI_and1 _ (by omega)]
    refine ev_qn (σ 11 x % 2) kd (fun h2 => ?_) (fun h2 => next (fun h => by have := h.2.2; unfold sgn at this; omega))
    refine ev_rI (by omega) (by decide) ?_
    refine ev_qn (σ 9 x) w (hu := hR.mb 9 (by omega) (by omega) hx) (fun h3 => ?_) (fun h3 => next (fun h => by have := h.2.2; unfold sgn at this; omega))
    refine ev_rI (by omega) (by decide) ?_
    refine ev_qn (σ 10 x) s (hu := hR.mb 10 (by omega) (by omega) hx) (fun h4 => ?_) (fun h4 => next (fun h => by have := h.2.2; unfold sgn at this; omega))
    exact ev_some (Or.inr ⟨rfl, x, ⟨hx, h1⟩, Classical.byContradiction (fun q => h5 ((hF.nM (by omega)).mpr q)), by unfold sgn; omega⟩)
theorem m_one {v : Int32} {tx : Nat → Nat} (hv : v = nI (tx 0)) : Ev (M_put (sk_wi m 0 5 0) v) (fun m' => Mt m m' ∧ TX m' tx 1) := by
  have h0 : TX (sk_wi m 0 5 0) tx 0 := ⟨by rw [pu_wi1, if_pos ⟨rfl, rfl⟩]; rfl, fun i hi => by omega⟩
  have t0 : Mt m (sk_wi m 0 5 0) := fun q i h1 h2 h3 h4 => by rw [pu_wi1, if_neg (fun z => h4 z.1 z.2)]
  exact (m_putT (by omega) h0 hv).mono (fun m' h => ⟨t0.tr h.1, h.2⟩)
theorem m_newName (hI : IA σ) (hF : FS σ m) (hN : 80 < N) {c : Nat} (hc : c < 10) : Ev (M_newName N m (nI c)) (fun m' => Mt m m' ∧ TX m' (nnx σ c) (nnl σ c)) := by
  unfold M_newName
  refine ev_oR (m_keepsName hI hF hN hc) (fun v hv => ?_)
  rcases hv with ⟨rfl, hv⟩ | ⟨rfl, hv⟩
  · rw [if_pos rfl]
    have hc0 : 0 < c := by
      rcases Nat.eq_zero_or_pos c with q | q
      · exact absurd (Or.inl q) hv
      · exact q
    have e1 : ct (nP σ) 1 = 0 := ct_z (fun i hi h => h.2 (Or.inl (by omega)))
    refine ev_lp (fun k z => ∃ d, z = (m, nI c, nI (ct (nP σ) d), nI d) ∧ d + k = c ∧ 1 ≤ d) ?_ N (c - 1) _ (by omega) ⟨1, by rw [e1]; rfl, by omega, by omega⟩
    rintro k z self ⟨d, rfl, hk, hd⟩ ih
    unfold M_newName_L21
    dsimp only
    refine ev_le c d (fun h => ?_) (fun hdc => ?_)
    · unfold M_newName_J59
      have e : d = c := by omega
      subst e
      refine ev_fI ?_
      refine ev_oR (m_one (tx := nnx σ d) (by unfold nnx; rw [cI_n hv]; exact nI_add 97 _)) (fun m1 h1 => ev_some ⟨h1.1, ?_⟩)
      unfold nnl
      rw [cI_n hv]; exact h1.2
    · refine ev_oR (m_keepsName hI hF hN (c := d) (by omega)) (fun v2 hv2 => ?_)
      refine ev_rI (by omega) (by decide) ?_
      refine ev_if (fun h1 => ?_) (fun h1 => ?_)
      · rw [nI_1]
        exact ih (k - 1) _ (by omega) ⟨d + 1, by rw [ct_n (fun h => (hF.nC (by omega)).mp h1 h.1)], by omega, by omega⟩
      · have h1 : ND σ 0 d := Classical.byContradiction (fun q => h1 ((hF.nC (by omega)).mpr q))
        rcases hv2 with ⟨rfl, hv2⟩ | ⟨rfl, hv2⟩
        · rw [if_pos rfl, nI_1, nI_1]
          exact ih (k - 1) _ (by omega) ⟨d + 1, by rw [ct_y (P := nP σ) ⟨h1, hv2⟩], by omega, by omega⟩
        · rw [if_neg (by decide), nI_1]
          exact ih (k - 1) _ (by omega) ⟨d + 1, by rw [ct_n (fun h => h.2 hv2)], by omega, by omega⟩
  · rw [if_neg (by decide)]
    refine ev_oR (m_className hI hF.1 hc) (fun m1 h1 => ev_some ⟨h1.1, ?_, fun i hi => ?_⟩)
    · unfold nnl; rw [cI_y hv]; exact h1.2.1
    · unfold nnl at hi; rw [cI_y hv] at hi
      unfold nnx; rw [cI_y hv]; exact h1.2.2 i hi
theorem m_newText (hI : IA σ) (hF : FS σ m) (hN : 80 < N) {x : Nat} (hx : x < σ 0 0) : Ev (M_newText N m (nI x)) (fun m' => Mt m m' ∧ TX m' (ntx σ (sgn σ x)) (ntl σ (sgn σ x))) := by
  have hn := hI.1.2.1
  obtain ⟨b8, b9, b10, b11, b12, _, b15, _⟩ := hI.2.2.2.1 x hx
  have hR := hF.1
  have sw : sgn σ x / 2 % 8 = σ 9 x := by unfold sgn; omega
  have sk : sgn σ x / 16 = σ 11 x % 2 := by unfold sgn; omega
  have ss : sgn σ x % 2 = σ 10 x := by unfold sgn; omega
  unfold M_newText
  refine ev_rI (by omega) (by decide) ?_
  refine ev_rI (by omega) (by decide) ?_
  refine ev_rI (by omega) (by decide) ?_
  rw [hR.mb 11 (by omega) (by omega) hx, hR.mb 10 (by omega) (by omega) hx, hR.mb 9 (by omega) (by omega) hx, nI_and1 _ (by omega)]
  refine ev_oW (m_keepsText hI hF hN (by omega) b9 b10 b15) (fun v m1 hv => ?_)
  obtain ⟨ht, hv⟩ := hv
  have sg : 16 * (σ 11 x % 2) + 2 * σ 9 x + σ 10 x = sgn σ x := rfl
  rw [sg] at hv
  rcases hv with ⟨rfl, hv⟩ | ⟨rfl, hv⟩
  · rw [if_pos rfl]
    refine ev_lp (fun k z => ∃ st w, z = (st, nI x, nI (σ 11 x % 2), nI (σ 10 x), nI (97 + ct (tP σ (sgn σ x)) (min w (σ 9 x))), nI w) ∧ w + k = σ 9 x + 1 ∧ Mt m st) ?_ N (σ 9 x + 1) _ (by omega) ⟨m1, 0, by rw [Nat.zero_min]; rfl, by omega, ht⟩
    rintro k z self ⟨st, w, rfl, hk, ht⟩ ih
    have hF1 := hF.mt ht
    have hR1 := hF1.1
    unfold M_newText_L53
    dsimp only
    refine ev_rI (by omega) (by decide) ?_
    refine ev_lt (σ 9 x) w (hu := hR1.mb 9 (by omega) (by omega) hx) (fun h => ?_) (fun hw => ?_)
    · unfold M_newText_J138
      refine ev_fI ?_
      refine ev_oR (m_one (m := st) (tx := ntx σ (sgn σ x)) (by unfold ntx; rw [cI_n hv, sw, Nat.min_eq_right (by omega)])) (fun m2 h2 => ev_some ⟨ht.tr h2.1, ?_⟩)
      unfold ntl
      rw [cI_n hv]; exact h2.2
    · rw [Nat.min_eq_left hw]
      have cl := ct_le (tP σ (sgn σ x)) w
      have eq : 16 * (σ 11 x % 2) + 2 * w + σ 10 x = 16 * (sgn σ x / 16) + 2 * w + sgn σ x % 2 := by rw [sk, ss]
      have no : ∀ st, Mt m st → ¬ tP σ (sgn σ x) w → Ev (self (st, nI x, nI (σ 11 x % 2), nI (σ 10 x), nI (97 + ct (tP σ (sgn σ x)) w), nI w + 1)) (fun m' => Mt m m' ∧ TX m' (ntx σ (sgn σ x)) (ntl σ (sgn σ x))) := fun st ht hno => by
        rw [nI_1]
        refine ih (k - 1) _ (by omega) ⟨st, w + 1, ?_, by omega, ht⟩
        rcases Nat.lt_or_ge w (σ 9 x) with q | q
        · rw [Nat.min_eq_left (by omega), ct_n hno]
        · rw [Nat.min_eq_right (by omega), show w = σ 9 x by omega]
      refine ev_oR (m_isUsed hI hF1 hN (by omega) (by omega) b10) (fun v2 hv2 => ?_)
      rw [eq] at hv2
      rcases hv2 with ⟨rfl, hv2⟩ | ⟨rfl, hv2⟩
      · rw [if_pos rfl]
        unfold M_newText_J90 M_newText_J91
        rw [if_pos rfl]
        exact no st ht (fun h => hv2 h.1)
      · rw [if_neg (by decide)]
        refine ev_oW (m_keepsText hI hF1 hN (by omega) (w := w) (by omega) b10 (fun h => by have := b15 h; omega)) (fun v3 m3 hv3 => ?_)
        rw [eq] at hv3
        obtain ⟨ht3, hv3⟩ := hv3
        have ht3 := ht.tr ht3
        rcases hv3 with ⟨rfl, hv3⟩ | ⟨rfl, hv3⟩
        · rw [if_pos rfl]
          unfold M_newText_J91
          rw [if_neg (by decide)]
          have yes : tP σ (sgn σ x) w := ⟨hv2, hv3⟩
          rw [pu_lp (by omega)]
          unfold M_newText_L101
          dsimp only
          have hkl : M_isKeptLetter N m3 (nI (σ 11 x % 2)) (nI (σ 10 x)) (nI (97 + ct (tP σ (sgn σ x)) w)) = some (0, m3) := by
            unfold M_isKeptLetter
            rcases in_cases (nI (97 + ct (tP σ (sgn σ x)) w)) (a := 114) (b := 119) (by omega) (by omega) with h | h
            · exact if_pos h.1
            · obtain ⟨j, h1, h2, h3⟩ := h.2
              have := (nI_eq (by omega) (by omega)).mp h3
              omega
          rw [pu_oW hkl, if_pos rfl]
          unfold M_newText_J118
          refine ev_rI (by omega) (by decide) ?_
          refine ev_le (σ 9 x) w (hu := (hF.mt ht3).1.mb 9 (by omega) (by omega) hx) (fun h => ?_) (fun h => ?_)
          · rw [nI_1]
            exact ih (k - 1) _ (by omega) ⟨m3, w + 1, by rw [Nat.min_eq_right (by omega), show w = σ 9 x by omega], by omega, ht3⟩
          · rw [nI_1, nI_1]
            exact ih (k - 1) _ (by omega) ⟨m3, w + 1, by rw [Nat.min_eq_left (by omega), ct_y yes]; rfl, by omega, ht3⟩
        · rw [if_neg (by decide)]
          unfold M_newText_J90 M_newText_J91
          rw [if_pos rfl]
          exact no m3 ht3 (fun h => h.2 hv3)
  · rw [if_neg (by decide)]
    refine ev_rI (by omega) (by decide) ?_
    rw [(hF.mt ht).1.mb 9 (by omega) (by omega) hx]
    refine ev_oR (m_wordText b9) (fun m2 h2 => ev_some ⟨ht.tr h2.1, ?_, fun i hi => ?_⟩)
    · unfold ntl; rw [cI_y hv, sw]; exact h2.2.1
    · unfold ntl at hi; rw [cI_y hv, sw] at hi
      unfold ntx; rw [cI_y hv, sw]; exact h2.2.2 i hi
end
