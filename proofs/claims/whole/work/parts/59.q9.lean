/-! THE MAPPING, as a list of letters -/
def tl (tx : Nat → Nat) (n : Nat) : List Nat := (List.range n).map tx
theorem tl_len (tx : Nat → Nat) (n : Nat) : (tl tx n).length = n := by simp [tl]
theorem tl_succ (tx : Nat → Nat) (n : Nat) : tl tx (n + 1) = tl tx n ++ [tx n] := by simp [tl, List.range_succ]
theorem tl_cong {tx ty : Nat → Nat} {n : Nat} (h : ∀ i, i < n → tx i = ty i) : tl tx n = tl ty n := by
  unfold tl
  apply List.map_congr_left
  intro i hi
  exact h i (List.mem_range.mp hi)
noncomputable def mbL (σ : Ab) (x : Nat) : List Nat := [32] ++ tl (wdx (σ 9 x)) (wln (σ 9 x)) ++ (if σ 11 x % 2 = 1 then [40, 48 + σ 10 x, 41] else []) ++ [32, 45, 62, 32] ++ tl (ntx σ (sgn σ x)) (ntl σ (sgn σ x)) ++ [10]
noncomputable def clL (σ : Ab) (c : Nat) : List Nat := tl (nmx (σ 4 c) c) 3 ++ [32, 45, 62, 32] ++ tl (nnx σ c) (nnl σ c) ++ [58, 10]
noncomputable def memL (σ : Ab) (c : Nat) : Nat → List Nat
  | 0 => []
  | x + 1 => memL σ c x ++ cT (σ 8 x = c ∧ alive σ x ∧ ND σ 3 x) (mbL σ x) []
noncomputable def mpL (σ : Ab) : Nat → List Nat
  | 0 => []
  | c + 1 => mpL σ c ++ cT (0 < c ∧ ND σ 0 c) (clL σ c ++ memL σ c (σ 0 0)) []
noncomputable def mp (σ : Ab) : List Nat := mpL σ 10
theorem mbL_b (σ : Ab) (x : Nat) : (mbL σ x).length ≤ 25 := by
  have h1 := wln_le (σ 9 x)
  have h2 := (ntl_b σ (sgn σ x)).2
  unfold mbL
  simp only [List.length_append, tl_len, List.length_cons, List.length_nil]
  split <;> simp <;> omega
theorem clL_b (σ : Ab) (c : Nat) : (clL σ c).length ≤ 12 := by
  have h : nnl σ c ≤ 3 := by
    unfold nnl
    by_cases h : kn σ c
    · rw [cI_y h]; omega
    · rw [cI_n h]; omega
  unfold clL
  simp only [List.length_append, tl_len, List.length_cons, List.length_nil]
  omega
theorem memL_b (σ : Ab) (c x : Nat) : (memL σ c x).length ≤ 25 * ct (fun y => σ 8 y = c) x := by
  induction x with
  | zero => simp [memL]
  | succ x ih =>
    simp only [memL, List.length_append]
    have hb := mbL_b σ x
    by_cases h : σ 8 x = c ∧ alive σ x ∧ ND σ 3 x
    · rw [cT_y h, ct_y (P := fun y => σ 8 y = c) h.1]; omega
    · rw [cT_n h]
      have := ct_mono (P := fun y => σ 8 y = c) (show x ≤ x + 1 by omega)
      simp only [List.length_nil]
      omega
theorem ct_add {P Q R : Nat → Prop} {n : Nat} (h : ∀ i, i < n → (R i ↔ P i ∨ Q i)) (hd : ∀ i, i < n → P i → ¬ Q i) : ct R n = ct P n + ct Q n := by
  induction n with
  | zero => rfl
  | succ n ih =>
    have e := ih (fun i hi => h i (by omega)) (fun i hi => hd i (by omega))
    by_cases p : P n
    · rw [ct_y p, ct_n (hd n (by omega) p), ct_y ((h n (by omega)).mpr (Or.inl p)), e]; omega
    · by_cases q : Q n
      · rw [ct_n p, ct_y q, ct_y ((h n (by omega)).mpr (Or.inr q)), e]; omega
      · rw [ct_n p, ct_n q, ct_n (fun z => by rcases (h n (by omega)).mp z with z | z; exact p z; exact q z), e]
theorem ct_le1 {P : Nat → Prop} (h : ¬ P 0) (n : Nat) : ct P (n + 1) ≤ n := by
  induction n with
  | zero => rw [ct_n h]; exact Nat.le_refl 0
  | succ n ih =>
    by_cases q : P (n + 1)
    · rw [ct_y q]; omega
    · rw [ct_n q]; omega
theorem mpL_b {σ : Ab} (hI : IA σ) : ∀ c, (mpL σ c).length ≤ 12 * (c - 1) + 25 * ct (fun y => 0 < σ 8 y ∧ σ 8 y < c) (σ 0 0) := by
  intro c
  induction c with
  | zero => simp [mpL]
  | succ c ih =>
    simp only [mpL, List.length_append]
    have hm : ct (fun y => 0 < σ 8 y ∧ σ 8 y < c) (σ 0 0) ≤ ct (fun y => 0 < σ 8 y ∧ σ 8 y < c + 1) (σ 0 0) ∧ (0 < c → ct (fun y => 0 < σ 8 y ∧ σ 8 y < c + 1) (σ 0 0) = ct (fun y => 0 < σ 8 y ∧ σ 8 y < c) (σ 0 0) + ct (fun y => σ 8 y = c) (σ 0 0)) := by
      rcases Nat.eq_zero_or_pos c with rfl | h0
      · refine ⟨?_, fun h => by omega⟩
        rw [ct_z (fun i _ h => by omega)]; omega
      · have e := ct_add (P := fun y => 0 < σ 8 y ∧ σ 8 y < c) (Q := fun y => σ 8 y = c) (R := fun y => 0 < σ 8 y ∧ σ 8 y < c + 1) (n := σ 0 0) (fun i _ => by omega) (fun i _ h q => by omega)
        exact ⟨by omega, fun _ => e⟩
    by_cases h : 0 < c ∧ ND σ 0 c
    · rw [cT_y h, List.length_append]
      have h1 := clL_b σ c
      have h2 := memL_b σ c (σ 0 0)
      have h3 := hm.2 h.1
      omega
    · rw [cT_n h]
      have := hm.1
      simp only [List.length_nil]
      omega
theorem mp_b {σ : Ab} (hI : IA σ) {c x : Nat} (h0 : 0 < c) (hc : c < 10) (hx : x ≤ σ 0 0) : (mpL σ c ++ clL σ c ++ memL σ c x).length ≤ 1083 := by
  have h1 := mpL_b hI c
  have h2 := clL_b σ c
  have h3 := memL_b σ c x
  have h4 := ct_mono (P := fun y => σ 8 y = c) hx
  have e := ct_add (P := fun y => 0 < σ 8 y ∧ σ 8 y < c) (Q := fun y => σ 8 y = c) (R := fun y => 0 < σ 8 y ∧ σ 8 y < c + 1) (n := σ 0 0) (fun i _ => by omega) (fun i _ h q => by omega)
  have hn := hI.1.1
  have hn2 := hI.1.2.1
  have h5 := ct_le1 (P := fun y => 0 < σ 8 y ∧ σ 8 y < c + 1) (fun h => by rw [hI.2.2.2.2.1.1] at h; omega) (σ 0 0 - 1)
  rw [show σ 0 0 - 1 + 1 = σ 0 0 by omega] at h5
  simp only [List.length_append]
  omega
theorem mpL_len {σ : Ab} (hI : IA σ) {c : Nat} (hc : c ≤ 10) : (mpL σ c).length ≤ 1083 := by
  have h1 := mpL_b hI c
  have hn := hI.1.1
  have hn2 := hI.1.2.1
  have h5 := ct_le1 (P := fun y => 0 < σ 8 y ∧ σ 8 y < c) (fun h => by rw [hI.2.2.2.2.1.1] at h; omega) (σ 0 0 - 1)
  rw [show σ 0 0 - 1 + 1 = σ 0 0 by omega] at h5
  omega
def lx (L : List Nat) (i : Nat) : Nat := L.getD i 0
theorem lx_app {L : List Nat} {v i : Nat} (h : i < L.length) : lx (L ++ [v]) i = lx L i := by
  unfold lx
  rw [List.getD_eq_getElem?_getD, List.getD_eq_getElem?_getD, List.getElem?_append_left h]
theorem lx_last (L : List Nat) (v : Nat) : lx (L ++ [v]) L.length = v := by
  unfold lx
  rw [List.getD_eq_getElem?_getD, List.getElem?_append_right (Nat.le_refl _)]
  simp
/-- only texts have changed -/
def Mx (m m' : sk_M) : Prop := ∀ q i, q ≠ 32 → q ≠ 33 → q ≠ 34 → q ≠ 40 → (q = 0 → i ≠ 5 ∧ i ≠ 7) → m'.1 q i = m.1 q i
theorem Mx.rf {m : sk_M} : Mx m m := fun _ _ _ _ _ _ _ => rfl
theorem Mx.tr {m m' m'' : sk_M} (h : Mx m m') (h' : Mx m' m'') : Mx m m'' := fun q i a b c d e => (h' q i a b c d e).trans (h q i a b c d e)
theorem Mt.mx {m m' : sk_M} (h : Mt m m') : Mx m m' := fun q i a b c d e => h q i a b c (fun z => (e z).1)
theorem Mx.mb {m m' : sk_M} (h : Mx m m') : Mb m m' := fun r i a b c => h r i (by omega) (by omega) (by omega) (by omega) (fun e => by have := c e; omega)
def WR (m : sk_M) (L : List Nat) : Prop := m.1 0 7 = nI L.length ∧ ∀ i, i < L.length → m.1 40 i = nI (lx L i)
theorem WR.mt {m m' : sk_M} {L : List Nat} (h : WR m L) (t : Mt m m') : WR m' L := ⟨by rw [t 0 7 (by omega) (by omega) (by omega) (by omega)]; exact h.1, fun i hi => by rw [t 40 i (by omega) (by omega) (by omega) (by omega)]; exact h.2 i hi⟩
section
variable {σ : Ab} {m : sk_M} {N : Nat}
theorem FS.mx {m' : sk_M} (h : FS σ m) (t : Mx m m') : FS σ m' := ⟨h.1.same t.mb, fun c hc => by
  obtain ⟨a, b, e, f⟩ := h.2.1 c hc
  exact ⟨a, b, by rw [t 7 c (by omega) (by omega) (by omega) (by omega) (by omega)]; exact e, f⟩, fun r c h1 h2 => by rw [t 39 _ (by omega) (by omega) (by omega) (by omega) (by omega)]; exact h.2.2.1 r c h1 h2, fun i x h1 h2 => by rw [t _ x (by omega) (by omega) (by omega) (by omega) (by omega)]; exact h.2.2.2 i x h1 h2⟩
theorem wr_step {L : List Nat} {v : Nat} (hW : WR m L) : Mx m (sk_wi (sk_wi m 40 L.length (nI v)) 0 7 (nI (L.length + 1))) ∧ WR (sk_wi (sk_wi m 40 L.length (nI v)) 0 7 (nI (L.length + 1))) (L ++ [v]) := by
  refine ⟨fun q i a b c d e => ?_, ?_, fun i hi => ?_⟩
  · rw [pu_wi1, if_neg (fun z => (e z.1).2 z.2), pu_wi1, if_neg (fun z => d z.1)]
  · rw [pu_wi1, if_pos ⟨rfl, rfl⟩]; simp
  · rw [pu_wi1, if_neg (fun z => by omega), pu_wi1]
    simp only [List.length_append, List.length_cons, List.length_nil] at hi
    by_cases q : i = L.length
    · rw [if_pos ⟨rfl, q⟩, q, lx_last]
    · rw [if_neg (fun z => q z.2), lx_app (by omega)]; exact hW.2 i (by omega)
theorem m_write {L : List Nat} {v : Nat} {u : Int32} (hu : u = nI v) (hW : WR m L) (hl : L.length < 1500) : Ev (M_write m u) (fun m' => Mx m m' ∧ WR m' (L ++ [v])) := by
  subst hu
  unfold M_write
  rw [hW.1]
  refine ev_wI hl (by decide) ?_
  refine ev_fI ?_
  rw [pu_wi1, if_neg (fun z => by omega), hW.1, nI_1]
  exact ev_some (wr_step hW)
theorem m_arrow {L : List Nat} (hW : WR m L) (hl : L.length + 3 < 1500) : Ev (M_arrow m) (fun m' => Mx m m' ∧ WR m' (L ++ [45, 62, 32])) := by
  unfold M_arrow
  refine ev_oR (m_write (v := 45) rfl hW (by omega)) (fun m1 h1 => ?_)
  refine ev_oR (m_write (v := 62) rfl h1.2 (by simp; omega)) (fun m2 h2 => ?_)
  refine ev_oR (m_write (v := 32) rfl h2.2 (by simp; omega)) (fun m3 h3 => ev_some ⟨(h1.1.tr h2.1).tr h3.1, ?_⟩)
  have := h3.2
  simp only [List.append_assoc] at this
  exact this
theorem m_copy {L : List Nat} {tx : Nat → Nat} {n : Nat} (hN : 80 < N) (hT : TX m tx n) (hn : n ≤ 16) (hW : WR m L) (hl : L.length + n < 1500) : Ev (M_copy N m) (fun m' => Mx m m' ∧ WR m' (L ++ tl tx n)) := by
  unfold M_copy
  refine ev_lp (fun k z => ∃ st i, z = (st, nI i) ∧ i + k = n ∧ Mx m st ∧ WR st (L ++ tl tx i) ∧ TX st tx n) ?_ N n _ (by omega) ⟨m, 0, rfl, by omega, Mx.rf, by simpa [tl] using hW, hT⟩
  rintro k z self ⟨st, i, rfl, hk, hx, hw, ht⟩ ih
  unfold M_copy_L2
  dsimp only
  refine ev_le n i (hu := ht.1) (fun h => ?_) (fun hi => ?_)
  · have e : i = n := by omega
    subst e
    exact ev_some ⟨hx, hw⟩
  · refine ev_rI (by omega) (by decide) ?_
    have hlen : (L ++ tl tx i).length = L.length + i := by simp [tl_len]
    rw [hw.1, ht.2 i hi]
    refine ev_wI (by omega) (by decide) ?_
    refine ev_fI ?_
    rw [pu_wi1, if_neg (fun z => by omega), hw.1, nI_1, nI_1]
    have s := wr_step (v := tx i) hw
    refine ih (k - 1) _ (by omega) ⟨_, i + 1, rfl, by omega, hx.tr s.1, ?_, ?_, fun j hj => ?_⟩
    · rw [tl_succ, ← List.append_assoc]; exact s.2
    · rw [pu_wi1, if_neg (fun z => by omega), pu_wi1, if_neg (fun z => by omega)]; exact ht.1
    · rw [pu_wi1, if_neg (fun z => by omega), pu_wi1, if_neg (fun z => by omega)]; exact ht.2 j hj
theorem m_writeMember (hI : IA σ) (hF : FS σ m) (hN : 80 < N) {L : List Nat} {x : Nat} (hx : x < σ 0 0) (hW : WR m L) (hl : L.length + 25 < 1500) : Ev (M_writeMember N m (nI x)) (fun m' => Mx m m' ∧ WR m' (L ++ mbL σ x)) := by
  have hn := hI.1.2.1
  obtain ⟨b8, b9, b10, b11, b12, _, b15, _⟩ := hI.2.2.2.1 x hx
  have w1 := wln_le (σ 9 x)
  have w2 := (ntl_b σ (sgn σ x)).2
  unfold M_writeMember
  refine ev_oR (m_write (v := 32) rfl hW (by omega)) (fun m1 h1 => ?_)
  have F1 := hF.mx h1.1
  refine ev_rI (by omega) (by decide) ?_
  rw [F1.1.mb 9 (by omega) (by omega) hx]
  refine ev_oR (m_wordText b9) (fun m2 h2 => ?_)
  have x2 := h1.1.tr h2.1.mx
  refine ev_oR (m_copy hN h2.2 (by omega) (h1.2.mt h2.1) (by simp; omega)) (fun m3 h3 => ?_)
  have x3 := x2.tr h3.1
  have F3 := hF.mx x3
  refine ev_rI (by omega) (by decide) ?_
  rw [F3.1.mb 11 (by omega) (by omega) hx, nI_and1 _ (by omega)]
  have J : ∀ (m4 : sk_M) (T : List Nat), T.length ≤ 3 → Mx m m4 → WR m4 (L ++ [32] ++ tl (wdx (σ 9 x)) (wln (σ 9 x)) ++ T) → (if σ 11 x % 2 = 1 then [40, 48 + σ 10 x, 41] else []) = T → Ev (M_writeMember_J57 N m4 (nI x)) (fun m' => Mx m m' ∧ WR m' (L ++ mbL σ x)) := by
    intro m4 T ht x4 h4 eT
    unfold M_writeMember_J57
    refine ev_oR (m_write (v := 32) rfl h4 (by simp [tl_len]; omega)) (fun m5 h5 => ?_)
    refine ev_oR (m_arrow h5.2 (by simp [tl_len]; omega)) (fun m6 h6 => ?_)
    have x6 := (x4.tr h5.1).tr h6.1
    refine ev_oR (m_newText hI (hF.mx x6) hN hx) (fun m7 h7 => ?_)
    refine ev_oR (m_copy hN h7.2 (by omega) (h6.2.mt h7.1) (by simp [tl_len]; omega)) (fun m8 h8 => ?_)
    refine ev_oR (m_write (v := 10) rfl h8.2 (by simp [tl_len]; omega)) (fun m9 h9 => ev_some ⟨((x6.tr h7.1.mx).tr h8.1).tr h9.1, ?_⟩)
    have := h9.2
    unfold mbL
    rw [eT]
    simp only [List.append_assoc, List.cons_append, List.nil_append] at this ⊢
    exact this
  refine ev_qn (σ 11 x % 2) 1 (fun h => ?_) (fun h => ?_)
  · refine ev_oR (m_write (v := 40) rfl h3.2 (by simp [tl_len]; omega)) (fun m4 h4 => ?_)
    have F4 := hF.mx (x3.tr h4.1)
    refine ev_rI (by omega) (by decide) ?_
    rw [F4.1.mb 10 (by omega) (by omega) hx]
    refine ev_oR (m_write (v := 48 + σ 10 x) (nI_add 48 _) h4.2 (by simp [tl_len]; omega)) (fun m5 h5 => ?_)
    refine ev_oR (m_write (v := 41) rfl h5.2 (by simp [tl_len]; omega)) (fun m6 h6 => ?_)
    refine J m6 [40, 48 + σ 10 x, 41] (by simp) (((x3.tr h4.1).tr h5.1).tr h6.1) ?_ (by rw [if_pos h])
    have := h6.2
    simp only [List.append_assoc, List.cons_append, List.nil_append] at this ⊢
    exact this
  · refine J m3 [] (by simp) x3 ?_ (by rw [if_neg h])
    rw [List.append_nil]; exact h3.2
theorem m_writeAll (hI : IA σ) (hF : FS σ m) (hN : 80 < N) : Ev (M_writeAll N m) (fun m' => Mx m m' ∧ WR m' (mp σ)) := by
  have hn := hI.1.2.1
  unfold M_writeAll
  refine ev_fI ?_
  have x0 : Mx m (sk_wi m 0 7 0) := fun q i a b c d e => by rw [pu_wi1, if_neg (fun z => (e z.1).2 z.2)]
  have e1 : mpL σ 1 = [] := by simp only [mpL]; rw [cT_n (fun h => by omega)]; rfl
  refine ev_lp (fun k z => ∃ st c, z = (st, nI c) ∧ c + k = 10 ∧ 1 ≤ c ∧ Mx m st ∧ WR st (mpL σ c)) ?_ N 9 _ (by omega) ⟨_, 1, rfl, by omega, by omega, x0, by rw [e1]; exact ⟨by rw [pu_wi1, if_pos ⟨rfl, rfl⟩]; rfl, fun i hi => by simp at hi⟩⟩
  rintro k z self ⟨st, c, rfl, hk, h1, hx, hw⟩ ih
  unfold M_writeAll_L7
  dsimp only
  refine ev_le 10 c (fun h => ?_) (fun hc => ?_)
  · have e : c = 10 := by omega
    subst e
    exact ev_some ⟨hx, hw⟩
  · have F := hF.mx hx
    have no : ¬ ND σ 0 c → Ev (M_writeAll_J123 N self st (nI c)) (fun m' => Mx m m' ∧ WR m' (mp σ)) := fun h => by
      unfold M_writeAll_J123
      rw [nI_1]
      exact ih (k - 1) _ (by omega) ⟨st, c + 1, rfl, by omega, by omega, hx, by simp only [mpL]; rw [cT_n (fun z => h z.2), List.append_nil]; exact hw⟩
    refine ev_rI (by omega) (by decide) ?_
    refine ev_if (fun h => no ((F.nC (by omega)).mp h)) (fun h => ?_)
    have hnd : ND σ 0 c := Classical.byContradiction (fun q => h ((F.nC (by omega)).mpr q))
    have th := ((nd_th hI 0 c hnd).1 (by omega)).2
    refine ev_rI (by omega) (by decide) ?_
    rw [F.1.cl 1 (by omega) (by omega) (by omega), th, if_neg (by decide)]
    have hb := mp_b hI (x := 0) h1 hc (by omega)
    simp only [memL, List.append_nil, List.length_append] at hb
    have hnn : nnl σ c ≤ 3 := by
      unfold nnl
      by_cases h : kn σ c
      · rw [cI_y h]; omega
      · rw [cI_n h]; omega
    refine ev_oR (m_className hI F.1 hc) (fun m1 h1' => ?_)
    have T1 : TX m1 (nmx (σ 4 c) c) 3 := ⟨h1'.2.1, h1'.2.2⟩
    refine ev_oR (m_copy hN T1 (by omega) (hw.mt h1'.1) (by omega)) (fun m2 h2 => ?_)
    refine ev_oR (m_write (v := 32) rfl h2.2 (by simp [tl_len]; omega)) (fun m3 h3 => ?_)
    refine ev_oR (m_arrow h3.2 (by simp [tl_len]; omega)) (fun m4 h4 => ?_)
    have x4 := (((hx.tr h1'.1.mx).tr h2.1).tr h3.1).tr h4.1
    refine ev_oR (m_newName hI (hF.mx x4) hN hc) (fun m5 h5 => ?_)
    refine ev_oR (m_copy hN h5.2 (by omega) (h4.2.mt h5.1) (by simp [tl_len]; omega)) (fun m6 h6 => ?_)
    refine ev_oR (m_write (v := 58) rfl h6.2 (by simp [tl_len]; omega)) (fun m7 h7 => ?_)
    refine ev_oR (m_write (v := 10) rfl h7.2 (by simp [tl_len]; omega)) (fun m8 h8 => ?_)
    have x8 := (((x4.tr h5.1.mx).tr h6.1).tr h7.1).tr h8.1
    have w8 : WR m8 (mpL σ c ++ clL σ c ++ memL σ c 1) := by
      have := h8.2
      have e : memL σ c 1 = [] := by
        simp only [memL]
        rw [cT_n (fun z => by have := z.1; rw [hI.2.2.2.2.1.1] at this; omega)]; rfl
      rw [e]
      unfold clL
      simp only [List.append_assoc, List.cons_append, List.nil_append, List.append_nil] at this ⊢
      exact this
    refine ev_lp (fun k z => ∃ st x, z = (st, nI c, nI x) ∧ x + k = σ 0 0 ∧ Mx m st ∧ WR st (mpL σ c ++ clL σ c ++ memL σ c x)) ?_ N (σ 0 0 - 1) _ (by omega) ⟨m8, 1, rfl, by have := hI.1.1; omega, x8, w8⟩
    rintro k2 z self2 ⟨st, x, rfl, hk2, hx2, hw2⟩ ih2
    unfold M_writeAll_L76
    dsimp only
    have F2 := hF.mx hx2
    refine ev_le (σ 0 0) x (hu := F2.1.nm) (fun h => ?_) (fun hxn => ?_)
    · have e : x = σ 0 0 := by omega
      subst e
      unfold M_writeAll_J123
      rw [nI_1]
      exact ih (k - 1) _ (by omega) ⟨st, c + 1, rfl, by omega, by omega, hx2, by simp only [mpL]; rw [cT_y ⟨h1, hnd⟩, ← List.append_assoc]; exact hw2⟩
    · obtain ⟨b8, b9, b10, b11, b12, _⟩ := hI.2.2.2.1 x hxn
      have next : ¬ (σ 8 x = c ∧ alive σ x ∧ ND σ 3 x) → Ev (self2 (st, nI c, nI x + 1)) (fun m' => Mx m m' ∧ WR m' (mp σ)) := fun h => by
        rw [nI_1]
        exact ih2 (k2 - 1) _ (by omega) ⟨st, x + 1, rfl, by omega, hx2, by simp only [memL]; rw [cT_n h, List.append_nil]; exact hw2⟩
      refine ev_rI (by omega) (by decide) ?_
      refine ev_qn (σ 8 x) c (hu := F2.1.mb 8 (by omega) (by omega) hxn) (fun g1 => ?_) (fun g1 => next (fun h => g1 h.1))
      refine ev_rI (by omega) (by decide) ?_
      refine ev_qn (σ 12 x) 0 (hu := F2.1.mb 12 (by omega) (by omega) hxn) (fun g2 => ?_) (fun g2 => next (fun h => g2 h.2.1.2))
      refine ev_rI (by omega) (by decide) ?_
      refine ev_if (fun g3 => next (fun h => (F2.nM (by omega)).mp g3 h.2.2)) (fun g3 => ?_)
      have g3 : ND σ 3 x := Classical.byContradiction (fun q => g3 ((F2.nM (by omega)).mpr q))
      have hb := mp_b hI (x := x) h1 hc (by omega)
      refine ev_oR (m_writeMember hI F2 hN hxn hw2 (by omega)) (fun m9 h9 => ?_)
      rw [nI_1]
      exact ih2 (k2 - 1) _ (by omega) ⟨m9, x + 1, rfl, by omega, hx2.tr h9.1, by simp only [memL]; rw [cT_y ⟨g1, ⟨hxn, g2⟩, g3⟩, ← List.append_assoc]; exact h9.2⟩
theorem m_mapping (hI : IA σ) (hR : RM σ m) (hN : 80 < N) (v : Int32) : Ev (M_mapping N m v) (fun z => z.1 = tV (mp σ).length (lx (mp σ)) v ∧ RM σ z.2) := by
  unfold M_mapping
  refine ev_oR (m_find hI hR hN) (fun m1 hF => ?_)
  refine ev_oR (m_writeAll hI hF hN) (fun m2 h2 => ?_)
  have hR2 := hF.1.same h2.1.mb
  have hl : (mp σ).length ≤ 1083 := mpL_len hI (Nat.le_refl 10)
  rw [h2.2.1]
  unfold tV
  refine ev_if (fun h => ev_some ⟨(if_pos h).symm, hR2⟩) (fun h => ?_)
  rw [if_neg h]
  refine ev_if (fun h3 => ev_some ⟨(if_pos h3).symm, hR2⟩) (fun h3 => ?_)
  rw [if_neg h3]
  rcases Nat.eq_zero_or_pos (mp σ).length with q | q
  · exfalso
    rw [q] at h3
    apply h3
    unfold M_in
    by_cases hv : v < 0
    · rw [if_pos hv]
    · rw [if_neg hv, if_pos]
      obtain ⟨j, hj, rfl⟩ := nI_of hv
      apply Int32.lt_iff_toInt_lt.mpr
      rw [nI_toInt hj]
      have : (nI 0 - 1 : Int32).toInt = -1 := by decide
      omega
  · rw [nI_m1 q] at h3
    obtain ⟨j, _, hj, rfl⟩ := in_yes (a := 0) (b := (mp σ).length - 1) (by omega) (by omega) h3
    refine ev_rI (by omega) (by decide) ?_
    rw [h2.2.2 j (by omega), nI_clamp (by omega)]
    exact ev_some ⟨rfl, hR2⟩
end
