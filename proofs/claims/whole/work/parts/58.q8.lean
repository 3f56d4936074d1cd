/-! THE QUERIES of the reference -/
noncomputable def pI (p : Prop) : Int32 := nI (cI p 1 0)
theorem pI_y {p : Prop} (h : p) : pI p = 1 := by unfold pI; rw [cI_y h]; rfl
theorem pI_n {p : Prop} (h : ¬ p) : pI p = 0 := by unfold pI; rw [cI_n h]; rfl
noncomputable def la (σ : Ab) (c : Nat) : Nat → Int32
  | 0 => -2
  | n + 1 => cT (abt σ n c) (nI n) (la σ c n)
noncomputable def nV (σ : Ab) (c w : Nat) : Int32 := if w = 0 then pI (ND σ 0 c) else if w = 1 then pI (ND σ 1 c) else if w = 2 then pI (ND σ 2 c) else if w = 3 then pI (kn σ c) else if w = 4 then nI (ct (abv σ c) 10) else la σ c (σ 0 3)
noncomputable def pV (σ : Ab) (x w : Nat) : Int32 := if w = 0 then pI (ND σ 3 x) else if w = 1 then pI (kt σ (sgn σ x)) else if w = 2 then nI (σ 8 x) else if w = 3 then nI (σ 9 x) else if w = 4 then nI (σ 10 x) else nI (σ 11 x)
/-- what a look answers -/
def FO (σ : Ab) (c g : Nat) (wt : Nat → Prop) (r : Int32) : Prop := ∃ o, r = oI o ∧ (σ 1 c = 0 → o = none) ∧ (σ 1 c = 1 → LK σ c g wt o)
def tV (len : Nat) (tx : Nat → Nat) (v : Int32) : Int32 := if v = -1 then nI len else if M_in v 0 (nI len - 1) = 0 then -2 else nI (tx v.toNatClampNeg)
section
variable {σ : Ab} {m : sk_M} {N : Nat}
theorem nd_th (hI : IA σ) : ∀ i x, ND σ i x → (i < 3 → x < 10 ∧ σ 1 x = 1) ∧ (i = 3 → alive σ x) := by
  intro i x h
  refine h (fun i x => (i < 3 → x < 10 ∧ σ 1 x = 1) ∧ (i = 3 → alive σ x)) ?_
  have z1 := hI.2.2.1.1
  have cc : ∀ i c, i < 3 → c < 10 → σ 1 c = 1 → (i < 3 → c < 10 ∧ σ 1 c = 1) ∧ (i = 3 → alive σ c) := fun i c hi h1 h2 => ⟨fun _ => ⟨h1, h2⟩, fun h => by omega⟩
  have mm : ∀ x, alive σ x → ((3 : Nat) < 3 → x < 10 ∧ σ 1 x = 1) ∧ ((3 : Nat) = 3 → alive σ x) := fun x h => ⟨fun q => by omega, fun _ => h⟩
  refine ⟨cc 0 0 (by omega) (by omega) z1, mm 0 ⟨hI.1.1, hI.2.2.2.2.1.2.2.2.2⟩, fun r hr => ⟨fun c _ hab => ⟨cc 0 c (by omega) hab.2.1 hab.2.2.1, cc 2 c (by omega) hab.2.1 hab.2.2.1, fun _ _ => cc 1 c (by omega) hab.2.1 hab.2.2.1⟩, fun x _ hm => mm x hm.1, fun x _ _ hm => mm x hm.1⟩, fun c hc => ⟨fun h0 _ => ⟨cc 0 _ (by omega) (by have := sup_lt hI h0 hc; omega) (sup_th hI c), fun u hu hf => cc 0 u (by omega) (by omega) hf.2.1⟩, fun hs => ⟨fun h0 => cc 2 _ (by omega) (by have := sup_lt hI h0 hc; omega) (sup_th hI c), fun x ho _ => mm x ho.1⟩, fun _ x hx => mm x (LK_lt hx).1⟩, fun x hx hs => cc 0 _ (by omega) (hI.2.2.2.1 x hx).1 ((hI.2.2.2.1 x hx).2.2.2.2.2.2.2 (hs.2 rfl).2), fun i hi _ _ ht => ?_⟩
  have g5 := (hI.2.2.2.2.2.2.1 i hi).2.2.2.2.1
  refine ⟨cc 0 _ (by omega) g5 ht, fun _ _ _ => ⟨cc 1 _ (by omega) g5 ht, cc 2 _ (by omega) g5 ht⟩, fun _ x hx => ⟨mm x (LK_lt hx).1, fun _ => ?_⟩, fun _ d x _ _ _ hx => mm x (LK_lt hx).1⟩
  have ha := (LK_lt hx).1
  exact cc 2 _ (by omega) (hI.2.2.2.1 x ha.1).1 ((hI.2.2.2.1 x ha.1).2.2.2.2.2.2.2 ha.2)
theorem LK_cong {c g : Nat} {wt wt' : Nat → Prop} (h : ∀ x, alive σ x → sgn σ x = g → (wt x ↔ wt' x)) {o : Option Nat} (hl : LK σ c g wt o) : LK σ c g wt' o := by
  have f : ∀ x, fcs σ c g wt' x → fcs σ c g wt x := fun x q => ⟨q.1, q.2.1, q.2.2.1, q.2.2.2.1, (h x q.1 q.2.2.2.1).mpr q.2.2.2.2⟩
  cases o with
  | none => exact ⟨fun t x' h1 h2 h3 => hl.1 t x' h1 h2 ((h x' h2.1 h2.2.2).mpr h3), fun x' q => hl.2 x' (f x' q)⟩
  | some x =>
    rcases hl with ⟨t, a1, a2, a3, a4⟩ | ⟨a1, a2, a3⟩
    · exact Or.inl ⟨t, a1, a2, (h x a2.1 a2.2.2).mp a3, fun t' x' h1 h2 h3 => a4 t' x' h1 h2 ((h x' h2.1 h2.2.2).mpr h3)⟩
    · exact Or.inr ⟨fun t x' h1 h2 h3 => a1 t x' h1 h2 ((h x' h2.1 h2.2.2).mpr h3), ⟨a2.1, a2.2.1, a2.2.2.1, a2.2.2.2.1, (h x a2.1 a2.2.2.2.1).mp a2.2.2.2.2⟩, fun x' q => a3 x' (f x' q)⟩
theorem FO_unique (hI : IA σ) {c g : Nat} (hc : c < 10) {wt : Nat → Prop} {r r' : Int32} (h : FO σ c g wt r) (h' : FO σ c g wt r') : r = r' := by
  obtain ⟨o, rfl, a1, a2⟩ := h
  obtain ⟨o', rfl, b1, b2⟩ := h'
  have b := (hI.2.1 c hc).1
  rcases (show σ 1 c = 0 ∨ σ 1 c = 1 by omega) with q | q
  · rw [a1 q, b1 q]
  · rw [LK_unique hI (a2 q) (b2 q)]
theorem FS.hnd (hI : IA σ) (hF : FS σ m) : ∀ x, x < σ 0 0 → (m.1 38 x = 0 ↔ ¬ ND σ 3 x) := fun x hx => hF.nM (by have := hI.1.2.1; omega)
theorem m_needs (hI : IA σ) (hR : RM σ m) (hN : 80 < N) {c w : Nat} (hc : c ≤ 9) (ht : σ 1 c = 1) (hw : w ≤ 5) : Ev (M_needs N m (nI c) (nI w)) (fun z => z.1 = nV σ c w ∧ RM σ z.2) := by
  have h8 := hI.1.2.2.2.2
  unfold M_needs
  refine ev_in w 0 5 (by omega) hw ?_
  refine ev_in c 0 9 (by omega) hc ?_
  refine ev_rI (by omega) (by decide) ?_
  rw [hR.cl 1 (by omega) (by omega) (by omega), ht, if_neg (by decide)]
  refine ev_oR (m_find hI hR hN) (fun m1 hF => ?_)
  have hR1 := hF.1
  refine ev_lp (fun k z => ∃ r, z = (m1, nI c, nI w, la σ c r, 0, nI r) ∧ r + k = σ 0 3) ?_ N (σ 0 3) _ (by omega) ⟨0, rfl, by omega⟩
  rintro k z self ⟨r, rfl, hk⟩ ih
  unfold M_needs_L46
  dsimp only
  refine ev_le (σ 0 3) r (hu := hR1.1 3 (by omega)) (fun h => ?_) (fun hr => ?_)
  · have er : r = σ 0 3 := by omega
    subst er
    unfold M_needs_J79
    refine ev_lp (fun k z => ∃ d, z = (m1, nI c, nI w, la σ c (σ 0 3), nI (ct (abv σ c) d), nI d) ∧ d + k = 10) ?_ N 10 _ (by omega) ⟨0, rfl, by omega⟩
    rintro k2 z self2 ⟨d, rfl, hk2⟩ ih2
    unfold M_needs_L82
    dsimp only
    refine ev_le 10 d (fun h => ?_) (fun hd => ?_)
    · have ed : d = 10 := by omega
      subst ed
      unfold M_needs_J111
      have J : ∀ (s0 : Int32) (p : Prop), (w < 4 → nV σ c w = pI p) → (s0 = 0 ↔ ¬ p) → Ev (M_needs_J157 N m1 (nI w) (la σ c (σ 0 3)) (nI (ct (abv σ c) 10)) s0) (fun z => z.1 = nV σ c w ∧ RM σ z.2) := by
        intro s0 p h1 h2
        unfold M_needs_J157
        refine ev_qn w 4 (fun h => ev_some ⟨by subst h; rfl, hR1⟩) (fun h4 => ?_)
        refine ev_qn w 5 (fun h => ev_some ⟨by subst h; rfl, hR1⟩) (fun h5 => ?_)
        refine ev_if (fun h => ev_some ⟨by rw [h1 (by omega), pI_n (h2.mp h)], hR1⟩) (fun h => ev_some ⟨by rw [h1 (by omega), pI_y (Classical.byContradiction (fun q => h (h2.mpr q)))], hR1⟩)
      refine ev_qn w 0 (fun h => ?_) (fun h0 => ?_)
      · refine ev_rI (by omega) (by decide) ?_
        exact J _ (ND σ 0 c) (fun _ => by subst h; rfl) (hF.2.2.2 0 c (by omega) (by simp [bd]; omega))
      · refine ev_qn w 1 (fun h => ?_) (fun h1 => ?_)
        · refine ev_rI (by omega) (by decide) ?_
          exact J _ (ND σ 1 c) (fun _ => by subst h; rfl) (hF.2.2.2 1 c (by omega) (by simp [bd]; omega))
        · refine ev_qn w 2 (fun h => ?_) (fun h2 => ?_)
          · refine ev_rI (by omega) (by decide) ?_
            exact J _ (ND σ 2 c) (fun _ => by subst h; rfl) (hF.2.2.2 2 c (by omega) (by simp [bd]; omega))
          · refine ev_oR (m_keepsName hI hF hN (c := c) (by omega)) (fun v hv => ?_)
            refine J v (kn σ c) (fun h => ?_) ?_
            · have e : w = 3 := by omega
              subst e; rfl
            · rcases hv with ⟨rfl, hv⟩ | ⟨rfl, hv⟩
              · exact ⟨fun _ => hv, fun _ => rfl⟩
              · exact ⟨fun h => absurd h (by decide), fun h => absurd hv h⟩
    · refine ev_rI (by omega) (by decide) ?_
      obtain ⟨a1, c1, e1, t1⟩ := hF.2.1 c (by omega)
      rw [e1, nI_shrbit (by omega) (by omega), nI_add, nI_1]
      have hbit : a1.testBit d = true ↔ a1 / 2 ^ d % 2 = 1 := by rw [tb_div]; simp
      refine ih2 (k2 - 1) _ (by omega) ⟨d + 1, ?_, by omega⟩
      by_cases q : abv σ c d
      · rw [ct_y q, hbit.mp ((t1 d).mpr q)]
      · rw [ct_n q, show a1 / 2 ^ d % 2 = 0 by have := mt hbit.mpr (fun z => q ((t1 d).mp z)); omega]; rfl
  · rw [show (10 : Int32) * nI r = nI (10 * r) from pk_mul 10 r, nI_add]
    refine ev_rI (by omega) (by decide) ?_
    have hat := hF.2.2.1 r c hr (by omega)
    rw [nI_1]
    refine ev_if (fun h => ih (k - 1) _ (by omega) ⟨r + 1, by simp only [la]; rw [cT_n (hat.mp h)], by omega⟩) (fun h => ih (k - 1) _ (by omega) ⟨r + 1, by simp only [la]; rw [cT_y (Classical.byContradiction (fun q => h (hat.mpr q)))], by omega⟩)
theorem m_isMember (hI : IA σ) (hR : RM σ m) (v : Int32) : (∃ x, v = nI x ∧ alive σ x ∧ M_isMember m v = some 1) ∨ ((∀ x, x < 40 → v = nI x → ¬ alive σ x) ∧ M_isMember m v = some 0) := by
  have hn := hI.1.2.1
  have h1 := hI.1.1
  unfold M_isMember
  rw [hR.nm, nI_m1 h1]
  rcases in_cases v (a := 0) (b := σ 0 0 - 1) (by omega) (by omega) with ⟨h, hn⟩ | ⟨h, j, _, hj, rfl⟩
  · exact Or.inr ⟨fun x hx e ha => hn ⟨x, by omega, by have := ha.1; omega, e⟩, if_pos h⟩
  · have hjn : j < σ 0 0 := by omega
    rw [if_neg (show ¬ M_in (nI j) 0 (nI (σ 0 0 - 1)) = 0 from fun z => by rw [show (0 : Int32) = nI 0 from rfl, h] at z; exact absurd z (by decide)), pu_rI (by omega) (by decide), hR.mb 12 (by omega) (by omega) hjn]
    have b := (hI.2.2.2.1 j hjn).2.2.2.2.1
    by_cases q : σ 12 j = 0
    · rw [if_pos ((nI_z (by omega)).mpr q)]
      exact Or.inl ⟨j, rfl, ⟨hjn, q⟩, rfl⟩
    · rw [if_neg (fun z => q ((nI_z (by omega)).mp z))]
      exact Or.inr ⟨fun x hx e ha => q (by rw [(nI_eq (by omega) (by omega)).mp e]; exact ha.2), rfl⟩
theorem m_part (hI : IA σ) (hR : RM σ m) (hN : 80 < N) {x w : Nat} (hx : alive σ x) (hw : w ≤ 5) : Ev (M_part N m (nI x) (nI w)) (fun z => z.1 = pV σ x w ∧ RM σ z.2) := by
  have hn := hI.1.2.1
  have hxn := hx.1
  obtain ⟨b8, b9, b10, b11, b12, _, b15, _⟩ := hI.2.2.2.1 x hxn
  unfold M_part
  refine ev_in w 0 5 (by omega) hw ?_
  rcases m_isMember hI hR (nI x) with ⟨y, e, _, h⟩ | ⟨h1, h⟩
  · rw [pu_oR h, if_neg (by decide)]
    refine ev_oR (m_find hI hR hN) (fun m1 hF => ?_)
    have hR1 := hF.1
    refine ev_rI (by omega) (by decide) ?_
    refine ev_rI (by omega) (by decide) ?_
    refine ev_rI (by omega) (by decide) ?_
    rw [hR1.mb 11 (by omega) (by omega) hxn, hR1.mb 9 (by omega) (by omega) hxn, hR1.mb 10 (by omega) (by omega) hxn, nI_and1 _ (by omega)]
    refine ev_oW (m_keepsText hI hF hN (by omega) b9 b10 b15) (fun v m2 hv => ?_)
    obtain ⟨ht, hv⟩ := hv
    have hF2 := hF.mt ht
    have hR2 := hF2.1
    refine ev_qn w 0 (fun h => ?_) (fun h0 => ?_)
    · refine ev_rI (by omega) (by decide) ?_
      have hm := hF2.nM (x := x) (by omega)
      subst h
      refine ev_if (fun h => ev_some ⟨(pI_n (hm.mp h)).symm, hR2⟩) (fun h => ev_some ⟨(pI_y (Classical.byContradiction (fun q => h (hm.mpr q)))).symm, hR2⟩)
    · refine ev_qn w 1 (fun h => ?_) (fun h1 => ?_)
      · subst h
        rcases hv with ⟨rfl, hv⟩ | ⟨rfl, hv⟩
        · rw [if_pos rfl]; exact ev_some ⟨(pI_n hv).symm, hR2⟩
        · rw [if_neg (by decide)]; exact ev_some ⟨(pI_y hv).symm, hR2⟩
      · refine ev_qn w 2 (fun h => ?_) (fun h2 => ?_)
        · refine ev_rI (by omega) (by decide) ?_
          subst h
          exact ev_some ⟨hR2.mb 8 (by omega) (by omega) hxn, hR2⟩
        · refine ev_qn w 3 (fun h => ?_) (fun h3 => ?_)
          · refine ev_rI (by omega) (by decide) ?_
            subst h
            exact ev_some ⟨hR2.mb 9 (by omega) (by omega) hxn, hR2⟩
          · refine ev_qn w 4 (fun h => ?_) (fun h4 => ?_)
            · refine ev_rI (by omega) (by decide) ?_
              subst h
              exact ev_some ⟨hR2.mb 10 (by omega) (by omega) hxn, hR2⟩
            · refine ev_rI (by omega) (by decide) ?_
              have e : w = 5 := by omega
              subst e
              exact ev_some ⟨hR2.mb 11 (by omega) (by omega) hxn, hR2⟩
  · exact absurd hx (h1 x (by omega) rfl)
theorem m_lookF (hI : IA σ) (hF : FS σ m) (hN : 80 < N) {c kd w s : Nat} (hc : c < 10) (hk : kd < 2) (hw : w < 8) (hs : s < 2) {sel ned : Int32} (ht : σ 1 c = 1) : Ev (M_look N m (nI c) (nI kd) (nI w) (nI s) sel ned) (fun r => FO σ c (16 * kd + 2 * w + s) (wtd σ (ND σ 3) sel ned) r) :=
  (m_look hI hF.1 hF.2.1 (by omega) (hF.hnd hI) hc hk hw hs sel ned).mono (fun r hr => by
    obtain ⟨o, h1, h2⟩ := hr
    exact ⟨o, h1, fun q => by omega, fun _ => h2⟩)
theorem m_found (hI : IA σ) (hR : RM σ m) (hN : 80 < N) {kd c w s : Nat} (hk : 2 ≤ kd) (hk5 : kd ≤ 5) (hc : c ≤ 9) (hw : w ≤ 7) (hs : s ≤ 1) (ned : Int32) : Ev (M_found N m (nI kd) (nI c) (nI w) (nI s) ned) (fun z => FO σ c ((if kd = 2 then 0 else 16) + 2 * w + s) (wtd σ (ND σ 3) 0 ned) z.1 ∧ RM σ z.2) := by
  unfold M_found
  refine ev_in kd 2 5 hk hk5 ?_
  refine ev_in c 0 9 (by omega) hc ?_
  refine ev_in w 0 7 (by omega) hw ?_
  refine ev_in s 0 1 (by omega) hs ?_
  refine ev_oR (m_find hI hR hN) (fun m1 hF => ?_)
  refine ev_rI (by omega) (by decide) ?_
  have b := (hI.2.1 c (by omega)).1
  refine ev_qn (σ 1 c) 0 (hu := hF.1.cl 1 (by omega) (by omega) (by omega)) (fun h => ev_some ⟨⟨none, rfl, fun _ => rfl, fun q => by omega⟩, hF.1⟩) (fun h => ?_)
  refine ev_qn kd 2 (fun h2 => ?_) (fun h2 => ?_)
  · unfold M_found_J66
    refine ev_oR (m_lookF hI hF hN (kd := 0) (c := c) (w := w) (s := s) (by omega) (by omega) (by omega) (by omega) (by omega)) (fun v hv => ev_some ⟨?_, hF.1⟩)
    rw [if_pos h2]; exact hv
  · unfold M_found_J66
    refine ev_oR (m_lookF hI hF hN (kd := 1) (c := c) (w := w) (s := s) (by omega) (by omega) (by omega) (by omega) (by omega)) (fun v hv => ev_some ⟨?_, hF.1⟩)
    rw [if_neg h2]; exact hv
theorem m_selected (hI : IA σ) (hR : RM σ m) (hN : 80 < N) {c w s : Nat} (hc : c ≤ 9) (hw : w ≤ 7) (hs : s ≤ 1) (ned : Int32) : Ev (M_selected N m (nI c) (nI w) (nI s) ned) (fun z => FO σ c (16 + 2 * w + s) (wtd σ (ND σ 3) 1 ned) z.1 ∧ RM σ z.2) := by
  unfold M_selected
  refine ev_in c 0 9 (by omega) hc ?_
  refine ev_in w 0 7 (by omega) hw ?_
  refine ev_in s 0 1 (by omega) hs ?_
  refine ev_oR (m_find hI hR hN) (fun m1 hF => ?_)
  refine ev_rI (by omega) (by decide) ?_
  have b := (hI.2.1 c (by omega)).1
  refine ev_qn (σ 1 c) 0 (hu := hF.1.cl 1 (by omega) (by omega) (by omega)) (fun h => ev_some ⟨⟨none, rfl, fun _ => rfl, fun q => by omega⟩, hF.1⟩) (fun h => ?_)
  exact ev_oR (m_lookF hI hF hN (kd := 1) (c := c) (w := w) (s := s) (by omega) (by omega) (by omega) (by omega) (by omega)) (fun v hv => ev_some ⟨hv, hF.1⟩)
theorem m_tell {tx : Nat → Nat} {len : Nat} (hT : TX m tx len) (h0 : 0 < len) (h16 : len ≤ 16) (v : Int32) : M_name_J93 N m v = some (tV len tx v, m) := by
  unfold M_name_J93 tV
  rw [hT.1]
  by_cases h : v = -1
  · rw [if_pos h, if_pos h]
  · rw [if_neg h, if_neg h, nI_m1 h0]
    rcases in_cases v (a := 0) (b := len - 1) (by omega) (by omega) with ⟨q, _⟩ | ⟨q, j, _, hj, rfl⟩
    · rw [if_pos (show M_in v 0 (nI (len - 1)) = 0 from q), if_pos (show M_in v 0 (nI (len - 1)) = 0 from q)]
    · have q : ¬ M_in (nI j) 0 (nI (len - 1)) = 0 := fun z => by rw [show (0 : Int32) = nI 0 from rfl, q] at z; exact absurd z (by decide)
      rw [if_neg q, if_neg q, pu_rI (by omega) (by decide), hT.2 j (by omega), nI_clamp (by omega)]
theorem nnl_b (σ : Ab) (c : Nat) : 0 < nnl σ c ∧ nnl σ c ≤ 8 := by
  unfold nnl
  by_cases h : kn σ c
  · rw [cI_y h]; omega
  · rw [cI_n h]; omega
theorem ntl_b (σ : Ab) (g : Nat) : 0 < ntl σ g ∧ ntl σ g ≤ 8 := by
  unfold ntl wln
  by_cases h : kt σ g
  · rw [cI_y h]; split <;> (try split) <;> omega
  · rw [cI_n h]; omega
theorem m_nameC (hI : IA σ) (hR : RM σ m) (hN : 80 < N) {c : Nat} (hc : c < 10) (hnd : ND σ 0 c) (v : Int32) : Ev (M_name N m 0 (nI c) v) (fun z => z.1 = tV (nnl σ c) (nnx σ c) v ∧ RM σ z.2) := by
  have th := ((nd_th hI 0 c hnd).1 (by omega)).2
  unfold M_name
  refine ev_oR (m_find hI hR hN) (fun m1 hF => ?_)
  rw [if_pos rfl]
  refine ev_in c 0 9 (by omega) (by omega) ?_
  refine ev_rI (by omega) (by decide) ?_
  rw [hF.1.cl 1 (by omega) (by omega) hc, th, if_neg (by decide)]
  refine ev_rI (by omega) (by decide) ?_
  rw [if_neg (fun z => (hF.nC hc).mp z hnd)]
  unfold M_name_J66
  rw [if_neg (by decide), if_pos rfl]
  refine ev_oR (m_newName hI hF hN hc) (fun m2 h2 => ?_)
  exact ev_of (m_tell h2.2 (nnl_b σ c).1 (by have := (nnl_b σ c).2; omega) v) ⟨rfl, hF.1.same h2.1.mb⟩
theorem m_nameCn (hI : IA σ) (hR : RM σ m) (hN : 80 < N) {u : Int32} (hno : ∀ c, c < 10 → u = nI c → ¬ ND σ 0 c) (v : Int32) : Ev (M_name N m 0 u v) (fun z => z.1 = -2 ∧ RM σ z.2) := by
  unfold M_name
  refine ev_oR (m_find hI hR hN) (fun m1 hF => ?_)
  rw [if_pos rfl]
  have out : Ev (M_name_J65 N m1 0 u v) (fun z => z.1 = -2 ∧ RM σ z.2) := by
    unfold M_name_J65 M_name_J66
    rw [if_pos rfl]
    exact ev_some ⟨rfl, hF.1⟩
  refine ev_if (fun _ => out) (fun h => ?_)
  obtain ⟨j, _, hj, rfl⟩ := in_yes (a := 0) (b := 9) (by omega) (by omega) h
  refine ev_rI (by omega) (by decide) ?_
  refine ev_if (fun _ => out) (fun h2 => ?_)
  refine ev_rI (by omega) (by decide) ?_
  refine ev_if (fun _ => out) (fun h3 => ?_)
  exact absurd (Classical.byContradiction (fun q => h3 ((hF.nC (by omega)).mpr q))) (hno j (by omega) rfl)
theorem m_nameM (hI : IA σ) (hR : RM σ m) (hN : 80 < N) {x : Nat} (hnd : ND σ 3 x) (v : Int32) : Ev (M_name N m 1 (nI x) v) (fun z => z.1 = tV (ntl σ (sgn σ x)) (ntx σ (sgn σ x)) v ∧ RM σ z.2) := by
  have hn := hI.1.2.1
  have ha := (nd_th hI 3 x hnd).2 rfl
  have hxn := ha.1
  unfold M_name
  refine ev_oR (m_find hI hR hN) (fun m1 hF => ?_)
  rw [if_neg (by decide)]
  rcases m_isMember hI hF.1 (nI x) with ⟨y, e, _, h⟩ | ⟨h1, h⟩
  · rw [pu_oR h, if_neg (by decide)]
    refine ev_rI (by omega) (by decide) ?_
    rw [if_neg (fun z => (hF.nM (by omega)).mp z hnd)]
    unfold M_name_J66
    rw [if_neg (by decide), if_neg (by decide)]
    refine ev_oR (m_newText hI hF hN hxn) (fun m2 h2 => ?_)
    exact ev_of (m_tell h2.2 (ntl_b σ _).1 (by have := (ntl_b σ (sgn σ x)).2; omega) v) ⟨rfl, hF.1.same h2.1.mb⟩
  · exact absurd ha (h1 x (by omega) rfl)
theorem m_nameMn (hI : IA σ) (hR : RM σ m) (hN : 80 < N) {u : Int32} (hno : ∀ x, x < 40 → u = nI x → ¬ ND σ 3 x) (v : Int32) : Ev (M_name N m 1 u v) (fun z => z.1 = -2 ∧ RM σ z.2) := by
  have hn := hI.1.2.1
  unfold M_name
  refine ev_oR (m_find hI hR hN) (fun m1 hF => ?_)
  rw [if_neg (by decide)]
  have out : Ev (M_name_J29 N m1 1 u v) (fun z => z.1 = -2 ∧ RM σ z.2) := by
    unfold M_name_J29 M_name_J66
    rw [if_pos rfl]
    exact ev_some ⟨rfl, hF.1⟩
  rcases m_isMember hI hF.1 u with ⟨y, rfl, ha, h⟩ | ⟨h1, h⟩
  · have hy := ha.1
    rw [pu_oR h, if_neg (by decide)]
    refine ev_rI (by omega) (by decide) ?_
    refine ev_if (fun _ => out) (fun h3 => ?_)
    exact absurd (Classical.byContradiction (fun q => h3 ((hF.nM (by omega)).mpr q))) (hno y (by omega) rfl)
  · rw [pu_oR h, if_pos rfl]; exact out
end
