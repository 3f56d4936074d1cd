/-! NAMES AND TEXTS, what a rule is about, what it means -/
def nmx (p c : Nat) (i : Nat) : Nat := match i with
  | 0 => 111 + p
  | 1 => 46
  | _ => 65 + c
def wdx (w i : Nat) : Nat := if w < 6 then 114 + w else if w = 6 then ([60, 105, 110, 105, 116, 62] : List Nat).getD i 0 else ([60, 99, 108, 105, 110, 105, 116, 62] : List Nat).getD i 0
def wln (w : Nat) : Nat := if w < 6 then 1 else if w = 6 then 6 else 8
def pat (σ : Ab) (r k : Nat) : Nat := σ 19 (60 * r + k)
def abt (σ : Ab) (r c : Nat) : Prop := 0 < c ∧ c < 10 ∧ σ 1 c = 1 ∧ fts (pat σ r) (nmx (σ 4 c) c) 3 (σ 21 r) (σ 22 r) = true ∧ (σ 23 r = 0 ∨ ∃ d, abv σ c d ∧ fts (pat σ r) (nmx (σ 4 d) d) 3 (σ 23 r - 1) (σ 24 r) = true)
def mnt (σ : Ab) (r x : Nat) : Prop := alive σ x ∧ abt σ r (σ 8 x) ∧ ∃ k, k < σ 25 r ∧ (σ 26 (16 * r + k) ≠ if σ 11 x % 2 = 1 then 102 else 109) ∧ fts (pat σ r) (wdx (σ 9 x)) (wln (σ 9 x)) (σ 27 (16 * r + k)) (σ 28 (16 * r + k)) = true
/-- only the text, its size, and the rows of 'fits' have changed -/
def Mt (m m' : sk_M) : Prop := ∀ q i, q ≠ 32 → q ≠ 33 → q ≠ 34 → (q = 0 → i ≠ 5) → m'.1 q i = m.1 q i
theorem Mt.rf {m : sk_M} : Mt m m := fun _ _ _ _ _ _ => rfl
theorem Mt.tr {m m' m'' : sk_M} (h : Mt m m') (h' : Mt m' m'') : Mt m m'' := fun q i a b c d => (h' q i a b c d).trans (h q i a b c d)
theorem Mt.mb {m m' : sk_M} (h : Mt m m') : Mb m m' := fun r i a b c => h r i (by omega) (by omega) (by omega) (fun e => by have := c e; omega)
/-- .. or not even the text -/
def Mf (m m' : sk_M) : Prop := ∀ q i, q ≠ 33 → q ≠ 34 → m'.1 q i = m.1 q i
theorem Mf.mt {m m' : sk_M} (h : Mf m m') : Mt m m' := fun q i _ b c _ => h q i b c
theorem Mt.AB {σ : Ab} {m m' : sk_M} (h : Mt m m') (hA : AB σ m) : AB σ m' := fun c hc => by
  obtain ⟨a, b, e, t⟩ := hA c hc
  exact ⟨a, b, by rw [h 7 c (by omega) (by omega) (by omega) (by omega)]; exact e, t⟩
section
variable {σ : Ab} {m : sk_M} {N : Nat}
theorem m_className (hI : IA σ) (hR : RM σ m) {c : Nat} (hc : c < 10) : Ev (M_className m (nI c)) (fun m' => Mt m m' ∧ m'.1 0 5 = nI 3 ∧ ∀ i, i < 3 → m'.1 32 i = nI (nmx (σ 4 c) c i)) := by
  have b4 := (hI.2.1 c hc).2.2.2.1
  unfold M_className
  refine ev_rI hc (by decide) ?_
  refine ev_wI (i := 0) (by decide) (by decide) ?_
  refine ev_wI (i := 1) (by decide) (by decide) ?_
  refine ev_wI (i := 2) (by decide) (by decide) ?_
  refine ev_fI ?_
  rw [hR.cl 4 (by omega) (by omega) hc, show (111 : Int32) + nI (σ 4 c) = nI (111 + σ 4 c) from nI_add 111 _, show (65 : Int32) + nI c = nI (65 + c) from nI_add 65 _]
  refine ev_some ⟨fun q i h1 h2 h3 h4 => ?_, ?_, fun i hi => ?_⟩
  · rw [pu_wi1, if_neg (fun z => h4 z.1 z.2), pu_wi1, if_neg (fun z => h1 z.1), pu_wi1, if_neg (fun z => h1 z.1), pu_wi1, if_neg (fun z => h1 z.1)]
  · rw [pu_wi1, if_pos ⟨rfl, rfl⟩]; rfl
  · rw [pu_wi1, if_neg (fun z => by omega), pu_wi1, pu_wi1, pu_wi1]
    rcases (show i = 0 ∨ i = 1 ∨ i = 2 by omega) with rfl | rfl | rfl <;> rfl
theorem m_put {v : Int32} {n : Nat} (hn : n < 16) (hs : m.1 0 5 = nI n) : Ev (M_put m v) (fun m' => Mt m m' ∧ m'.1 0 5 = nI (n + 1) ∧ m'.1 32 n = v ∧ ∀ i, i ≠ n → m'.1 32 i = m.1 32 i) := by
  unfold M_put
  rw [hs]
  refine ev_wI hn (by decide) ?_
  refine ev_fI (ev_some ⟨fun q i h1 h2 h3 h4 => ?_, ?_, ?_, fun i hi => ?_⟩)
  · rw [pu_wi1, if_neg (fun z => h4 z.1 z.2), pu_wi1, if_neg (fun z => h1 z.1)]
  · rw [pu_wi1, if_pos ⟨rfl, rfl⟩, pu_wi1, if_neg (fun z => by omega), hs]; exact nI_1 n
  · rw [pu_wi1, if_neg (fun z => by omega), pu_wi1, if_pos ⟨rfl, rfl⟩]
  · rw [pu_wi1, if_neg (fun z => by omega), pu_wi1, if_neg (fun z => hi z.2)]
/-- so many letters stand, and they are those of tx -/
def TX (m : sk_M) (tx : Nat → Nat) (n : Nat) : Prop := m.1 0 5 = nI n ∧ ∀ i, i < n → m.1 32 i = nI (tx i)
theorem m_putT {tx : Nat → Nat} {v : Int32} {n : Nat} (hn : n < 16) (h : TX m tx n) (hv : v = nI (tx n)) : Ev (M_put m v) (fun m' => Mt m m' ∧ TX m' tx (n + 1)) := by
  refine (m_put hn h.1).mono (fun m' h' => ⟨h'.1, h'.2.1, fun i hi => ?_⟩)
  rcases Nat.lt_or_ge i n with q | q
  · rw [h'.2.2.2 i (by omega)]; exact h.2 i q
  · rw [show i = n by omega, h'.2.2.1, hv]
theorem m_wordText {w : Nat} (hw : w < 8) : Ev (M_wordText m (nI w)) (fun m' => Mt m m' ∧ TX m' (wdx w) (wln w)) := by
  unfold M_wordText
  refine ev_fI ?_
  have h0 : TX (sk_wi m 0 5 0) (wdx w) 0 := ⟨by rw [pu_wi1, if_pos ⟨rfl, rfl⟩]; rfl, fun i hi => by omega⟩
  have t0 : Mt m (sk_wi m 0 5 0) := fun q i h1 h2 h3 h4 => by rw [pu_wi1, if_neg (fun z => h4 z.1 z.2)]
  have tail : ∀ (m1 : sk_M) (n : Nat), Mt m m1 → TX m1 (wdx w) n → n + 5 = wln w → (wdx w n = 105 ∧ wdx w (n + 1) = 110 ∧ wdx w (n + 2) = 105 ∧ wdx w (n + 3) = 116 ∧ wdx w (n + 4) = 62) → n + 5 ≤ 16 → Ev (M_wordText_J44 m1) (fun m' => Mt m m' ∧ TX m' (wdx w) (wln w)) := by
    intro m1 n ht hx hn ⟨e0, e1, e2, e3, e4⟩ h16
    unfold M_wordText_J44
    refine ev_oR (m_putT (by omega) hx (by rw [e0]; rfl)) (fun m2 h2 => ?_)
    refine ev_oR (m_putT (by omega) h2.2 (by rw [e1]; rfl)) (fun m3 h3 => ?_)
    refine ev_oR (m_putT (by omega) h3.2 (by rw [e2]; rfl)) (fun m4 h4 => ?_)
    refine ev_oR (m_putT (by omega) h4.2 (by rw [e3]; rfl)) (fun m5 h5 => ?_)
    refine ev_oR (m_putT (by omega) h5.2 (by rw [e4]; rfl)) (fun m6 h6 => ?_)
    rw [← hn]
    exact ev_some ⟨((((ht.tr h2.1).tr h3.1).tr h4.1).tr h5.1).tr h6.1, h6.2⟩
  refine ev_if (fun h1 => ?_) (fun h1 => ?_)
  · have h1 := (nI_leI (a := 6) (by omega) (by omega)).mp h1
    rcases (show w = 6 ∨ w = 7 by omega) with rfl | rfl
    · refine ev_oR (m_putT (by omega) h0 rfl) (fun m2 h2 => ?_)
      rw [if_neg (by decide)]
      exact tail m2 1 (t0.tr h2.1) h2.2 rfl (by decide) (by omega)
    · refine ev_oR (m_putT (by omega) h0 rfl) (fun m2 h2 => ?_)
      rw [if_pos (by decide)]
      refine ev_oR (m_putT (by omega) h2.2 rfl) (fun m3 h3 => ?_)
      refine ev_oR (m_putT (by omega) h3.2 rfl) (fun m4 h4 => ?_)
      exact tail m4 3 (((t0.tr h2.1).tr h3.1).tr h4.1) h4.2 rfl (by decide) (by omega)
  · have h1 : w < 6 := nI_gtx (a := 6) (by omega) (by omega) h1
    refine ev_oR (m_putT (by omega) h0 ?_) (fun m2 h2 => ?_)
    · rw [show (114 : Int32) + nI w = nI (114 + w) from nI_add 114 _]; simp [wdx, h1]
    · exact ev_some ⟨t0.tr h2.1, by simpa [wln, h1] using h2.2⟩
theorem wdx_lt {w i : Nat} (hw : w < 8) : wdx w i < 128 := by
  unfold wdx
  split
  · omega
  · split
    · rcases Nat.lt_or_ge i 6 with q | q
      · rcases (show i = 0 ∨ i = 1 ∨ i = 2 ∨ i = 3 ∨ i = 4 ∨ i = 5 by omega) with rfl | rfl | rfl | rfl | rfl | rfl <;> decide
      · rw [List.getD_eq_getElem?_getD, List.getElem?_eq_none (by simpa using q)]; decide
    · rcases Nat.lt_or_ge i 8 with q | q
      · rcases (show i = 0 ∨ i = 1 ∨ i = 2 ∨ i = 3 ∨ i = 4 ∨ i = 5 ∨ i = 6 ∨ i = 7 by omega) with rfl | rfl | rfl | rfl | rfl | rfl | rfl | rfl <;> decide
      · rw [List.getD_eq_getElem?_getD, List.getElem?_eq_none (by simpa using q)]; decide
theorem wln_le (w : Nat) : wln w ≤ 8 := by unfold wln; split <;> (try split) <;> omega
theorem nmx_lt {p c i : Nat} (hp : p ≤ 2) (hc : c < 10) : nmx p c i < 128 := by
  unfold nmx
  split <;> omega
/-- 'fits' of a rule's pattern on a text that stands -/
theorem m_fitsR (hI : IA σ) (hR : RM σ m) (hN : 80 < N) {tx : Nat → Nat} {r len a e : Nat} (hr : r < σ 0 3) (hlen : len ≤ 15) (hae : a ≤ e) (he : e ≤ 60) (hT : TX m tx len) (htx : ∀ i, tx i < 128) : Ev (M_fits N m (nI r) (nI a) (nI e)) (fun z => z.1 = bI (fts (pat σ r) tx len a e) ∧ Mf m z.2) := by
  have h8 := hI.1.2.2.2.2
  refine (m_fits hN (by omega) hlen hae he hT.1 (fun i hi => ⟨hT.2 i hi, by have := htx i; omega⟩) (fun k hk => ⟨(hR.2.2.2.2.2 r hr).2.2.2.2.2.2.2 k hk, ?_⟩)).mono (fun z hz => hz)
  have := (hI.2.2.2.2.2.2.2.2 r hr).2.2.2.2.2.2 k hk
  omega
theorem m_isAbout (hI : IA σ) (hR : RM σ m) (hA : AB σ m) (hN : 80 < N) {r c : Nat} (hr : r < σ 0 3) (hc : c < 10) : Ev (M_isAbout N m (nI r) (nI c)) (fun z => Mt m z.2 ∧ ((z.1 = 0 ∧ ¬ abt σ r c) ∨ (z.1 = 1 ∧ abt σ r c))) := by
  have h8 := hI.1.2.2.2.2
  obtain ⟨b1, b2, b3, b4, _, _⟩ := hI.2.1 c hc
  obtain ⟨r1, r2, r3, r4, r5, r6, r7⟩ := hI.2.2.2.2.2.2.2.2 r hr
  obtain ⟨s1, s2, s3, s4, s5, s6, s7, s8⟩ := hR.2.2.2.2.2 r hr
  unfold M_isAbout
  refine ev_if (fun h1 => ?_) (fun h1 => ?_)
  · have h1 := (nI_z (by omega)).mp h1
    exact ev_some ⟨Mt.rf, Or.inl ⟨rfl, fun h => by have := h.1; omega⟩⟩
  · have h1 : 0 < c := by
      rcases Nat.eq_zero_or_pos c with q | q
      · exact absurd ((nI_z (by omega)).mpr q) h1
      · exact q
    refine ev_rI hc (by decide) ?_
    rw [hR.cl 1 (by omega) (by omega) hc]
    refine ev_if (fun h2 => ?_) (fun h2 => ?_)
    · have h2 := (nI_z (by omega)).mp h2
      exact ev_some ⟨Mt.rf, Or.inl ⟨rfl, fun h => by have := h.2.2.1; omega⟩⟩
    · have h2 : σ 1 c = 1 := by
        have : ¬ σ 1 c = 0 := fun q => h2 ((nI_z (by omega)).mpr q)
        omega
      refine ev_oR (m_className hI hR hc) (fun m1 h3 => ?_)
      have hR1 := hR.same h3.1.mb
      obtain ⟨u1, u2, u3, u4, u5, u6, u7, u8⟩ := hR1.2.2.2.2.2 r hr
      refine ev_rI (by omega) (by decide) ?_
      refine ev_rI (by omega) (by decide) ?_
      rw [u2, u3]
      refine ev_oW (m_fitsR hI hR1 hN hr (len := 3) (by omega) r2 r3 ⟨h3.2.1, h3.2.2⟩ (fun i => nmx_lt b4 hc)) (fun x m2 h4 => ?_)
      obtain ⟨rfl, h4⟩ := h4
      have t2 := h3.1.tr h4.mt
      refine ev_if (fun h5 => ?_) (fun h5 => ?_)
      · have h5 := (bI_0 _).mp h5
        exact ev_some ⟨t2, Or.inl ⟨rfl, fun h => by have := h.2.2.2.1; rw [h5] at this; cases this⟩⟩
      · have h5 : fts (pat σ r) (nmx (σ 4 c) c) 3 (σ 21 r) (σ 22 r) = true := by
          cases hq : fts (pat σ r) (nmx (σ 4 c) c) 3 (σ 21 r) (σ 22 r) with
          | true => rfl
          | false => exact absurd ((bI_0 _).mpr hq) h5
        have fin : Ev (M_fitsUp N m2 (nI r) (nI c)) (fun z => Mt m z.2 ∧ ((z.1 = 0 ∧ ¬ abt σ r c) ∨ (z.1 = 1 ∧ abt σ r c))) := by
          have hR2 := hR.same t2.mb
          have hA2 := t2.AB hA
          unfold M_fitsUp
          refine ev_rI (by omega) (by decide) ?_
          obtain ⟨w1, w2, w3, w4, w5, w6, w7, w8⟩ := hR2.2.2.2.2.2 r hr
          rw [w4]
          by_cases hup : σ 23 r = 0
          · rw [if_pos hup, if_neg (by decide)]
            exact ev_some ⟨t2, Or.inr ⟨rfl, h1, hc, h2, h5, Or.inl hup⟩⟩
          · obtain ⟨x1, x2⟩ := r4 (by omega)
            rw [if_neg hup, if_pos (nI_pos' (by omega))]
            refine ev_lp (fun k z => ∃ st d, z = (st, nI r, nI c, nI d) ∧ d + k = 10 ∧ Mt m st ∧ ∀ d', d' < d → ¬ (abv σ c d' ∧ fts (pat σ r) (nmx (σ 4 d') d') 3 (σ 23 r - 1) (σ 24 r) = true)) ?_ N 10 _ (by omega) ⟨m2, 0, rfl, by omega, t2, fun d' h => by omega⟩
            rintro k z self ⟨st, d, rfl, hdk, ht, hno⟩ ih
            have hRs := hR.same ht.mb
            have hAs := ht.AB hA
            unfold M_fitsUp_L13
            dsimp only
            refine ev_if (fun h6 => ?_) (fun h6 => ?_)
            · have h6 := (nI_leI (a := 10) (by omega) (by omega)).mp h6
              refine ev_some ⟨ht, Or.inl ⟨rfl, fun h => ?_⟩⟩
              rcases h.2.2.2.2 with h | ⟨d', h⟩
              · exact hup h
              · exact hno d' (by have := abv_lt hI c hc d' h.1; omega) h
            · have hd : d < 10 := nI_gtx (a := 10) (by omega) (by omega) h6
              refine ev_rI hc (by decide) ?_
              obtain ⟨a1, c1, e1, t1⟩ := hAs c hc
              rw [e1, nI_shrbit (by omega) (by omega)]
              have hbit : a1.testBit d = true ↔ ¬ a1 / 2 ^ d % 2 = 0 := by rw [tb_div]; simp
              have next : ∀ st', Mt m st' → ¬ (abv σ c d ∧ fts (pat σ r) (nmx (σ 4 d) d) 3 (σ 23 r - 1) (σ 24 r) = true) → Ev (self (st', nI r, nI c, nI d + 1)) (fun z => Mt m z.2 ∧ ((z.1 = 0 ∧ ¬ abt σ r c) ∨ (z.1 = 1 ∧ abt σ r c))) := fun st' h' hx => by
                rw [nI_1]
                exact ih (k - 1) _ (by omega) ⟨st', d + 1, rfl, by omega, h', fun d' h => by rcases Nat.lt_or_ge d' d with q | q; exact hno d' q; rw [show d' = d by omega]; exact hx⟩
              refine ev_if (fun h7 => ?_) (fun h7 => ?_)
              · have h7 := (nI_z (by omega)).mp h7
                exact next st ht (fun h => hbit.mp ((t1 d).mpr h.1) h7)
              · have h7 : abv σ c d := (t1 d).mp (hbit.mpr (fun q => h7 ((nI_z (by omega)).mpr q)))
                refine ev_oR (m_className hI hRs hd) (fun m3 h8 => ?_)
                have hR3 := hRs.same h8.1.mb
                obtain ⟨y1, y2, y3, y4, y5, y6, y7, y8⟩ := hR3.2.2.2.2.2 r hr
                refine ev_rI (by omega) (by decide) ?_
                refine ev_rI (by omega) (by decide) ?_
                rw [y4, if_neg hup, y5 (by omega)]
                refine ev_oW (m_fitsR hI hR3 hN hr (len := 3) (by omega) (by omega) x2 ⟨h8.2.1, h8.2.2⟩ (fun i => nmx_lt (hI.2.1 d hd).2.2.2.1 hd)) (fun x m4 h9 => ?_)
                obtain ⟨rfl, h9⟩ := h9
                have t4 := (ht.tr h8.1).tr h9.mt
                refine ev_if (fun h10 => ?_) (fun h10 => ?_)
                · have h10 := (bI_0 _).mp h10
                  exact next m4 t4 (fun h => by rw [h.2] at h10; cases h10)
                · have h10 : fts (pat σ r) (nmx (σ 4 d) d) 3 (σ 23 r - 1) (σ 24 r) = true := by
                    cases hq : fts (pat σ r) (nmx (σ 4 d) d) 3 (σ 23 r - 1) (σ 24 r) with
                    | true => rfl
                    | false => exact absurd ((bI_0 _).mpr hq) h10
                  exact ev_some ⟨t4, Or.inr ⟨rfl, h1, hc, h2, h5, Or.inr ⟨d, h7, h10⟩⟩⟩
        refine ev_oW fin (fun x m5 h6 => ?_)
        obtain ⟨g1, g2 | g2⟩ := h6
        · obtain ⟨rfl, g2⟩ := g2
          rw [if_pos rfl]
          exact ev_some ⟨g1, Or.inl ⟨rfl, g2⟩⟩
        · obtain ⟨rfl, g2⟩ := g2
          rw [if_neg (by decide)]
          exact ev_some ⟨g1, Or.inr ⟨rfl, g2⟩⟩
/-- the reference's row 'about' -/
def AT (σ : Ab) (m : sk_M) : Prop := ∀ r c, r < σ 0 3 → c < 10 → (m.1 39 (10 * r + c) = 0 ↔ ¬ abt σ r c)
theorem Mt.AT {m' : sk_M} (h : Mt m m') (hA : AT σ m) : AT σ m' := fun r c h1 h2 => by
  rw [h 39 _ (by omega) (by omega) (by omega) (by omega)]; exact hA r c h1 h2
theorem m_isMeant (hI : IA σ) (hR : RM σ m) (hT : AT σ m) (hN : 80 < N) {r x : Nat} (hr : r < σ 0 3) (hx : x < σ 0 0) : Ev (M_isMeant N m (nI r) (nI x)) (fun z => Mt m z.2 ∧ ((z.1 = 0 ∧ ¬ mnt σ r x) ∨ (z.1 = 1 ∧ mnt σ r x))) := by
  have h8 := hI.1.2.2.2.2
  have hn := hI.1.2.1
  obtain ⟨b8, b9, b10, b11, b12, _⟩ := hI.2.2.2.1 x hx
  obtain ⟨r1, r2, r3, r4, r5, r6, r7⟩ := hI.2.2.2.2.2.2.2.2 r hr
  unfold M_isMeant
  refine ev_rI (by omega) (by decide) ?_
  rw [hR.mb 12 (by omega) (by omega) hx]
  refine ev_if (fun h1 => ?_) (fun h1 => ev_some ⟨Mt.rf, Or.inl ⟨rfl, fun h => h1 ((nI_z (by omega)).mpr h.1.2)⟩⟩)
  have h1 := (nI_z (by omega)).mp h1
  refine ev_rI (by omega) (by decide) ?_
  rw [hR.mb 8 (by omega) (by omega) hx, show (10 : Int32) * nI r = nI (10 * r) from pk_mul 10 r, nI_add]
  refine ev_rI (by omega) (by decide) ?_
  refine ev_if (fun h2 => ev_some ⟨Mt.rf, Or.inl ⟨rfl, fun h => (hT r _ hr b8).mp h2 h.2.1⟩⟩) (fun h2 => ?_)
  have h2 : abt σ r (σ 8 x) := Classical.byContradiction (fun q => h2 ((hT r _ hr b8).mpr q))
  refine ev_rI (by omega) (by decide) ?_
  rw [hR.mb 9 (by omega) (by omega) hx]
  refine ev_oR (m_wordText b9) (fun m1 h3 => ?_)
  refine ev_lp (fun j z => ∃ st k, z = (st, nI r, nI x, nI k) ∧ k + j = σ 25 r ∧ Mt m st ∧ TX st (wdx (σ 9 x)) (wln (σ 9 x)) ∧ ∀ k', k' < k → ¬ ((σ 26 (16 * r + k') ≠ if σ 11 x % 2 = 1 then 102 else 109) ∧ fts (pat σ r) (wdx (σ 9 x)) (wln (σ 9 x)) (σ 27 (16 * r + k')) (σ 28 (16 * r + k')) = true)) ?_ N (σ 25 r) _ (by omega) ⟨m1, 0, rfl, by omega, h3.1, h3.2, fun k' h => by omega⟩
  rintro j z self ⟨st, k, rfl, hkj, ht, htx, hno⟩ ih
  have hRs := hR.same ht.mb
  obtain ⟨w1, w2, w3, w4, w5, w6, w7, w8⟩ := hRs.2.2.2.2.2 r hr
  unfold M_isMeant_L42
  dsimp only
  refine ev_rI (by omega) (by decide) ?_
  rw [w6]
  refine ev_if (fun h4 => ?_) (fun h4 => ?_)
  · have h4 := (nI_leI (by omega) (by omega)).mp h4
    refine ev_some ⟨ht, Or.inl ⟨rfl, fun h => ?_⟩⟩
    obtain ⟨k', g1, g2⟩ := h.2.2
    exact hno k' (by omega) g2
  · have hk : k < σ 25 r := nI_gtx (by omega) (by omega) h4
    obtain ⟨q1, q2, q3⟩ := w7 k hk
    obtain ⟨v1, v2, v3⟩ := r6 k hk
    rw [show (16 : Int32) * nI r = nI (16 * r) from pk_mul 16 r, nI_add]
    refine ev_rI (by omega) (by decide) ?_
    refine ev_rI (by omega) (by decide) ?_
    rw [q1, hRs.mb 11 (by omega) (by omega) hx, nI_and1 _ (by omega)]
    have next : ∀ st', Mt m st' → TX st' (wdx (σ 9 x)) (wln (σ 9 x)) → ¬ ((σ 26 (16 * r + k) ≠ if σ 11 x % 2 = 1 then 102 else 109) ∧ fts (pat σ r) (wdx (σ 9 x)) (wln (σ 9 x)) (σ 27 (16 * r + k)) (σ 28 (16 * r + k)) = true) → Ev (self (st', nI r, nI x, nI k + 1)) (fun z => Mt m z.2 ∧ ((z.1 = 0 ∧ ¬ mnt σ r x) ∨ (z.1 = 1 ∧ mnt σ r x))) := fun st' h' hx' hq => by
      rw [nI_1]
      exact ih (j - 1) _ (by omega) ⟨st', k + 1, rfl, by omega, h', hx', fun d' h => by rcases Nat.lt_or_ge d' k with q | q; exact hno d' q; rw [show d' = k by omega]; exact hq⟩
    have J : ∀ b, b < 128 → b = (if σ 11 x % 2 = 1 then 102 else 109) → Ev (M_isMeant_J86 N self st (nI r) (nI x) (nI k) (nI (σ 26 (16 * r + k))) (nI b)) (fun z => Mt m z.2 ∧ ((z.1 = 0 ∧ ¬ mnt σ r x) ∨ (z.1 = 1 ∧ mnt σ r x))) := by
      intro b hb eb
      unfold M_isMeant_J86
      refine ev_if (fun h5 => ?_) (fun h5 => ?_)
      · have h5 := (nI_eq (by omega) (by omega)).mp h5
        exact next st ht htx (fun h => h.1 (by rw [h5, eb]))
      · have h5 : ¬ σ 26 (16 * r + k) = b := fun q => h5 ((nI_eq (by omega) (by omega)).mpr q)
        rw [show (16 : Int32) * nI r = nI (16 * r) from pk_mul 16 r, nI_add]
        refine ev_rI (by omega) (by decide) ?_
        refine ev_rI (by omega) (by decide) ?_
        rw [q2, q3]
        refine ev_oW (m_fitsR hI hRs hN hr (by have := wln_le (σ 9 x); omega) v2 v3 htx (fun i => wdx_lt b9)) (fun y m4 h9 => ?_)
        obtain ⟨rfl, h9⟩ := h9
        have htx4 : TX m4 (wdx (σ 9 x)) (wln (σ 9 x)) := ⟨by rw [h9 0 5 (by omega) (by omega)]; exact htx.1, fun i hi => by rw [h9 32 i (by omega) (by omega)]; exact htx.2 i hi⟩
        refine ev_if (fun h10 => ?_) (fun h10 => ?_)
        · have h10 := (bI_0 _).mp h10
          exact next m4 (ht.tr h9.mt) htx4 (fun h => by rw [h.2] at h10; cases h10)
        · refine ev_some ⟨ht.tr h9.mt, Or.inr ⟨rfl, ⟨hx, h1⟩, h2, k, hk, by rw [← eb]; exact h5, ?_⟩⟩
          cases hq : fts (pat σ r) (wdx (σ 9 x)) (wln (σ 9 x)) (σ 27 (16 * r + k)) (σ 28 (16 * r + k)) with
          | true => rfl
          | false => exact absurd ((bI_0 _).mpr hq) h10
    refine ev_if (fun h5 => ?_) (fun h5 => ?_)
    · have h5 := (nI_lit (b := 1) (by omega) (by omega) rfl).mp h5
      exact J 102 (by omega) (by rw [if_pos h5])
    · have h5 : ¬ σ 11 x % 2 = 1 := fun q => h5 ((nI_lit (b := 1) (by omega) (by omega) rfl).mpr q)
      exact J 109 (by omega) (by rw [if_neg h5])
end
