/-! WORDS. L: the words of a draft d of n letters, from and end -/
def wk (d : Nat → Nat) (n : Nat) : Nat → List (Nat × Nat) × Nat
  | 0 => ([], 0)
  | k + 1 => if k = n ∨ d k = 32 then ((wk d n k).1 ++ [((wk d n k).2, k)], k + 1) else wk d n k
def wds (d : Nat → Nat) (n : Nat) : List (Nat × Nat) := (wk d n (n + 1)).1
def wa (L : List (Nat × Nat)) (w : Nat) : Nat := (L.getD w (0, 0)).1
def we (L : List (Nat × Nat)) (w : Nat) : Nat := (L.getD w (0, 0)).2
theorem wa_lo {L : List (Nat × Nat)} {x : Nat × Nat} {w : Nat} (h : w < L.length) : wa (L ++ [x]) w = wa L w ∧ we (L ++ [x]) w = we L w := by
  unfold wa we
  rw [List.getD_eq_getElem?_getD, List.getD_eq_getElem?_getD, List.getElem?_append_left h]
  exact ⟨rfl, rfl⟩
theorem wa_hi (L : List (Nat × Nat)) (x : Nat × Nat) : wa (L ++ [x]) L.length = x.1 ∧ we (L ++ [x]) L.length = x.2 := by
  unfold wa we
  rw [List.getD_eq_getElem?_getD, List.getElem?_append_right (Nat.le_refl _)]
  simp
/-- what holds of the words after k letters, b the next word's begin -/
def WG (L : List (Nat × Nat)) (b k : Nat) : Prop := L.length ≤ k ∧ b ≤ k ∧ (∀ w, w < L.length → wa L w ≤ we L w ∧ we L w < k) ∧ (∀ w, w + 1 < L.length → wa L (w + 1) = we L w + 1) ∧ (∀ w, w + 1 = L.length → b = we L w + 1)
theorem wk_g (d : Nat → Nat) (n : Nat) : ∀ k, WG (wk d n k).1 (wk d n k).2 k := by
  intro k
  induction k with
  | zero => exact ⟨Nat.le_refl _, Nat.le_refl _, fun w h => absurd h (Nat.not_lt_zero _), fun w h => absurd h (Nat.not_lt_zero _), fun w h => by simp [wk] at h⟩
  | succ k ih =>
    obtain ⟨h1, h2, h3, h4, h5⟩ := ih
    unfold wk
    split
    · have e : ((wk d n k).1 ++ [((wk d n k).2, k)]).length = (wk d n k).1.length + 1 := by simp
      refine ⟨by rw [e]; omega, Nat.le_refl _, fun w h => ?_, fun w h => ?_, fun w h => ?_⟩
      · rw [e] at h
        rcases Nat.lt_or_ge w (wk d n k).1.length with q | q
        · rw [(wa_lo q).1, (wa_lo q).2]; have := h3 w q; omega
        · rw [show w = (wk d n k).1.length by omega, (wa_hi _ _).1, (wa_hi _ _).2]; exact ⟨h2, by show k < k + 1; omega⟩
      · rw [e] at h
        rcases Nat.lt_or_ge (w + 1) (wk d n k).1.length with q | q
        · rw [(wa_lo q).1, (wa_lo (show w < (wk d n k).1.length by omega)).2]; exact h4 w q
        · have q2 : w + 1 = (wk d n k).1.length := by omega
          rw [q2, (wa_hi _ _).1, (wa_lo (show w < (wk d n k).1.length by omega)).2]; exact h5 w q2
      · rw [e] at h
        rw [show w = (wk d n k).1.length by omega, (wa_hi _ _).2]
    · exact ⟨by omega, by omega, fun w h => by have := h3 w h; omega, h4, h5⟩
theorem wk_ne (d : Nat → Nat) (n : Nat) : 0 < (wds d n).length := by
  unfold wds wk
  rw [if_pos (Or.inl rfl)]
  simp
theorem wds_g (d : Nat → Nat) (n : Nat) : (wds d n).length ≤ n + 1 ∧ (∀ w, w < (wds d n).length → wa (wds d n) w ≤ we (wds d n) w ∧ we (wds d n) w ≤ n) ∧ (∀ w, w + 1 < (wds d n).length → wa (wds d n) (w + 1) = we (wds d n) w + 1) := by
  obtain ⟨h1, h2, h3, h4, h5⟩ := wk_g d n (n + 1)
  exact ⟨h1, fun w h => ⟨(h3 w h).1, Nat.lt_succ_iff.mp (h3 w h).2⟩, h4⟩
/-- the word from a to e reads t -/
def eqW (d : Nat → Nat) (a e : Nat) (t : List Nat) : Prop := e - a = t.length ∧ ∀ i, i < t.length → d (a + i) = t.getD i 0
def isW (d : Nat → Nat) (L : List (Nat × Nat)) (w : Nat) (t : List Nat) : Prop := w < L.length ∧ eqW d (wa L w) (we L w) t
def isP (d : Nat → Nat) (L : List (Nat × Nat)) (w less : Nat) : Prop := w < L.length ∧ wa L w < we L w - less ∧ ∀ k, k < we L w - less → wa L w ≤ k → ¬ d k = 59 ∧ ¬ d k = 123 ∧ ¬ d k = 125
/-- the number that the first p letters of t make, base 128 -/
def cp (t : List Nat) : Nat → Nat
  | 0 => 0
  | p + 1 => cp t p * 128 + t.getD p 0
theorem cp_lt {t : List Nat} (h : ∀ i, i < t.length → 0 < t.getD i 0 ∧ t.getD i 0 < 128) : ∀ p, p ≤ t.length → cp t p < 128 ^ p := by
  intro p
  induction p with
  | zero => intro _; simp [cp]
  | succ p ih =>
    intro hp
    have a := ih (by omega)
    have b := h p (by omega)
    simp only [cp]
    rw [Nat.pow_succ]
    omega
theorem cp_pos {t : List Nat} (h : ∀ i, i < t.length → 0 < t.getD i 0 ∧ t.getD i 0 < 128) {p : Nat} (h0 : 0 < p) (hp : p ≤ t.length) : 0 < cp t p := by
  obtain ⟨p, rfl⟩ : ∃ q, p = q + 1 := ⟨p - 1, by omega⟩
  have b := h p (by omega)
  simp only [cp]
  omega
theorem lg_eq (x y : Int64) : lg_cmp x y = 0 ↔ x = y := by
  unfold lg_cmp
  constructor
  · intro h
    by_cases h1 : x = y
    · exact h1
    · exfalso
      revert h
      split <;> (try split) <;> simp_all
  · intro h
    subst h
    rw [if_neg (by simp), if_pos rfl]
section
variable {m : sk_M} {N : Nat}
/-- the draft of the reference -/
def DR (m : sk_M) (d : Nat → Nat) (n : Nat) : Prop := m.1 0 2 = nI n ∧ n ≤ 60 ∧ ∀ k, k < n → m.1 18 k = nI (d k) ∧ 32 ≤ d k ∧ d k ≤ 126
def WM (m : sk_M) (L : List (Nat × Nat)) : Prop := m.1 0 4 = nI L.length ∧ ∀ w, w < L.length → m.1 30 w = nI (wa L w) ∧ m.1 31 w = nI (we L w)
/-- what the cutting into words leaves -/
def Mw (m m' : sk_M) : Prop := ∀ q i, ¬ q = 30 → ¬ q = 31 → ¬ (q = 0 ∧ i = 4) → m'.1 q i = m.1 q i
theorem Mw.dr {m' : sk_M} {d : Nat → Nat} {n : Nat} (h : Mw m m') (hd : DR m d n) : DR m' d n := ⟨by rw [h 0 2 (by omega) (by omega) (by omega)]; exact hd.1, hd.2.1, fun k hk => by rw [h 18 k (by omega) (by omega) (by omega)]; exact hd.2.2 k hk⟩
theorem m_partW {d : Nat → Nat} {n : Nat} (hd : DR m d n) (hN : 80 < N) : Ev (M_partW N m) (fun m' => WM m' (wds d n) ∧ Mw m m') := by
  have hn := hd.2.1
  unfold M_partW
  refine ev_fI ?_
  refine ev_lp (fun k z => ∃ st j, z = (st, nI (wk d n j).2, nI j) ∧ j + k = n + 1 ∧ WM st (wk d n j).1 ∧ Mw m st) ?_ N (n + 1) _ (by omega) ⟨_, 0, rfl, by omega, ⟨rfl, fun w h => absurd h (Nat.not_lt_zero _)⟩, fun q i h1 h2 h3 => by rw [pu_wi1, if_neg h3]⟩
  rintro k z self ⟨st, j, rfl, hk, hW, hM⟩ ih
  obtain ⟨g1, g2, g3, g4, g5⟩ := wk_g d n j
  unfold M_partW_L9
  dsimp only
  refine ev_lt n j (hu := by rw [hM 0 2 (by omega) (by omega) (by omega)]; exact hd.1) (fun h => ?_) (fun hj => ?_)
  · have e : j = n + 1 := by omega
    subst e
    exact ev_some ⟨hW, hM⟩
  · have J : (j = n ∨ d j = 32) → Ev (M_partW_J39 N self st (nI (wk d n j).2) (nI j)) (fun m' => WM m' (wds d n) ∧ Mw m m') := by
      intro hc
      have ek : wk d n (j + 1) = ((wk d n j).1 ++ [((wk d n j).2, j)], j + 1) := by rw [wk, if_pos hc]
      unfold M_partW_J39
      rw [hW.1]
      refine ev_wI (by omega) (by decide) ?_
      rw [show (sk_wi st 30 (wk d n j).1.length (nI (wk d n j).2)).1 0 4 = nI (wk d n j).1.length by rw [pu_wi1, if_neg (by omega)]; exact hW.1]
      refine ev_wI (by omega) (by decide) ?_
      refine ev_fI ?_
      rw [show (sk_wi (sk_wi st 30 (wk d n j).1.length (nI (wk d n j).2)) 31 (wk d n j).1.length (nI j)).1 0 4 = nI (wk d n j).1.length by rw [pu_wi1, if_neg (by omega), pu_wi1, if_neg (by omega)]; exact hW.1, nI_1, nI_1]
      refine ih (k - 1) _ (by omega) ⟨_, j + 1, by rw [ek], by omega, ⟨?_, fun w hw => ?_⟩, fun q i h1 h2 h3 => ?_⟩
      · rw [ek, pu_wi1, if_pos ⟨rfl, rfl⟩]; simp
      · rw [ek] at hw ⊢
        dsimp only at hw ⊢
        rcases Nat.lt_or_ge w (wk d n j).1.length with q | q
        · rw [(wa_lo q).1, (wa_lo q).2]
          refine ⟨?_, ?_⟩
          · rw [pu_wi1, if_neg (by omega), pu_wi1, if_neg (by omega), pu_wi1, if_neg (by omega)]; exact (hW.2 w q).1
          · rw [pu_wi1, if_neg (by omega), pu_wi1, if_neg (by omega), pu_wi1, if_neg (by omega)]; exact (hW.2 w q).2
        · have q2 : w = (wk d n j).1.length := by rw [List.length_append] at hw; simp at hw; omega
          rw [q2, (wa_hi _ _).1, (wa_hi _ _).2]
          refine ⟨?_, ?_⟩
          · rw [pu_wi1, if_neg (by omega), pu_wi1, if_neg (by omega), pu_wi1, if_pos ⟨rfl, rfl⟩]
          · rw [pu_wi1, if_neg (by omega), pu_wi1, if_pos ⟨rfl, rfl⟩]
      · rw [pu_wi1, if_neg h3, pu_wi1, if_neg (by omega), pu_wi1, if_neg (by omega)]; exact hM q i h1 h2 h3
    refine ev_le n j (hu := by rw [hM 0 2 (by omega) (by omega) (by omega)]; exact hd.1) (fun h => J (Or.inl (by omega))) (fun h => ?_)
    obtain ⟨d1, d2, d3⟩ := hd.2.2 j h
    refine ev_rI (by omega) (by decide) ?_
    refine ev_qn (d j) 32 (hu := by rw [hM 18 j (by omega) (by omega) (by omega)]; exact d1) (fun h2 => J (Or.inr h2)) (fun h2 => ?_)
    have ek : wk d n (j + 1) = wk d n j := by rw [wk, if_neg (by omega)]
    rw [nI_1]
    exact ih (k - 1) _ (by omega) ⟨st, j + 1, by rw [ek], by omega, by rw [ek]; exact hW, hM⟩
theorem lgi {a b : Nat} (ha : a < 2 ^ 31) (hb : b < 2 ^ 63) : lg_cmp (nI a).toInt64 (lN b) = 0 ↔ a = b := by
  rw [lg_eq, nI_l ha]
  exact pk_lEQ (by omega) hb
theorem m_isWord {d : Nat → Nat} {n : Nat} (hd : DR m d n) (hN : 80 < N) {w W a e : Nat} {t : List Nat} {c : Int64} (hc : c = lN (cp t t.length)) (ht0 : 0 < t.length) (ht : ∀ i, i < t.length → 0 < t.getD i 0 ∧ t.getD i 0 < 128) (h8 : t.length ≤ 8) (hw : w < W) (hW : W < 64) (hm : m.1 0 4 = nI W) (ha : m.1 30 w = nI a) (he : m.1 31 w = nI e) (hae : a ≤ e) (hen : e ≤ n) :
    Ev (M_isWord N m (nI w) c) (fun r => (r = 0 ∧ ¬ eqW d a e t) ∨ (r = 1 ∧ eqW d a e t)) := by
  have hn := hd.2.1
  have cl : ∀ p, p ≤ t.length → cp t p < 2 ^ 63 := fun p hp => Nat.lt_of_lt_of_le (cp_lt ht p hp) (Nat.le_trans (Nat.pow_le_pow_right (by decide) (show p ≤ 8 by omega)) (by decide))
  unfold M_isWord
  refine ev_lt w W (hv := hm) (fun _ => ?_) (fun h => by omega)
  refine ev_rI (by omega) (by decide) ?_
  rw [he, hc]
  refine ev_lp (fun k z => ∃ j, z = (nI w, lN (cp t (t.length - j)), nI (e - j) - 1) ∧ j + k = e - a ∧ j ≤ t.length ∧ ∀ i, i < j → d (e - 1 - i) = t.getD (t.length - 1 - i) 0) ?_ N (e - a) _ (by omega) ⟨0, by rw [Nat.sub_zero, Nat.sub_zero], by omega, by omega, fun i h => by omega⟩
  rintro k z self ⟨j, rfl, hk, hjt, hj⟩ ih
  unfold M_isWord_L23
  dsimp only
  refine ev_rI (by omega) (by decide) ?_
  rw [ha]
  by_cases hje : e - j = a
  · have lt : nI (e - j) - 1 < nI a := by
      rw [hje]
      rcases Nat.eq_zero_or_pos a with q | q
      · subst q; decide
      · rw [nI_m1 q]; exact (nI_ltI (by omega) (by omega)).mpr (by omega)
    rw [if_pos lt]
    unfold M_isWord_J68
    by_cases q : j = t.length
    · rw [if_pos (by rw [q, Nat.sub_self, lg_eq]; rfl)]
      refine ev_rI (by omega) (by decide) ?_
      refine ev_rI (by omega) (by decide) ?_
      refine ev_le e a (hu := he) (hv := ha) (fun h => by omega) (fun h => ev_some (Or.inr ⟨rfl, by omega, fun i hi => ?_⟩))
      have := hj (t.length - 1 - i) (by omega)
      rw [show e - 1 - (t.length - 1 - i) = a + i by omega, show t.length - 1 - (t.length - 1 - i) = i by omega] at this
      exact this
    · rw [if_neg]
      · exact ev_some (Or.inl ⟨rfl, fun h => by have := h.1; omega⟩)
      · rw [lg_eq, show (0 : Int64) = lN 0 from rfl, pk_lEQ (cl _ (by omega)) (by decide)]
        have := cp_pos ht (p := t.length - j) (by omega) (by omega)
        omega
  · have hja : a < e - j := by omega
    rw [nI_m1 (by omega), if_neg (by rw [nI_ltI (by omega) (by omega)]; omega)]
    refine ev_rI (by omega) (by decide) ?_
    obtain ⟨d1, d2, d3⟩ := hd.2.2 (e - j - 1) (by omega)
    rw [d1, show (128 : Int64) = lN 128 from rfl, pk_lRem (cl _ (by omega)) (by omega) (by omega), pk_lDiv (cl _ (by omega)) (by omega) (by omega)]
    rcases Nat.lt_or_ge j t.length with q | q
    · have ec : cp t (t.length - j) = cp t (t.length - (j + 1)) * 128 + t.getD (t.length - 1 - j) 0 := by
        rw [show t.length - j = (t.length - (j + 1)) + 1 by omega]
        simp only [cp]
        rw [show t.length - (j + 1) = t.length - 1 - j by omega]
      have b := (ht (t.length - 1 - j) (by omega))
      have em : cp t (t.length - j) % 128 = t.getD (t.length - 1 - j) 0 := by omega
      have ed : cp t (t.length - j) / 128 = cp t (t.length - (j + 1)) := by omega
      rw [em, ed]
      refine ev_if (fun h => ?_) (fun h => ?_)
      · have h := (lgi (by omega) (by omega)).mp h
        rw [show nI (e - j - 1) + -1 = nI (e - (j + 1)) - 1 by rw [show e - (j + 1) = e - j - 1 by omega]; exact (Int32.sub_eq_add_neg ..).symm]
        refine ih (k - 1) _ (by omega) ⟨j + 1, rfl, by omega, by omega, fun i hi => ?_⟩
        rcases Nat.lt_or_ge i j with q2 | q2
        · exact hj i q2
        · rw [show i = j by omega, show e - 1 - j = e - j - 1 by omega]; exact h
      · refine ev_some (Or.inl ⟨rfl, fun hq => h ((lgi (by omega) (by omega)).mpr ?_)⟩)
        have := hq.2 (t.length - 1 - j) (by omega)
        rw [show a + (t.length - 1 - j) = e - j - 1 by have := hq.1; omega] at this
        exact this
    · rw [show t.length - j = 0 by omega]
      rw [if_neg]
      · exact ev_some (Or.inl ⟨rfl, fun h => by have := h.1; omega⟩)
      · rw [show cp t 0 % 128 = 0 from rfl, lgi (by omega) (by omega)]; omega
end
