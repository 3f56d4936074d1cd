/-! PATTERNS. R i: the pattern so far fits the first i letters of the text -/
def bI (b : Bool) : Int32 := if b then 1 else 0
theorem bI_nar (b : Bool) : vp_nar .boolean (bI b) = bI b := by cases b <;> decide
theorem bI_0 (b : Bool) : bI b = 0 ↔ b = false := by cases b <;> decide
theorem bI_and (b : Bool) : bI b &&& 1 = bI b := by cases b <;> decide
def st1 (R : Nat → Bool) (tx : Nat → Nat) (c : Nat) (i : Nat) : Bool := match i with
  | 0 => false
  | i + 1 => R i && (if c = 63 then decide (tx i ≠ 46) else decide (tx i = c))
def stM (R : Nat → Bool) (tx : Nat → Nat) (dots : Bool) : Nat → Bool
  | 0 => R 0
  | i + 1 => R (i + 1) || (stM R tx dots i && (dots || decide (tx i ≠ 46)))
def ftN (pt tx : Nat → Nat) (e : Nat) : Nat → Nat → (Nat → Bool) → (Nat → Bool)
  | 0, _, R => R
  | n + 1, k, R => if e ≤ k then R else if pt k = 42 then (if k + 1 < e ∧ pt (k + 1) = 42 then ftN pt tx e n (k + 2) (stM R tx true) else ftN pt tx e n (k + 1) (stM R tx false)) else ftN pt tx e n (k + 1) (st1 R tx (pt k))
def fts (pt tx : Nat → Nat) (len a e : Nat) : Bool := ftN pt tx e (e - a) a (fun i => decide (i = 0)) len
theorem ftN_end {pt tx : Nat → Nat} {e n k : Nat} {R : Nat → Bool} (h : e ≤ k) : ftN pt tx e n k R = R := by
  cases n with
  | zero => rfl
  | succ n => simp [ftN, h]
theorem ftN_fuel {pt tx : Nat → Nat} {e : Nat} : ∀ (n k : Nat) (R : Nat → Bool), e - k ≤ n → ftN pt tx e n k R = ftN pt tx e (e - k) k R := by
  intro n
  induction n using Nat.strongRecOn with
  | ind n ih =>
    intro k R h
    rcases Nat.lt_or_ge k e with hk | hk
    · obtain ⟨n, rfl⟩ : ∃ j, n = j + 1 := ⟨n - 1, by omega⟩
      obtain ⟨f, hf⟩ : ∃ j, e - k = j + 1 := ⟨e - k - 1, by omega⟩
      rw [hf]
      have hne : ¬ e ≤ k := by omega
      simp only [ftN, if_neg hne]
      by_cases h1 : pt k = 42
      · rw [if_pos h1, if_pos h1]
        by_cases h2 : k + 1 < e ∧ pt (k + 1) = 42
        · rw [if_pos h2, if_pos h2, ih n (by omega) _ _ (by omega)]
          rcases Nat.lt_or_ge f n with q | q
          · rw [ih f (by omega) _ _ (by omega)]
          · rw [show f = n by omega, ih n (by omega) _ _ (by omega)]
        · rw [if_neg h2, if_neg h2, ih n (by omega) _ _ (by omega), show f = e - (k + 1) by omega]
      · rw [if_neg h1, if_neg h1, ih n (by omega) _ _ (by omega), show f = e - (k + 1) by omega]
    · rw [ftN_end hk, ftN_end hk]
theorem ftN_one {pt tx : Nat → Nat} {e k : Nat} {R : Nat → Bool} (hk : k < e) (h : ¬ pt k = 42) : ftN pt tx e (e - k) k R = ftN pt tx e (e - (k + 1)) (k + 1) (st1 R tx (pt k)) := by
  obtain ⟨f, hf⟩ : ∃ j, e - k = j + 1 := ⟨e - k - 1, by omega⟩
  rw [hf]
  simp only [ftN]
  rw [if_neg (by omega), if_neg h, show e - (k + 1) = f by omega]
theorem ftN_two {pt tx : Nat → Nat} {e k : Nat} {R : Nat → Bool} (hk : k + 1 < e) (h : pt k = 42) (h2 : pt (k + 1) = 42) : ftN pt tx e (e - k) k R = ftN pt tx e (e - (k + 2)) (k + 2) (stM R tx true) := by
  obtain ⟨f, hf⟩ : ∃ j, e - k = j + 1 := ⟨e - k - 1, by omega⟩
  rw [hf]
  simp only [ftN]
  rw [if_neg (by omega), if_pos h, if_pos ⟨hk, h2⟩, ftN_fuel f _ _ (by omega)]
theorem ftN_star {pt tx : Nat → Nat} {e k : Nat} {R : Nat → Bool} (hk : k < e) (h : pt k = 42) (h2 : ¬ (k + 1 < e ∧ pt (k + 1) = 42)) : ftN pt tx e (e - k) k R = ftN pt tx e (e - (k + 1)) (k + 1) (stM R tx false) := by
  obtain ⟨f, hf⟩ : ∃ j, e - k = j + 1 := ⟨e - k - 1, by omega⟩
  rw [hf]
  simp only [ftN]
  rw [if_neg (by omega), if_pos h, if_neg h2, show e - (k + 1) = f by omega]
/-- only the first len letters count -/
theorem st1_cong {R R' : Nat → Bool} {tx : Nat → Nat} {c len : Nat} (h : ∀ i, i ≤ len → R i = R' i) : ∀ i, i ≤ len → st1 R tx c i = st1 R' tx c i := by
  intro i hi
  cases i with
  | zero => rfl
  | succ i => simp only [st1]; rw [h i (by omega)]
theorem stM_cong {R R' : Nat → Bool} {tx : Nat → Nat} {d : Bool} {len : Nat} (h : ∀ i, i ≤ len → R i = R' i) : ∀ i, i ≤ len → stM R tx d i = stM R' tx d i := by
  intro i
  induction i with
  | zero => intro hi; exact h 0 hi
  | succ i ih => intro hi; simp only [stM]; rw [h (i + 1) hi, ih (by omega)]
section
variable {m : sk_M} {N : Nat}
theorem nI_gtx {a b : Nat} (ha : a < 2 ^ 31) (hb : b < 2 ^ 31) (h : ¬ nI a ≤ nI b) : b < a := by
  rcases Nat.lt_or_ge b a with q | q
  · exact q
  · exact absurd ((nI_leI ha hb).mpr q) h
theorem nI_nl {a b : Nat} (ha : a < 2 ^ 31) (hb : b < 2 ^ 31) (h : ¬ nI a < nI b) : b ≤ a := by
  rcases Nat.lt_or_ge a b with q | q
  · exact absurd ((nI_ltI ha hb).mpr q) h
  · exact q
set_option maxHeartbeats 1000000 in
theorem m_fits (hN : 80 < N) {pt tx : Nat → Nat} {r len a e : Nat} (hr : r < 8) (hlen : len ≤ 15) (hae : a ≤ e) (he : e ≤ 60) (hsz : m.1 0 5 = nI len) (htx : ∀ i, i < len → m.1 32 i = nI (tx i) ∧ tx i < 2 ^ 31) (hpt : ∀ k, k < 60 → m.1 19 (60 * r + k) = nI (pt k) ∧ pt k < 2 ^ 31) :
    Ev (M_fits N m (nI r) (nI a) (nI e)) (fun z => z.1 = bI (fts pt tx len a e) ∧ ∀ q i, q ≠ 33 → q ≠ 34 → z.2.1 q i = m.1 q i) := by
  unfold M_fits
  rw [show (60 : Int32) * nI r = nI (60 * r) from pk_mul 60 r]
  refine ev_lp (fun k z => ∃ st i, z = (st, nI e, nI (60 * r), nI a, nI i) ∧ i + k = len + 1 ∧ (∀ q j, q ≠ 33 → q ≠ 34 → st.1 q j = m.1 q j) ∧ ∀ j, j < i → st.1 33 j = bI (decide (j = 0))) ?_ N (len + 1) _ (by omega) ⟨m, 0, rfl, by omega, fun _ _ _ _ => rfl, fun j h => by omega⟩
  rintro k z self ⟨st, i, rfl, hik, hfr, hnow⟩ ih
  unfold M_fits_L12
  dsimp only
  rw [hfr 0 5 (by omega) (by omega), hsz]
  refine ev_if (fun h1 => ?_) (fun h1 => ?_)
  · have h1 := (nI_ltI (by omega) (by omega)).mp h1
    unfold M_fits_J44
    refine ev_lp (fun k2 z => ∃ st k R, z = (st, nI e, nI (60 * r), nI k) ∧ k + k2 = e ∧ a ≤ k ∧ (∀ q j, q ≠ 33 → q ≠ 34 → st.1 q j = m.1 q j) ∧ (∀ j, j ≤ len → st.1 33 j = bI (R j)) ∧ ftN pt tx e (e - k) k R len = fts pt tx len a e) ?_ N (e - a) _ (by omega) ⟨st, a, fun i => decide (i = 0), rfl, by omega, by omega, hfr, fun j hj => hnow j (by omega), rfl⟩
    rintro k2 z self2 ⟨st, k, R, rfl, hk2, hak, hfr, hnow, hft⟩ ih2
    unfold M_fits_L44
    dsimp only
    refine ev_if (fun h2 => ?_) (fun h2 => ?_)
    · have h2 := (nI_leI (by omega) (by omega)).mp h2
      unfold M_fits_J316
      rw [hfr 0 5 (by omega) (by omega), hsz]
      refine ev_rI (by omega) (by decide) ?_
      rw [hnow len (by omega), if_pos (bI_and _)]
      rw [ftN_end h2] at hft
      exact ev_some ⟨by rw [hft], hfr⟩
    · have hke : k < e := nI_gtx (by omega) (by omega) h2
      have ptk : ∀ j, j < 60 → st.1 19 (60 * r + j) = nI (pt j) ∧ pt j < 2 ^ 31 := fun j hj => by rw [hfr 19 _ (by omega) (by omega)]; exact hpt j hj
      -- one turn of the inner loops
      have turn : ∀ (tw : Int32) (R' : Nat → Bool), (∀ i, i ≤ len → R' i = if pt k = 42 then stM R tx (decide (¬ tw = 0)) i else st1 R tx (pt k) i) → (tw = 0 → ftN pt tx e (e - (k + 1)) (k + 1) R' len = fts pt tx len a e) → (¬ tw = 0 → k + 2 ≤ e ∧ ftN pt tx e (e - (k + 2)) (k + 2) R' len = fts pt tx len a e) → Ev (M_fits_J99 N (fun st => M_fits_J316 N st) self2 st (nI e) (nI (60 * r)) (nI k) (nI (pt k)) tw) (fun z => z.1 = bI (fts pt tx len a e) ∧ ∀ q i, q ≠ 33 → q ≠ 34 → z.2.1 q i = m.1 q i) := by
        intro tw R' hR' hf0 hf1
        unfold M_fits_J99
        refine ev_lp (fun k3 z => ∃ st i, z = (st, nI e, nI (60 * r), nI k, nI (pt k), tw, nI i) ∧ i + k3 = len + 1 ∧ (∀ q j, q ≠ 33 → q ≠ 34 → st.1 q j = m.1 q j) ∧ (∀ j, j ≤ len → st.1 33 j = bI (R j)) ∧ ∀ j, j < i → st.1 34 j = bI (R' j)) ?_ N (len + 1) _ (by omega) ⟨st, 0, rfl, by omega, hfr, hnow, fun j h => by omega⟩
        rintro k3 z self3 ⟨st, i, rfl, hik, hfr, hnow, hnx⟩ ih3
        unfold M_fits_L104
        dsimp only
        rw [hfr 0 5 (by omega) (by omega), hsz]
        refine ev_if (fun h4 => ?_) (fun h4 => ?_)
        · have h4 := (nI_ltI (by omega) (by omega)).mp h4
          unfold M_fits_J266
          refine ev_lp (fun k4 z => ∃ st i, z = (st, nI e, nI (60 * r), nI k, tw, nI i) ∧ i + k4 = len + 1 ∧ (∀ q j, q ≠ 33 → q ≠ 34 → st.1 q j = m.1 q j) ∧ (∀ j, j ≤ len → st.1 34 j = bI (R' j)) ∧ ∀ j, j < i → st.1 33 j = bI (R' j)) ?_ N (len + 1) _ (by omega) ⟨st, 0, rfl, by omega, hfr, fun j hj => hnx j (by omega), fun j h => by omega⟩
          rintro k4 z self4 ⟨st, i, rfl, hik4, hfr, hnx, hnow⟩ ih4
          unfold M_fits_L269
          dsimp only
          rw [hfr 0 5 (by omega) (by omega), hsz]
          refine ev_if (fun h5 => ?_) (fun h5 => ?_)
          · have h5 := (nI_ltI (by omega) (by omega)).mp h5
            unfold M_fits_J298
            refine ev_if (fun h6 => ?_) (fun h6 => ?_)
            · rw [show nI k + 1 = nI (k + 1) from nI_1 k]
              exact ih2 (k2 - 1) _ (by omega) ⟨st, k + 1, R', rfl, by omega, by omega, hfr, fun j hj => hnow j (by omega), hf0 h6⟩
            · rw [show nI k + 2 = nI (k + 2) from nI_add k 2]
              obtain ⟨q1, q2⟩ := hf1 h6
              exact ih2 (k2 - 2) _ (by omega) ⟨st, k + 2, R', rfl, by omega, by omega, hfr, fun j hj => hnow j (by omega), q2⟩
          · have hi : i ≤ len := nI_nl (by omega) (by omega) h5
            refine ev_rI (by omega) (by decide) ?_
            refine ev_wI (by omega) (by decide) ?_
            rw [hnx i hi, bI_nar, nI_1]
            refine ih4 (k4 - 1) _ (by omega) ⟨_, i + 1, rfl, by omega, fun q j h1 h2 => by rw [pu_wi1, if_neg (fun q => h1 q.1)]; exact hfr q j h1 h2, fun j hj => by rw [pu_wi1, if_neg (fun q => by omega)]; exact hnx j hj, fun j hj => ?_⟩
            rw [pu_wi1]
            by_cases q : j = i
            · subst q; rw [if_pos ⟨rfl, rfl⟩]
            · rw [if_neg (fun z => q z.2)]; exact hnow j (by omega)
        · have hi : i ≤ len := nI_nl (by omega) (by omega) h4
          have fin : ∀ b : Bool, b = R' i → Ev (sk_wI 20 34 (nI i) (vp_nar .boolean (bI b)) st fun st201 => self3 (st201, nI e, nI (60 * r), nI k, nI (pt k), tw, nI i + 1)) (fun z => z.1 = bI (fts pt tx len a e) ∧ ∀ q i, q ≠ 33 → q ≠ 34 → z.2.1 q i = m.1 q i) := by
            intro b hb
            refine ev_wI (by omega) (by decide) ?_
            rw [bI_nar, nI_1]
            refine ih3 (k3 - 1) _ (by omega) ⟨_, i + 1, rfl, by omega, fun q j h1 h2 => by rw [pu_wi1, if_neg (fun q => h2 q.1)]; exact hfr q j h1 h2, fun j hj => by rw [pu_wi1, if_neg (fun q => by omega)]; exact hnow j hj, fun j hj => ?_⟩
            rw [pu_wi1]
            by_cases q : j = i
            · subst q; rw [if_pos ⟨rfl, rfl⟩, hb]
            · rw [if_neg (fun z => q z.2)]; exact hnx j (by omega)
          have hRi := hR' i hi
          have txi : 0 < i → st.1 32 (i - 1) = nI (tx (i - 1)) ∧ tx (i - 1) < 2 ^ 31 := fun h => by rw [hfr 32 _ (by omega) (by omega)]; exact htx _ (by omega)
          have J : ∀ b : Bool, (b = true → 0 < i) → (0 < i → b = R (i - 1)) → Ev (M_fits_J135 N (fun st v3 v4 v5 v7 => M_fits_J266 N (fun st => M_fits_J316 N st) self2 st v3 v4 v5 v7) self3 st (nI e) (nI (60 * r)) (nI k) (nI (pt k)) tw (nI i) (bI b)) (fun z => z.1 = bI (fts pt tx len a e) ∧ ∀ q i, q ≠ 33 → q ≠ 34 → z.2.1 q i = m.1 q i) := by
            intro b hb0 hb
            unfold M_fits_J135
            refine ev_if (fun h6 => ?_) (fun h6 => ?_)
            · have h6 : pt k = 42 := (nI_lit (b := 42) (ptk k (by omega)).2 (by omega) rfl).mp h6
              rw [if_pos h6] at hRi
              unfold M_fits_J200 M_fits_J196 M_fits_J201
              refine ev_rI (by omega) (by decide) ?_
              rw [hnow i hi]
              refine ev_if (fun h7 => ?_) (fun h7 => ?_)
              · have h7 := (bI_0 _).mp h7
                refine ev_if (fun h8 => ?_) (fun h8 => ?_)
                · have h8 := (nI_leI (b := 0) (by omega) (by omega)).mp h8
                  have h8 : i = 0 := by omega
                  subst h8
                  exact fin false (by rw [hRi]; simp only [stM]; exact h7.symm)
                · have h8 : 0 < i := by
                    rcases Nat.eq_zero_or_pos i with q | q
                    · exact absurd (by rw [q]; exact (nI_leI (a := 0) (b := 0) (by omega) (by omega)).mpr (by omega)) h8
                    · exact q
                  obtain ⟨i, rfl⟩ : ∃ j, i = j + 1 := ⟨i - 1, by omega⟩
                  rw [show nI (i + 1) - 1 = nI i from nI_pred i]
                  refine ev_rI (by omega) (by decide) ?_
                  rw [hnx i (by omega), hR' i (by omega), if_pos h6]
                  have e1 : R' (i + 1) = (stM R tx (decide (¬ tw = 0)) i && (decide (¬ tw = 0) || decide (tx i ≠ 46))) := by
                    rw [hRi]; simp only [stM]; rw [h7]; simp
                  refine ev_if (fun h9 => ?_) (fun h9 => ?_)
                  · have h9 := (bI_0 _).mp h9
                    exact fin false (by rw [e1, h9]; simp)
                  · have h9 : stM R tx (decide (¬ tw = 0)) i = true := by
                      cases hq : stM R tx (decide (¬ tw = 0)) i with
                      | true => rfl
                      | false => exact absurd ((bI_0 _).mpr hq) h9
                    refine ev_if (fun h10 => ?_) (fun h10 => ?_)
                    · refine ev_rI (by omega) (by decide) ?_
                      have t1 := txi (by omega)
                      rw [show i + 1 - 1 = i by omega] at t1
                      rw [t1.1]
                      refine ev_if (fun h11 => ?_) (fun h11 => ?_)
                      · have h11 := (nI_lit (b := 46) t1.2 (by omega) rfl).mp h11
                        exact fin false (by rw [e1, h9]; simp [h10, h11])
                      · have h11 : ¬ tx i = 46 := fun q => h11 ((nI_lit (b := 46) t1.2 (by omega) rfl).mpr q)
                        exact fin true (by rw [e1, h9]; simp [h11])
                    · exact fin true (by rw [e1, h9]; simp [h10])
              · have h7 : R i = true := by
                  cases hq : R i with
                  | true => rfl
                  | false => exact absurd ((bI_0 _).mpr hq) h7
                refine fin true ?_
                rw [hRi]
                cases i with
                | zero => simp only [stM]; exact h7.symm
                | succ i => simp only [stM]; rw [h7]; simp
            · have h6 : ¬ pt k = 42 := fun q => h6 ((nI_lit (b := 42) (ptk k (by omega)).2 (by omega) rfl).mpr q)
              rw [if_neg h6] at hRi
              unfold M_fits_J258 M_fits_J254 M_fits_J259
              refine ev_if (fun h7 => ?_) (fun h7 => ?_)
              · have h7 := (bI_0 _).mp h7
                refine fin false ?_
                rw [hRi]
                cases i with
                | zero => rfl
                | succ i => simp only [st1]; rw [show R i = false by rw [← h7, hb (by omega)]; rfl]; simp
              · have h7 : b = true := by
                  cases hq : b with
                  | true => rfl
                  | false => exact absurd ((bI_0 _).mpr hq) h7
                have h8 := hb0 h7
                obtain ⟨i, rfl⟩ : ∃ j, i = j + 1 := ⟨i - 1, by omega⟩
                have hRt : R i = true := by rw [← h7, hb (by omega)]; rfl
                have t1 := txi (by omega)
                rw [show i + 1 - 1 = i by omega] at t1
                rw [show nI (i + 1) - 1 = nI i from nI_pred i]
                simp only [st1] at hRi
                rw [hRt] at hRi
                refine ev_if (fun h9 => ?_) (fun h9 => ?_)
                · have h9 := (nI_lit (b := 63) (ptk k (by omega)).2 (by omega) rfl).mp h9
                  rw [if_pos h9] at hRi
                  refine ev_rI (by omega) (by decide) ?_
                  rw [t1.1]
                  refine ev_if (fun h11 => ?_) (fun h11 => ?_)
                  · have h11 := (nI_lit (b := 46) t1.2 (by omega) rfl).mp h11
                    exact fin false (by rw [hRi]; simp [h11])
                  · have h11 : ¬ tx i = 46 := fun q => h11 ((nI_lit (b := 46) t1.2 (by omega) rfl).mpr q)
                    exact fin true (by rw [hRi]; simp [h11])
                · have h9 : ¬ pt k = 63 := fun q => h9 ((nI_lit (b := 63) (ptk k (by omega)).2 (by omega) rfl).mpr q)
                  rw [if_neg h9] at hRi
                  refine ev_rI (by omega) (by decide) ?_
                  rw [t1.1]
                  refine ev_if (fun h11 => ?_) (fun h11 => ?_)
                  · have h11 := (nI_eq t1.2 (ptk k (by omega)).2).mp h11
                    exact fin true (by rw [hRi]; simp [h11])
                  · have h11 : ¬ tx i = pt k := fun q => h11 ((nI_eq t1.2 (ptk k (by omega)).2).mpr q)
                    exact fin false (by rw [hRi]; simp [h11])
          refine ev_if (fun h5 => ?_) (fun h5 => ?_)
          · have h5 := (nI_leI (b := 0) (by omega) (by omega)).mp h5
            unfold M_fits_J134
            exact J false (fun h => by cases h) (fun h => by omega)
          · have h5 : 0 < i := nI_gtx (b := 0) (by omega) (by omega) h5
            rw [nI_m1 h5]
            refine ev_rI (by omega) (by decide) ?_
            rw [hnow (i - 1) (by omega)]
            refine ev_if (fun h6 => ?_) (fun h6 => ?_)
            · have h6 := (bI_0 _).mp h6
              unfold M_fits_J134
              exact J false (fun h => by cases h) (fun _ => h6.symm)
            · have h6 : R (i - 1) = true := by
                cases hq : R (i - 1) with
                | true => rfl
                | false => exact absurd ((bI_0 _).mpr hq) h6
              exact J true (fun _ => h5) (fun _ => h6.symm)
      rw [nI_add]
      refine ev_rI (by omega) (by decide) ?_
      rw [(ptk k (by omega)).1]
      have one : ¬ (k + 1 < e ∧ pt k = 42 ∧ pt (k + 1) = 42) → Ev (M_fits_J98 N (fun st => M_fits_J316 N st) self2 st (nI e) (nI (60 * r)) (nI k) (nI (pt k))) (fun z => z.1 = bI (fts pt tx len a e) ∧ ∀ q i, q ≠ 33 → q ≠ 34 → z.2.1 q i = m.1 q i) := by
        intro hn2
        unfold M_fits_J98
        refine turn 0 (fun i => if pt k = 42 then stM R tx false i else st1 R tx (pt k) i) (fun i _ => by simp) (fun _ => ?_) (fun h => absurd rfl h)
        by_cases q : pt k = 42
        · simp only [if_pos q]
          rw [← ftN_star hke q (fun z => hn2 ⟨z.1, q, z.2⟩)]
          exact hft
        · simp only [if_neg q]
          rw [← ftN_one hke q]
          exact hft
      refine ev_if (fun h3 => ?_) (fun h3 => ?_)
      · have h3 := (nI_lit (b := 42) (ptk k (by omega)).2 (by omega) rfl).mp h3
        rw [show nI k + 1 = nI (k + 1) from nI_1 k]
        refine ev_if (fun h4 => ?_) (fun h4 => ?_)
        · have h4 := (nI_leI (by omega) (by omega)).mp h4
          exact one (fun q => by omega)
        · have h4 : k + 1 < e := nI_gtx (by omega) (by omega) h4
          rw [show nI (60 * r + k) + 1 = nI (60 * r + (k + 1)) from nI_1 (60 * r + k)]
          refine ev_rI (by omega) (by decide) ?_
          rw [(ptk (k + 1) (by omega)).1]
          refine ev_if (fun h5 => ?_) (fun h5 => ?_)
          · have h5 := (nI_lit (b := 42) (ptk (k + 1) (by omega)).2 (by omega) rfl).mp h5
            refine turn 1 (fun i => stM R tx true i) (fun i _ => by rw [if_pos h3]; simp) (fun h => absurd h (by decide)) (fun _ => ⟨by omega, ?_⟩)
            rw [← ftN_two h4 h3 h5]
            exact hft
          · have h5 : ¬ pt (k + 1) = 42 := fun q => h5 ((nI_lit (b := 42) (ptk (k + 1) (by omega)).2 (by omega) rfl).mpr q)
            exact one (fun q => h5 q.2.2)
      · have h3 : ¬ pt k = 42 := fun q => h3 ((nI_lit (b := 42) (ptk k (by omega)).2 (by omega) rfl).mpr q)
        exact one (fun q => h3 q.2.1)
  · have hi : i ≤ len := nI_nl (by omega) (by omega) h1
    have fin : ∀ b : Bool, b = decide (i = 0) → Ev (M_fits_J37 N (fun st v3 v4 v5 => M_fits_J44 N st v3 v4 v5) self st (nI e) (nI (60 * r)) (nI a) (nI i) (nI i) (bI b)) (fun z => z.1 = bI (fts pt tx len a e) ∧ ∀ q i, q ≠ 33 → q ≠ 34 → z.2.1 q i = m.1 q i) := by
      intro b hb
      unfold M_fits_J37
      refine ev_wI (by omega) (by decide) ?_
      rw [bI_nar, nI_1]
      refine ih (k - 1) _ (by omega) ⟨_, i + 1, rfl, by omega, fun q j h1 h2 => by rw [pu_wi1, if_neg (fun q => h1 q.1)]; exact hfr q j h1 h2, fun j hj => ?_⟩
      rw [pu_wi1]
      by_cases q : j = i
      · subst q; rw [if_pos ⟨rfl, rfl⟩, hb]
      · rw [if_neg (fun z => q z.2)]; exact hnow j (by omega)
    refine ev_if (fun h2 => ?_) (fun h2 => ?_)
    · have h2 := (nI_z (by omega)).mp h2
      exact fin true (by simp [h2])
    · have h2 : ¬ i = 0 := fun q => h2 ((nI_z (by omega)).mpr q)
      exact fin false (by simp [h2])
end
