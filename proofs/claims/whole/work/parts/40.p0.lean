/-! PURE ROWS about memories and mirrors -/
theorem pu_rI {α : Type} {n r i : Nat} {st : sk_M} {k : Int32 → Option α} (h : i < n) (hn : n < 2 ^ 31) : sk_rI n r (nI i) st k = k (st.1 r i) := by
  unfold sk_rI
  rw [if_neg (nI_in h hn), nI_clamp (by omega)]
theorem pu_rL {α : Type} {n r i : Nat} {st : sk_M} {k : Int64 → Option α} (h : i < n) (hn : n < 2 ^ 31) : sk_rL n r (nI i) st k = k (st.2 r i) := by
  unfold sk_rL
  rw [if_neg (nI_in h hn), nI_clamp (by omega)]
theorem pu_wI {α : Type} {n r i : Nat} {v : Int32} {st : sk_M} {k : sk_M → Option α} (h : i < n) (hn : n < 2 ^ 31) : sk_wI n r (nI i) v st k = k (sk_wi st r i v) := by
  unfold sk_wI
  rw [if_neg (nI_in h hn), nI_clamp (by omega)]
theorem pu_wL {α : Type} {n r i : Nat} {v : Int64} {st : sk_M} {k : sk_M → Option α} (h : i < n) (hn : n < 2 ^ 31) : sk_wL n r (nI i) v st k = k (sk_wl st r i v) := by
  unfold sk_wL
  rw [if_neg (nI_in h hn), nI_clamp (by omega)]
theorem pu_oR {α β : Type} {x : Option α} {y : α} {k : α → Option β} (h : x = some y) : sk_oR x k = k y := by
  rw [h]; rfl
theorem pu_oW {α β : Type} {x : Option (α × sk_M)} {y : α} {st' : sk_M} {k : α → sk_M → Option β} (h : x = some (y, st')) : sk_oW x k = k y st' := by
  rw [h]; rfl
theorem pu_wi1 (st : sk_M) (r i : Nat) (v : Int32) (q j : Nat) : (sk_wi st r i v).1 q j = if q = r ∧ j = i then v else st.1 q j := by
  unfold sk_wi upd
  by_cases h : q = r
  · by_cases h2 : j = i <;> simp [h, h2]
  · simp [h]
theorem pu_wi2 (st : sk_M) (r i : Nat) (v : Int32) : (sk_wi st r i v).2 = st.2 := rfl
theorem pu_wl1 (st : sk_M) (r i : Nat) (v : Int64) : (sk_wl st r i v).1 = st.1 := rfl
theorem pu_wl2 (st : sk_M) (r i : Nat) (v : Int64) (q j : Nat) : (sk_wl st r i v).2 q j = if q = r ∧ j = i then v else st.2 q j := by
  unfold sk_wl vp_updL
  by_cases h : q = r
  · by_cases h2 : j = i <;> simp [h, h2]
  · simp [h]
theorem pu_lp {σ ρ : Type} {F : (σ → Option ρ) → σ → Option ρ} {n : Nat} {s : σ} (h : 0 < n) : sk_lp n F s = F (sk_lp (n - 1) F) s := by
  cases n with
  | zero => omega
  | succ n => rfl
/-! Ev x P: x is there and P holds of it -/
def Ev {α : Type} (x : Option α) (P : α → Prop) : Prop := ∃ a, x = some a ∧ P a
theorem Ev.mono {α : Type} {x : Option α} {P Q : α → Prop} (h : Ev x P) (hq : ∀ a, P a → Q a) : Ev x Q := by
  obtain ⟨a, e, p⟩ := h
  exact ⟨a, e, hq a p⟩
theorem ev_some {α : Type} {a : α} {P : α → Prop} (h : P a) : Ev (some a) P := ⟨a, rfl, h⟩
theorem ev_of {α : Type} {x : Option α} {a : α} {P : α → Prop} (e : x = some a) (h : P a) : Ev x P := ⟨a, e, h⟩
theorem ev_eq {α : Type} {x : Option α} {a : α} (h : Ev x (fun b => b = a)) : x = some a := by
  obtain ⟨b, e, rfl⟩ := h
  exact e
theorem ev_rI {α : Type} {n r i : Nat} {st : sk_M} {k : Int32 → Option α} {P : α → Prop} (h : i < n) (hn : n < 2 ^ 31) (hk : Ev (k (st.1 r i)) P) : Ev (sk_rI n r (nI i) st k) P := by
  rw [pu_rI h hn]; exact hk
theorem ev_rL {α : Type} {n r i : Nat} {st : sk_M} {k : Int64 → Option α} {P : α → Prop} (h : i < n) (hn : n < 2 ^ 31) (hk : Ev (k (st.2 r i)) P) : Ev (sk_rL n r (nI i) st k) P := by
  rw [pu_rL h hn]; exact hk
theorem ev_wI {α : Type} {n r i : Nat} {v : Int32} {st : sk_M} {k : sk_M → Option α} {P : α → Prop} (h : i < n) (hn : n < 2 ^ 31) (hk : Ev (k (sk_wi st r i v)) P) : Ev (sk_wI n r (nI i) v st k) P := by
  rw [pu_wI h hn]; exact hk
theorem ev_wL {α : Type} {n r i : Nat} {v : Int64} {st : sk_M} {k : sk_M → Option α} {P : α → Prop} (h : i < n) (hn : n < 2 ^ 31) (hk : Ev (k (sk_wl st r i v)) P) : Ev (sk_wL n r (nI i) v st k) P := by
  rw [pu_wL h hn]; exact hk
theorem ev_fI {α : Type} {id : Nat} {v : Int32} {st : sk_M} {k : sk_M → Option α} {P : α → Prop} (hk : Ev (k (sk_wi st 0 id v)) P) : Ev (sk_fI id v st k) P := hk
theorem ev_fL {α : Type} {id : Nat} {v : Int64} {st : sk_M} {k : sk_M → Option α} {P : α → Prop} (hk : Ev (k (sk_wl st 0 id v)) P) : Ev (sk_fL id v st k) P := hk
theorem ev_oR {α β : Type} {x : Option α} {k : α → Option β} {Q : α → Prop} {P : β → Prop} (h : Ev x Q) (hk : ∀ a, Q a → Ev (k a) P) : Ev (sk_oR x k) P := by
  obtain ⟨a, e, q⟩ := h
  rw [pu_oR e]; exact hk a q
theorem ev_oW {α β : Type} {x : Option (α × sk_M)} {k : α → sk_M → Option β} {Q : α × sk_M → Prop} {P : β → Prop} (h : Ev x Q) (hk : ∀ a st', Q (a, st') → Ev (k a st') P) : Ev (sk_oW x k) P := by
  obtain ⟨⟨a, st'⟩, e, q⟩ := h
  rw [pu_oW e]; exact hk a st' q
theorem ev_if {α : Type} {c : Prop} [Decidable c] {x y : Option α} {P : α → Prop} (h1 : c → Ev x P) (h2 : ¬ c → Ev y P) : Ev (if c then x else y) P := by
  by_cases h : c
  · rw [if_pos h]; exact h1 h
  · rw [if_neg h]; exact h2 h
theorem ev_lp {σ ρ : Type} {F : (σ → Option ρ) → σ → Option ρ} {P : ρ → Prop} (I : Nat → σ → Prop) (hs : ∀ (k : Nat) (s : σ) (self : σ → Option ρ), I k s → (∀ (j : Nat) (s' : σ), j < k → I j s' → Ev (self s') P) → Ev (F self s) P) : ∀ (n k : Nat) (s : σ), k < n → I k s → Ev (sk_lp n F s) P := by
  intro n
  induction n with
  | zero => intro k s h; omega
  | succ n ih =>
    intro k s h hI
    exact hs k s (sk_lp n F) hI (fun j s' hj hI' => ih j s' (by omega) hI')
/-! the bits of a long -/
def lb (x : Int64) (i : Nat) : Bool := x.toBitVec.getLsbD i
theorem lb_or (x y : Int64) (i : Nat) : lb (x ||| y) i = (lb x i || lb y i) := by
  simp [lb]
theorem lb_and (x y : Int64) (i : Nat) : lb (x &&& y) i = (lb x i && lb y i) := by
  simp [lb]
theorem lb_not (x : Int64) {i : Nat} (hi : i < 64) : lb (x ^^^ (-1)) i = !lb x i := by
  have h : (-1 : Int64).toBitVec = BitVec.allOnes 64 := by decide
  simp [lb, h, hi]
theorem lb_big {x : Int64} {i : Nat} (h : 64 ≤ i) : lb x i = false := by
  simp [lb, BitVec.getLsbD_of_ge _ _ h]
theorem lb_0 (i : Nat) : lb 0 i = false := by simp [lb]
theorem lb_m1 {i : Nat} (h : i < 64) : lb (-1) i = true := by
  have h1 : (-1 : Int64).toBitVec = BitVec.allOnes 64 := by decide
  unfold lb
  rw [h1, BitVec.getLsbD_allOnes]
  simp [h]
theorem lb_ext {x y : Int64} (h : ∀ i, i < 64 → lb x i = lb y i) : x = y := by
  apply Int64.toBitVec_inj.mp
  apply BitVec.eq_of_getLsbD_eq
  intro i hi
  exact h i hi
theorem lb_sh : ∀ k, k < 64 → (K_SF_bit (nI k)).toBitVec = BitVec.twoPow 64 k := by decide +kernel
theorem lb_bit {k : Nat} (hk : k < 64) (i : Nat) : lb (K_SF_bit (nI k)) i = decide (i = k) := by
  unfold lb
  rw [lb_sh k hk, BitVec.getLsbD_twoPow]
  by_cases h : i = k
  · subst h; simp [hk]
  · simp [h, Ne.symm h]
theorem lb_shr : ∀ k, k < 64 → ((nI k).toInt64.toUInt64 &&& Int64.toUInt64 63) = UInt64.ofNat k := by decide +kernel
theorem lb_one (x : Int64) {k : Nat} (hk : k < 64) : ((x.toUInt64 >>> ((nI k).toInt64.toUInt64 &&& Int64.toUInt64 63)).toInt64 &&& (1 : Int64)) = 0 ↔ lb x k = false := by
  rw [lb_shr k hk]
  constructor
  · intro h
    have h1 := congrArg (fun z : Int64 => z.toBitVec.getLsbD 0) h
    simpa [lb, BitVec.getLsbD_ushiftRight, Nat.mod_eq_of_lt hk] using h1
  · intro h
    apply Int64.toBitVec_inj.mp
    apply BitVec.eq_of_getLsbD_eq
    intro i hi
    by_cases h0 : i = 0
    · subst h0
      simpa [lb, BitVec.getLsbD_ushiftRight, Nat.mod_eq_of_lt hk] using h
    · simp [h0]
theorem lg_cmp0 (x : Int64) : lg_cmp x 0 = 0 ↔ x = 0 := by
  unfold lg_cmp
  constructor
  · intro h
    by_cases h1 : x = 0
    · exact h1
    · exfalso
      revert h
      split <;> (try split) <;> simp_all
  · intro h
    subst h
    decide
theorem has_nI (x : Int64) {k : Nat} (hk : k < 64) : K_SF_has x (nI k) = if lb x k then 1 else 0 := by
  unfold K_SF_has
  rw [if_neg (nI_pos (by omega)), if_neg (show ¬ (64 : Int32) ≤ nI k from fun h => absurd ((nI_leI (a := 64) (by omega) (by omega)).mp h) (by omega))]
  by_cases h : lb x k = true
  · rw [if_neg, if_pos h]
    intro h2
    rw [lg_cmp0, lb_one x hk] at h2
    rw [h] at h2
    cases h2
  · have h : lb x k = false := by simpa using h
    rw [if_pos, if_neg (by rw [h]; decide)]
    rw [lg_cmp0, lb_one x hk]
    exact h
theorem has_neg (x : Int64) {v : Int32} (hv : v < 0) : K_SF_has x v = 0 := by
  unfold K_SF_has
  rw [if_pos hv]
theorem has_big (x : Int64) {k : Nat} (h1 : 64 ≤ k) (h2 : k < 2 ^ 31) : K_SF_has x (nI k) = 0 := by
  unfold K_SF_has
  rw [if_neg (nI_pos h2), if_pos (show (64 : Int32) ≤ nI k from (nI_leI (a := 64) (by omega) h2).mpr h1)]
theorem has_0 (x : Int64) {k : Nat} (hk : k < 64) : K_SF_has x (nI k) = 0 ↔ lb x k = false := by
  rw [has_nI x hk]
  cases lb x k <;> simp
