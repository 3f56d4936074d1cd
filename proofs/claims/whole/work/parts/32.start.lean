def K0 (stT stM : sk_M) : sk_M := ((fun r => match r with | 0 => (fun i => match i with | 5 => stM.1 0 5 | _ => 0) | 35 => stT.1 35 | 36 => stT.1 36 | 37 => stT.1 37 | 38 => stT.1 38 | 39 => stT.1 39 | 17 => stM.1 17 | 18 => stM.1 18 | 19 => stM.1 19 | 20 => stM.1 20 | _ => (fun _ => 0)), (fun r => match r with | 0 => (fun i => match i with | 11 => stT.2 0 11 | 12 => stT.2 0 12 | 13 => stT.2 0 13 | 0 => stM.2 0 0 | 1 => stM.2 0 1 | _ => 0) | 40 => stT.2 40 | 41 => stT.2 41 | 42 => stT.2 42 | _ => (fun _ => 0)))
def M0 : sk_M := sk_wi (sk_wi (sk_wi sk_0 0 0 1) 1 0 (vp_nar .boolean 1)) 11 0 1
def pm_all : Prop := ∃ (N : Nat) (Inv : sk_M → sk_M → Prop), pm_ok N Inv ∧ ∃ stT stM : sk_M, K_Types_reset N sk_0 = some stT ∧ K_Members_reset N sk_0 = some stM ∧ Inv (K0 stT stM) M0
def lw_tm (i : Nat) : Term := match i with
  | 0 => .string "ShrinkForge$RuleReader" 83
  | 1 => .string "ShrinkForge$RuleReader" 85
  | 2 => .string "ShrinkForge$RuleReader" 87
  | 3 => .string "ShrinkForge$RuleReader" 41
  | 4 => .string "ShrinkForge$RuleReader" 51
  | 5 => .string "ShrinkForge$RuleReader" 89
  | 6 => .string "ShrinkForge$RuleReader" 91
  | 7 => .string "ShrinkForge$RuleReader" 93
  | 8 => .string "ShrinkForge$RuleReader" 95
  | 9 => .string "ShrinkForge$RuleReader" 97
  | 10 => .string "ShrinkForge$Text" 32
  | 11 => .string "ShrinkForge$Text" 37
  | 12 => .string "ShrinkForge$Mapping" 66
  | _ => .string "ShrinkForge$Mapping" 78
theorem lw_hex {args : Array Value} {s : State} (hs : ∀ w ∈ flatC (Jvm.Cond.and given_1 narrow_1), w.before args s = true) : ∀ i, i < 14 → (Cond.exactly (lw_tm i) "java/lang/String").before args s = true
  | 0, _ => hs _ (by decide +kernel)
  | 1, _ => hs _ (by decide +kernel)
  | 2, _ => hs _ (by decide +kernel)
  | 3, _ => hs _ (by decide +kernel)
  | 4, _ => hs _ (by decide +kernel)
  | 5, _ => hs _ (by decide +kernel)
  | 6, _ => hs _ (by decide +kernel)
  | 7, _ => hs _ (by decide +kernel)
  | 8, _ => hs _ (by decide +kernel)
  | 9, _ => hs _ (by decide +kernel)
  | 10, _ => hs _ (by decide +kernel)
  | 11, _ => hs _ (by decide +kernel)
  | 12, _ => hs _ (by decide +kernel)
  | 13, _ => hs _ (by decide +kernel)
  | k + 14, h => absurd h (by omega)
theorem lw_hco {args : Array Value} {s : State} (hs : ∀ w ∈ flatC (Jvm.Cond.and given_1 narrow_1), w.before args s = true) : ∀ i, i < 14 → (Cond.eq (.field (lw_tm i) "java/lang/String" "coder" "B") (.int 0)).before args s = true
  | 0, _ => hs _ (by decide +kernel)
  | 1, _ => hs _ (by decide +kernel)
  | 2, _ => hs _ (by decide +kernel)
  | 3, _ => hs _ (by decide +kernel)
  | 4, _ => hs _ (by decide +kernel)
  | 5, _ => hs _ (by decide +kernel)
  | 6, _ => hs _ (by decide +kernel)
  | 7, _ => hs _ (by decide +kernel)
  | 8, _ => hs _ (by decide +kernel)
  | 9, _ => hs _ (by decide +kernel)
  | 10, _ => hs _ (by decide +kernel)
  | 11, _ => hs _ (by decide +kernel)
  | 12, _ => hs _ (by decide +kernel)
  | 13, _ => hs _ (by decide +kernel)
  | k + 14, h => absurd h (by omega)
theorem lw_har {args : Array Value} {s : State} (hs : ∀ w ∈ flatC (Jvm.Cond.and given_1 narrow_1), w.before args s = true) : ∀ i, i < 14 → (Cond.arrayOf (.field (lw_tm i) "java/lang/String" "value" "[B") .byte).before args s = true
  | 0, _ => hs _ (by decide +kernel)
  | 1, _ => hs _ (by decide +kernel)
  | 2, _ => hs _ (by decide +kernel)
  | 3, _ => hs _ (by decide +kernel)
  | 4, _ => hs _ (by decide +kernel)
  | 5, _ => hs _ (by decide +kernel)
  | 6, _ => hs _ (by decide +kernel)
  | 7, _ => hs _ (by decide +kernel)
  | 8, _ => hs _ (by decide +kernel)
  | 9, _ => hs _ (by decide +kernel)
  | 10, _ => hs _ (by decide +kernel)
  | 11, _ => hs _ (by decide +kernel)
  | 12, _ => hs _ (by decide +kernel)
  | 13, _ => hs _ (by decide +kernel)
  | k + 14, h => absurd h (by omega)
theorem lw_hle {args : Array Value} {s : State} (hs : ∀ w ∈ flatC (Jvm.Cond.and given_1 narrow_1), w.before args s = true) : ∀ i, i < 14 → (Cond.eq (.length (.field (lw_tm i) "java/lang/String" "value" "[B")) (.int (Int32.ofNat (lenJK.getD i 0)))).before args s = true
  | 0, _ => hs _ (by decide +kernel)
  | 1, _ => hs _ (by decide +kernel)
  | 2, _ => hs _ (by decide +kernel)
  | 3, _ => hs _ (by decide +kernel)
  | 4, _ => hs _ (by decide +kernel)
  | 5, _ => hs _ (by decide +kernel)
  | 6, _ => hs _ (by decide +kernel)
  | 7, _ => hs _ (by decide +kernel)
  | 8, _ => hs _ (by decide +kernel)
  | 9, _ => hs _ (by decide +kernel)
  | 10, _ => hs _ (by decide +kernel)
  | 11, _ => hs _ (by decide +kernel)
  | 12, _ => hs _ (by decide +kernel)
  | 13, _ => hs _ (by decide +kernel)
  | k + 14, h => absurd h (by omega)
theorem lw_hel {args : Array Value} {s : State} (hs : ∀ w ∈ flatC (Jvm.Cond.and given_1 narrow_1), w.before args s = true) : ∀ i, i < 14 → ∀ j, j < lenJK.getD i 0 → (Cond.eq (.elem (.field (lw_tm i) "java/lang/String" "value" "[B") (.int (Int32.ofNat j))) (.int ((bytJK.getD i []).getD j 0))).before args s = true
  | 0, _ => fun j hj => match j, hj with
    | 0, _ => hs _ (by decide +kernel)
    | 1, _ => hs _ (by decide +kernel)
    | 2, _ => hs _ (by decide +kernel)
    | 3, _ => hs _ (by decide +kernel)
    | k + 4, h => absurd h (by simp [lenJK])
  | 1, _ => fun j hj => match j, hj with
    | 0, _ => hs _ (by decide +kernel)
    | 1, _ => hs _ (by decide +kernel)
    | 2, _ => hs _ (by decide +kernel)
    | 3, _ => hs _ (by decide +kernel)
    | 4, _ => hs _ (by decide +kernel)
    | 5, _ => hs _ (by decide +kernel)
    | 6, _ => hs _ (by decide +kernel)
    | 7, _ => hs _ (by decide +kernel)
    | 8, _ => hs _ (by decide +kernel)
    | k + 9, h => absurd h (by simp [lenJK])
  | 2, _ => fun j hj => match j, hj with
    | 0, _ => hs _ (by decide +kernel)
    | 1, _ => hs _ (by decide +kernel)
    | 2, _ => hs _ (by decide +kernel)
    | 3, _ => hs _ (by decide +kernel)
    | 4, _ => hs _ (by decide +kernel)
    | 5, _ => hs _ (by decide +kernel)
    | 6, _ => hs _ (by decide +kernel)
    | 7, _ => hs _ (by decide +kernel)
    | 8, _ => hs _ (by decide +kernel)
    | 9, _ => hs _ (by decide +kernel)
    | 10, _ => hs _ (by decide +kernel)
    | k + 11, h => absurd h (by simp [lenJK])
  | 3, _ => fun j hj => match j, hj with
    | 0, _ => hs _ (by decide +kernel)
    | 1, _ => hs _ (by decide +kernel)
    | 2, _ => hs _ (by decide +kernel)
    | 3, _ => hs _ (by decide +kernel)
    | 4, _ => hs _ (by decide +kernel)
    | k + 5, h => absurd h (by simp [lenJK])
  | 4, _ => fun j hj => match j, hj with
    | 0, _ => hs _ (by decide +kernel)
    | 1, _ => hs _ (by decide +kernel)
    | 2, _ => hs _ (by decide +kernel)
    | 3, _ => hs _ (by decide +kernel)
    | 4, _ => hs _ (by decide +kernel)
    | 5, _ => hs _ (by decide +kernel)
    | 6, _ => hs _ (by decide +kernel)
    | k + 7, h => absurd h (by simp [lenJK])
  | 5, _ => fun j hj => match j, hj with
    | 0, _ => hs _ (by decide +kernel)
    | k + 1, h => absurd h (by simp [lenJK])
  | 6, _ => fun j hj => match j, hj with
    | 0, _ => hs _ (by decide +kernel)
    | k + 1, h => absurd h (by simp [lenJK])
  | 7, _ => fun j hj => match j, hj with
    | 0, _ => hs _ (by decide +kernel)
    | k + 1, h => absurd h (by simp [lenJK])
  | 8, _ => fun j hj => match j, hj with
    | 0, _ => hs _ (by decide +kernel)
    | k + 1, h => absurd h (by simp [lenJK])
  | 9, _ => fun j hj => match j, hj with
    | 0, _ => hs _ (by decide +kernel)
    | k + 1, h => absurd h (by simp [lenJK])
  | 10, _ => fun j hj => match j, hj with
    | 0, _ => hs _ (by decide +kernel)
    | 1, _ => hs _ (by decide +kernel)
    | 2, _ => hs _ (by decide +kernel)
    | 3, _ => hs _ (by decide +kernel)
    | 4, _ => hs _ (by decide +kernel)
    | 5, _ => hs _ (by decide +kernel)
    | k + 6, h => absurd h (by simp [lenJK])
  | 11, _ => fun j hj => match j, hj with
    | 0, _ => hs _ (by decide +kernel)
    | 1, _ => hs _ (by decide +kernel)
    | 2, _ => hs _ (by decide +kernel)
    | 3, _ => hs _ (by decide +kernel)
    | 4, _ => hs _ (by decide +kernel)
    | 5, _ => hs _ (by decide +kernel)
    | 6, _ => hs _ (by decide +kernel)
    | 7, _ => hs _ (by decide +kernel)
    | k + 8, h => absurd h (by simp [lenJK])
  | 12, _ => fun j hj => match j, hj with
    | 0, _ => hs _ (by decide +kernel)
    | 1, _ => hs _ (by decide +kernel)
    | 2, _ => hs _ (by decide +kernel)
    | 3, _ => hs _ (by decide +kernel)
    | k + 4, h => absurd h (by simp [lenJK])
  | 13, _ => fun j hj => match j, hj with
    | 0, _ => hs _ (by decide +kernel)
    | 1, _ => hs _ (by decide +kernel)
    | k + 2, h => absurd h (by simp [lenJK])
  | k + 14, h => absurd h (by omega)
theorem lw_ne_0_1 {args : Array Value} {s : State} (hs : ∀ w ∈ flatC (Jvm.Cond.and given_1 narrow_1), w.before args s = true) : (Cond.not (Cond.eq (lw_tm 0) (lw_tm 1))).before args s = true ∨ (Cond.not (Cond.eq (lw_tm 1) (lw_tm 0))).before args s = true := Or.inl (hs _ (by decide +kernel))
theorem lw_ne_0_2 {args : Array Value} {s : State} (hs : ∀ w ∈ flatC (Jvm.Cond.and given_1 narrow_1), w.before args s = true) : (Cond.not (Cond.eq (lw_tm 0) (lw_tm 2))).before args s = true ∨ (Cond.not (Cond.eq (lw_tm 2) (lw_tm 0))).before args s = true := Or.inl (hs _ (by decide +kernel))
theorem lw_ne_0_3 {args : Array Value} {s : State} (hs : ∀ w ∈ flatC (Jvm.Cond.and given_1 narrow_1), w.before args s = true) : (Cond.not (Cond.eq (lw_tm 0) (lw_tm 3))).before args s = true ∨ (Cond.not (Cond.eq (lw_tm 3) (lw_tm 0))).before args s = true := Or.inl (hs _ (by decide +kernel))
theorem lw_ne_0_4 {args : Array Value} {s : State} (hs : ∀ w ∈ flatC (Jvm.Cond.and given_1 narrow_1), w.before args s = true) : (Cond.not (Cond.eq (lw_tm 0) (lw_tm 4))).before args s = true ∨ (Cond.not (Cond.eq (lw_tm 4) (lw_tm 0))).before args s = true := Or.inl (hs _ (by decide +kernel))
theorem lw_ne_0_5 {args : Array Value} {s : State} (hs : ∀ w ∈ flatC (Jvm.Cond.and given_1 narrow_1), w.before args s = true) : (Cond.not (Cond.eq (lw_tm 0) (lw_tm 5))).before args s = true ∨ (Cond.not (Cond.eq (lw_tm 5) (lw_tm 0))).before args s = true := Or.inl (hs _ (by decide +kernel))
theorem lw_ne_0_6 {args : Array Value} {s : State} (hs : ∀ w ∈ flatC (Jvm.Cond.and given_1 narrow_1), w.before args s = true) : (Cond.not (Cond.eq (lw_tm 0) (lw_tm 6))).before args s = true ∨ (Cond.not (Cond.eq (lw_tm 6) (lw_tm 0))).before args s = true := Or.inl (hs _ (by decide +kernel))
theorem lw_ne_0_7 {args : Array Value} {s : State} (hs : ∀ w ∈ flatC (Jvm.Cond.and given_1 narrow_1), w.before args s = true) : (Cond.not (Cond.eq (lw_tm 0) (lw_tm 7))).before args s = true ∨ (Cond.not (Cond.eq (lw_tm 7) (lw_tm 0))).before args s = true := Or.inl (hs _ (by decide +kernel))
theorem lw_ne_0_8 {args : Array Value} {s : State} (hs : ∀ w ∈ flatC (Jvm.Cond.and given_1 narrow_1), w.before args s = true) : (Cond.not (Cond.eq (lw_tm 0) (lw_tm 8))).before args s = true ∨ (Cond.not (Cond.eq (lw_tm 8) (lw_tm 0))).before args s = true := Or.inl (hs _ (by decide +kernel))
theorem lw_ne_0_9 {args : Array Value} {s : State} (hs : ∀ w ∈ flatC (Jvm.Cond.and given_1 narrow_1), w.before args s = true) : (Cond.not (Cond.eq (lw_tm 0) (lw_tm 9))).before args s = true ∨ (Cond.not (Cond.eq (lw_tm 9) (lw_tm 0))).before args s = true := Or.inl (hs _ (by decide +kernel))
theorem lw_ne_0_10 {args : Array Value} {s : State} (hs : ∀ w ∈ flatC (Jvm.Cond.and given_1 narrow_1), w.before args s = true) : (Cond.not (Cond.eq (lw_tm 0) (lw_tm 10))).before args s = true ∨ (Cond.not (Cond.eq (lw_tm 10) (lw_tm 0))).before args s = true := Or.inl (hs _ (by decide +kernel))
theorem lw_ne_0_11 {args : Array Value} {s : State} (hs : ∀ w ∈ flatC (Jvm.Cond.and given_1 narrow_1), w.before args s = true) : (Cond.not (Cond.eq (lw_tm 0) (lw_tm 11))).before args s = true ∨ (Cond.not (Cond.eq (lw_tm 11) (lw_tm 0))).before args s = true := Or.inl (hs _ (by decide +kernel))
theorem lw_ne_0_12 {args : Array Value} {s : State} (hs : ∀ w ∈ flatC (Jvm.Cond.and given_1 narrow_1), w.before args s = true) : (Cond.not (Cond.eq (lw_tm 0) (lw_tm 12))).before args s = true ∨ (Cond.not (Cond.eq (lw_tm 12) (lw_tm 0))).before args s = true := Or.inl (hs _ (by decide +kernel))
theorem lw_ne_0_13 {args : Array Value} {s : State} (hs : ∀ w ∈ flatC (Jvm.Cond.and given_1 narrow_1), w.before args s = true) : (Cond.not (Cond.eq (lw_tm 0) (lw_tm 13))).before args s = true ∨ (Cond.not (Cond.eq (lw_tm 13) (lw_tm 0))).before args s = true := Or.inl (hs _ (by decide +kernel))
theorem lw_ne_1_2 {args : Array Value} {s : State} (hs : ∀ w ∈ flatC (Jvm.Cond.and given_1 narrow_1), w.before args s = true) : (Cond.not (Cond.eq (lw_tm 1) (lw_tm 2))).before args s = true ∨ (Cond.not (Cond.eq (lw_tm 2) (lw_tm 1))).before args s = true := Or.inl (hs _ (by decide +kernel))
theorem lw_ne_1_3 {args : Array Value} {s : State} (hs : ∀ w ∈ flatC (Jvm.Cond.and given_1 narrow_1), w.before args s = true) : (Cond.not (Cond.eq (lw_tm 1) (lw_tm 3))).before args s = true ∨ (Cond.not (Cond.eq (lw_tm 3) (lw_tm 1))).before args s = true := Or.inl (hs _ (by decide +kernel))
theorem lw_ne_1_4 {args : Array Value} {s : State} (hs : ∀ w ∈ flatC (Jvm.Cond.and given_1 narrow_1), w.before args s = true) : (Cond.not (Cond.eq (lw_tm 1) (lw_tm 4))).before args s = true ∨ (Cond.not (Cond.eq (lw_tm 4) (lw_tm 1))).before args s = true := Or.inl (hs _ (by decide +kernel))
theorem lw_ne_1_5 {args : Array Value} {s : State} (hs : ∀ w ∈ flatC (Jvm.Cond.and given_1 narrow_1), w.before args s = true) : (Cond.not (Cond.eq (lw_tm 1) (lw_tm 5))).before args s = true ∨ (Cond.not (Cond.eq (lw_tm 5) (lw_tm 1))).before args s = true := Or.inl (hs _ (by decide +kernel))
theorem lw_ne_1_6 {args : Array Value} {s : State} (hs : ∀ w ∈ flatC (Jvm.Cond.and given_1 narrow_1), w.before args s = true) : (Cond.not (Cond.eq (lw_tm 1) (lw_tm 6))).before args s = true ∨ (Cond.not (Cond.eq (lw_tm 6) (lw_tm 1))).before args s = true := Or.inl (hs _ (by decide +kernel))
theorem lw_ne_1_7 {args : Array Value} {s : State} (hs : ∀ w ∈ flatC (Jvm.Cond.and given_1 narrow_1), w.before args s = true) : (Cond.not (Cond.eq (lw_tm 1) (lw_tm 7))).before args s = true ∨ (Cond.not (Cond.eq (lw_tm 7) (lw_tm 1))).before args s = true := Or.inl (hs _ (by decide +kernel))
theorem lw_ne_1_8 {args : Array Value} {s : State} (hs : ∀ w ∈ flatC (Jvm.Cond.and given_1 narrow_1), w.before args s = true) : (Cond.not (Cond.eq (lw_tm 1) (lw_tm 8))).before args s = true ∨ (Cond.not (Cond.eq (lw_tm 8) (lw_tm 1))).before args s = true := Or.inl (hs _ (by decide +kernel))
theorem lw_ne_1_9 {args : Array Value} {s : State} (hs : ∀ w ∈ flatC (Jvm.Cond.and given_1 narrow_1), w.before args s = true) : (Cond.not (Cond.eq (lw_tm 1) (lw_tm 9))).before args s = true ∨ (Cond.not (Cond.eq (lw_tm 9) (lw_tm 1))).before args s = true := Or.inl (hs _ (by decide +kernel))
theorem lw_ne_1_10 {args : Array Value} {s : State} (hs : ∀ w ∈ flatC (Jvm.Cond.and given_1 narrow_1), w.before args s = true) : (Cond.not (Cond.eq (lw_tm 1) (lw_tm 10))).before args s = true ∨ (Cond.not (Cond.eq (lw_tm 10) (lw_tm 1))).before args s = true := Or.inl (hs _ (by decide +kernel))
theorem lw_ne_1_11 {args : Array Value} {s : State} (hs : ∀ w ∈ flatC (Jvm.Cond.and given_1 narrow_1), w.before args s = true) : (Cond.not (Cond.eq (lw_tm 1) (lw_tm 11))).before args s = true ∨ (Cond.not (Cond.eq (lw_tm 11) (lw_tm 1))).before args s = true := Or.inl (hs _ (by decide +kernel))
theorem lw_ne_1_12 {args : Array Value} {s : State} (hs : ∀ w ∈ flatC (Jvm.Cond.and given_1 narrow_1), w.before args s = true) : (Cond.not (Cond.eq (lw_tm 1) (lw_tm 12))).before args s = true ∨ (Cond.not (Cond.eq (lw_tm 12) (lw_tm 1))).before args s = true := Or.inl (hs _ (by decide +kernel))
theorem lw_ne_1_13 {args : Array Value} {s : State} (hs : ∀ w ∈ flatC (Jvm.Cond.and given_1 narrow_1), w.before args s = true) : (Cond.not (Cond.eq (lw_tm 1) (lw_tm 13))).before args s = true ∨ (Cond.not (Cond.eq (lw_tm 13) (lw_tm 1))).before args s = true := Or.inl (hs _ (by decide +kernel))
theorem lw_ne_2_3 {args : Array Value} {s : State} (hs : ∀ w ∈ flatC (Jvm.Cond.and given_1 narrow_1), w.before args s = true) : (Cond.not (Cond.eq (lw_tm 2) (lw_tm 3))).before args s = true ∨ (Cond.not (Cond.eq (lw_tm 3) (lw_tm 2))).before args s = true := Or.inl (hs _ (by decide +kernel))
theorem lw_ne_2_4 {args : Array Value} {s : State} (hs : ∀ w ∈ flatC (Jvm.Cond.and given_1 narrow_1), w.before args s = true) : (Cond.not (Cond.eq (lw_tm 2) (lw_tm 4))).before args s = true ∨ (Cond.not (Cond.eq (lw_tm 4) (lw_tm 2))).before args s = true := Or.inl (hs _ (by decide +kernel))
theorem lw_ne_2_5 {args : Array Value} {s : State} (hs : ∀ w ∈ flatC (Jvm.Cond.and given_1 narrow_1), w.before args s = true) : (Cond.not (Cond.eq (lw_tm 2) (lw_tm 5))).before args s = true ∨ (Cond.not (Cond.eq (lw_tm 5) (lw_tm 2))).before args s = true := Or.inl (hs _ (by decide +kernel))
theorem lw_ne_2_6 {args : Array Value} {s : State} (hs : ∀ w ∈ flatC (Jvm.Cond.and given_1 narrow_1), w.before args s = true) : (Cond.not (Cond.eq (lw_tm 2) (lw_tm 6))).before args s = true ∨ (Cond.not (Cond.eq (lw_tm 6) (lw_tm 2))).before args s = true := Or.inl (hs _ (by decide +kernel))
theorem lw_ne_2_7 {args : Array Value} {s : State} (hs : ∀ w ∈ flatC (Jvm.Cond.and given_1 narrow_1), w.before args s = true) : (Cond.not (Cond.eq (lw_tm 2) (lw_tm 7))).before args s = true ∨ (Cond.not (Cond.eq (lw_tm 7) (lw_tm 2))).before args s = true := Or.inl (hs _ (by decide +kernel))
theorem lw_ne_2_8 {args : Array Value} {s : State} (hs : ∀ w ∈ flatC (Jvm.Cond.and given_1 narrow_1), w.before args s = true) : (Cond.not (Cond.eq (lw_tm 2) (lw_tm 8))).before args s = true ∨ (Cond.not (Cond.eq (lw_tm 8) (lw_tm 2))).before args s = true := Or.inl (hs _ (by decide +kernel))
theorem lw_ne_2_9 {args : Array Value} {s : State} (hs : ∀ w ∈ flatC (Jvm.Cond.and given_1 narrow_1), w.before args s = true) : (Cond.not (Cond.eq (lw_tm 2) (lw_tm 9))).before args s = true ∨ (Cond.not (Cond.eq (lw_tm 9) (lw_tm 2))).before args s = true := Or.inl (hs _ (by decide +kernel))
theorem lw_ne_2_10 {args : Array Value} {s : State} (hs : ∀ w ∈ flatC (Jvm.Cond.and given_1 narrow_1), w.before args s = true) : (Cond.not (Cond.eq (lw_tm 2) (lw_tm 10))).before args s = true ∨ (Cond.not (Cond.eq (lw_tm 10) (lw_tm 2))).before args s = true := Or.inl (hs _ (by decide +kernel))
theorem lw_ne_2_11 {args : Array Value} {s : State} (hs : ∀ w ∈ flatC (Jvm.Cond.and given_1 narrow_1), w.before args s = true) : (Cond.not (Cond.eq (lw_tm 2) (lw_tm 11))).before args s = true ∨ (Cond.not (Cond.eq (lw_tm 11) (lw_tm 2))).before args s = true := Or.inl (hs _ (by decide +kernel))
theorem lw_ne_2_12 {args : Array Value} {s : State} (hs : ∀ w ∈ flatC (Jvm.Cond.and given_1 narrow_1), w.before args s = true) : (Cond.not (Cond.eq (lw_tm 2) (lw_tm 12))).before args s = true ∨ (Cond.not (Cond.eq (lw_tm 12) (lw_tm 2))).before args s = true := Or.inl (hs _ (by decide +kernel))
theorem lw_ne_2_13 {args : Array Value} {s : State} (hs : ∀ w ∈ flatC (Jvm.Cond.and given_1 narrow_1), w.before args s = true) : (Cond.not (Cond.eq (lw_tm 2) (lw_tm 13))).before args s = true ∨ (Cond.not (Cond.eq (lw_tm 13) (lw_tm 2))).before args s = true := Or.inl (hs _ (by decide +kernel))
theorem lw_ne_3_4 {args : Array Value} {s : State} (hs : ∀ w ∈ flatC (Jvm.Cond.and given_1 narrow_1), w.before args s = true) : (Cond.not (Cond.eq (lw_tm 3) (lw_tm 4))).before args s = true ∨ (Cond.not (Cond.eq (lw_tm 4) (lw_tm 3))).before args s = true := Or.inl (hs _ (by decide +kernel))
theorem lw_ne_3_5 {args : Array Value} {s : State} (hs : ∀ w ∈ flatC (Jvm.Cond.and given_1 narrow_1), w.before args s = true) : (Cond.not (Cond.eq (lw_tm 3) (lw_tm 5))).before args s = true ∨ (Cond.not (Cond.eq (lw_tm 5) (lw_tm 3))).before args s = true := Or.inl (hs _ (by decide +kernel))
theorem lw_ne_3_6 {args : Array Value} {s : State} (hs : ∀ w ∈ flatC (Jvm.Cond.and given_1 narrow_1), w.before args s = true) : (Cond.not (Cond.eq (lw_tm 3) (lw_tm 6))).before args s = true ∨ (Cond.not (Cond.eq (lw_tm 6) (lw_tm 3))).before args s = true := Or.inl (hs _ (by decide +kernel))
theorem lw_ne_3_7 {args : Array Value} {s : State} (hs : ∀ w ∈ flatC (Jvm.Cond.and given_1 narrow_1), w.before args s = true) : (Cond.not (Cond.eq (lw_tm 3) (lw_tm 7))).before args s = true ∨ (Cond.not (Cond.eq (lw_tm 7) (lw_tm 3))).before args s = true := Or.inl (hs _ (by decide +kernel))
theorem lw_ne_3_8 {args : Array Value} {s : State} (hs : ∀ w ∈ flatC (Jvm.Cond.and given_1 narrow_1), w.before args s = true) : (Cond.not (Cond.eq (lw_tm 3) (lw_tm 8))).before args s = true ∨ (Cond.not (Cond.eq (lw_tm 8) (lw_tm 3))).before args s = true := Or.inl (hs _ (by decide +kernel))
theorem lw_ne_3_9 {args : Array Value} {s : State} (hs : ∀ w ∈ flatC (Jvm.Cond.and given_1 narrow_1), w.before args s = true) : (Cond.not (Cond.eq (lw_tm 3) (lw_tm 9))).before args s = true ∨ (Cond.not (Cond.eq (lw_tm 9) (lw_tm 3))).before args s = true := Or.inl (hs _ (by decide +kernel))
theorem lw_ne_3_10 {args : Array Value} {s : State} (hs : ∀ w ∈ flatC (Jvm.Cond.and given_1 narrow_1), w.before args s = true) : (Cond.not (Cond.eq (lw_tm 3) (lw_tm 10))).before args s = true ∨ (Cond.not (Cond.eq (lw_tm 10) (lw_tm 3))).before args s = true := Or.inl (hs _ (by decide +kernel))
theorem lw_ne_3_11 {args : Array Value} {s : State} (hs : ∀ w ∈ flatC (Jvm.Cond.and given_1 narrow_1), w.before args s = true) : (Cond.not (Cond.eq (lw_tm 3) (lw_tm 11))).before args s = true ∨ (Cond.not (Cond.eq (lw_tm 11) (lw_tm 3))).before args s = true := Or.inl (hs _ (by decide +kernel))
theorem lw_ne_3_12 {args : Array Value} {s : State} (hs : ∀ w ∈ flatC (Jvm.Cond.and given_1 narrow_1), w.before args s = true) : (Cond.not (Cond.eq (lw_tm 3) (lw_tm 12))).before args s = true ∨ (Cond.not (Cond.eq (lw_tm 12) (lw_tm 3))).before args s = true := Or.inl (hs _ (by decide +kernel))
theorem lw_ne_3_13 {args : Array Value} {s : State} (hs : ∀ w ∈ flatC (Jvm.Cond.and given_1 narrow_1), w.before args s = true) : (Cond.not (Cond.eq (lw_tm 3) (lw_tm 13))).before args s = true ∨ (Cond.not (Cond.eq (lw_tm 13) (lw_tm 3))).before args s = true := Or.inl (hs _ (by decide +kernel))
theorem lw_ne_4_5 {args : Array Value} {s : State} (hs : ∀ w ∈ flatC (Jvm.Cond.and given_1 narrow_1), w.before args s = true) : (Cond.not (Cond.eq (lw_tm 4) (lw_tm 5))).before args s = true ∨ (Cond.not (Cond.eq (lw_tm 5) (lw_tm 4))).before args s = true := Or.inl (hs _ (by decide +kernel))
theorem lw_ne_4_6 {args : Array Value} {s : State} (hs : ∀ w ∈ flatC (Jvm.Cond.and given_1 narrow_1), w.before args s = true) : (Cond.not (Cond.eq (lw_tm 4) (lw_tm 6))).before args s = true ∨ (Cond.not (Cond.eq (lw_tm 6) (lw_tm 4))).before args s = true := Or.inl (hs _ (by decide +kernel))
theorem lw_ne_4_7 {args : Array Value} {s : State} (hs : ∀ w ∈ flatC (Jvm.Cond.and given_1 narrow_1), w.before args s = true) : (Cond.not (Cond.eq (lw_tm 4) (lw_tm 7))).before args s = true ∨ (Cond.not (Cond.eq (lw_tm 7) (lw_tm 4))).before args s = true := Or.inl (hs _ (by decide +kernel))
theorem lw_ne_4_8 {args : Array Value} {s : State} (hs : ∀ w ∈ flatC (Jvm.Cond.and given_1 narrow_1), w.before args s = true) : (Cond.not (Cond.eq (lw_tm 4) (lw_tm 8))).before args s = true ∨ (Cond.not (Cond.eq (lw_tm 8) (lw_tm 4))).before args s = true := Or.inl (hs _ (by decide +kernel))
theorem lw_ne_4_9 {args : Array Value} {s : State} (hs : ∀ w ∈ flatC (Jvm.Cond.and given_1 narrow_1), w.before args s = true) : (Cond.not (Cond.eq (lw_tm 4) (lw_tm 9))).before args s = true ∨ (Cond.not (Cond.eq (lw_tm 9) (lw_tm 4))).before args s = true := Or.inl (hs _ (by decide +kernel))
theorem lw_ne_4_10 {args : Array Value} {s : State} (hs : ∀ w ∈ flatC (Jvm.Cond.and given_1 narrow_1), w.before args s = true) : (Cond.not (Cond.eq (lw_tm 4) (lw_tm 10))).before args s = true ∨ (Cond.not (Cond.eq (lw_tm 10) (lw_tm 4))).before args s = true := Or.inl (hs _ (by decide +kernel))
theorem lw_ne_4_11 {args : Array Value} {s : State} (hs : ∀ w ∈ flatC (Jvm.Cond.and given_1 narrow_1), w.before args s = true) : (Cond.not (Cond.eq (lw_tm 4) (lw_tm 11))).before args s = true ∨ (Cond.not (Cond.eq (lw_tm 11) (lw_tm 4))).before args s = true := Or.inl (hs _ (by decide +kernel))
theorem lw_ne_4_12 {args : Array Value} {s : State} (hs : ∀ w ∈ flatC (Jvm.Cond.and given_1 narrow_1), w.before args s = true) : (Cond.not (Cond.eq (lw_tm 4) (lw_tm 12))).before args s = true ∨ (Cond.not (Cond.eq (lw_tm 12) (lw_tm 4))).before args s = true := Or.inl (hs _ (by decide +kernel))
theorem lw_ne_4_13 {args : Array Value} {s : State} (hs : ∀ w ∈ flatC (Jvm.Cond.and given_1 narrow_1), w.before args s = true) : (Cond.not (Cond.eq (lw_tm 4) (lw_tm 13))).before args s = true ∨ (Cond.not (Cond.eq (lw_tm 13) (lw_tm 4))).before args s = true := Or.inl (hs _ (by decide +kernel))
theorem lw_ne_5_6 {args : Array Value} {s : State} (hs : ∀ w ∈ flatC (Jvm.Cond.and given_1 narrow_1), w.before args s = true) : (Cond.not (Cond.eq (lw_tm 5) (lw_tm 6))).before args s = true ∨ (Cond.not (Cond.eq (lw_tm 6) (lw_tm 5))).before args s = true := Or.inl (hs _ (by decide +kernel))
theorem lw_ne_5_7 {args : Array Value} {s : State} (hs : ∀ w ∈ flatC (Jvm.Cond.and given_1 narrow_1), w.before args s = true) : (Cond.not (Cond.eq (lw_tm 5) (lw_tm 7))).before args s = true ∨ (Cond.not (Cond.eq (lw_tm 7) (lw_tm 5))).before args s = true := Or.inl (hs _ (by decide +kernel))
theorem lw_ne_5_8 {args : Array Value} {s : State} (hs : ∀ w ∈ flatC (Jvm.Cond.and given_1 narrow_1), w.before args s = true) : (Cond.not (Cond.eq (lw_tm 5) (lw_tm 8))).before args s = true ∨ (Cond.not (Cond.eq (lw_tm 8) (lw_tm 5))).before args s = true := Or.inl (hs _ (by decide +kernel))
theorem lw_ne_5_9 {args : Array Value} {s : State} (hs : ∀ w ∈ flatC (Jvm.Cond.and given_1 narrow_1), w.before args s = true) : (Cond.not (Cond.eq (lw_tm 5) (lw_tm 9))).before args s = true ∨ (Cond.not (Cond.eq (lw_tm 9) (lw_tm 5))).before args s = true := Or.inl (hs _ (by decide +kernel))
theorem lw_ne_5_10 {args : Array Value} {s : State} (hs : ∀ w ∈ flatC (Jvm.Cond.and given_1 narrow_1), w.before args s = true) : (Cond.not (Cond.eq (lw_tm 5) (lw_tm 10))).before args s = true ∨ (Cond.not (Cond.eq (lw_tm 10) (lw_tm 5))).before args s = true := Or.inl (hs _ (by decide +kernel))
theorem lw_ne_5_11 {args : Array Value} {s : State} (hs : ∀ w ∈ flatC (Jvm.Cond.and given_1 narrow_1), w.before args s = true) : (Cond.not (Cond.eq (lw_tm 5) (lw_tm 11))).before args s = true ∨ (Cond.not (Cond.eq (lw_tm 11) (lw_tm 5))).before args s = true := Or.inl (hs _ (by decide +kernel))
theorem lw_ne_5_12 {args : Array Value} {s : State} (hs : ∀ w ∈ flatC (Jvm.Cond.and given_1 narrow_1), w.before args s = true) : (Cond.not (Cond.eq (lw_tm 5) (lw_tm 12))).before args s = true ∨ (Cond.not (Cond.eq (lw_tm 12) (lw_tm 5))).before args s = true := Or.inl (hs _ (by decide +kernel))
theorem lw_ne_5_13 {args : Array Value} {s : State} (hs : ∀ w ∈ flatC (Jvm.Cond.and given_1 narrow_1), w.before args s = true) : (Cond.not (Cond.eq (lw_tm 5) (lw_tm 13))).before args s = true ∨ (Cond.not (Cond.eq (lw_tm 13) (lw_tm 5))).before args s = true := Or.inl (hs _ (by decide +kernel))
theorem lw_ne_6_7 {args : Array Value} {s : State} (hs : ∀ w ∈ flatC (Jvm.Cond.and given_1 narrow_1), w.before args s = true) : (Cond.not (Cond.eq (lw_tm 6) (lw_tm 7))).before args s = true ∨ (Cond.not (Cond.eq (lw_tm 7) (lw_tm 6))).before args s = true := Or.inl (hs _ (by decide +kernel))
theorem lw_ne_6_8 {args : Array Value} {s : State} (hs : ∀ w ∈ flatC (Jvm.Cond.and given_1 narrow_1), w.before args s = true) : (Cond.not (Cond.eq (lw_tm 6) (lw_tm 8))).before args s = true ∨ (Cond.not (Cond.eq (lw_tm 8) (lw_tm 6))).before args s = true := Or.inl (hs _ (by decide +kernel))
theorem lw_ne_6_9 {args : Array Value} {s : State} (hs : ∀ w ∈ flatC (Jvm.Cond.and given_1 narrow_1), w.before args s = true) : (Cond.not (Cond.eq (lw_tm 6) (lw_tm 9))).before args s = true ∨ (Cond.not (Cond.eq (lw_tm 9) (lw_tm 6))).before args s = true := Or.inl (hs _ (by decide +kernel))
theorem lw_ne_6_10 {args : Array Value} {s : State} (hs : ∀ w ∈ flatC (Jvm.Cond.and given_1 narrow_1), w.before args s = true) : (Cond.not (Cond.eq (lw_tm 6) (lw_tm 10))).before args s = true ∨ (Cond.not (Cond.eq (lw_tm 10) (lw_tm 6))).before args s = true := Or.inl (hs _ (by decide +kernel))
theorem lw_ne_6_11 {args : Array Value} {s : State} (hs : ∀ w ∈ flatC (Jvm.Cond.and given_1 narrow_1), w.before args s = true) : (Cond.not (Cond.eq (lw_tm 6) (lw_tm 11))).before args s = true ∨ (Cond.not (Cond.eq (lw_tm 11) (lw_tm 6))).before args s = true := Or.inl (hs _ (by decide +kernel))
theorem lw_ne_6_12 {args : Array Value} {s : State} (hs : ∀ w ∈ flatC (Jvm.Cond.and given_1 narrow_1), w.before args s = true) : (Cond.not (Cond.eq (lw_tm 6) (lw_tm 12))).before args s = true ∨ (Cond.not (Cond.eq (lw_tm 12) (lw_tm 6))).before args s = true := Or.inl (hs _ (by decide +kernel))
theorem lw_ne_6_13 {args : Array Value} {s : State} (hs : ∀ w ∈ flatC (Jvm.Cond.and given_1 narrow_1), w.before args s = true) : (Cond.not (Cond.eq (lw_tm 6) (lw_tm 13))).before args s = true ∨ (Cond.not (Cond.eq (lw_tm 13) (lw_tm 6))).before args s = true := Or.inl (hs _ (by decide +kernel))
theorem lw_ne_7_8 {args : Array Value} {s : State} (hs : ∀ w ∈ flatC (Jvm.Cond.and given_1 narrow_1), w.before args s = true) : (Cond.not (Cond.eq (lw_tm 7) (lw_tm 8))).before args s = true ∨ (Cond.not (Cond.eq (lw_tm 8) (lw_tm 7))).before args s = true := Or.inl (hs _ (by decide +kernel))
theorem lw_ne_7_9 {args : Array Value} {s : State} (hs : ∀ w ∈ flatC (Jvm.Cond.and given_1 narrow_1), w.before args s = true) : (Cond.not (Cond.eq (lw_tm 7) (lw_tm 9))).before args s = true ∨ (Cond.not (Cond.eq (lw_tm 9) (lw_tm 7))).before args s = true := Or.inl (hs _ (by decide +kernel))
theorem lw_ne_7_10 {args : Array Value} {s : State} (hs : ∀ w ∈ flatC (Jvm.Cond.and given_1 narrow_1), w.before args s = true) : (Cond.not (Cond.eq (lw_tm 7) (lw_tm 10))).before args s = true ∨ (Cond.not (Cond.eq (lw_tm 10) (lw_tm 7))).before args s = true := Or.inl (hs _ (by decide +kernel))
theorem lw_ne_7_11 {args : Array Value} {s : State} (hs : ∀ w ∈ flatC (Jvm.Cond.and given_1 narrow_1), w.before args s = true) : (Cond.not (Cond.eq (lw_tm 7) (lw_tm 11))).before args s = true ∨ (Cond.not (Cond.eq (lw_tm 11) (lw_tm 7))).before args s = true := Or.inl (hs _ (by decide +kernel))
theorem lw_ne_7_12 {args : Array Value} {s : State} (hs : ∀ w ∈ flatC (Jvm.Cond.and given_1 narrow_1), w.before args s = true) : (Cond.not (Cond.eq (lw_tm 7) (lw_tm 12))).before args s = true ∨ (Cond.not (Cond.eq (lw_tm 12) (lw_tm 7))).before args s = true := Or.inl (hs _ (by decide +kernel))
theorem lw_ne_7_13 {args : Array Value} {s : State} (hs : ∀ w ∈ flatC (Jvm.Cond.and given_1 narrow_1), w.before args s = true) : (Cond.not (Cond.eq (lw_tm 7) (lw_tm 13))).before args s = true ∨ (Cond.not (Cond.eq (lw_tm 13) (lw_tm 7))).before args s = true := Or.inl (hs _ (by decide +kernel))
theorem lw_ne_8_9 {args : Array Value} {s : State} (hs : ∀ w ∈ flatC (Jvm.Cond.and given_1 narrow_1), w.before args s = true) : (Cond.not (Cond.eq (lw_tm 8) (lw_tm 9))).before args s = true ∨ (Cond.not (Cond.eq (lw_tm 9) (lw_tm 8))).before args s = true := Or.inl (hs _ (by decide +kernel))
theorem lw_ne_8_10 {args : Array Value} {s : State} (hs : ∀ w ∈ flatC (Jvm.Cond.and given_1 narrow_1), w.before args s = true) : (Cond.not (Cond.eq (lw_tm 8) (lw_tm 10))).before args s = true ∨ (Cond.not (Cond.eq (lw_tm 10) (lw_tm 8))).before args s = true := Or.inl (hs _ (by decide +kernel))
theorem lw_ne_8_11 {args : Array Value} {s : State} (hs : ∀ w ∈ flatC (Jvm.Cond.and given_1 narrow_1), w.before args s = true) : (Cond.not (Cond.eq (lw_tm 8) (lw_tm 11))).before args s = true ∨ (Cond.not (Cond.eq (lw_tm 11) (lw_tm 8))).before args s = true := Or.inl (hs _ (by decide +kernel))
theorem lw_ne_8_12 {args : Array Value} {s : State} (hs : ∀ w ∈ flatC (Jvm.Cond.and given_1 narrow_1), w.before args s = true) : (Cond.not (Cond.eq (lw_tm 8) (lw_tm 12))).before args s = true ∨ (Cond.not (Cond.eq (lw_tm 12) (lw_tm 8))).before args s = true := Or.inl (hs _ (by decide +kernel))
theorem lw_ne_8_13 {args : Array Value} {s : State} (hs : ∀ w ∈ flatC (Jvm.Cond.and given_1 narrow_1), w.before args s = true) : (Cond.not (Cond.eq (lw_tm 8) (lw_tm 13))).before args s = true ∨ (Cond.not (Cond.eq (lw_tm 13) (lw_tm 8))).before args s = true := Or.inl (hs _ (by decide +kernel))
theorem lw_ne_9_10 {args : Array Value} {s : State} (hs : ∀ w ∈ flatC (Jvm.Cond.and given_1 narrow_1), w.before args s = true) : (Cond.not (Cond.eq (lw_tm 9) (lw_tm 10))).before args s = true ∨ (Cond.not (Cond.eq (lw_tm 10) (lw_tm 9))).before args s = true := Or.inl (hs _ (by decide +kernel))
theorem lw_ne_9_11 {args : Array Value} {s : State} (hs : ∀ w ∈ flatC (Jvm.Cond.and given_1 narrow_1), w.before args s = true) : (Cond.not (Cond.eq (lw_tm 9) (lw_tm 11))).before args s = true ∨ (Cond.not (Cond.eq (lw_tm 11) (lw_tm 9))).before args s = true := Or.inl (hs _ (by decide +kernel))
theorem lw_ne_9_12 {args : Array Value} {s : State} (hs : ∀ w ∈ flatC (Jvm.Cond.and given_1 narrow_1), w.before args s = true) : (Cond.not (Cond.eq (lw_tm 9) (lw_tm 12))).before args s = true ∨ (Cond.not (Cond.eq (lw_tm 12) (lw_tm 9))).before args s = true := Or.inl (hs _ (by decide +kernel))
theorem lw_ne_9_13 {args : Array Value} {s : State} (hs : ∀ w ∈ flatC (Jvm.Cond.and given_1 narrow_1), w.before args s = true) : (Cond.not (Cond.eq (lw_tm 9) (lw_tm 13))).before args s = true ∨ (Cond.not (Cond.eq (lw_tm 13) (lw_tm 9))).before args s = true := Or.inl (hs _ (by decide +kernel))
theorem lw_ne_10_11 {args : Array Value} {s : State} (hs : ∀ w ∈ flatC (Jvm.Cond.and given_1 narrow_1), w.before args s = true) : (Cond.not (Cond.eq (lw_tm 10) (lw_tm 11))).before args s = true ∨ (Cond.not (Cond.eq (lw_tm 11) (lw_tm 10))).before args s = true := Or.inl (hs _ (by decide +kernel))
theorem lw_ne_10_12 {args : Array Value} {s : State} (hs : ∀ w ∈ flatC (Jvm.Cond.and given_1 narrow_1), w.before args s = true) : (Cond.not (Cond.eq (lw_tm 10) (lw_tm 12))).before args s = true ∨ (Cond.not (Cond.eq (lw_tm 12) (lw_tm 10))).before args s = true := Or.inl (hs _ (by decide +kernel))
theorem lw_ne_10_13 {args : Array Value} {s : State} (hs : ∀ w ∈ flatC (Jvm.Cond.and given_1 narrow_1), w.before args s = true) : (Cond.not (Cond.eq (lw_tm 10) (lw_tm 13))).before args s = true ∨ (Cond.not (Cond.eq (lw_tm 13) (lw_tm 10))).before args s = true := Or.inl (hs _ (by decide +kernel))
theorem lw_ne_11_12 {args : Array Value} {s : State} (hs : ∀ w ∈ flatC (Jvm.Cond.and given_1 narrow_1), w.before args s = true) : (Cond.not (Cond.eq (lw_tm 11) (lw_tm 12))).before args s = true ∨ (Cond.not (Cond.eq (lw_tm 12) (lw_tm 11))).before args s = true := Or.inl (hs _ (by decide +kernel))
theorem lw_ne_11_13 {args : Array Value} {s : State} (hs : ∀ w ∈ flatC (Jvm.Cond.and given_1 narrow_1), w.before args s = true) : (Cond.not (Cond.eq (lw_tm 11) (lw_tm 13))).before args s = true ∨ (Cond.not (Cond.eq (lw_tm 13) (lw_tm 11))).before args s = true := Or.inl (hs _ (by decide +kernel))
theorem lw_ne_12_13 {args : Array Value} {s : State} (hs : ∀ w ∈ flatC (Jvm.Cond.and given_1 narrow_1), w.before args s = true) : (Cond.not (Cond.eq (lw_tm 12) (lw_tm 13))).before args s = true ∨ (Cond.not (Cond.eq (lw_tm 13) (lw_tm 12))).before args s = true := Or.inl (hs _ (by decide +kernel))
theorem lw_hne {args : Array Value} {s : State} (hs : ∀ w ∈ flatC (Jvm.Cond.and given_1 narrow_1), w.before args s = true) : ∀ i j, i < 14 → j < 14 → i ≠ j → (Cond.not (Cond.eq (lw_tm i) (lw_tm j))).before args s = true ∨ (Cond.not (Cond.eq (lw_tm j) (lw_tm i))).before args s = true
  | 0, 0, _, _, h => absurd rfl h
  | 0, 1, _, _, h => lw_ne_0_1 hs
  | 0, 2, _, _, h => lw_ne_0_2 hs
  | 0, 3, _, _, h => lw_ne_0_3 hs
  | 0, 4, _, _, h => lw_ne_0_4 hs
  | 0, 5, _, _, h => lw_ne_0_5 hs
  | 0, 6, _, _, h => lw_ne_0_6 hs
  | 0, 7, _, _, h => lw_ne_0_7 hs
  | 0, 8, _, _, h => lw_ne_0_8 hs
  | 0, 9, _, _, h => lw_ne_0_9 hs
  | 0, 10, _, _, h => lw_ne_0_10 hs
  | 0, 11, _, _, h => lw_ne_0_11 hs
  | 0, 12, _, _, h => lw_ne_0_12 hs
  | 0, 13, _, _, h => lw_ne_0_13 hs
  | 1, 0, _, _, h => (lw_ne_0_1 hs).symm
  | 1, 1, _, _, h => absurd rfl h
  | 1, 2, _, _, h => lw_ne_1_2 hs
  | 1, 3, _, _, h => lw_ne_1_3 hs
  | 1, 4, _, _, h => lw_ne_1_4 hs
  | 1, 5, _, _, h => lw_ne_1_5 hs
  | 1, 6, _, _, h => lw_ne_1_6 hs
  | 1, 7, _, _, h => lw_ne_1_7 hs
  | 1, 8, _, _, h => lw_ne_1_8 hs
  | 1, 9, _, _, h => lw_ne_1_9 hs
  | 1, 10, _, _, h => lw_ne_1_10 hs
  | 1, 11, _, _, h => lw_ne_1_11 hs
  | 1, 12, _, _, h => lw_ne_1_12 hs
  | 1, 13, _, _, h => lw_ne_1_13 hs
  | 2, 0, _, _, h => (lw_ne_0_2 hs).symm
  | 2, 1, _, _, h => (lw_ne_1_2 hs).symm
  | 2, 2, _, _, h => absurd rfl h
  | 2, 3, _, _, h => lw_ne_2_3 hs
  | 2, 4, _, _, h => lw_ne_2_4 hs
  | 2, 5, _, _, h => lw_ne_2_5 hs
  | 2, 6, _, _, h => lw_ne_2_6 hs
  | 2, 7, _, _, h => lw_ne_2_7 hs
  | 2, 8, _, _, h => lw_ne_2_8 hs
  | 2, 9, _, _, h => lw_ne_2_9 hs
  | 2, 10, _, _, h => lw_ne_2_10 hs
  | 2, 11, _, _, h => lw_ne_2_11 hs
  | 2, 12, _, _, h => lw_ne_2_12 hs
  | 2, 13, _, _, h => lw_ne_2_13 hs
  | 3, 0, _, _, h => (lw_ne_0_3 hs).symm
  | 3, 1, _, _, h => (lw_ne_1_3 hs).symm
  | 3, 2, _, _, h => (lw_ne_2_3 hs).symm
  | 3, 3, _, _, h => absurd rfl h
  | 3, 4, _, _, h => lw_ne_3_4 hs
  | 3, 5, _, _, h => lw_ne_3_5 hs
  | 3, 6, _, _, h => lw_ne_3_6 hs
  | 3, 7, _, _, h => lw_ne_3_7 hs
  | 3, 8, _, _, h => lw_ne_3_8 hs
  | 3, 9, _, _, h => lw_ne_3_9 hs
  | 3, 10, _, _, h => lw_ne_3_10 hs
  | 3, 11, _, _, h => lw_ne_3_11 hs
  | 3, 12, _, _, h => lw_ne_3_12 hs
  | 3, 13, _, _, h => lw_ne_3_13 hs
  | 4, 0, _, _, h => (lw_ne_0_4 hs).symm
  | 4, 1, _, _, h => (lw_ne_1_4 hs).symm
  | 4, 2, _, _, h => (lw_ne_2_4 hs).symm
  | 4, 3, _, _, h => (lw_ne_3_4 hs).symm
  | 4, 4, _, _, h => absurd rfl h
  | 4, 5, _, _, h => lw_ne_4_5 hs
  | 4, 6, _, _, h => lw_ne_4_6 hs
  | 4, 7, _, _, h => lw_ne_4_7 hs
  | 4, 8, _, _, h => lw_ne_4_8 hs
  | 4, 9, _, _, h => lw_ne_4_9 hs
  | 4, 10, _, _, h => lw_ne_4_10 hs
  | 4, 11, _, _, h => lw_ne_4_11 hs
  | 4, 12, _, _, h => lw_ne_4_12 hs
  | 4, 13, _, _, h => lw_ne_4_13 hs
  | 5, 0, _, _, h => (lw_ne_0_5 hs).symm
  | 5, 1, _, _, h => (lw_ne_1_5 hs).symm
  | 5, 2, _, _, h => (lw_ne_2_5 hs).symm
  | 5, 3, _, _, h => (lw_ne_3_5 hs).symm
  | 5, 4, _, _, h => (lw_ne_4_5 hs).symm
  | 5, 5, _, _, h => absurd rfl h
  | 5, 6, _, _, h => lw_ne_5_6 hs
  | 5, 7, _, _, h => lw_ne_5_7 hs
  | 5, 8, _, _, h => lw_ne_5_8 hs
  | 5, 9, _, _, h => lw_ne_5_9 hs
  | 5, 10, _, _, h => lw_ne_5_10 hs
  | 5, 11, _, _, h => lw_ne_5_11 hs
  | 5, 12, _, _, h => lw_ne_5_12 hs
  | 5, 13, _, _, h => lw_ne_5_13 hs
  | 6, 0, _, _, h => (lw_ne_0_6 hs).symm
  | 6, 1, _, _, h => (lw_ne_1_6 hs).symm
  | 6, 2, _, _, h => (lw_ne_2_6 hs).symm
  | 6, 3, _, _, h => (lw_ne_3_6 hs).symm
  | 6, 4, _, _, h => (lw_ne_4_6 hs).symm
  | 6, 5, _, _, h => (lw_ne_5_6 hs).symm
  | 6, 6, _, _, h => absurd rfl h
  | 6, 7, _, _, h => lw_ne_6_7 hs
  | 6, 8, _, _, h => lw_ne_6_8 hs
  | 6, 9, _, _, h => lw_ne_6_9 hs
  | 6, 10, _, _, h => lw_ne_6_10 hs
  | 6, 11, _, _, h => lw_ne_6_11 hs
  | 6, 12, _, _, h => lw_ne_6_12 hs
  | 6, 13, _, _, h => lw_ne_6_13 hs
  | 7, 0, _, _, h => (lw_ne_0_7 hs).symm
  | 7, 1, _, _, h => (lw_ne_1_7 hs).symm
  | 7, 2, _, _, h => (lw_ne_2_7 hs).symm
  | 7, 3, _, _, h => (lw_ne_3_7 hs).symm
  | 7, 4, _, _, h => (lw_ne_4_7 hs).symm
  | 7, 5, _, _, h => (lw_ne_5_7 hs).symm
  | 7, 6, _, _, h => (lw_ne_6_7 hs).symm
  | 7, 7, _, _, h => absurd rfl h
  | 7, 8, _, _, h => lw_ne_7_8 hs
  | 7, 9, _, _, h => lw_ne_7_9 hs
  | 7, 10, _, _, h => lw_ne_7_10 hs
  | 7, 11, _, _, h => lw_ne_7_11 hs
  | 7, 12, _, _, h => lw_ne_7_12 hs
  | 7, 13, _, _, h => lw_ne_7_13 hs
  | 8, 0, _, _, h => (lw_ne_0_8 hs).symm
  | 8, 1, _, _, h => (lw_ne_1_8 hs).symm
  | 8, 2, _, _, h => (lw_ne_2_8 hs).symm
  | 8, 3, _, _, h => (lw_ne_3_8 hs).symm
  | 8, 4, _, _, h => (lw_ne_4_8 hs).symm
  | 8, 5, _, _, h => (lw_ne_5_8 hs).symm
  | 8, 6, _, _, h => (lw_ne_6_8 hs).symm
  | 8, 7, _, _, h => (lw_ne_7_8 hs).symm
  | 8, 8, _, _, h => absurd rfl h
  | 8, 9, _, _, h => lw_ne_8_9 hs
  | 8, 10, _, _, h => lw_ne_8_10 hs
  | 8, 11, _, _, h => lw_ne_8_11 hs
  | 8, 12, _, _, h => lw_ne_8_12 hs
  | 8, 13, _, _, h => lw_ne_8_13 hs
  | 9, 0, _, _, h => (lw_ne_0_9 hs).symm
  | 9, 1, _, _, h => (lw_ne_1_9 hs).symm
  | 9, 2, _, _, h => (lw_ne_2_9 hs).symm
  | 9, 3, _, _, h => (lw_ne_3_9 hs).symm
  | 9, 4, _, _, h => (lw_ne_4_9 hs).symm
  | 9, 5, _, _, h => (lw_ne_5_9 hs).symm
  | 9, 6, _, _, h => (lw_ne_6_9 hs).symm
  | 9, 7, _, _, h => (lw_ne_7_9 hs).symm
  | 9, 8, _, _, h => (lw_ne_8_9 hs).symm
  | 9, 9, _, _, h => absurd rfl h
  | 9, 10, _, _, h => lw_ne_9_10 hs
  | 9, 11, _, _, h => lw_ne_9_11 hs
  | 9, 12, _, _, h => lw_ne_9_12 hs
  | 9, 13, _, _, h => lw_ne_9_13 hs
  | 10, 0, _, _, h => (lw_ne_0_10 hs).symm
  | 10, 1, _, _, h => (lw_ne_1_10 hs).symm
  | 10, 2, _, _, h => (lw_ne_2_10 hs).symm
  | 10, 3, _, _, h => (lw_ne_3_10 hs).symm
  | 10, 4, _, _, h => (lw_ne_4_10 hs).symm
  | 10, 5, _, _, h => (lw_ne_5_10 hs).symm
  | 10, 6, _, _, h => (lw_ne_6_10 hs).symm
  | 10, 7, _, _, h => (lw_ne_7_10 hs).symm
  | 10, 8, _, _, h => (lw_ne_8_10 hs).symm
  | 10, 9, _, _, h => (lw_ne_9_10 hs).symm
  | 10, 10, _, _, h => absurd rfl h
  | 10, 11, _, _, h => lw_ne_10_11 hs
  | 10, 12, _, _, h => lw_ne_10_12 hs
  | 10, 13, _, _, h => lw_ne_10_13 hs
  | 11, 0, _, _, h => (lw_ne_0_11 hs).symm
  | 11, 1, _, _, h => (lw_ne_1_11 hs).symm
  | 11, 2, _, _, h => (lw_ne_2_11 hs).symm
  | 11, 3, _, _, h => (lw_ne_3_11 hs).symm
  | 11, 4, _, _, h => (lw_ne_4_11 hs).symm
  | 11, 5, _, _, h => (lw_ne_5_11 hs).symm
  | 11, 6, _, _, h => (lw_ne_6_11 hs).symm
  | 11, 7, _, _, h => (lw_ne_7_11 hs).symm
  | 11, 8, _, _, h => (lw_ne_8_11 hs).symm
  | 11, 9, _, _, h => (lw_ne_9_11 hs).symm
  | 11, 10, _, _, h => (lw_ne_10_11 hs).symm
  | 11, 11, _, _, h => absurd rfl h
  | 11, 12, _, _, h => lw_ne_11_12 hs
  | 11, 13, _, _, h => lw_ne_11_13 hs
  | 12, 0, _, _, h => (lw_ne_0_12 hs).symm
  | 12, 1, _, _, h => (lw_ne_1_12 hs).symm
  | 12, 2, _, _, h => (lw_ne_2_12 hs).symm
  | 12, 3, _, _, h => (lw_ne_3_12 hs).symm
  | 12, 4, _, _, h => (lw_ne_4_12 hs).symm
  | 12, 5, _, _, h => (lw_ne_5_12 hs).symm
  | 12, 6, _, _, h => (lw_ne_6_12 hs).symm
  | 12, 7, _, _, h => (lw_ne_7_12 hs).symm
  | 12, 8, _, _, h => (lw_ne_8_12 hs).symm
  | 12, 9, _, _, h => (lw_ne_9_12 hs).symm
  | 12, 10, _, _, h => (lw_ne_10_12 hs).symm
  | 12, 11, _, _, h => (lw_ne_11_12 hs).symm
  | 12, 12, _, _, h => absurd rfl h
  | 12, 13, _, _, h => lw_ne_12_13 hs
  | 13, 0, _, _, h => (lw_ne_0_13 hs).symm
  | 13, 1, _, _, h => (lw_ne_1_13 hs).symm
  | 13, 2, _, _, h => (lw_ne_2_13 hs).symm
  | 13, 3, _, _, h => (lw_ne_3_13 hs).symm
  | 13, 4, _, _, h => (lw_ne_4_13 hs).symm
  | 13, 5, _, _, h => (lw_ne_5_13 hs).symm
  | 13, 6, _, _, h => (lw_ne_6_13 hs).symm
  | 13, 7, _, _, h => (lw_ne_7_13 hs).symm
  | 13, 8, _, _, h => (lw_ne_8_13 hs).symm
  | 13, 9, _, _, h => (lw_ne_9_13 hs).symm
  | 13, 10, _, _, h => (lw_ne_10_13 hs).symm
  | 13, 11, _, _, h => (lw_ne_11_13 hs).symm
  | 13, 12, _, _, h => (lw_ne_12_13 hs).symm
  | 13, 13, _, _, h => absurd rfl h
  | k + 14, _, h, _, _ => absurd h (by omega)
  | _, k + 14, _, h, _ => absurd h (by omega)
theorem nt_of {w : Cond} (hw : w ∈ NT) {args : Array Value} {s : State} (h : w.before args s = true) : va_Nw w s := by
  have h1 := (List.mem_filter.mp hw).2
  cases w <;> first | exact va_Nw.of rfl h | exact absurd h1 (by simp [tn_is])
set_option maxHeartbeats 4000000 in
theorem lw_nw {args : Array Value} {s : State} (hts : ∀ w ∈ lw_tbl, w.before args s = true) (hgv : (Jvm.Cond.and given_1 narrow_1).before args s = true) : ∃ adK adV : Nat → Nat, nwK (fun q : Nat => s.heap.size ≤ q) adK adV s := by
  have hs := flat_of_before _ hgv
  have hA : ∀ a : Nat, a < s.heap.size → ¬ (fun q : Nat => s.heap.size ≤ q) a := fun a h => Nat.not_le.mpr h
  obtain ⟨adK, adV, hS, hev⟩ := vk_Sof (A := fun q : Nat => s.heap.size ≤ q) (N := 14) (tm := lw_tm) (len := lenJK) (byt := bytJK) (by decide) (lw_hex hs) (lw_hco hs) (lw_har hs) (lw_hle hs) (lw_hel hs) (lw_hne hs) hA
  refine ⟨adK, adV, fun w hw => nt_of hw (hts w (List.mem_append_right _ (List.mem_filter.mp hw).1)), ?_, hS, va_Zof (hts _ (List.mem_append_right _ (List.mem_append_right _ (List.mem_append_right _ (List.mem_append_left _ (List.mem_of_getElem? (i := 49) rfl)))))) (hts _ (List.mem_append_right _ (List.mem_append_left _ (List.mem_of_getElem? (i := 13) rfl)))) (va_eqi (hs _ (by decide +kernel))) hA, va_Zqof (hts _ (List.mem_append_right _ (List.mem_append_right _ (List.mem_append_right _ (List.mem_append_left _ (List.mem_of_getElem? (i := 65) rfl)))))) (hts _ (List.mem_append_right _ (List.mem_append_left _ (List.mem_of_getElem? (i := 15) rfl)))) (hs _ (by decide +kernel)) hA⟩
  intro own k tx j hm
  obtain ⟨i, hi⟩ := List.getElem?_of_mem hm
  match i, hi with
  | 0, hi => cases hi; exact vk_R.of (hts _ (List.mem_append_right _ (List.mem_append_right _ (List.mem_append_right _ (List.mem_append_left _ (List.mem_of_getElem? (i := 35) rfl)))))) (hev 0 (by decide))
  | 1, hi => cases hi; exact vk_R.of (hts _ (List.mem_append_right _ (List.mem_append_right _ (List.mem_append_right _ (List.mem_append_left _ (List.mem_of_getElem? (i := 88) rfl)))))) (hev 1 (by decide))
  | 2, hi => cases hi; exact vk_R.of (hts _ (List.mem_append_right _ (List.mem_append_right _ (List.mem_append_right _ (List.mem_append_left _ (List.mem_of_getElem? (i := 89) rfl)))))) (hev 2 (by decide))
  | 3, hi => cases hi; exact vk_R.of (hts _ (List.mem_append_right _ (List.mem_append_right _ (List.mem_append_right _ (List.mem_append_left _ (List.mem_of_getElem? (i := 90) rfl)))))) (hev 3 (by decide))
  | 4, hi => cases hi; exact vk_R.of (hts _ (List.mem_append_right _ (List.mem_append_right _ (List.mem_append_right _ (List.mem_append_left _ (List.mem_of_getElem? (i := 95) rfl)))))) (hev 4 (by decide))
  | 5, hi => cases hi; exact vk_R.of (hts _ (List.mem_append_right _ (List.mem_append_right _ (List.mem_append_right _ (List.mem_append_left _ (List.mem_of_getElem? (i := 127) rfl)))))) (hev 5 (by decide))
  | 6, hi => cases hi; exact vk_R.of (hts _ (List.mem_append_right _ (List.mem_append_right _ (List.mem_append_right _ (List.mem_append_left _ (List.mem_of_getElem? (i := 128) rfl)))))) (hev 6 (by decide))
  | 7, hi => cases hi; exact vk_R.of (hts _ (List.mem_append_right _ (List.mem_append_right _ (List.mem_append_right _ (List.mem_append_left _ (List.mem_of_getElem? (i := 129) rfl)))))) (hev 7 (by decide))
  | 8, hi => cases hi; exact vk_R.of (hts _ (List.mem_append_right _ (List.mem_append_right _ (List.mem_append_right _ (List.mem_append_left _ (List.mem_of_getElem? (i := 130) rfl)))))) (hev 8 (by decide))
  | 9, hi => cases hi; exact vk_R.of (hts _ (List.mem_append_right _ (List.mem_append_right _ (List.mem_append_right _ (List.mem_append_left _ (List.mem_of_getElem? (i := 131) rfl)))))) (hev 9 (by decide))
  | 10, hi => cases hi; exact vk_R.of (hts _ (List.mem_append_right _ (List.mem_append_right _ (List.mem_append_right _ (List.mem_append_left _ (List.mem_of_getElem? (i := 147) rfl)))))) (hev 10 (by decide))
  | 11, hi => cases hi; exact vk_R.of (hts _ (List.mem_append_right _ (List.mem_append_right _ (List.mem_append_right _ (List.mem_append_left _ (List.mem_of_getElem? (i := 154) rfl)))))) (hev 11 (by decide))
  | 12, hi => cases hi; exact vk_R.of (hts _ (List.mem_append_right _ (List.mem_append_right _ (List.mem_append_right _ (List.mem_append_right _ (List.mem_append_left _ (List.mem_of_getElem? (i := 114) rfl))))))) (hev 12 (by decide))
  | 13, hi => cases hi; exact vk_R.of (hts _ (List.mem_append_right _ (List.mem_append_right _ (List.mem_append_right _ (List.mem_append_right _ (List.mem_append_left _ (List.mem_of_getElem? (i := 117) rfl))))))) (hev 13 (by decide))
  | k + 14, hi => simp [strK] at hi
theorem nwK_narrow {A B : Nat → Prop} {adK adV : Nat → Nat} {s : State} (h : nwK A adK adV s) (hAB : ∀ q, B q → A q) : nwK B adK adV s := ⟨h.1, h.2.1, h.2.2.1.narrow hAB, h.2.2.2.1.narrow hAB, h.2.2.2.2.narrow hAB⟩
theorem lw_ceK_at {a : Nat → Nat} {cI cJ cC : ClassId} {st : sk_M} : ∀ k, k < 43 → ∃ e, (ceK a cI cJ cC st)[k]? = some (a k, e)
  | 0, _ => ⟨_, rfl⟩
  | 1, _ => ⟨_, rfl⟩
  | 2, _ => ⟨_, rfl⟩
  | 3, _ => ⟨_, rfl⟩
  | 4, _ => ⟨_, rfl⟩
  | 5, _ => ⟨_, rfl⟩
  | 6, _ => ⟨_, rfl⟩
  | 7, _ => ⟨_, rfl⟩
  | 8, _ => ⟨_, rfl⟩
  | 9, _ => ⟨_, rfl⟩
  | 10, _ => ⟨_, rfl⟩
  | 11, _ => ⟨_, rfl⟩
  | 12, _ => ⟨_, rfl⟩
  | 13, _ => ⟨_, rfl⟩
  | 14, _ => ⟨_, rfl⟩
  | 15, _ => ⟨_, rfl⟩
  | 16, _ => ⟨_, rfl⟩
  | 17, _ => ⟨_, rfl⟩
  | 18, _ => ⟨_, rfl⟩
  | 19, _ => ⟨_, rfl⟩
  | 20, _ => ⟨_, rfl⟩
  | 21, _ => ⟨_, rfl⟩
  | 22, _ => ⟨_, rfl⟩
  | 23, _ => ⟨_, rfl⟩
  | 24, _ => ⟨_, rfl⟩
  | 25, _ => ⟨_, rfl⟩
  | 26, _ => ⟨_, rfl⟩
  | 27, _ => ⟨_, rfl⟩
  | 28, _ => ⟨_, rfl⟩
  | 29, _ => ⟨_, rfl⟩
  | 30, _ => ⟨_, rfl⟩
  | 31, _ => ⟨_, rfl⟩
  | 32, _ => ⟨_, rfl⟩
  | 33, _ => ⟨_, rfl⟩
  | 34, _ => ⟨_, rfl⟩
  | 35, _ => ⟨_, rfl⟩
  | 36, _ => ⟨_, rfl⟩
  | 37, _ => ⟨_, rfl⟩
  | 38, _ => ⟨_, rfl⟩
  | 39, _ => ⟨_, rfl⟩
  | 40, _ => ⟨_, rfl⟩
  | 41, _ => ⟨_, rfl⟩
  | 42, _ => ⟨_, rfl⟩
  | k + 43, h => absurd h (by omega)
theorem lw_ceM_at {a : Nat → Nat} {cI cZ : ClassId} {st : sk_M} : ∀ k, k < 41 → ∃ e, (ceM a cI cZ st)[k]? = some (a k, e)
  | 0, _ => ⟨_, rfl⟩
  | 1, _ => ⟨_, rfl⟩
  | 2, _ => ⟨_, rfl⟩
  | 3, _ => ⟨_, rfl⟩
  | 4, _ => ⟨_, rfl⟩
  | 5, _ => ⟨_, rfl⟩
  | 6, _ => ⟨_, rfl⟩
  | 7, _ => ⟨_, rfl⟩
  | 8, _ => ⟨_, rfl⟩
  | 9, _ => ⟨_, rfl⟩
  | 10, _ => ⟨_, rfl⟩
  | 11, _ => ⟨_, rfl⟩
  | 12, _ => ⟨_, rfl⟩
  | 13, _ => ⟨_, rfl⟩
  | 14, _ => ⟨_, rfl⟩
  | 15, _ => ⟨_, rfl⟩
  | 16, _ => ⟨_, rfl⟩
  | 17, _ => ⟨_, rfl⟩
  | 18, _ => ⟨_, rfl⟩
  | 19, _ => ⟨_, rfl⟩
  | 20, _ => ⟨_, rfl⟩
  | 21, _ => ⟨_, rfl⟩
  | 22, _ => ⟨_, rfl⟩
  | 23, _ => ⟨_, rfl⟩
  | 24, _ => ⟨_, rfl⟩
  | 25, _ => ⟨_, rfl⟩
  | 26, _ => ⟨_, rfl⟩
  | 27, _ => ⟨_, rfl⟩
  | 28, _ => ⟨_, rfl⟩
  | 29, _ => ⟨_, rfl⟩
  | 30, _ => ⟨_, rfl⟩
  | 31, _ => ⟨_, rfl⟩
  | 32, _ => ⟨_, rfl⟩
  | 33, _ => ⟨_, rfl⟩
  | 34, _ => ⟨_, rfl⟩
  | 35, _ => ⟨_, rfl⟩
  | 36, _ => ⟨_, rfl⟩
  | 37, _ => ⟨_, rfl⟩
  | 38, _ => ⟨_, rfl⟩
  | 39, _ => ⟨_, rfl⟩
  | 40, _ => ⟨_, rfl⟩
  | k + 41, h => absurd h (by omega)
theorem lw_ceK_of {a : Nat → Nat} {cI cJ cC : ClassId} {st : sk_M} {k : Nat} {q : Nat × va_E} (h : (ceK a cI cJ cC st)[k]? = some q) : lw_AK a q.1 := by
  have hk : k < 43 := (List.getElem?_eq_some_iff.mp h).1
  obtain ⟨e, he⟩ := lw_ceK_at (a := a) (cI := cI) (cJ := cJ) (cC := cC) (st := st) k hk
  cases h.symm.trans he
  exact ⟨k, hk, rfl⟩
theorem lw_ceM_of {a : Nat → Nat} {cI cZ : ClassId} {st : sk_M} {k : Nat} {q : Nat × va_E} (h : (ceM a cI cZ st)[k]? = some q) : lw_AM a q.1 := by
  have hk : k < 41 := (List.getElem?_eq_some_iff.mp h).1
  obtain ⟨e, he⟩ := lw_ceM_at (a := a) (cI := cI) (cZ := cZ) (st := st) k hk
  cases h.symm.trans he
  exact ⟨k, hk, rfl⟩
theorem lw_own {A B : Nat → Prop} {ws : va_W} (h : va_D A ws) (hB : ∀ (k : Nat) (q : Nat × va_E), ws[k]? = some q → B q.1) : va_D B ws := ⟨h.1, hB⟩
theorem lw_in_ce {A : Nat → Prop} {ws : va_W} {k x : Nat} (h : va_D A ws) (hk : ∃ e, ws[k]? = some (x, e)) : A x := by
  obtain ⟨e, he⟩ := hk
  exact h.2 k _ he
theorem lw_apart {A : Nat → Prop} {ws : va_W} (h : va_D A ws) (p1 p2 : List Nat) {f1 f2 : Nat → Nat} (n1 n2 : Nat) (hd : ∀ i ∈ p1, i ∉ p2) (l1 : p1.length = n1) (l2 : p2.length = n2) (h1 : p1.map (fun i => (ws[i]?).map Prod.fst) = (List.range n1).map (fun k => some (f1 k))) (h2 : p2.map (fun i => (ws[i]?).map Prod.fst) = (List.range n2).map (fun k => some (f2 k))) : ∀ x y : Nat, x < n1 → y < n2 → f1 x ≠ f2 y := by
  intro x y hx hy e
  have a1 : (p1.map (fun i => (ws[i]?).map Prod.fst))[x]? = some (some (f1 x)) := by rw [h1]; simp [hx]
  have a2 : (p2.map (fun i => (ws[i]?).map Prod.fst))[y]? = some (some (f2 y)) := by rw [h2]; simp [hy]
  rw [List.getElem?_map] at a1 a2
  obtain ⟨i, hi, ei⟩ := Option.map_eq_some_iff.mp a1
  obtain ⟨j, hj, ej⟩ := Option.map_eq_some_iff.mp a2
  obtain ⟨q1, hq1, e1⟩ := Option.map_eq_some_iff.mp ei
  obtain ⟨q2, hq2, e2⟩ := Option.map_eq_some_iff.mp ej
  have := h.1 i j q1 q2 hq1 hq2 (by rw [e1, e2]; exact e)
  subst this
  exact hd i (List.mem_of_getElem? hi) (List.mem_of_getElem? hj)
set_option maxHeartbeats 8000000 in
set_option maxRecDepth 100000 in
theorem lw_start {p : Program} {e : Env} {s : State} {m : MethodId} {below : List Frame} {meth : Method} {c : Code} (hpm : pm_all) (l : Launch) {b L : Nat} {xs : Nat → Int32} (hL : L ≤ 3072) (C0 : lw_At p s m meth c b L xs) : W p l e room_1 s m #[Value.ref b] below meth c s.heap [] 0 0 (lw_Z below #[Value.ref b] s) (entryFrame m ([Value.ref b] : List Value).toArray 4) := by
  obtain ⟨N, Inv, hp, stT, stM, hTT, hTM, hI0⟩ := hpm
  obtain ⟨hx, hb, hr, hml, hown, hts0, hX, hbl, hlocks, hgv⟩ := id C0
  have hts : ∀ w ∈ TB, w.before #[Value.ref b] s = true := fun w h => hts0 w (List.mem_filter.mp h).1
  obtain ⟨adK, adV, hnw⟩ := lw_nw hts0 hgv
  have hnn : nwN s := hnw.1
  have hA : ∀ q : Nat, s.heap.size ≤ q → (fun q : Nat => s.heap.size ≤ q) q := fun _ h => h
  have hbA : ¬ (fun q : Nat => s.heap.size ≤ q) b := Nat.not_le.mpr hbl
  obtain ⟨c0, iS0, hKn0⟩ := u_known (C := R_Mapping) (T := F_Mapping) (N := 6) (n := 6) hts i_Mapping (hts (.instantiable R_Mapping 6) (tb_2 (List.mem_of_getElem? (i := 121) rfl) rfl))
  obtain ⟨c1, iS1, hKn1⟩ := u_known (C := R_Members) (T := F_Members) (N := 8) (n := 8) hts i_Members (hts (.instantiable R_Members 8) (tb_1 (List.mem_of_getElem? (i := 106) rfl) rfl))
  obtain ⟨c2, iS2, hKn2⟩ := u_known (C := R_Names) (T := F_Names) (N := 8) (n := 8) hts i_Names (hts (.instantiable R_Names 8) (tb_2 (List.mem_of_getElem? (i := 88) rfl) rfl))
  obtain ⟨c3, iS3, hKn3⟩ := u_known (C := R_Needs) (T := F_Needs) (N := 8) (n := 8) hts i_Needs (hts (.instantiable R_Needs 8) (tb_2 (List.mem_of_getElem? (i := 49) rfl) rfl))
  obtain ⟨c4, iS4, hKn4⟩ := u_known (C := R_References) (T := F_References) (N := 5) (n := 5) hts i_References (hts (.instantiable R_References 5) (tb_1 (List.mem_of_getElem? (i := 167) rfl) rfl))
  obtain ⟨c5, iS5, hKn5⟩ := u_known (C := R_RuleBook) (T := F_RuleBook) (N := 7) (n := 7) hts i_RuleBook (hts (.instantiable R_RuleBook 7) (tb_2 (List.mem_of_getElem? (i := 12) rfl) rfl))
  obtain ⟨c6, iS6, hKn6⟩ := u_known (C := R_RuleReader) (T := F_RuleReader) (N := 9) (n := 9) hts i_RuleReader (hts (.instantiable R_RuleReader 9) (tb_1 (List.mem_of_getElem? (i := 212) rfl) rfl))
  obtain ⟨c7, iS7, hKn7⟩ := u_known (C := R_Text) (T := F_Text) (N := 2) (n := 2) hts i_Text (hts (.instantiable R_Text 2) (tb_1 (List.mem_of_getElem? (i := 195) rfl) rfl))
  obtain ⟨c8, iS8, hKn8⟩ := u_known (C := R_Types) (T := F_Types) (N := 11) (n := 11) hts i_Types (hts (.instantiable R_Types 11) (tb_1 (List.mem_of_getElem? (i := 28) rfl) rfl))
  obtain ⟨c9, iS9, hKn9⟩ := u_known (C := R_SF) (T := F_SF) (N := 11) (n := 11) hts i_SF (hts (.instantiable R_SF 11) (tb_1 (List.mem_of_getElem? (i := 20) rfl) rfl))
  obtain ⟨c10, iS10, hKn10⟩ := u_known (C := R_M) (T := F_M) (N := 48) (n := 48) hts i_M (hts (.instantiable R_M 48) (tb_4 (List.mem_of_getElem? (i := 159) rfl) rfl))
  obtain ⟨D, hKc⟩ : ∃ D : va_G, ∀ (k : Nat) (q : vw_C), classes[k]? = some q → u_Kn s q.1 q.2.1 q.2.2 (D.1 k) (D.2 k) := by
    refine ⟨(fun k => ([c0, c1, c2, c3, c4, c5, c6, c7, c8, c9, c10] : List ClassId).getD k c0, fun k => ([iS0, iS1, iS2, iS3, iS4, iS5, iS6, iS7, iS8, iS9, iS10] : List (Nat → Nat)).getD k iS0), ?_⟩
    intro k q hq
    match k, hq with
    | 0, hq => cases hq; exact hKn0
    | 1, hq => cases hq; exact hKn1
    | 2, hq => cases hq; exact hKn2
    | 3, hq => cases hq; exact hKn3
    | 4, hq => cases hq; exact hKn4
    | 5, hq => cases hq; exact hKn5
    | 6, hq => cases hq; exact hKn6
    | 7, hq => cases hq; exact hKn7
    | 8, hq => cases hq; exact hKn8
    | 9, hq => cases hq; exact hKn9
    | 10, hq => cases hq; exact hKn10
    | k + 11, hq => simp [classes] at hq
  have hS : va_S (fun q : Nat => s.heap.size ≤ q) s.heap s.heap [] := va_S.rf
  have hK : va_K D classes [] s := ⟨hKc, fun k q h => by simp at h⟩
  have hP : va_P D classes [] s.heap := fun k q h => by simp at h
  have hD : va_D (fun q : Nat => s.heap.size ≤ q) [] := ⟨fun i j p q h => by simp at h, fun k q h => by simp at h⟩
  have hl := lv_entry ([.ref b]) (n := 4) (Nat.le_of_ble_eq_true rfl)
  rw [lg_entry_eq]
  generalize (lg_sl ([.ref b]) ++ List.replicate (4 - (lg_sl ([.ref b])).length) Slot.unset).toArray = ls at hl ⊢
  have hl : lv_has ls 4 [(0, .ref b)] := hl
  refine va_new (ci := 9) (fs := [.null, .null, .null, .null, .null, .null, .null, .null, .null, .null, .int 0]) (C := R_SF) (T := F_SF) (N := 11) hx hb hts i_SF t_SF t_SF_ok hown (hts _ (tb_1 (List.mem_of_getElem? (i := 19) rfl) rfl)) (hts _ (tb_1 (List.mem_of_getElem? (i := 20) rfl) rfl)) (hts _ (tb_1 (List.mem_of_getElem? (i := 1) rfl) rfl)) hK hP hD hS hA rfl (fun j hj => match j, hj with | 0, _ => rfl | 1, _ => rfl | 2, _ => rfl | 3, _ => rfl | 4, _ => rfl | 5, _ => rfl | 6, _ => rfl | 7, _ => rfl | 8, _ => rfl | 9, _ => rfl | 10, _ => rfl | j + 11, h => absurd h (by omega)) (by decide) (by decide) d_law_0 (fun qS H hP hD hS => ?_)
  refine W.widen (k := 1) (n := 11) (by decide) (by decide) ?_
  have hP : va_P D classes [(qS, .inr (9, [.null, .null, .null, .null, .null, .null, .null, .null, .null, .null, .int 0]))] H := hP
  have hD : va_D (fun q : Nat => s.heap.size ≤ q) [(qS, .inr (9, [.null, .null, .null, .null, .null, .null, .null, .null, .null, .null, .int 0]))] := hD
  refine lv_dup hx hb d_law_3 rfl ?_
  have hPc := hP.sub (ws' := [(qS, .inr (9, [.null, .null, .null, .null, .null, .null, .null, .null, .null, .null, .int 0]))]) [0] rfl
  have hDc := hD.sub (ws' := [(qS, .inr (9, [.null, .null, .null, .null, .null, .null, .null, .null, .null, .null, .int 0]))]) [0] (by decide) rfl
  have hKe := hK.sub (tys' := []) [] rfl
  have hFc := va_free (wc := [(qS, .inr (9, [.null, .null, .null, .null, .null, .null, .null, .null, .null, .null, .int 0]))]) hD hS hA [0] rfl
  refine va_callv (va_runI (As := []) (rest := [.ref qS]) ⟨hx, hb, hml, hown, hts⟩ (ci_SF hTT hTM (h0 := qS) (sz := H.size)) (cwI 0 hts (tb_good k_K_SF_init) rfl rfl rfl (hts _ (tb_1 (List.mem_of_getElem? (i := 1) rfl) rfl)) (hts _ (tb_1 (List.mem_of_getElem? (i := 21) rfl) rfl)) (hts _ (tb_1 (List.mem_of_getElem? (i := 22) rfl) rfl)) rfl (by decide +kernel) (by decide)) ⟨fun a U g mk q => ⟨q.1, q.2.1, q.2.2.1, va_K.moved (u := U) (U := U.calling g mk a) (Vm.Alike.refl U.vm) q.2.2.2.1, q.2.2.2.2.1, (nwN_ok (A := fun _ => True)).2 U g mk a q.2.2.2.2.2⟩, fun U hU hW => ⟨rfl, by rw [hU], by rw [hU]; exact hPc, va_K.moved hW.alike hKe, hDc.weaken (fun _ _ _ _ => trivial), fun w hw => nt_warm hW hw (hnn w hw)⟩⟩ rfl rfl hl.1 rfl (lv_room (Nat.le_of_ble_eq_true rfl)) d_law_4 (by decide)) hS (fun q _ h => hFc q h) hFc (fun u t H1 locs ht hvm hw hB hz1 hk1 hS => ?_)
  obtain ⟨q5_4, q7_9_4, q15_9_4, q23_9_4, q31_9_4, q39_9_4, q47_9_4, q55_9_4, q63_9_4, q16_4, q7_24_4, q15_24_4, q23_24_4, q32_24_4, q31_4, q7_35_4, q15_35_4, q23_35_4, q31_35_4, q42_4, q6_48_4, q55_4, q7_63_4, q15_63_4, q21_63_4, q6_27_63_4, q70_4, q7_74_4, q15_74_4, q23_74_4, q31_74_4, q39_74_4, q47_74_4, q81_4, q108_4, q7_128_4, q15_128_4, q135_4, q5_155_4, q6_12_155_4, q162_4, q6_168_4, cI_4, cJ_4, cC_4, hP1, hK1, hD1⟩ := hB
  rw [ht] at hP1
  have hK1 := va_K.moved hvm.symm hK1
  obtain ⟨hP, hD⟩ := va_join (wr := []) (w1 := [(qS, .inr (9, [.ref q5_4, .ref q16_4, .ref q31_4, .ref q42_4, .ref q55_4, .ref q70_4, .ref q81_4, .ref q108_4, .ref q135_4, .ref q162_4, .int 0])), (q5_4, .inr (8, [.ref q7_9_4, .ref q15_9_4, .ref q23_9_4, .ref q31_9_4, .ref q39_9_4, .ref q47_9_4, .ref q55_9_4, .ref q63_9_4, .long (stT.2 0 11), .long (stT.2 0 12), .long (stT.2 0 13)])), (q7_9_4, .inl (cI_4, 10, .inl (stT.1 35))), (q15_9_4, .inl (cI_4, 10, .inl (stT.1 36))), (q23_9_4, .inl (cI_4, 10, .inl (stT.1 37))), (q31_9_4, .inl (cI_4, 10, .inl (stT.1 38))), (q39_9_4, .inl (cI_4, 10, .inl (stT.1 39))), (q47_9_4, .inl (cJ_4, 10, .inr (.inl (stT.2 40)))), (q55_9_4, .inl (cJ_4, 10, .inr (.inl (stT.2 41)))), (q63_9_4, .inl (cJ_4, 10, .inr (.inl (stT.2 42)))), (q16_4, .inr (1, [.ref q5_4, .ref q7_24_4, .ref q15_24_4, .ref q23_24_4, .ref q32_24_4, .int (stM.1 0 5), .long (stM.2 0 0), .long (stM.2 0 1)])), (q7_24_4, .inl (cI_4, 40, .inl (stM.1 17))), (q15_24_4, .inl (cI_4, 40, .inl (stM.1 18))), (q23_24_4, .inl (cI_4, 40, .inl (stM.1 19))), (q32_24_4, .inl (cI_4, 320, .inl (stM.1 20))), (q31_4, .inr (4, [.ref q7_35_4, .ref q15_35_4, .ref q23_35_4, .ref q31_35_4, .int 0])), (q7_35_4, .inl (cI_4, 60, .inl (fun _ => 0))), (q15_35_4, .inl (cI_4, 60, .inl (fun _ => 0))), (q23_35_4, .inl (cI_4, 60, .inl (fun _ => 0))), (q31_35_4, .inl (cI_4, 60, .inl (fun _ => 0))), (q42_4, .inr (7, [.ref q6_48_4, .int 0])), (q6_48_4, .inl (cC_4, 60, .inl (fun _ => 0))), (q55_4, .inr (6, [.ref q7_63_4, .ref q15_63_4, .ref q21_63_4, .ref q42_4, .int 0, .int 0, .long 0, .long 0, .long 0])), (q7_63_4, .inl (cI_4, 62, .inl (fun _ => 0))), (q15_63_4, .inl (cI_4, 62, .inl (fun _ => 0))), (q21_63_4, .inr (7, [.ref q6_27_63_4, .int 0])), (q6_27_63_4, .inl (cC_4, 8, .inl (fun _ => 0))), (q70_4, .inr (5, [.ref q7_74_4, .ref q15_74_4, .ref q23_74_4, .ref q31_74_4, .ref q39_74_4, .ref q47_74_4, .int 0])), (q7_74_4, .inl (cI_4, 8, .inl (fun _ => 0))), (q15_74_4, .inl (cJ_4, 8, .inr (.inl (fun _ => 0)))), (q23_74_4, .inl (cJ_4, 8, .inr (.inl (fun _ => 0)))), (q31_74_4, .inl (cJ_4, 8, .inr (.inl (fun _ => 0)))), (q39_74_4, .inl (cJ_4, 8, .inr (.inl (fun _ => 0)))), (q47_74_4, .inl (cJ_4, 8, .inr (.inl (fun _ => 0)))), (q81_4, .inr (3, [.ref q5_4, .ref q16_4, .ref q31_4, .ref q70_4, .long 0, .long 0, .long 0, .long 0])), (q108_4, .inr (2, [.ref q5_4, .ref q16_4, .ref q70_4, .ref q81_4, .ref q7_128_4, .ref q15_128_4, .long 0, .long 0])), (q7_128_4, .inl (cC_4, 10, .inl (fun _ => 0))), (q15_128_4, .inl (cC_4, 32, .inl (fun _ => 0))), (q135_4, .inr (0, [.ref q5_4, .ref q16_4, .ref q81_4, .ref q108_4, .ref q5_155_4, .int 0])), (q5_155_4, .inr (7, [.ref q6_12_155_4, .int 0])), (q6_12_155_4, .inl (cC_4, 1120, .inl (fun _ => 0))), (q162_4, .inr (7, [.ref q6_168_4, .int 0])), (q6_168_4, .inl (cC_4, 8, .inl (fun _ => 0)))]) hP hD [0] [] rfl rfl (by decide) (by decide) hk1 hFc hP1 hD1
  have hK := (hK.sub (tys' := []) [] rfl).app hK1
  generalize H1 = H at hP hS ⊢
  have hK : va_K D classes [(cI_4, .int), (cJ_4, .long), (cC_4, .char)] s := hK
  obtain ⟨cI, ecI⟩ : ∃ z, z = cI_4 := ⟨_, rfl⟩
  subst ecI
  obtain ⟨cJ, ecJ⟩ : ∃ z, z = cJ_4 := ⟨_, rfl⟩
  subst ecJ
  obtain ⟨cC, ecC⟩ : ∃ z, z = cC_4 := ⟨_, rfl⟩
  subst ecC
  have hK : va_K D classes [(cI, .int), (cJ, .long), (cC, .char)] s := hK.sub [0, 1, 2] rfl
  refine W.widen (k := 43) (n := 2251) (by decide) (by decide) ?_
  have hP : va_P D classes [(qS, .inr (9, [.ref q5_4, .ref q16_4, .ref q31_4, .ref q42_4, .ref q55_4, .ref q70_4, .ref q81_4, .ref q108_4, .ref q135_4, .ref q162_4, .int 0])), (q5_4, .inr (8, [.ref q7_9_4, .ref q15_9_4, .ref q23_9_4, .ref q31_9_4, .ref q39_9_4, .ref q47_9_4, .ref q55_9_4, .ref q63_9_4, .long (stT.2 0 11), .long (stT.2 0 12), .long (stT.2 0 13)])), (q7_9_4, .inl (cI, 10, .inl (stT.1 35))), (q15_9_4, .inl (cI, 10, .inl (stT.1 36))), (q23_9_4, .inl (cI, 10, .inl (stT.1 37))), (q31_9_4, .inl (cI, 10, .inl (stT.1 38))), (q39_9_4, .inl (cI, 10, .inl (stT.1 39))), (q47_9_4, .inl (cJ, 10, .inr (.inl (stT.2 40)))), (q55_9_4, .inl (cJ, 10, .inr (.inl (stT.2 41)))), (q63_9_4, .inl (cJ, 10, .inr (.inl (stT.2 42)))), (q16_4, .inr (1, [.ref q5_4, .ref q7_24_4, .ref q15_24_4, .ref q23_24_4, .ref q32_24_4, .int (stM.1 0 5), .long (stM.2 0 0), .long (stM.2 0 1)])), (q7_24_4, .inl (cI, 40, .inl (stM.1 17))), (q15_24_4, .inl (cI, 40, .inl (stM.1 18))), (q23_24_4, .inl (cI, 40, .inl (stM.1 19))), (q32_24_4, .inl (cI, 320, .inl (stM.1 20))), (q31_4, .inr (4, [.ref q7_35_4, .ref q15_35_4, .ref q23_35_4, .ref q31_35_4, .int 0])), (q7_35_4, .inl (cI, 60, .inl (fun _ => 0))), (q15_35_4, .inl (cI, 60, .inl (fun _ => 0))), (q23_35_4, .inl (cI, 60, .inl (fun _ => 0))), (q31_35_4, .inl (cI, 60, .inl (fun _ => 0))), (q42_4, .inr (7, [.ref q6_48_4, .int 0])), (q6_48_4, .inl (cC, 60, .inl (fun _ => 0))), (q55_4, .inr (6, [.ref q7_63_4, .ref q15_63_4, .ref q21_63_4, .ref q42_4, .int 0, .int 0, .long 0, .long 0, .long 0])), (q7_63_4, .inl (cI, 62, .inl (fun _ => 0))), (q15_63_4, .inl (cI, 62, .inl (fun _ => 0))), (q21_63_4, .inr (7, [.ref q6_27_63_4, .int 0])), (q6_27_63_4, .inl (cC, 8, .inl (fun _ => 0))), (q70_4, .inr (5, [.ref q7_74_4, .ref q15_74_4, .ref q23_74_4, .ref q31_74_4, .ref q39_74_4, .ref q47_74_4, .int 0])), (q7_74_4, .inl (cI, 8, .inl (fun _ => 0))), (q15_74_4, .inl (cJ, 8, .inr (.inl (fun _ => 0)))), (q23_74_4, .inl (cJ, 8, .inr (.inl (fun _ => 0)))), (q31_74_4, .inl (cJ, 8, .inr (.inl (fun _ => 0)))), (q39_74_4, .inl (cJ, 8, .inr (.inl (fun _ => 0)))), (q47_74_4, .inl (cJ, 8, .inr (.inl (fun _ => 0)))), (q81_4, .inr (3, [.ref q5_4, .ref q16_4, .ref q31_4, .ref q70_4, .long 0, .long 0, .long 0, .long 0])), (q108_4, .inr (2, [.ref q5_4, .ref q16_4, .ref q70_4, .ref q81_4, .ref q7_128_4, .ref q15_128_4, .long 0, .long 0])), (q7_128_4, .inl (cC, 10, .inl (fun _ => 0))), (q15_128_4, .inl (cC, 32, .inl (fun _ => 0))), (q135_4, .inr (0, [.ref q5_4, .ref q16_4, .ref q81_4, .ref q108_4, .ref q5_155_4, .int 0])), (q5_155_4, .inr (7, [.ref q6_12_155_4, .int 0])), (q6_12_155_4, .inl (cC, 1120, .inl (fun _ => 0))), (q162_4, .inr (7, [.ref q6_168_4, .int 0])), (q6_168_4, .inl (cC, 8, .inl (fun _ => 0)))] H := hP
  have hD : va_D (fun q : Nat => s.heap.size ≤ q) [(qS, .inr (9, [.ref q5_4, .ref q16_4, .ref q31_4, .ref q42_4, .ref q55_4, .ref q70_4, .ref q81_4, .ref q108_4, .ref q135_4, .ref q162_4, .int 0])), (q5_4, .inr (8, [.ref q7_9_4, .ref q15_9_4, .ref q23_9_4, .ref q31_9_4, .ref q39_9_4, .ref q47_9_4, .ref q55_9_4, .ref q63_9_4, .long (stT.2 0 11), .long (stT.2 0 12), .long (stT.2 0 13)])), (q7_9_4, .inl (cI, 10, .inl (stT.1 35))), (q15_9_4, .inl (cI, 10, .inl (stT.1 36))), (q23_9_4, .inl (cI, 10, .inl (stT.1 37))), (q31_9_4, .inl (cI, 10, .inl (stT.1 38))), (q39_9_4, .inl (cI, 10, .inl (stT.1 39))), (q47_9_4, .inl (cJ, 10, .inr (.inl (stT.2 40)))), (q55_9_4, .inl (cJ, 10, .inr (.inl (stT.2 41)))), (q63_9_4, .inl (cJ, 10, .inr (.inl (stT.2 42)))), (q16_4, .inr (1, [.ref q5_4, .ref q7_24_4, .ref q15_24_4, .ref q23_24_4, .ref q32_24_4, .int (stM.1 0 5), .long (stM.2 0 0), .long (stM.2 0 1)])), (q7_24_4, .inl (cI, 40, .inl (stM.1 17))), (q15_24_4, .inl (cI, 40, .inl (stM.1 18))), (q23_24_4, .inl (cI, 40, .inl (stM.1 19))), (q32_24_4, .inl (cI, 320, .inl (stM.1 20))), (q31_4, .inr (4, [.ref q7_35_4, .ref q15_35_4, .ref q23_35_4, .ref q31_35_4, .int 0])), (q7_35_4, .inl (cI, 60, .inl (fun _ => 0))), (q15_35_4, .inl (cI, 60, .inl (fun _ => 0))), (q23_35_4, .inl (cI, 60, .inl (fun _ => 0))), (q31_35_4, .inl (cI, 60, .inl (fun _ => 0))), (q42_4, .inr (7, [.ref q6_48_4, .int 0])), (q6_48_4, .inl (cC, 60, .inl (fun _ => 0))), (q55_4, .inr (6, [.ref q7_63_4, .ref q15_63_4, .ref q21_63_4, .ref q42_4, .int 0, .int 0, .long 0, .long 0, .long 0])), (q7_63_4, .inl (cI, 62, .inl (fun _ => 0))), (q15_63_4, .inl (cI, 62, .inl (fun _ => 0))), (q21_63_4, .inr (7, [.ref q6_27_63_4, .int 0])), (q6_27_63_4, .inl (cC, 8, .inl (fun _ => 0))), (q70_4, .inr (5, [.ref q7_74_4, .ref q15_74_4, .ref q23_74_4, .ref q31_74_4, .ref q39_74_4, .ref q47_74_4, .int 0])), (q7_74_4, .inl (cI, 8, .inl (fun _ => 0))), (q15_74_4, .inl (cJ, 8, .inr (.inl (fun _ => 0)))), (q23_74_4, .inl (cJ, 8, .inr (.inl (fun _ => 0)))), (q31_74_4, .inl (cJ, 8, .inr (.inl (fun _ => 0)))), (q39_74_4, .inl (cJ, 8, .inr (.inl (fun _ => 0)))), (q47_74_4, .inl (cJ, 8, .inr (.inl (fun _ => 0)))), (q81_4, .inr (3, [.ref q5_4, .ref q16_4, .ref q31_4, .ref q70_4, .long 0, .long 0, .long 0, .long 0])), (q108_4, .inr (2, [.ref q5_4, .ref q16_4, .ref q70_4, .ref q81_4, .ref q7_128_4, .ref q15_128_4, .long 0, .long 0])), (q7_128_4, .inl (cC, 10, .inl (fun _ => 0))), (q15_128_4, .inl (cC, 32, .inl (fun _ => 0))), (q135_4, .inr (0, [.ref q5_4, .ref q16_4, .ref q81_4, .ref q108_4, .ref q5_155_4, .int 0])), (q5_155_4, .inr (7, [.ref q6_12_155_4, .int 0])), (q6_12_155_4, .inl (cC, 1120, .inl (fun _ => 0))), (q162_4, .inr (7, [.ref q6_168_4, .int 0])), (q6_168_4, .inl (cC, 8, .inl (fun _ => 0)))] := hD
  refine lv_astore_n (lv' := [(1, .ref qS), (0, .ref b)]) hx hb d_law_7 rfl hl (by decide) rfl (fun ls hl => ?_)
  refine va_new (ci := 10) (fs := [.null, .null, .null, .null, .null, .null, .null, .null, .null, .null, .null, .null, .int 0, .null, .null, .null, .null, .null, .int 0, .null, .null, .null, .null, .null, .null, .null, .null, .null, .null, .null, .null, .int 0, .int 0, .null, .null, .int 0, .null, .int 0, .null, .null, .null, .null, .null, .null, .null, .int 0, .null, .int 0]) (C := R_M) (T := F_M) (N := 48) hx hb hts i_M t_M t_M_ok hown (hts _ (tb_4 (List.mem_of_getElem? (i := 158) rfl) rfl)) (hts _ (tb_4 (List.mem_of_getElem? (i := 159) rfl) rfl)) (hts _ (tb_1 (List.mem_of_getElem? (i := 12) rfl) rfl)) hK hP hD hS hA rfl (fun j hj => match j, hj with | 0, _ => rfl | 1, _ => rfl | 2, _ => rfl | 3, _ => rfl | 4, _ => rfl | 5, _ => rfl | 6, _ => rfl | 7, _ => rfl | 8, _ => rfl | 9, _ => rfl | 10, _ => rfl | 11, _ => rfl | 12, _ => rfl | 13, _ => rfl | 14, _ => rfl | 15, _ => rfl | 16, _ => rfl | 17, _ => rfl | 18, _ => rfl | 19, _ => rfl | 20, _ => rfl | 21, _ => rfl | 22, _ => rfl | 23, _ => rfl | 24, _ => rfl | 25, _ => rfl | 26, _ => rfl | 27, _ => rfl | 28, _ => rfl | 29, _ => rfl | 30, _ => rfl | 31, _ => rfl | 32, _ => rfl | 33, _ => rfl | 34, _ => rfl | 35, _ => rfl | 36, _ => rfl | 37, _ => rfl | 38, _ => rfl | 39, _ => rfl | 40, _ => rfl | 41, _ => rfl | 42, _ => rfl | 43, _ => rfl | 44, _ => rfl | 45, _ => rfl | 46, _ => rfl | 47, _ => rfl | j + 48, h => absurd h (by omega)) (by decide) (by decide) d_law_8 (fun qM H hP hD hS => ?_)
  refine W.widen (k := 44) (n := 2299) (by decide) (by decide) ?_
  have hP : va_P D classes [(qS, .inr (9, [.ref q5_4, .ref q16_4, .ref q31_4, .ref q42_4, .ref q55_4, .ref q70_4, .ref q81_4, .ref q108_4, .ref q135_4, .ref q162_4, .int 0])), (q5_4, .inr (8, [.ref q7_9_4, .ref q15_9_4, .ref q23_9_4, .ref q31_9_4, .ref q39_9_4, .ref q47_9_4, .ref q55_9_4, .ref q63_9_4, .long (stT.2 0 11), .long (stT.2 0 12), .long (stT.2 0 13)])), (q7_9_4, .inl (cI, 10, .inl (stT.1 35))), (q15_9_4, .inl (cI, 10, .inl (stT.1 36))), (q23_9_4, .inl (cI, 10, .inl (stT.1 37))), (q31_9_4, .inl (cI, 10, .inl (stT.1 38))), (q39_9_4, .inl (cI, 10, .inl (stT.1 39))), (q47_9_4, .inl (cJ, 10, .inr (.inl (stT.2 40)))), (q55_9_4, .inl (cJ, 10, .inr (.inl (stT.2 41)))), (q63_9_4, .inl (cJ, 10, .inr (.inl (stT.2 42)))), (q16_4, .inr (1, [.ref q5_4, .ref q7_24_4, .ref q15_24_4, .ref q23_24_4, .ref q32_24_4, .int (stM.1 0 5), .long (stM.2 0 0), .long (stM.2 0 1)])), (q7_24_4, .inl (cI, 40, .inl (stM.1 17))), (q15_24_4, .inl (cI, 40, .inl (stM.1 18))), (q23_24_4, .inl (cI, 40, .inl (stM.1 19))), (q32_24_4, .inl (cI, 320, .inl (stM.1 20))), (q31_4, .inr (4, [.ref q7_35_4, .ref q15_35_4, .ref q23_35_4, .ref q31_35_4, .int 0])), (q7_35_4, .inl (cI, 60, .inl (fun _ => 0))), (q15_35_4, .inl (cI, 60, .inl (fun _ => 0))), (q23_35_4, .inl (cI, 60, .inl (fun _ => 0))), (q31_35_4, .inl (cI, 60, .inl (fun _ => 0))), (q42_4, .inr (7, [.ref q6_48_4, .int 0])), (q6_48_4, .inl (cC, 60, .inl (fun _ => 0))), (q55_4, .inr (6, [.ref q7_63_4, .ref q15_63_4, .ref q21_63_4, .ref q42_4, .int 0, .int 0, .long 0, .long 0, .long 0])), (q7_63_4, .inl (cI, 62, .inl (fun _ => 0))), (q15_63_4, .inl (cI, 62, .inl (fun _ => 0))), (q21_63_4, .inr (7, [.ref q6_27_63_4, .int 0])), (q6_27_63_4, .inl (cC, 8, .inl (fun _ => 0))), (q70_4, .inr (5, [.ref q7_74_4, .ref q15_74_4, .ref q23_74_4, .ref q31_74_4, .ref q39_74_4, .ref q47_74_4, .int 0])), (q7_74_4, .inl (cI, 8, .inl (fun _ => 0))), (q15_74_4, .inl (cJ, 8, .inr (.inl (fun _ => 0)))), (q23_74_4, .inl (cJ, 8, .inr (.inl (fun _ => 0)))), (q31_74_4, .inl (cJ, 8, .inr (.inl (fun _ => 0)))), (q39_74_4, .inl (cJ, 8, .inr (.inl (fun _ => 0)))), (q47_74_4, .inl (cJ, 8, .inr (.inl (fun _ => 0)))), (q81_4, .inr (3, [.ref q5_4, .ref q16_4, .ref q31_4, .ref q70_4, .long 0, .long 0, .long 0, .long 0])), (q108_4, .inr (2, [.ref q5_4, .ref q16_4, .ref q70_4, .ref q81_4, .ref q7_128_4, .ref q15_128_4, .long 0, .long 0])), (q7_128_4, .inl (cC, 10, .inl (fun _ => 0))), (q15_128_4, .inl (cC, 32, .inl (fun _ => 0))), (q135_4, .inr (0, [.ref q5_4, .ref q16_4, .ref q81_4, .ref q108_4, .ref q5_155_4, .int 0])), (q5_155_4, .inr (7, [.ref q6_12_155_4, .int 0])), (q6_12_155_4, .inl (cC, 1120, .inl (fun _ => 0))), (q162_4, .inr (7, [.ref q6_168_4, .int 0])), (q6_168_4, .inl (cC, 8, .inl (fun _ => 0))), (qM, .inr (10, [.null, .null, .null, .null, .null, .null, .null, .null, .null, .null, .null, .null, .int 0, .null, .null, .null, .null, .null, .int 0, .null, .null, .null, .null, .null, .null, .null, .null, .null, .null, .null, .null, .int 0, .int 0, .null, .null, .int 0, .null, .int 0, .null, .null, .null, .null, .null, .null, .null, .int 0, .null, .int 0]))] H := hP
  have hD : va_D (fun q : Nat => s.heap.size ≤ q) [(qS, .inr (9, [.ref q5_4, .ref q16_4, .ref q31_4, .ref q42_4, .ref q55_4, .ref q70_4, .ref q81_4, .ref q108_4, .ref q135_4, .ref q162_4, .int 0])), (q5_4, .inr (8, [.ref q7_9_4, .ref q15_9_4, .ref q23_9_4, .ref q31_9_4, .ref q39_9_4, .ref q47_9_4, .ref q55_9_4, .ref q63_9_4, .long (stT.2 0 11), .long (stT.2 0 12), .long (stT.2 0 13)])), (q7_9_4, .inl (cI, 10, .inl (stT.1 35))), (q15_9_4, .inl (cI, 10, .inl (stT.1 36))), (q23_9_4, .inl (cI, 10, .inl (stT.1 37))), (q31_9_4, .inl (cI, 10, .inl (stT.1 38))), (q39_9_4, .inl (cI, 10, .inl (stT.1 39))), (q47_9_4, .inl (cJ, 10, .inr (.inl (stT.2 40)))), (q55_9_4, .inl (cJ, 10, .inr (.inl (stT.2 41)))), (q63_9_4, .inl (cJ, 10, .inr (.inl (stT.2 42)))), (q16_4, .inr (1, [.ref q5_4, .ref q7_24_4, .ref q15_24_4, .ref q23_24_4, .ref q32_24_4, .int (stM.1 0 5), .long (stM.2 0 0), .long (stM.2 0 1)])), (q7_24_4, .inl (cI, 40, .inl (stM.1 17))), (q15_24_4, .inl (cI, 40, .inl (stM.1 18))), (q23_24_4, .inl (cI, 40, .inl (stM.1 19))), (q32_24_4, .inl (cI, 320, .inl (stM.1 20))), (q31_4, .inr (4, [.ref q7_35_4, .ref q15_35_4, .ref q23_35_4, .ref q31_35_4, .int 0])), (q7_35_4, .inl (cI, 60, .inl (fun _ => 0))), (q15_35_4, .inl (cI, 60, .inl (fun _ => 0))), (q23_35_4, .inl (cI, 60, .inl (fun _ => 0))), (q31_35_4, .inl (cI, 60, .inl (fun _ => 0))), (q42_4, .inr (7, [.ref q6_48_4, .int 0])), (q6_48_4, .inl (cC, 60, .inl (fun _ => 0))), (q55_4, .inr (6, [.ref q7_63_4, .ref q15_63_4, .ref q21_63_4, .ref q42_4, .int 0, .int 0, .long 0, .long 0, .long 0])), (q7_63_4, .inl (cI, 62, .inl (fun _ => 0))), (q15_63_4, .inl (cI, 62, .inl (fun _ => 0))), (q21_63_4, .inr (7, [.ref q6_27_63_4, .int 0])), (q6_27_63_4, .inl (cC, 8, .inl (fun _ => 0))), (q70_4, .inr (5, [.ref q7_74_4, .ref q15_74_4, .ref q23_74_4, .ref q31_74_4, .ref q39_74_4, .ref q47_74_4, .int 0])), (q7_74_4, .inl (cI, 8, .inl (fun _ => 0))), (q15_74_4, .inl (cJ, 8, .inr (.inl (fun _ => 0)))), (q23_74_4, .inl (cJ, 8, .inr (.inl (fun _ => 0)))), (q31_74_4, .inl (cJ, 8, .inr (.inl (fun _ => 0)))), (q39_74_4, .inl (cJ, 8, .inr (.inl (fun _ => 0)))), (q47_74_4, .inl (cJ, 8, .inr (.inl (fun _ => 0)))), (q81_4, .inr (3, [.ref q5_4, .ref q16_4, .ref q31_4, .ref q70_4, .long 0, .long 0, .long 0, .long 0])), (q108_4, .inr (2, [.ref q5_4, .ref q16_4, .ref q70_4, .ref q81_4, .ref q7_128_4, .ref q15_128_4, .long 0, .long 0])), (q7_128_4, .inl (cC, 10, .inl (fun _ => 0))), (q15_128_4, .inl (cC, 32, .inl (fun _ => 0))), (q135_4, .inr (0, [.ref q5_4, .ref q16_4, .ref q81_4, .ref q108_4, .ref q5_155_4, .int 0])), (q5_155_4, .inr (7, [.ref q6_12_155_4, .int 0])), (q6_12_155_4, .inl (cC, 1120, .inl (fun _ => 0))), (q162_4, .inr (7, [.ref q6_168_4, .int 0])), (q6_168_4, .inl (cC, 8, .inl (fun _ => 0))), (qM, .inr (10, [.null, .null, .null, .null, .null, .null, .null, .null, .null, .null, .null, .null, .int 0, .null, .null, .null, .null, .null, .int 0, .null, .null, .null, .null, .null, .null, .null, .null, .null, .null, .null, .null, .int 0, .int 0, .null, .null, .int 0, .null, .int 0, .null, .null, .null, .null, .null, .null, .null, .int 0, .null, .int 0]))] := hD
  refine lv_dup hx hb d_law_11 rfl ?_
  have hPc := hP.sub (ws' := [(qM, .inr (10, [.null, .null, .null, .null, .null, .null, .null, .null, .null, .null, .null, .null, .int 0, .null, .null, .null, .null, .null, .int 0, .null, .null, .null, .null, .null, .null, .null, .null, .null, .null, .null, .null, .int 0, .int 0, .null, .null, .int 0, .null, .int 0, .null, .null, .null, .null, .null, .null, .null, .int 0, .null, .int 0]))]) [43] rfl
  have hDc := hD.sub (ws' := [(qM, .inr (10, [.null, .null, .null, .null, .null, .null, .null, .null, .null, .null, .null, .null, .int 0, .null, .null, .null, .null, .null, .int 0, .null, .null, .null, .null, .null, .null, .null, .null, .null, .null, .null, .null, .int 0, .int 0, .null, .null, .int 0, .null, .int 0, .null, .null, .null, .null, .null, .null, .null, .int 0, .null, .int 0]))]) [43] (by decide) rfl
  have hKe := hK.sub (tys' := []) [] rfl
  have hFc := va_free (wc := [(qM, .inr (10, [.null, .null, .null, .null, .null, .null, .null, .null, .null, .null, .null, .null, .int 0, .null, .null, .null, .null, .null, .int 0, .null, .null, .null, .null, .null, .null, .null, .null, .null, .null, .null, .null, .int 0, .int 0, .null, .null, .int 0, .null, .int 0, .null, .null, .null, .null, .null, .null, .null, .int 0, .null, .int 0]))]) hD hS hA [43] rfl
  refine va_callv (va_runI (As := []) (rest := [.ref qM]) ⟨hx, hb, hml, hown, hts⟩ (ci_M (h0 := qM) (sz := H.size)) (cwI 0 hts (tb_good k_M_init) rfl rfl rfl (hts _ (tb_1 (List.mem_of_getElem? (i := 12) rfl) rfl)) (hts _ (tb_4 (List.mem_of_getElem? (i := 160) rfl) rfl)) (hts _ (tb_4 (List.mem_of_getElem? (i := 161) rfl) rfl)) rfl (by decide +kernel) (by decide)) ⟨fun a U g mk q => ⟨q.1, q.2.1, q.2.2.1, va_K.moved (u := U) (U := U.calling g mk a) (Vm.Alike.refl U.vm) q.2.2.2.1, q.2.2.2.2.1, (nwN_ok (A := fun _ => True)).2 U g mk a q.2.2.2.2.2⟩, fun U hU hW => ⟨rfl, by rw [hU], by rw [hU]; exact hPc, va_K.moved hW.alike hKe, hDc.weaken (fun _ _ _ _ => trivial), fun w hw => nt_warm hW hw (hnn w hw)⟩⟩ rfl rfl hl.1 rfl (lv_room (Nat.le_of_ble_eq_true rfl)) d_law_12 (by decide)) hS (fun q _ h => hFc q h) hFc (fun u t H1 locs ht hvm hw hB hz1 hk1 hS => ?_)
  obtain ⟨q7_12, q15_12, q23_12, q31_12, q39_12, q47_12, q55_12, q63_12, q71_12, q79_12, q87_12, q95_12, q108_12, q116_12, q124_12, q132_12, q140_12, q148_12, q157_12, q165_12, q173_12, q181_12, q189_12, q197_12, q205_12, q214_12, q223_12, q232_12, q240_12, q248_12, q256_12, q264_12, q272_12, q280_12, q288_12, q296_12, q304_12, q312_12, q320_12, q329_12, cZ_12, cI_12, hP1, hK1, hD1⟩ := hB
  rw [ht] at hP1
  have hK1 := va_K.moved hvm.symm hK1
  obtain ⟨hP, hD⟩ := va_join (wr := [(qS, .inr (9, [.ref q5_4, .ref q16_4, .ref q31_4, .ref q42_4, .ref q55_4, .ref q70_4, .ref q81_4, .ref q108_4, .ref q135_4, .ref q162_4, .int 0])), (q5_4, .inr (8, [.ref q7_9_4, .ref q15_9_4, .ref q23_9_4, .ref q31_9_4, .ref q39_9_4, .ref q47_9_4, .ref q55_9_4, .ref q63_9_4, .long (stT.2 0 11), .long (stT.2 0 12), .long (stT.2 0 13)])), (q7_9_4, .inl (cI, 10, .inl (stT.1 35))), (q15_9_4, .inl (cI, 10, .inl (stT.1 36))), (q23_9_4, .inl (cI, 10, .inl (stT.1 37))), (q31_9_4, .inl (cI, 10, .inl (stT.1 38))), (q39_9_4, .inl (cI, 10, .inl (stT.1 39))), (q47_9_4, .inl (cJ, 10, .inr (.inl (stT.2 40)))), (q55_9_4, .inl (cJ, 10, .inr (.inl (stT.2 41)))), (q63_9_4, .inl (cJ, 10, .inr (.inl (stT.2 42)))), (q16_4, .inr (1, [.ref q5_4, .ref q7_24_4, .ref q15_24_4, .ref q23_24_4, .ref q32_24_4, .int (stM.1 0 5), .long (stM.2 0 0), .long (stM.2 0 1)])), (q7_24_4, .inl (cI, 40, .inl (stM.1 17))), (q15_24_4, .inl (cI, 40, .inl (stM.1 18))), (q23_24_4, .inl (cI, 40, .inl (stM.1 19))), (q32_24_4, .inl (cI, 320, .inl (stM.1 20))), (q31_4, .inr (4, [.ref q7_35_4, .ref q15_35_4, .ref q23_35_4, .ref q31_35_4, .int 0])), (q7_35_4, .inl (cI, 60, .inl (fun _ => 0))), (q15_35_4, .inl (cI, 60, .inl (fun _ => 0))), (q23_35_4, .inl (cI, 60, .inl (fun _ => 0))), (q31_35_4, .inl (cI, 60, .inl (fun _ => 0))), (q42_4, .inr (7, [.ref q6_48_4, .int 0])), (q6_48_4, .inl (cC, 60, .inl (fun _ => 0))), (q55_4, .inr (6, [.ref q7_63_4, .ref q15_63_4, .ref q21_63_4, .ref q42_4, .int 0, .int 0, .long 0, .long 0, .long 0])), (q7_63_4, .inl (cI, 62, .inl (fun _ => 0))), (q15_63_4, .inl (cI, 62, .inl (fun _ => 0))), (q21_63_4, .inr (7, [.ref q6_27_63_4, .int 0])), (q6_27_63_4, .inl (cC, 8, .inl (fun _ => 0))), (q70_4, .inr (5, [.ref q7_74_4, .ref q15_74_4, .ref q23_74_4, .ref q31_74_4, .ref q39_74_4, .ref q47_74_4, .int 0])), (q7_74_4, .inl (cI, 8, .inl (fun _ => 0))), (q15_74_4, .inl (cJ, 8, .inr (.inl (fun _ => 0)))), (q23_74_4, .inl (cJ, 8, .inr (.inl (fun _ => 0)))), (q31_74_4, .inl (cJ, 8, .inr (.inl (fun _ => 0)))), (q39_74_4, .inl (cJ, 8, .inr (.inl (fun _ => 0)))), (q47_74_4, .inl (cJ, 8, .inr (.inl (fun _ => 0)))), (q81_4, .inr (3, [.ref q5_4, .ref q16_4, .ref q31_4, .ref q70_4, .long 0, .long 0, .long 0, .long 0])), (q108_4, .inr (2, [.ref q5_4, .ref q16_4, .ref q70_4, .ref q81_4, .ref q7_128_4, .ref q15_128_4, .long 0, .long 0])), (q7_128_4, .inl (cC, 10, .inl (fun _ => 0))), (q15_128_4, .inl (cC, 32, .inl (fun _ => 0))), (q135_4, .inr (0, [.ref q5_4, .ref q16_4, .ref q81_4, .ref q108_4, .ref q5_155_4, .int 0])), (q5_155_4, .inr (7, [.ref q6_12_155_4, .int 0])), (q6_12_155_4, .inl (cC, 1120, .inl (fun _ => 0))), (q162_4, .inr (7, [.ref q6_168_4, .int 0])), (q6_168_4, .inl (cC, 8, .inl (fun _ => 0)))]) (w1 := [(qM, .inr (10, [.ref q7_12, .ref q15_12, .ref q23_12, .ref q31_12, .ref q39_12, .ref q47_12, .ref q55_12, .ref q63_12, .ref q71_12, .ref q79_12, .ref q87_12, .ref q95_12, .int 1, .ref q108_12, .ref q116_12, .ref q124_12, .ref q132_12, .ref q140_12, .int 0, .ref q148_12, .ref q157_12, .ref q165_12, .ref q173_12, .ref q181_12, .ref q189_12, .ref q197_12, .ref q205_12, .ref q214_12, .ref q223_12, .ref q232_12, .ref q240_12, .int 0, .int 0, .ref q248_12, .ref q256_12, .int 0, .ref q264_12, .int 0, .ref q272_12, .ref q280_12, .ref q288_12, .ref q296_12, .ref q304_12, .ref q312_12, .ref q320_12, .int 0, .ref q329_12, .int 0])), (q7_12, .inl (cZ_12, 10, .inl (upd (fun _ => 0) 0 (vp_nar .boolean 1)))), (q15_12, .inl (cZ_12, 10, .inl (fun _ => 0))), (q23_12, .inl (cZ_12, 10, .inl (fun _ => 0))), (q31_12, .inl (cI_12, 10, .inl (fun _ => 0))), (q39_12, .inl (cI_12, 10, .inl (fun _ => 0))), (q47_12, .inl (cI_12, 10, .inl (fun _ => 0))), (q55_12, .inl (cI_12, 10, .inl (fun _ => 0))), (q63_12, .inl (cI_12, 40, .inl (fun _ => 0))), (q71_12, .inl (cI_12, 40, .inl (fun _ => 0))), (q79_12, .inl (cI_12, 40, .inl (fun _ => 0))), (q87_12, .inl (cI_12, 40, .inl (upd (fun _ => 0) 0 1))), (q95_12, .inl (cZ_12, 40, .inl (fun _ => 0))), (q108_12, .inl (cI_12, 60, .inl (fun _ => 0))), (q116_12, .inl (cI_12, 60, .inl (fun _ => 0))), (q124_12, .inl (cI_12, 60, .inl (fun _ => 0))), (q132_12, .inl (cI_12, 60, .inl (fun _ => 0))), (q140_12, .inl (cI_12, 60, .inl (fun _ => 0))), (q148_12, .inl (cI_12, 60, .inl (fun _ => 0))), (q157_12, .inl (cI_12, 480, .inl (fun _ => 0))), (q165_12, .inl (cI_12, 8, .inl (fun _ => 0))), (q173_12, .inl (cI_12, 8, .inl (fun _ => 0))), (q181_12, .inl (cI_12, 8, .inl (fun _ => 0))), (q189_12, .inl (cI_12, 8, .inl (fun _ => 0))), (q197_12, .inl (cI_12, 8, .inl (fun _ => 0))), (q205_12, .inl (cI_12, 8, .inl (fun _ => 0))), (q214_12, .inl (cI_12, 128, .inl (fun _ => 0))), (q223_12, .inl (cI_12, 128, .inl (fun _ => 0))), (q232_12, .inl (cI_12, 128, .inl (fun _ => 0))), (q240_12, .inl (cI_12, 48, .inl (fun _ => 0))), (q248_12, .inl (cI_12, 64, .inl (fun _ => 0))), (q256_12, .inl (cI_12, 64, .inl (fun _ => 0))), (q264_12, .inl (cI_12, 16, .inl (fun _ => 0))), (q272_12, .inl (cZ_12, 20, .inl (fun _ => 0))), (q280_12, .inl (cZ_12, 20, .inl (fun _ => 0))), (q288_12, .inl (cZ_12, 10, .inl (fun _ => 0))), (q296_12, .inl (cZ_12, 10, .inl (fun _ => 0))), (q304_12, .inl (cZ_12, 10, .inl (fun _ => 0))), (q312_12, .inl (cZ_12, 40, .inl (fun _ => 0))), (q320_12, .inl (cZ_12, 80, .inl (fun _ => 0))), (q329_12, .inl (cI_12, 1500, .inl (fun _ => 0)))]) hP hD [43] [0, 1, 2, 3, 4, 5, 6, 7, 8, 9, 10, 11, 12, 13, 14, 15, 16, 17, 18, 19, 20, 21, 22, 23, 24, 25, 26, 27, 28, 29, 30, 31, 32, 33, 34, 35, 36, 37, 38, 39, 40, 41, 42] rfl rfl (by decide) (by decide) hk1 hFc hP1 hD1
  have hK := (hK.sub (tys' := [(cI, .int), (cJ, .long), (cC, .char)]) [0, 1, 2] rfl).app hK1
  generalize H1 = H at hP hS ⊢
  have hK : va_K D classes [(cI, .int), (cJ, .long), (cC, .char), (cZ_12, .boolean), (cI_12, .int)] s := hK
  obtain ⟨cZ, ecZ⟩ : ∃ z, z = cZ_12 := ⟨_, rfl⟩
  subst ecZ
  obtain rfl := sk_same hK 0 4 (ty := .int) rfl rfl (by decide)
  have hK : va_K D classes [(cI, .int), (cJ, .long), (cC, .char), (cZ, .boolean)] s := hK.sub [0, 1, 2, 3] rfl
  refine W.widen (k := 84) (n := 5723) (by decide) (by decide) ?_
  have hP : va_P D classes [(qS, .inr (9, [.ref q5_4, .ref q16_4, .ref q31_4, .ref q42_4, .ref q55_4, .ref q70_4, .ref q81_4, .ref q108_4, .ref q135_4, .ref q162_4, .int 0])), (q5_4, .inr (8, [.ref q7_9_4, .ref q15_9_4, .ref q23_9_4, .ref q31_9_4, .ref q39_9_4, .ref q47_9_4, .ref q55_9_4, .ref q63_9_4, .long (stT.2 0 11), .long (stT.2 0 12), .long (stT.2 0 13)])), (q7_9_4, .inl (cI, 10, .inl (stT.1 35))), (q15_9_4, .inl (cI, 10, .inl (stT.1 36))), (q23_9_4, .inl (cI, 10, .inl (stT.1 37))), (q31_9_4, .inl (cI, 10, .inl (stT.1 38))), (q39_9_4, .inl (cI, 10, .inl (stT.1 39))), (q47_9_4, .inl (cJ, 10, .inr (.inl (stT.2 40)))), (q55_9_4, .inl (cJ, 10, .inr (.inl (stT.2 41)))), (q63_9_4, .inl (cJ, 10, .inr (.inl (stT.2 42)))), (q16_4, .inr (1, [.ref q5_4, .ref q7_24_4, .ref q15_24_4, .ref q23_24_4, .ref q32_24_4, .int (stM.1 0 5), .long (stM.2 0 0), .long (stM.2 0 1)])), (q7_24_4, .inl (cI, 40, .inl (stM.1 17))), (q15_24_4, .inl (cI, 40, .inl (stM.1 18))), (q23_24_4, .inl (cI, 40, .inl (stM.1 19))), (q32_24_4, .inl (cI, 320, .inl (stM.1 20))), (q31_4, .inr (4, [.ref q7_35_4, .ref q15_35_4, .ref q23_35_4, .ref q31_35_4, .int 0])), (q7_35_4, .inl (cI, 60, .inl (fun _ => 0))), (q15_35_4, .inl (cI, 60, .inl (fun _ => 0))), (q23_35_4, .inl (cI, 60, .inl (fun _ => 0))), (q31_35_4, .inl (cI, 60, .inl (fun _ => 0))), (q42_4, .inr (7, [.ref q6_48_4, .int 0])), (q6_48_4, .inl (cC, 60, .inl (fun _ => 0))), (q55_4, .inr (6, [.ref q7_63_4, .ref q15_63_4, .ref q21_63_4, .ref q42_4, .int 0, .int 0, .long 0, .long 0, .long 0])), (q7_63_4, .inl (cI, 62, .inl (fun _ => 0))), (q15_63_4, .inl (cI, 62, .inl (fun _ => 0))), (q21_63_4, .inr (7, [.ref q6_27_63_4, .int 0])), (q6_27_63_4, .inl (cC, 8, .inl (fun _ => 0))), (q70_4, .inr (5, [.ref q7_74_4, .ref q15_74_4, .ref q23_74_4, .ref q31_74_4, .ref q39_74_4, .ref q47_74_4, .int 0])), (q7_74_4, .inl (cI, 8, .inl (fun _ => 0))), (q15_74_4, .inl (cJ, 8, .inr (.inl (fun _ => 0)))), (q23_74_4, .inl (cJ, 8, .inr (.inl (fun _ => 0)))), (q31_74_4, .inl (cJ, 8, .inr (.inl (fun _ => 0)))), (q39_74_4, .inl (cJ, 8, .inr (.inl (fun _ => 0)))), (q47_74_4, .inl (cJ, 8, .inr (.inl (fun _ => 0)))), (q81_4, .inr (3, [.ref q5_4, .ref q16_4, .ref q31_4, .ref q70_4, .long 0, .long 0, .long 0, .long 0])), (q108_4, .inr (2, [.ref q5_4, .ref q16_4, .ref q70_4, .ref q81_4, .ref q7_128_4, .ref q15_128_4, .long 0, .long 0])), (q7_128_4, .inl (cC, 10, .inl (fun _ => 0))), (q15_128_4, .inl (cC, 32, .inl (fun _ => 0))), (q135_4, .inr (0, [.ref q5_4, .ref q16_4, .ref q81_4, .ref q108_4, .ref q5_155_4, .int 0])), (q5_155_4, .inr (7, [.ref q6_12_155_4, .int 0])), (q6_12_155_4, .inl (cC, 1120, .inl (fun _ => 0))), (q162_4, .inr (7, [.ref q6_168_4, .int 0])), (q6_168_4, .inl (cC, 8, .inl (fun _ => 0))), (qM, .inr (10, [.ref q7_12, .ref q15_12, .ref q23_12, .ref q31_12, .ref q39_12, .ref q47_12, .ref q55_12, .ref q63_12, .ref q71_12, .ref q79_12, .ref q87_12, .ref q95_12, .int 1, .ref q108_12, .ref q116_12, .ref q124_12, .ref q132_12, .ref q140_12, .int 0, .ref q148_12, .ref q157_12, .ref q165_12, .ref q173_12, .ref q181_12, .ref q189_12, .ref q197_12, .ref q205_12, .ref q214_12, .ref q223_12, .ref q232_12, .ref q240_12, .int 0, .int 0, .ref q248_12, .ref q256_12, .int 0, .ref q264_12, .int 0, .ref q272_12, .ref q280_12, .ref q288_12, .ref q296_12, .ref q304_12, .ref q312_12, .ref q320_12, .int 0, .ref q329_12, .int 0])), (q7_12, .inl (cZ, 10, .inl (upd (fun _ => 0) 0 (vp_nar .boolean 1)))), (q15_12, .inl (cZ, 10, .inl (fun _ => 0))), (q23_12, .inl (cZ, 10, .inl (fun _ => 0))), (q31_12, .inl (cI, 10, .inl (fun _ => 0))), (q39_12, .inl (cI, 10, .inl (fun _ => 0))), (q47_12, .inl (cI, 10, .inl (fun _ => 0))), (q55_12, .inl (cI, 10, .inl (fun _ => 0))), (q63_12, .inl (cI, 40, .inl (fun _ => 0))), (q71_12, .inl (cI, 40, .inl (fun _ => 0))), (q79_12, .inl (cI, 40, .inl (fun _ => 0))), (q87_12, .inl (cI, 40, .inl (upd (fun _ => 0) 0 1))), (q95_12, .inl (cZ, 40, .inl (fun _ => 0))), (q108_12, .inl (cI, 60, .inl (fun _ => 0))), (q116_12, .inl (cI, 60, .inl (fun _ => 0))), (q124_12, .inl (cI, 60, .inl (fun _ => 0))), (q132_12, .inl (cI, 60, .inl (fun _ => 0))), (q140_12, .inl (cI, 60, .inl (fun _ => 0))), (q148_12, .inl (cI, 60, .inl (fun _ => 0))), (q157_12, .inl (cI, 480, .inl (fun _ => 0))), (q165_12, .inl (cI, 8, .inl (fun _ => 0))), (q173_12, .inl (cI, 8, .inl (fun _ => 0))), (q181_12, .inl (cI, 8, .inl (fun _ => 0))), (q189_12, .inl (cI, 8, .inl (fun _ => 0))), (q197_12, .inl (cI, 8, .inl (fun _ => 0))), (q205_12, .inl (cI, 8, .inl (fun _ => 0))), (q214_12, .inl (cI, 128, .inl (fun _ => 0))), (q223_12, .inl (cI, 128, .inl (fun _ => 0))), (q232_12, .inl (cI, 128, .inl (fun _ => 0))), (q240_12, .inl (cI, 48, .inl (fun _ => 0))), (q248_12, .inl (cI, 64, .inl (fun _ => 0))), (q256_12, .inl (cI, 64, .inl (fun _ => 0))), (q264_12, .inl (cI, 16, .inl (fun _ => 0))), (q272_12, .inl (cZ, 20, .inl (fun _ => 0))), (q280_12, .inl (cZ, 20, .inl (fun _ => 0))), (q288_12, .inl (cZ, 10, .inl (fun _ => 0))), (q296_12, .inl (cZ, 10, .inl (fun _ => 0))), (q304_12, .inl (cZ, 10, .inl (fun _ => 0))), (q312_12, .inl (cZ, 40, .inl (fun _ => 0))), (q320_12, .inl (cZ, 80, .inl (fun _ => 0))), (q329_12, .inl (cI, 1500, .inl (fun _ => 0)))] H := hP
  have hD : va_D (fun q : Nat => s.heap.size ≤ q) [(qS, .inr (9, [.ref q5_4, .ref q16_4, .ref q31_4, .ref q42_4, .ref q55_4, .ref q70_4, .ref q81_4, .ref q108_4, .ref q135_4, .ref q162_4, .int 0])), (q5_4, .inr (8, [.ref q7_9_4, .ref q15_9_4, .ref q23_9_4, .ref q31_9_4, .ref q39_9_4, .ref q47_9_4, .ref q55_9_4, .ref q63_9_4, .long (stT.2 0 11), .long (stT.2 0 12), .long (stT.2 0 13)])), (q7_9_4, .inl (cI, 10, .inl (stT.1 35))), (q15_9_4, .inl (cI, 10, .inl (stT.1 36))), (q23_9_4, .inl (cI, 10, .inl (stT.1 37))), (q31_9_4, .inl (cI, 10, .inl (stT.1 38))), (q39_9_4, .inl (cI, 10, .inl (stT.1 39))), (q47_9_4, .inl (cJ, 10, .inr (.inl (stT.2 40)))), (q55_9_4, .inl (cJ, 10, .inr (.inl (stT.2 41)))), (q63_9_4, .inl (cJ, 10, .inr (.inl (stT.2 42)))), (q16_4, .inr (1, [.ref q5_4, .ref q7_24_4, .ref q15_24_4, .ref q23_24_4, .ref q32_24_4, .int (stM.1 0 5), .long (stM.2 0 0), .long (stM.2 0 1)])), (q7_24_4, .inl (cI, 40, .inl (stM.1 17))), (q15_24_4, .inl (cI, 40, .inl (stM.1 18))), (q23_24_4, .inl (cI, 40, .inl (stM.1 19))), (q32_24_4, .inl (cI, 320, .inl (stM.1 20))), (q31_4, .inr (4, [.ref q7_35_4, .ref q15_35_4, .ref q23_35_4, .ref q31_35_4, .int 0])), (q7_35_4, .inl (cI, 60, .inl (fun _ => 0))), (q15_35_4, .inl (cI, 60, .inl (fun _ => 0))), (q23_35_4, .inl (cI, 60, .inl (fun _ => 0))), (q31_35_4, .inl (cI, 60, .inl (fun _ => 0))), (q42_4, .inr (7, [.ref q6_48_4, .int 0])), (q6_48_4, .inl (cC, 60, .inl (fun _ => 0))), (q55_4, .inr (6, [.ref q7_63_4, .ref q15_63_4, .ref q21_63_4, .ref q42_4, .int 0, .int 0, .long 0, .long 0, .long 0])), (q7_63_4, .inl (cI, 62, .inl (fun _ => 0))), (q15_63_4, .inl (cI, 62, .inl (fun _ => 0))), (q21_63_4, .inr (7, [.ref q6_27_63_4, .int 0])), (q6_27_63_4, .inl (cC, 8, .inl (fun _ => 0))), (q70_4, .inr (5, [.ref q7_74_4, .ref q15_74_4, .ref q23_74_4, .ref q31_74_4, .ref q39_74_4, .ref q47_74_4, .int 0])), (q7_74_4, .inl (cI, 8, .inl (fun _ => 0))), (q15_74_4, .inl (cJ, 8, .inr (.inl (fun _ => 0)))), (q23_74_4, .inl (cJ, 8, .inr (.inl (fun _ => 0)))), (q31_74_4, .inl (cJ, 8, .inr (.inl (fun _ => 0)))), (q39_74_4, .inl (cJ, 8, .inr (.inl (fun _ => 0)))), (q47_74_4, .inl (cJ, 8, .inr (.inl (fun _ => 0)))), (q81_4, .inr (3, [.ref q5_4, .ref q16_4, .ref q31_4, .ref q70_4, .long 0, .long 0, .long 0, .long 0])), (q108_4, .inr (2, [.ref q5_4, .ref q16_4, .ref q70_4, .ref q81_4, .ref q7_128_4, .ref q15_128_4, .long 0, .long 0])), (q7_128_4, .inl (cC, 10, .inl (fun _ => 0))), (q15_128_4, .inl (cC, 32, .inl (fun _ => 0))), (q135_4, .inr (0, [.ref q5_4, .ref q16_4, .ref q81_4, .ref q108_4, .ref q5_155_4, .int 0])), (q5_155_4, .inr (7, [.ref q6_12_155_4, .int 0])), (q6_12_155_4, .inl (cC, 1120, .inl (fun _ => 0))), (q162_4, .inr (7, [.ref q6_168_4, .int 0])), (q6_168_4, .inl (cC, 8, .inl (fun _ => 0))), (qM, .inr (10, [.ref q7_12, .ref q15_12, .ref q23_12, .ref q31_12, .ref q39_12, .ref q47_12, .ref q55_12, .ref q63_12, .ref q71_12, .ref q79_12, .ref q87_12, .ref q95_12, .int 1, .ref q108_12, .ref q116_12, .ref q124_12, .ref q132_12, .ref q140_12, .int 0, .ref q148_12, .ref q157_12, .ref q165_12, .ref q173_12, .ref q181_12, .ref q189_12, .ref q197_12, .ref q205_12, .ref q214_12, .ref q223_12, .ref q232_12, .ref q240_12, .int 0, .int 0, .ref q248_12, .ref q256_12, .int 0, .ref q264_12, .int 0, .ref q272_12, .ref q280_12, .ref q288_12, .ref q296_12, .ref q304_12, .ref q312_12, .ref q320_12, .int 0, .ref q329_12, .int 0])), (q7_12, .inl (cZ, 10, .inl (upd (fun _ => 0) 0 (vp_nar .boolean 1)))), (q15_12, .inl (cZ, 10, .inl (fun _ => 0))), (q23_12, .inl (cZ, 10, .inl (fun _ => 0))), (q31_12, .inl (cI, 10, .inl (fun _ => 0))), (q39_12, .inl (cI, 10, .inl (fun _ => 0))), (q47_12, .inl (cI, 10, .inl (fun _ => 0))), (q55_12, .inl (cI, 10, .inl (fun _ => 0))), (q63_12, .inl (cI, 40, .inl (fun _ => 0))), (q71_12, .inl (cI, 40, .inl (fun _ => 0))), (q79_12, .inl (cI, 40, .inl (fun _ => 0))), (q87_12, .inl (cI, 40, .inl (upd (fun _ => 0) 0 1))), (q95_12, .inl (cZ, 40, .inl (fun _ => 0))), (q108_12, .inl (cI, 60, .inl (fun _ => 0))), (q116_12, .inl (cI, 60, .inl (fun _ => 0))), (q124_12, .inl (cI, 60, .inl (fun _ => 0))), (q132_12, .inl (cI, 60, .inl (fun _ => 0))), (q140_12, .inl (cI, 60, .inl (fun _ => 0))), (q148_12, .inl (cI, 60, .inl (fun _ => 0))), (q157_12, .inl (cI, 480, .inl (fun _ => 0))), (q165_12, .inl (cI, 8, .inl (fun _ => 0))), (q173_12, .inl (cI, 8, .inl (fun _ => 0))), (q181_12, .inl (cI, 8, .inl (fun _ => 0))), (q189_12, .inl (cI, 8, .inl (fun _ => 0))), (q197_12, .inl (cI, 8, .inl (fun _ => 0))), (q205_12, .inl (cI, 8, .inl (fun _ => 0))), (q214_12, .inl (cI, 128, .inl (fun _ => 0))), (q223_12, .inl (cI, 128, .inl (fun _ => 0))), (q232_12, .inl (cI, 128, .inl (fun _ => 0))), (q240_12, .inl (cI, 48, .inl (fun _ => 0))), (q248_12, .inl (cI, 64, .inl (fun _ => 0))), (q256_12, .inl (cI, 64, .inl (fun _ => 0))), (q264_12, .inl (cI, 16, .inl (fun _ => 0))), (q272_12, .inl (cZ, 20, .inl (fun _ => 0))), (q280_12, .inl (cZ, 20, .inl (fun _ => 0))), (q288_12, .inl (cZ, 10, .inl (fun _ => 0))), (q296_12, .inl (cZ, 10, .inl (fun _ => 0))), (q304_12, .inl (cZ, 10, .inl (fun _ => 0))), (q312_12, .inl (cZ, 40, .inl (fun _ => 0))), (q320_12, .inl (cZ, 80, .inl (fun _ => 0))), (q329_12, .inl (cI, 1500, .inl (fun _ => 0)))] := hD
  refine lv_astore_n (lv' := [(2, .ref qM), (1, .ref qS), (0, .ref b)]) hx hb d_law_15 rfl hl (by decide) rfl (fun ls hl => ?_)
  refine lv_iconst (v := 0) hx hb d_law_16 (by decide) ?_
  refine lv_istore_n (lv' := [(3, .int 0), (2, .ref qM), (1, .ref qS), (0, .ref b)]) hx hb d_law_17 rfl hl (by decide) rfl (fun ls hl => ?_)
  have hPK : va_P D classes (ceK (fun k => ([qS, q5_4, q16_4, q31_4, q42_4, q162_4, q21_63_4, q5_155_4, q55_4, q70_4, q81_4, q108_4, q135_4, q6_48_4, q6_168_4, q6_27_63_4, q6_12_155_4, q7_24_4, q15_24_4, q23_24_4, q32_24_4, q7_128_4, q15_128_4, q7_35_4, q15_35_4, q23_35_4, q31_35_4, q7_74_4, q15_74_4, q23_74_4, q31_74_4, q39_74_4, q47_74_4, q7_63_4, q15_63_4, q7_9_4, q15_9_4, q23_9_4, q31_9_4, q39_9_4, q47_9_4, q55_9_4, q63_9_4] : List Nat).getD k 0) cI cJ cC (K0 stT stM)) H := hP.sub [0, 1, 10, 15, 20, 41, 25, 39, 22, 27, 34, 35, 38, 21, 42, 26, 40, 11, 12, 13, 14, 36, 37, 16, 17, 18, 19, 28, 29, 30, 31, 32, 33, 23, 24, 2, 3, 4, 5, 6, 7, 8, 9] rfl
  have hPM : va_P D classes (ceM (fun k => ([qM, q7_12, q15_12, q23_12, q31_12, q39_12, q47_12, q55_12, q63_12, q71_12, q79_12, q87_12, q95_12, q108_12, q116_12, q124_12, q132_12, q140_12, q148_12, q157_12, q165_12, q173_12, q181_12, q189_12, q197_12, q205_12, q214_12, q223_12, q232_12, q240_12, q248_12, q256_12, q264_12, q272_12, q280_12, q288_12, q296_12, q304_12, q312_12, q320_12, q329_12] : List Nat).getD k 0) cI cZ M0) H := hP.sub [43, 44, 45, 46, 47, 48, 49, 50, 51, 52, 53, 54, 55, 56, 57, 58, 59, 60, 61, 62, 63, 64, 65, 66, 67, 68, 69, 70, 71, 72, 73, 74, 75, 76, 77, 78, 79, 80, 81, 82, 83] rfl
  have hDK : va_D (fun q : Nat => s.heap.size ≤ q) (ceK (fun k => ([qS, q5_4, q16_4, q31_4, q42_4, q162_4, q21_63_4, q5_155_4, q55_4, q70_4, q81_4, q108_4, q135_4, q6_48_4, q6_168_4, q6_27_63_4, q6_12_155_4, q7_24_4, q15_24_4, q23_24_4, q32_24_4, q7_128_4, q15_128_4, q7_35_4, q15_35_4, q23_35_4, q31_35_4, q7_74_4, q15_74_4, q23_74_4, q31_74_4, q39_74_4, q47_74_4, q7_63_4, q15_63_4, q7_9_4, q15_9_4, q23_9_4, q31_9_4, q39_9_4, q47_9_4, q55_9_4, q63_9_4] : List Nat).getD k 0) cI cJ cC (K0 stT stM)) := hD.sub [0, 1, 10, 15, 20, 41, 25, 39, 22, 27, 34, 35, 38, 21, 42, 26, 40, 11, 12, 13, 14, 36, 37, 16, 17, 18, 19, 28, 29, 30, 31, 32, 33, 23, 24, 2, 3, 4, 5, 6, 7, 8, 9] (by decide) rfl
  have hDM : va_D (fun q : Nat => s.heap.size ≤ q) (ceM (fun k => ([qM, q7_12, q15_12, q23_12, q31_12, q39_12, q47_12, q55_12, q63_12, q71_12, q79_12, q87_12, q95_12, q108_12, q116_12, q124_12, q132_12, q140_12, q148_12, q157_12, q165_12, q173_12, q181_12, q189_12, q197_12, q205_12, q214_12, q223_12, q232_12, q240_12, q248_12, q256_12, q264_12, q272_12, q280_12, q288_12, q296_12, q304_12, q312_12, q320_12, q329_12] : List Nat).getD k 0) cI cZ M0) := hD.sub [43, 44, 45, 46, 47, 48, 49, 50, 51, 52, 53, 54, 55, 56, 57, 58, 59, 60, 61, 62, 63, 64, 65, 66, 67, 68, 69, 70, 71, 72, 73, 74, 75, 76, 77, 78, 79, 80, 81, 82, 83] (by decide) rfl
  have hap : ∀ x y : Nat, x < 43 → y < 41 → (fun k => ([qS, q5_4, q16_4, q31_4, q42_4, q162_4, q21_63_4, q5_155_4, q55_4, q70_4, q81_4, q108_4, q135_4, q6_48_4, q6_168_4, q6_27_63_4, q6_12_155_4, q7_24_4, q15_24_4, q23_24_4, q32_24_4, q7_128_4, q15_128_4, q7_35_4, q15_35_4, q23_35_4, q31_35_4, q7_74_4, q15_74_4, q23_74_4, q31_74_4, q39_74_4, q47_74_4, q7_63_4, q15_63_4, q7_9_4, q15_9_4, q23_9_4, q31_9_4, q39_9_4, q47_9_4, q55_9_4, q63_9_4] : List Nat).getD k 0) x ≠ (fun k => ([qM, q7_12, q15_12, q23_12, q31_12, q39_12, q47_12, q55_12, q63_12, q71_12, q79_12, q87_12, q95_12, q108_12, q116_12, q124_12, q132_12, q140_12, q148_12, q157_12, q165_12, q173_12, q181_12, q189_12, q197_12, q205_12, q214_12, q223_12, q232_12, q240_12, q248_12, q256_12, q264_12, q272_12, q280_12, q288_12, q296_12, q304_12, q312_12, q320_12, q329_12] : List Nat).getD k 0) y := lw_apart hD [0, 1, 10, 15, 20, 41, 25, 39, 22, 27, 34, 35, 38, 21, 42, 26, 40, 11, 12, 13, 14, 36, 37, 16, 17, 18, 19, 28, 29, 30, 31, 32, 33, 23, 24, 2, 3, 4, 5, 6, 7, 8, 9] [43, 44, 45, 46, 47, 48, 49, 50, 51, 52, 53, 54, 55, 56, 57, 58, 59, 60, 61, 62, 63, 64, 65, 66, 67, 68, 69, 70, 71, 72, 73, 74, 75, 76, 77, 78, 79, 80, 81, 82, 83] 43 41 (by decide) rfl rfl rfl rfl
  generalize hfK : (fun k => ([qS, q5_4, q16_4, q31_4, q42_4, q162_4, q21_63_4, q5_155_4, q55_4, q70_4, q81_4, q108_4, q135_4, q6_48_4, q6_168_4, q6_27_63_4, q6_12_155_4, q7_24_4, q15_24_4, q23_24_4, q32_24_4, q7_128_4, q15_128_4, q7_35_4, q15_35_4, q23_35_4, q31_35_4, q7_74_4, q15_74_4, q23_74_4, q31_74_4, q39_74_4, q47_74_4, q7_63_4, q15_63_4, q7_9_4, q15_9_4, q23_9_4, q31_9_4, q39_9_4, q47_9_4, q55_9_4, q63_9_4] : List Nat).getD k 0) = aK at hPK hDK hap
  generalize hfM : (fun k => ([qM, q7_12, q15_12, q23_12, q31_12, q39_12, q47_12, q55_12, q63_12, q71_12, q79_12, q87_12, q95_12, q108_12, q116_12, q124_12, q132_12, q140_12, q148_12, q157_12, q165_12, q173_12, q181_12, q189_12, q197_12, q205_12, q214_12, q223_12, q232_12, q240_12, q248_12, q256_12, q264_12, q272_12, q280_12, q288_12, q296_12, q304_12, q312_12, q320_12, q329_12] : List Nat).getD k 0) = aM at hPM hDM hap
  have e1 : qS = aK 0 := by rw [← hfK]; rfl
  have e2 : qM = aM 0 := by rw [← hfM]; rfl
  rw [e1, e2] at hl
  have hnewK : ∀ q, lw_AK aK q → s.heap.size ≤ q := fun q ⟨k, hk, e⟩ => by rw [e]; exact lw_in_ce hDK (lw_ceK_at k hk)
  have hnewM : ∀ q, lw_AM aM q → s.heap.size ≤ q := fun q ⟨k, hk, e⟩ => by rw [e]; exact lw_in_ce hDM (lw_ceM_at k hk)
  have hW : lw_W D aK aM cI cJ cC cZ s (K0 stT stM) M0 H _ := ⟨hK, hPK, lw_own hDK (fun k q h => lw_ceK_of h), hPM, lw_own hDM (fun k q h => lw_ceM_of h), fun q ⟨x, hx1, ex⟩ ⟨y, hy1, ey⟩ => hap x y hx1 hy1 (ex.symm.trans ey), fun q h => h.elim (hnewK q) (hnewM q), hS⟩
  exact lw_loop (Q := fun _ => True) C0 (nwK_narrow hnw hnewK) hp hL (L + 7) 0 (by omega) (by omega) _ _ _ _ _ hI0 hW (lv_sub hl [3, 2, 1, 0] rfl)
