theorem lw_in {i L : Nat} (h : i + 6 ≤ L) (hL : L ≤ 3072) (k : Nat) (hk : k < 6) {y : Int32} (hy : nI k = y) : vp_in (nI i + y) L := by
  rw [← hy, nI_add]
  exact vp_in_nI (by omega) (by omega)
theorem lw_le6 {i L : Nat} (hi : i < 2 ^ 30) (hL : L < 2 ^ 30) (h : ¬ nI L - 6 < nI i) : i + 6 ≤ L := by
  have h1 := Int32.not_lt.mp h
  rw [Int32.le_iff_toInt_le] at h1
  have h2 : (nI L - nI 6).toInt = (L : Int) - (6 : Nat) := pk_sub_toInt hL (by decide)
  have h3 : (nI L - 6 : Int32) = nI L - nI 6 := rfl
  rw [h3, h2, nI_toInt (by omega)] at h1
  omega
def pm_type (N : Nat) (Inv : sk_M → sk_M → Prop) : Prop := ∀ (K M : sk_M) (v1 v2 v3 v4 v5 : Int32) , Inv K M → ∃ (r : Int32) (K' M' : sk_M), K_SF_type N K v1 v2 v3 v4 v5 = some (r, K') ∧ M_type M v1 v2 v3 v4 v5 = some (r, M') ∧ Inv K' M'
def pm_drop (N : Nat) (Inv : sk_M → sk_M → Prop) : Prop := ∀ (K M : sk_M) (v1 : Int32) , Inv K M → ∃ (r : Int32) (K' M' : sk_M), K_SF_drop N K v1 = some (r, K') ∧ M_drop N M v1 = some (r, M') ∧ Inv K' M'
def pm_member (N : Nat) (Inv : sk_M → sk_M → Prop) : Prop := ∀ (K M : sk_M) (v1 v2 v3 v4 : Int32) , Inv K M → ∃ (r : Int32) (K' M' : sk_M), K_SF_member K v1 v2 v3 v4 = some (r, K') ∧ M_member N M v1 v2 v3 v4 = some (r, M') ∧ Inv K' M'
def pm_remove (N : Nat) (Inv : sk_M → sk_M → Prop) : Prop := ∀ (K M : sk_M) (v1 : Int32) , Inv K M → ∃ (r : Int32) (K' M' : sk_M), K_SF_remove K v1 = some (r, K') ∧ M_remove M v1 = some (r, M') ∧ Inv K' M'
def pm_refer (N : Nat) (Inv : sk_M → sk_M → Prop) : Prop := ∀ (K M : sk_M) (v1 v2 v3 v4 v5 : Int32) , Inv K M → ∃ (r : Int32) (K' M' : sk_M), K_SF_refer K v1 v2 v3 v4 v5 = some (r, K') ∧ M_refer M v1 v2 v3 v4 v5 = some (r, M') ∧ Inv K' M'
def pm_letter (N : Nat) (Inv : sk_M → sk_M → Prop) : Prop := ∀ (K M : sk_M) (v1 : Int32) , Inv K M → ∃ (r : Int32) (K' M' : sk_M), K_SF_letter K v1 = some (r, K') ∧ M_letter M v1 = some (r, M') ∧ Inv K' M'
def pm_rule (N : Nat) (Inv : sk_M → sk_M → Prop) : Prop := ∀ (K M : sk_M) , Inv K M → ∃ (r : Int32) (K' M' : sk_M), K_SF_rule N K = some (r, K') ∧ M_rule N M = some (r, M') ∧ Inv K' M'
def pm_clear (N : Nat) (Inv : sk_M → sk_M → Prop) : Prop := ∀ (K M : sk_M) (v1 : Int32) , Inv K M → (v1 = 0 ∨ v1 = 1) → ∃ (r : Int32) (K' M' : sk_M), K_SF_clear N K v1 = some (r, K') ∧ M_clear N M v1 = some (r, M') ∧ Inv K' M'
def pm_needs (N : Nat) (Inv : sk_M → sk_M → Prop) : Prop := ∀ (K M : sk_M) (v1 v2 : Int32) , Inv K M → ∃ (r : Int32) (K' M' : sk_M), K_SF_needs N K v1 v2 = some (r, K') ∧ M_needs N M v1 v2 = some (r, M') ∧ Inv K' M'
def pm_part (N : Nat) (Inv : sk_M → sk_M → Prop) : Prop := ∀ (K M : sk_M) (v1 v2 : Int32) , Inv K M → ∃ (r : Int32) (K' M' : sk_M), K_SF_part N K v1 v2 = some (r, K') ∧ M_part N M v1 v2 = some (r, M') ∧ Inv K' M'
def pm_found (N : Nat) (Inv : sk_M → sk_M → Prop) : Prop := ∀ (K M : sk_M) (v1 v2 v3 v4 v5 : Int32) , Inv K M → (v5 = 0 ∨ v5 = 1) → ∃ (r : Int32) (K' M' : sk_M), K_SF_found N K v1 v2 v3 v4 v5 = some (r, K') ∧ M_found N M v1 v2 v3 v4 v5 = some (r, M') ∧ Inv K' M'
def pm_selected (N : Nat) (Inv : sk_M → sk_M → Prop) : Prop := ∀ (K M : sk_M) (v1 v2 v3 v4 : Int32) , Inv K M → (v4 = 0 ∨ v4 = 1) → ∃ (r : Int32) (K' M' : sk_M), K_SF_selected N K v1 v2 v3 v4 = some (r, K') ∧ M_selected N M v1 v2 v3 v4 = some (r, M') ∧ Inv K' M'
def pm_name (N : Nat) (Inv : sk_M → sk_M → Prop) : Prop := ∀ (K M : sk_M) (v1 v2 v3 : Int32) , Inv K M → (v1 = 0 ∨ v1 = 1) → ∃ (r : Int32) (K' M' : sk_M), K_SF_name N K v1 v2 v3 = some (r, K') ∧ M_name N M v1 v2 v3 = some (r, M') ∧ Inv K' M'
def pm_mapping (N : Nat) (Inv : sk_M → sk_M → Prop) : Prop := ∀ (K M : sk_M) (v1 : Int32) , Inv K M → ∃ (r : Int32) (K' M' : sk_M), K_SF_mapping N K v1 = some (r, K') ∧ M_mapping N M v1 = some (r, M') ∧ Inv K' M'
def pm_trace (N : Nat) (Inv : sk_M → sk_M → Prop) : Prop := ∀ (K M : sk_M) (v1 v2 v3 : Int32) , Inv K M → (v3 = 0 ∨ v3 = 1) → ∃ (r : Int32) (K' M' : sk_M), K_SF_trace N K v1 v2 v3 = some (r, K') ∧ M_trace N M v1 v2 v3 = some (r, M') ∧ Inv K' M'
def pm_count (N : Nat) (Inv : sk_M → sk_M → Prop) : Prop := ∀ (K M : sk_M) (v1 : Int32) , Inv K M → ∃ (r : Int32) (K' M' : sk_M), K_SF_count N K v1 = some (r, K') ∧ M_count N M v1 = some (r, M') ∧ Inv K' M'
def pm_ok (N : Nat) (Inv : sk_M → sk_M → Prop) : Prop := pm_type N Inv ∧ pm_drop N Inv ∧ pm_member N Inv ∧ pm_remove N Inv ∧ pm_refer N Inv ∧ pm_letter N Inv ∧ pm_rule N Inv ∧ pm_clear N Inv ∧ pm_needs N Inv ∧ pm_part N Inv ∧ pm_found N Inv ∧ pm_selected N Inv ∧ pm_name N Inv ∧ pm_mapping N Inv ∧ pm_trace N Inv ∧ pm_count N Inv
def lw_AK (a : Nat → Nat) (q : Nat) : Prop := ∃ k, k < 43 ∧ q = a k
def lw_AM (a : Nat → Nat) (q : Nat) : Prop := ∃ k, k < 41 ∧ q = a k
def lw_ty (cI cJ cC cZ : ClassId) : List (ClassId × FieldType) := [(cI, .int), (cJ, .long), (cC, .char), (cZ, .boolean)]
def lw_W (D : va_G) (aK aM : Nat → Nat) (cI cJ cC cZ : ClassId) (s : State) (stK stM : sk_M) (H : Heap) (locs : List Loc) : Prop :=
  va_K D classes (lw_ty cI cJ cC cZ) s ∧ va_P D classes (ceK aK cI cJ cC stK) H ∧ va_D (lw_AK aK) (ceK aK cI cJ cC stK) ∧ va_P D classes (ceM aM cI cZ stM) H ∧ va_D (lw_AM aM) (ceM aM cI cZ stM) ∧ (∀ q, lw_AK aK q → ¬ lw_AM aM q) ∧ (∀ q, lw_AK aK q ∨ lw_AM aM q → s.heap.size ≤ q) ∧ va_S (fun q : Nat => s.heap.size ≤ q) s.heap H locs
theorem lw_callK {p : Program} {l : Launch} {e : Env} {R : Room} {s : State} {m : MethodId} {args : Array Value} {below : List Frame} {meth : Method} {c : Code} {H : Heap} {locs : List Loc} {cells slots : Nat} {Q : State → Prop} {y : MethodName} {ws Ts : List Cond} {rm : Room} {D : va_G} {aK aM : Nat → Nat} {cI cJ cC cZ : ClassId} {stK stM st2 : sk_M} {cc bytes : ByteArray} {maxL nL n index pc : Nat} {own : String} {ret : Option FieldType} {As rest st0 : List Value} {ls : Array Slot} {r : Int32} {adK adV : Nat → Nat} (S : CallFix p m c cc nL s args Ts own) (hw : lw_W D aK aM cI cJ cC cZ s stK stM H locs) (hnw : nwK (lw_AK aK) adK adV s) (hM : sk_Ci l y ws rm D (tyK cI cJ cC) (lw_AK aK) (ceK aK cI cJ cC) (nwK (lw_AK aK) adK adV) (.ref (aK 0) :: As) stK r st2) (cw : CallW R s args own R_SF index y bytes maxL ret ws rm 0 0 n) (hn : As.length = n) (hsize : ls.size = nL) (hstack : st0 = As.reverse ++ .ref (aK 0) :: rest) (hroom : (rest.map fun v => v.category).sum ≤ 8) (hdg : decode cc pc = .ok (.invokevirtual index, 3)) (hf : cells + 0 ≤ R.cells ∧ slots + 0 ≤ R.slots)
    (kk : ∀ (H1 : Heap) (locs1 : List Loc), lw_W D aK aM cI cJ cC cZ s st2 stM H1 locs1 → W p l e R s m args below meth c H1 locs1 cells slots Q (F0 m (pc + 3) ls (.int r :: rest))) : W p l e R s m args below meth c H locs cells slots Q (F0 m pc ls st0) := by
  obtain ⟨hK, hPK, hDK, hPM, hDM, hdis, hnew, hS⟩ := hw
  have hok : sk_ok (lw_AK aK) (nwK (lw_AK aK) adK adV) := nwK_ok
  refine va_calli (va_runV (As := As) (rest := rest) S hM cw ⟨sk_blind hok, va_recv hK hPK (ci := 9) (q0 := 0) rfl rfl, fun U hU hW => ⟨rfl, by rw [hU]; exact hPK, va_K.moved hW.alike (hK.sub [0, 1, 2] rfl), hDK, hok.1 s U hW (by rw [hU]; exact hS.1) (fun q h1 h2 => by rw [hU]; exact hS.2.1 q h1 (Nat.not_le.mpr h1)) hnw⟩⟩ rfl hn hsize hstack (lv_room hroom) hdg hf) hS (fun q _ h => hnew q (Or.inl h)) (fun q h => hnew q (Or.inl h)) (fun r1 u t H1 locs1 ht hvm hp hB hz hk hS2 => ?_)
  obtain ⟨rfl, rfl⟩ := hp
  exact kk H1 locs1 ⟨hK, by rw [← ht]; exact hB.1, hB.2, hPM.kept (fun k q hq => hk q.1 (hPM k q hq).lt (fun h => hdis q.1 h (hDM.2 k q hq))), hDM, hdis, hnew, hS2⟩
theorem lw_callM {p : Program} {l : Launch} {e : Env} {R : Room} {s : State} {m : MethodId} {args : Array Value} {below : List Frame} {meth : Method} {c : Code} {H : Heap} {locs : List Loc} {cells slots : Nat} {Q : State → Prop} {y : MethodName} {ws Ts : List Cond} {rm : Room} {D : va_G} {aK aM : Nat → Nat} {cI cJ cC cZ : ClassId} {stK stM st2 : sk_M} {cc bytes : ByteArray} {maxL nL n index pc : Nat} {own : String} {ret : Option FieldType} {As rest st0 : List Value} {ls : Array Slot} {r : Int32} (S : CallFix p m c cc nL s args Ts own) (hw : lw_W D aK aM cI cJ cC cZ s stK stM H locs) (hM : sk_Ci l y ws rm D (tyM cI cZ) (lw_AM aM) (ceM aM cI cZ) (fun _ => True) (.ref (aM 0) :: As) stM r st2) (cw : CallW R s args own R_M index y bytes maxL ret ws rm 0 0 n) (hn : As.length = n) (hsize : ls.size = nL) (hstack : st0 = As.reverse ++ .ref (aM 0) :: rest) (hroom : (rest.map fun v => v.category).sum ≤ 8) (hdg : decode cc pc = .ok (.invokevirtual index, 3)) (hf : cells + 0 ≤ R.cells ∧ slots + 0 ≤ R.slots)
    (kk : ∀ (H1 : Heap) (locs1 : List Loc), lw_W D aK aM cI cJ cC cZ s stK st2 H1 locs1 → W p l e R s m args below meth c H1 locs1 cells slots Q (F0 m (pc + 3) ls (.int r :: rest))) : W p l e R s m args below meth c H locs cells slots Q (F0 m pc ls st0) := by
  obtain ⟨hK, hPK, hDK, hPM, hDM, hdis, hnew, hS⟩ := hw
  have hok : sk_ok (lw_AM aM) (fun _ => True) := ⟨fun _ _ _ _ _ _ => trivial, fun _ _ _ _ _ => trivial⟩
  refine va_calli (va_runV (As := As) (rest := rest) S hM cw ⟨sk_blind hok, va_recv hK hPM (ci := 10) (q0 := 0) rfl rfl, fun U hU hW => ⟨rfl, by rw [hU]; exact hPM, va_K.moved hW.alike (hK.sub [0, 3] rfl), hDM, hok.1 s U hW (by rw [hU]; exact hS.1) (fun q h1 h2 => by rw [hU]; exact hS.2.1 q h1 (Nat.not_le.mpr h1)) trivial⟩⟩ rfl hn hsize hstack (lv_room hroom) hdg hf) hS (fun q _ h => hnew q (Or.inr h)) (fun q h => hnew q (Or.inr h)) (fun r1 u t H1 locs1 ht hvm hp hB hz hk hS2 => ?_)
  obtain ⟨rfl, rfl⟩ := hp
  exact kk H1 locs1 ⟨hK, hPK.kept (fun k q hq => hk q.1 (hPK k q hq).lt (fun h => hdis q.1 (hDK.2 k q hq) h)), hDK, by rw [← ht]; exact hB.1, hB.2, hdis, hnew, hS2⟩
theorem cw_law_13 {R : Room} {s : State} {args : Array Value} (hts : ∀ w ∈ TB, w.before args s = true) (hR : rm_K_SF_type.frames + 1 ≤ R.frames ∧ 8 + (6 + 11) + rm_K_SF_type.locals ≤ R.locals) : CallW R s args R_law R_SF 13 y_K_SF_type b_K_SF_type 6 (some .boolean) w_K_SF_type rm_K_SF_type 0 0 5 :=
  tb_cwV 5 hts (tb_2 (List.mem_of_getElem? (i := 183) rfl) rfl) (tb_2 (List.mem_of_getElem? (i := 184) rfl) rfl) (tb_2 (List.mem_of_getElem? (i := 185) rfl) rfl) (tb_1 (List.mem_of_getElem? (i := 1) rfl) rfl) k_K_SF_type rfl rfl ⟨rfl, by decide, by decide, by decide +kernel⟩ hR
theorem cw_law_17 {R : Room} {s : State} {args : Array Value} (hts : ∀ w ∈ TB, w.before args s = true) (hR : rm_M_type.frames + 1 ≤ R.frames ∧ 8 + (6 + 11) + rm_M_type.locals ≤ R.locals) : CallW R s args R_law R_M 17 y_M_type b_M_type 6 (some .boolean) w_M_type rm_M_type 0 0 5 :=
  tb_cwV 5 hts (tb_5 (List.mem_of_getElem? (i := 70) rfl) rfl) (tb_5 (List.mem_of_getElem? (i := 71) rfl) rfl) (tb_5 (List.mem_of_getElem? (i := 72) rfl) rfl) (tb_1 (List.mem_of_getElem? (i := 12) rfl) rfl) k_M_type rfl rfl ⟨rfl, by decide, by decide, by decide +kernel⟩ hR
theorem cw_law_18 {R : Room} {s : State} {args : Array Value} (hts : ∀ w ∈ TB, w.before args s = true) (hR : rm_K_SF_drop.frames + 1 ≤ R.frames ∧ 8 + (2 + 11) + rm_K_SF_drop.locals ≤ R.locals) : CallW R s args R_law R_SF 18 y_K_SF_drop b_K_SF_drop 2 (some .boolean) w_K_SF_drop rm_K_SF_drop 0 0 1 :=
  tb_cwV 1 hts (tb_2 (List.mem_of_getElem? (i := 194) rfl) rfl) (tb_2 (List.mem_of_getElem? (i := 195) rfl) rfl) (tb_2 (List.mem_of_getElem? (i := 196) rfl) rfl) (tb_1 (List.mem_of_getElem? (i := 1) rfl) rfl) k_K_SF_drop rfl rfl ⟨rfl, by decide, by decide, by decide +kernel⟩ hR
theorem cw_law_22 {R : Room} {s : State} {args : Array Value} (hts : ∀ w ∈ TB, w.before args s = true) (hR : rm_M_drop.frames + 1 ≤ R.frames ∧ 8 + (3 + 11) + rm_M_drop.locals ≤ R.locals) : CallW R s args R_law R_M 22 y_M_drop b_M_drop 3 (some .boolean) w_M_drop rm_M_drop 0 0 1 :=
  tb_cwV 1 hts (tb_5 (List.mem_of_getElem? (i := 77) rfl) rfl) (tb_5 (List.mem_of_getElem? (i := 78) rfl) rfl) (tb_5 (List.mem_of_getElem? (i := 79) rfl) rfl) (tb_1 (List.mem_of_getElem? (i := 12) rfl) rfl) k_M_drop rfl rfl ⟨rfl, by decide, by decide, by decide +kernel⟩ hR
theorem cw_law_23 {R : Room} {s : State} {args : Array Value} (hts : ∀ w ∈ TB, w.before args s = true) (hR : rm_K_SF_member.frames + 1 ≤ R.frames ∧ 8 + (7 + 11) + rm_K_SF_member.locals ≤ R.locals) : CallW R s args R_law R_SF 23 y_K_SF_member b_K_SF_member 7 (some .int) w_K_SF_member rm_K_SF_member 0 0 4 :=
  tb_cwV 4 hts (tb_2 (List.mem_of_getElem? (i := 218) rfl) rfl) (tb_2 (List.mem_of_getElem? (i := 219) rfl) rfl) (tb_2 (List.mem_of_getElem? (i := 220) rfl) rfl) (tb_1 (List.mem_of_getElem? (i := 1) rfl) rfl) k_K_SF_member rfl rfl ⟨rfl, by decide, by decide, by decide +kernel⟩ hR
theorem cw_law_27 {R : Room} {s : State} {args : Array Value} (hts : ∀ w ∈ TB, w.before args s = true) (hR : rm_M_member.frames + 1 ≤ R.frames ∧ 8 + (5 + 11) + rm_M_member.locals ≤ R.locals) : CallW R s args R_law R_M 27 y_M_member b_M_member 5 (some .int) w_M_member rm_M_member 0 0 4 :=
  tb_cwV 4 hts (tb_5 (List.mem_of_getElem? (i := 81) rfl) rfl) (tb_5 (List.mem_of_getElem? (i := 82) rfl) rfl) (tb_5 (List.mem_of_getElem? (i := 83) rfl) rfl) (tb_1 (List.mem_of_getElem? (i := 12) rfl) rfl) k_M_member rfl rfl ⟨rfl, by decide, by decide, by decide +kernel⟩ hR
theorem cw_law_28 {R : Room} {s : State} {args : Array Value} (hts : ∀ w ∈ TB, w.before args s = true) (hR : rm_K_SF_remove.frames + 1 ≤ R.frames ∧ 8 + (2 + 11) + rm_K_SF_remove.locals ≤ R.locals) : CallW R s args R_law R_SF 28 y_K_SF_remove b_K_SF_remove 2 (some .boolean) w_K_SF_remove rm_K_SF_remove 0 0 1 :=
  tb_cwV 1 hts (tb_2 (List.mem_of_getElem? (i := 230) rfl) rfl) (tb_2 (List.mem_of_getElem? (i := 231) rfl) rfl) (tb_2 (List.mem_of_getElem? (i := 232) rfl) rfl) (tb_1 (List.mem_of_getElem? (i := 1) rfl) rfl) k_K_SF_remove rfl rfl ⟨rfl, by decide, by decide, by decide +kernel⟩ hR
theorem cw_law_31 {R : Room} {s : State} {args : Array Value} (hts : ∀ w ∈ TB, w.before args s = true) (hR : rm_M_remove.frames + 1 ≤ R.frames ∧ 8 + (2 + 11) + rm_M_remove.locals ≤ R.locals) : CallW R s args R_law R_M 31 y_M_remove b_M_remove 2 (some .boolean) w_M_remove rm_M_remove 0 0 1 :=
  tb_cwV 1 hts (tb_5 (List.mem_of_getElem? (i := 89) rfl) rfl) (tb_5 (List.mem_of_getElem? (i := 90) rfl) rfl) (tb_5 (List.mem_of_getElem? (i := 91) rfl) rfl) (tb_1 (List.mem_of_getElem? (i := 12) rfl) rfl) k_M_remove rfl rfl ⟨rfl, by decide, by decide, by decide +kernel⟩ hR
theorem cw_law_32 {R : Room} {s : State} {args : Array Value} (hts : ∀ w ∈ TB, w.before args s = true) (hR : rm_K_SF_refer.frames + 1 ≤ R.frames ∧ 8 + (6 + 11) + rm_K_SF_refer.locals ≤ R.locals) : CallW R s args R_law R_SF 32 y_K_SF_refer b_K_SF_refer 6 (some .int) w_K_SF_refer rm_K_SF_refer 0 0 5 :=
  tb_cwV 5 hts (tb_2 (List.mem_of_getElem? (i := 236) rfl) rfl) (tb_2 (List.mem_of_getElem? (i := 237) rfl) rfl) (tb_2 (List.mem_of_getElem? (i := 238) rfl) rfl) (tb_1 (List.mem_of_getElem? (i := 1) rfl) rfl) k_K_SF_refer rfl rfl ⟨rfl, by decide, by decide, by decide +kernel⟩ hR
theorem cw_law_36 {R : Room} {s : State} {args : Array Value} (hts : ∀ w ∈ TB, w.before args s = true) (hR : rm_M_refer.frames + 1 ≤ R.frames ∧ 8 + (6 + 11) + rm_M_refer.locals ≤ R.locals) : CallW R s args R_law R_M 36 y_M_refer b_M_refer 6 (some .int) w_M_refer rm_M_refer 0 0 5 :=
  tb_cwV 5 hts (tb_5 (List.mem_of_getElem? (i := 93) rfl) rfl) (tb_5 (List.mem_of_getElem? (i := 94) rfl) rfl) (tb_5 (List.mem_of_getElem? (i := 95) rfl) rfl) (tb_1 (List.mem_of_getElem? (i := 12) rfl) rfl) k_M_refer rfl rfl ⟨rfl, by decide, by decide, by decide +kernel⟩ hR
theorem cw_law_37 {R : Room} {s : State} {args : Array Value} (hts : ∀ w ∈ TB, w.before args s = true) (hR : rm_K_SF_letter.frames + 1 ≤ R.frames ∧ 8 + (2 + 11) + rm_K_SF_letter.locals ≤ R.locals) : CallW R s args R_law R_SF 37 y_K_SF_letter b_K_SF_letter 2 (some .int) w_K_SF_letter rm_K_SF_letter 0 0 1 :=
  tb_cwV 1 hts (tb_3 (List.mem_of_getElem? (i := 11) rfl) rfl) (tb_3 (List.mem_of_getElem? (i := 12) rfl) rfl) (tb_3 (List.mem_of_getElem? (i := 13) rfl) rfl) (tb_1 (List.mem_of_getElem? (i := 1) rfl) rfl) k_K_SF_letter rfl rfl ⟨rfl, by decide, by decide, by decide +kernel⟩ hR
theorem cw_law_41 {R : Room} {s : State} {args : Array Value} (hts : ∀ w ∈ TB, w.before args s = true) (hR : rm_M_letter.frames + 1 ≤ R.frames ∧ 8 + (2 + 11) + rm_M_letter.locals ≤ R.locals) : CallW R s args R_law R_M 41 y_M_letter b_M_letter 2 (some .int) w_M_letter rm_M_letter 0 0 1 :=
  tb_cwV 1 hts (tb_5 (List.mem_of_getElem? (i := 97) rfl) rfl) (tb_5 (List.mem_of_getElem? (i := 98) rfl) rfl) (tb_5 (List.mem_of_getElem? (i := 99) rfl) rfl) (tb_1 (List.mem_of_getElem? (i := 12) rfl) rfl) k_M_letter rfl rfl ⟨rfl, by decide, by decide, by decide +kernel⟩ hR
theorem cw_law_42 {R : Room} {s : State} {args : Array Value} (hts : ∀ w ∈ TB, w.before args s = true) (hR : rm_K_SF_rule.frames + 1 ≤ R.frames ∧ 8 + (2 + 11) + rm_K_SF_rule.locals ≤ R.locals) : CallW R s args R_law R_SF 42 y_K_SF_rule b_K_SF_rule 2 (some .int) w_K_SF_rule rm_K_SF_rule 0 0 0 :=
  tb_cwV 0 hts (tb_3 (List.mem_of_getElem? (i := 19) rfl) rfl) (tb_3 (List.mem_of_getElem? (i := 20) rfl) rfl) (tb_3 (List.mem_of_getElem? (i := 21) rfl) rfl) (tb_1 (List.mem_of_getElem? (i := 1) rfl) rfl) k_K_SF_rule rfl rfl ⟨rfl, by decide, by decide, by decide +kernel⟩ hR
theorem cw_law_46 {R : Room} {s : State} {args : Array Value} (hts : ∀ w ∈ TB, w.before args s = true) (hR : rm_M_rule.frames + 1 ≤ R.frames ∧ 8 + (5 + 11) + rm_M_rule.locals ≤ R.locals) : CallW R s args R_law R_M 46 y_M_rule b_M_rule 5 (some .int) w_M_rule rm_M_rule 0 0 0 :=
  tb_cwV 0 hts (tb_5 (List.mem_of_getElem? (i := 101) rfl) rfl) (tb_5 (List.mem_of_getElem? (i := 102) rfl) rfl) (tb_5 (List.mem_of_getElem? (i := 103) rfl) rfl) (tb_1 (List.mem_of_getElem? (i := 12) rfl) rfl) k_M_rule rfl rfl ⟨rfl, by decide, by decide, by decide +kernel⟩ hR
theorem cw_law_47 {R : Room} {s : State} {args : Array Value} (hts : ∀ w ∈ TB, w.before args s = true) (hR : rm_K_SF_clear.frames + 1 ≤ R.frames ∧ 8 + (3 + 11) + rm_K_SF_clear.locals ≤ R.locals) : CallW R s args R_law R_SF 47 y_K_SF_clear b_K_SF_clear 3 (some .int) w_K_SF_clear rm_K_SF_clear 0 0 1 :=
  tb_cwV 1 hts (tb_3 (List.mem_of_getElem? (i := 164) rfl) rfl) (tb_3 (List.mem_of_getElem? (i := 165) rfl) rfl) (tb_3 (List.mem_of_getElem? (i := 166) rfl) rfl) (tb_1 (List.mem_of_getElem? (i := 1) rfl) rfl) k_K_SF_clear rfl rfl ⟨rfl, by decide, by decide, by decide +kernel⟩ hR
theorem cw_law_51 {R : Room} {s : State} {args : Array Value} (hts : ∀ w ∈ TB, w.before args s = true) (hR : rm_M_clear.frames + 1 ≤ R.frames ∧ 8 + (4 + 11) + rm_M_clear.locals ≤ R.locals) : CallW R s args R_law R_M 51 y_M_clear b_M_clear 4 (some .int) w_M_clear rm_M_clear 0 0 1 :=
  tb_cwV 1 hts (tb_5 (List.mem_of_getElem? (i := 142) rfl) rfl) (tb_5 (List.mem_of_getElem? (i := 143) rfl) rfl) (tb_5 (List.mem_of_getElem? (i := 144) rfl) rfl) (tb_1 (List.mem_of_getElem? (i := 12) rfl) rfl) k_M_clear rfl rfl ⟨rfl, by decide, by decide, by decide +kernel⟩ hR
theorem cw_law_52 {R : Room} {s : State} {args : Array Value} (hts : ∀ w ∈ TB, w.before args s = true) (hR : rm_K_SF_needs.frames + 1 ≤ R.frames ∧ 8 + (3 + 11) + rm_K_SF_needs.locals ≤ R.locals) : CallW R s args R_law R_SF 52 y_K_SF_needs b_K_SF_needs 3 (some .int) w_K_SF_needs rm_K_SF_needs 0 0 2 :=
  tb_cwV 2 hts (tb_3 (List.mem_of_getElem? (i := 170) rfl) rfl) (tb_3 (List.mem_of_getElem? (i := 171) rfl) rfl) (tb_3 (List.mem_of_getElem? (i := 172) rfl) rfl) (tb_1 (List.mem_of_getElem? (i := 1) rfl) rfl) k_K_SF_needs rfl rfl ⟨rfl, by decide, by decide, by decide +kernel⟩ hR
theorem cw_law_56 {R : Room} {s : State} {args : Array Value} (hts : ∀ w ∈ TB, w.before args s = true) (hR : rm_M_needs.frames + 1 ≤ R.frames ∧ 8 + (6 + 11) + rm_M_needs.locals ≤ R.locals) : CallW R s args R_law R_M 56 y_M_needs b_M_needs 6 (some .int) w_M_needs rm_M_needs 0 0 2 :=
  tb_cwV 2 hts (tb_5 (List.mem_of_getElem? (i := 146) rfl) rfl) (tb_5 (List.mem_of_getElem? (i := 147) rfl) rfl) (tb_5 (List.mem_of_getElem? (i := 148) rfl) rfl) (tb_1 (List.mem_of_getElem? (i := 12) rfl) rfl) k_M_needs rfl rfl ⟨rfl, by decide, by decide, by decide +kernel⟩ hR
theorem cw_law_57 {R : Room} {s : State} {args : Array Value} (hts : ∀ w ∈ TB, w.before args s = true) (hR : rm_K_SF_part.frames + 1 ≤ R.frames ∧ 8 + (3 + 11) + rm_K_SF_part.locals ≤ R.locals) : CallW R s args R_law R_SF 57 y_K_SF_part b_K_SF_part 3 (some .int) w_K_SF_part rm_K_SF_part 0 0 2 :=
  tb_cwV 2 hts (tb_4 (List.mem_of_getElem? (i := 61) rfl) rfl) (tb_4 (List.mem_of_getElem? (i := 62) rfl) rfl) (tb_4 (List.mem_of_getElem? (i := 63) rfl) rfl) (tb_1 (List.mem_of_getElem? (i := 1) rfl) rfl) k_K_SF_part rfl rfl ⟨rfl, by decide, by decide, by decide +kernel⟩ hR
theorem cw_law_60 {R : Room} {s : State} {args : Array Value} (hts : ∀ w ∈ TB, w.before args s = true) (hR : rm_M_part.frames + 1 ≤ R.frames ∧ 8 + (4 + 11) + rm_M_part.locals ≤ R.locals) : CallW R s args R_law R_M 60 y_M_part b_M_part 4 (some .int) w_M_part rm_M_part 0 0 2 :=
  tb_cwV 2 hts (tb_5 (List.mem_of_getElem? (i := 238) rfl) rfl) (tb_5 (List.mem_of_getElem? (i := 239) rfl) rfl) (tb_6 (List.mem_of_getElem? (i := 0) rfl) rfl) (tb_1 (List.mem_of_getElem? (i := 12) rfl) rfl) k_M_part rfl rfl ⟨rfl, by decide, by decide, by decide +kernel⟩ hR
theorem cw_law_61 {R : Room} {s : State} {args : Array Value} (hts : ∀ w ∈ TB, w.before args s = true) (hR : rm_K_SF_found.frames + 1 ≤ R.frames ∧ 8 + (8 + 11) + rm_K_SF_found.locals ≤ R.locals) : CallW R s args R_law R_SF 61 y_K_SF_found b_K_SF_found 8 (some .int) w_K_SF_found rm_K_SF_found 0 0 5 :=
  tb_cwV 5 hts (tb_4 (List.mem_of_getElem? (i := 69) rfl) rfl) (tb_4 (List.mem_of_getElem? (i := 70) rfl) rfl) (tb_4 (List.mem_of_getElem? (i := 71) rfl) rfl) (tb_1 (List.mem_of_getElem? (i := 1) rfl) rfl) k_K_SF_found rfl rfl ⟨rfl, by decide, by decide, by decide +kernel⟩ hR
theorem cw_law_65 {R : Room} {s : State} {args : Array Value} (hts : ∀ w ∈ TB, w.before args s = true) (hR : rm_M_found.frames + 1 ≤ R.frames ∧ 8 + (6 + 11) + rm_M_found.locals ≤ R.locals) : CallW R s args R_law R_M 65 y_M_found b_M_found 6 (some .int) w_M_found rm_M_found 0 0 5 :=
  tb_cwV 5 hts (tb_6 (List.mem_of_getElem? (i := 10) rfl) rfl) (tb_6 (List.mem_of_getElem? (i := 11) rfl) rfl) (tb_6 (List.mem_of_getElem? (i := 12) rfl) rfl) (tb_1 (List.mem_of_getElem? (i := 12) rfl) rfl) k_M_found rfl rfl ⟨rfl, by decide, by decide, by decide +kernel⟩ hR
theorem cw_law_66 {R : Room} {s : State} {args : Array Value} (hts : ∀ w ∈ TB, w.before args s = true) (hR : rm_K_SF_selected.frames + 1 ≤ R.frames ∧ 8 + (7 + 11) + rm_K_SF_selected.locals ≤ R.locals) : CallW R s args R_law R_SF 66 y_K_SF_selected b_K_SF_selected 7 (some .int) w_K_SF_selected rm_K_SF_selected 0 0 4 :=
  tb_cwV 4 hts (tb_4 (List.mem_of_getElem? (i := 74) rfl) rfl) (tb_4 (List.mem_of_getElem? (i := 75) rfl) rfl) (tb_4 (List.mem_of_getElem? (i := 76) rfl) rfl) (tb_1 (List.mem_of_getElem? (i := 1) rfl) rfl) k_K_SF_selected rfl rfl ⟨rfl, by decide, by decide, by decide +kernel⟩ hR
theorem cw_law_70 {R : Room} {s : State} {args : Array Value} (hts : ∀ w ∈ TB, w.before args s = true) (hR : rm_M_selected.frames + 1 ≤ R.frames ∧ 8 + (5 + 11) + rm_M_selected.locals ≤ R.locals) : CallW R s args R_law R_M 70 y_M_selected b_M_selected 5 (some .int) w_M_selected rm_M_selected 0 0 4 :=
  tb_cwV 4 hts (tb_6 (List.mem_of_getElem? (i := 14) rfl) rfl) (tb_6 (List.mem_of_getElem? (i := 15) rfl) rfl) (tb_6 (List.mem_of_getElem? (i := 16) rfl) rfl) (tb_1 (List.mem_of_getElem? (i := 12) rfl) rfl) k_M_selected rfl rfl ⟨rfl, by decide, by decide, by decide +kernel⟩ hR
theorem cw_law_71 {R : Room} {s : State} {args : Array Value} (hts : ∀ w ∈ TB, w.before args s = true) (hR : rm_K_SF_name.frames + 1 ≤ R.frames ∧ 8 + (4 + 11) + rm_K_SF_name.locals ≤ R.locals) : CallW R s args R_law R_SF 71 y_K_SF_name b_K_SF_name 4 (some .int) w_K_SF_name rm_K_SF_name 0 0 3 :=
  tb_cwV 3 hts (tb_4 (List.mem_of_getElem? (i := 78) rfl) rfl) (tb_4 (List.mem_of_getElem? (i := 79) rfl) rfl) (tb_4 (List.mem_of_getElem? (i := 80) rfl) rfl) (tb_1 (List.mem_of_getElem? (i := 1) rfl) rfl) k_K_SF_name rfl rfl ⟨rfl, by decide, by decide, by decide +kernel⟩ hR
theorem cw_law_75 {R : Room} {s : State} {args : Array Value} (hts : ∀ w ∈ TB, w.before args s = true) (hR : rm_M_name.frames + 1 ≤ R.frames ∧ 8 + (5 + 11) + rm_M_name.locals ≤ R.locals) : CallW R s args R_law R_M 75 y_M_name b_M_name 5 (some .int) w_M_name rm_M_name 0 0 3 :=
  tb_cwV 3 hts (tb_6 (List.mem_of_getElem? (i := 18) rfl) rfl) (tb_6 (List.mem_of_getElem? (i := 19) rfl) rfl) (tb_6 (List.mem_of_getElem? (i := 20) rfl) rfl) (tb_1 (List.mem_of_getElem? (i := 12) rfl) rfl) k_M_name rfl rfl ⟨rfl, by decide, by decide, by decide +kernel⟩ hR
theorem cw_law_76 {R : Room} {s : State} {args : Array Value} (hts : ∀ w ∈ TB, w.before args s = true) (hR : rm_K_SF_mapping.frames + 1 ≤ R.frames ∧ 8 + (2 + 11) + rm_K_SF_mapping.locals ≤ R.locals) : CallW R s args R_law R_SF 76 y_K_SF_mapping b_K_SF_mapping 2 (some .int) w_K_SF_mapping rm_K_SF_mapping 0 0 1 :=
  tb_cwV 1 hts (tb_4 (List.mem_of_getElem? (i := 99) rfl) rfl) (tb_4 (List.mem_of_getElem? (i := 100) rfl) rfl) (tb_4 (List.mem_of_getElem? (i := 101) rfl) rfl) (tb_1 (List.mem_of_getElem? (i := 1) rfl) rfl) k_K_SF_mapping rfl rfl ⟨rfl, by decide, by decide, by decide +kernel⟩ hR
theorem cw_law_79 {R : Room} {s : State} {args : Array Value} (hts : ∀ w ∈ TB, w.before args s = true) (hR : rm_M_mapping.frames + 1 ≤ R.frames ∧ 8 + (2 + 11) + rm_M_mapping.locals ≤ R.locals) : CallW R s args R_law R_M 79 y_M_mapping b_M_mapping 2 (some .int) w_M_mapping rm_M_mapping 0 0 1 :=
  tb_cwV 1 hts (tb_6 (List.mem_of_getElem? (i := 38) rfl) rfl) (tb_6 (List.mem_of_getElem? (i := 39) rfl) rfl) (tb_6 (List.mem_of_getElem? (i := 40) rfl) rfl) (tb_1 (List.mem_of_getElem? (i := 12) rfl) rfl) k_M_mapping rfl rfl ⟨rfl, by decide, by decide, by decide +kernel⟩ hR
theorem cw_law_80 {R : Room} {s : State} {args : Array Value} (hts : ∀ w ∈ TB, w.before args s = true) (hR : rm_K_SF_trace.frames + 1 ≤ R.frames ∧ 8 + (5 + 11) + rm_K_SF_trace.locals ≤ R.locals) : CallW R s args R_law R_SF 80 y_K_SF_trace b_K_SF_trace 5 (some .int) w_K_SF_trace rm_K_SF_trace 0 0 3 :=
  tb_cwV 3 hts (tb_4 (List.mem_of_getElem? (i := 128) rfl) rfl) (tb_4 (List.mem_of_getElem? (i := 129) rfl) rfl) (tb_4 (List.mem_of_getElem? (i := 130) rfl) rfl) (tb_1 (List.mem_of_getElem? (i := 1) rfl) rfl) k_K_SF_trace rfl rfl ⟨rfl, by decide, by decide, by decide +kernel⟩ hR
theorem cw_law_84 {R : Room} {s : State} {args : Array Value} (hts : ∀ w ∈ TB, w.before args s = true) (hR : rm_M_trace.frames + 1 ≤ R.frames ∧ 8 + (6 + 11) + rm_M_trace.locals ≤ R.locals) : CallW R s args R_law R_M 84 y_M_trace b_M_trace 6 (some .int) w_M_trace rm_M_trace 0 0 3 :=
  tb_cwV 3 hts (tb_6 (List.mem_of_getElem? (i := 62) rfl) rfl) (tb_6 (List.mem_of_getElem? (i := 63) rfl) rfl) (tb_6 (List.mem_of_getElem? (i := 64) rfl) rfl) (tb_1 (List.mem_of_getElem? (i := 12) rfl) rfl) k_M_trace rfl rfl ⟨rfl, by decide, by decide, by decide +kernel⟩ hR
theorem cw_law_85 {R : Room} {s : State} {args : Array Value} (hts : ∀ w ∈ TB, w.before args s = true) (hR : rm_K_SF_count.frames + 1 ≤ R.frames ∧ 8 + (2 + 11) + rm_K_SF_count.locals ≤ R.locals) : CallW R s args R_law R_SF 85 y_K_SF_count b_K_SF_count 2 (some .int) w_K_SF_count rm_K_SF_count 0 0 1 :=
  tb_cwV 1 hts (tb_4 (List.mem_of_getElem? (i := 144) rfl) rfl) (tb_4 (List.mem_of_getElem? (i := 145) rfl) rfl) (tb_4 (List.mem_of_getElem? (i := 146) rfl) rfl) (tb_1 (List.mem_of_getElem? (i := 1) rfl) rfl) k_K_SF_count rfl rfl ⟨rfl, by decide, by decide, by decide +kernel⟩ hR
theorem cw_law_88 {R : Room} {s : State} {args : Array Value} (hts : ∀ w ∈ TB, w.before args s = true) (hR : rm_M_count.frames + 1 ≤ R.frames ∧ 8 + (2 + 11) + rm_M_count.locals ≤ R.locals) : CallW R s args R_law R_M 88 y_M_count b_M_count 2 (some .int) w_M_count rm_M_count 0 0 1 :=
  tb_cwV 1 hts (tb_6 (List.mem_of_getElem? (i := 70) rfl) rfl) (tb_6 (List.mem_of_getElem? (i := 71) rfl) rfl) (tb_6 (List.mem_of_getElem? (i := 72) rfl) rfl) (tb_1 (List.mem_of_getElem? (i := 12) rfl) rfl) k_M_count rfl rfl ⟨rfl, by decide, by decide, by decide +kernel⟩ hR
set_option maxHeartbeats 4000000 in
set_option maxRecDepth 100000 in
theorem lw_c0 {p : Program} {l : Launch} {e : Env} {s : State} {m : MethodId} {below : List Frame} {meth : Method} {c : Code} {Q : State → Prop} {D : va_G} {aK aM : Nat → Nat} {cI cJ cC cZ : ClassId} {adK adV : Nat → Nat} {b L : Nat} {xs : Nat → Int32} {N : Nat} {Inv : sk_M → sk_M → Prop} (C0 : lw_At p s m meth c b L xs) (hnw : nwK (lw_AK aK) adK adV s) (hp : pm_type N Inv) {stK stM : sk_M} {H : Heap} {locs : List Loc} {ls : Array Slot} {i : Nat} (hi : i + 6 ≤ L) (hL : L ≤ 3072) (hI : Inv stK stM) (hw : lw_W D aK aM cI cJ cC cZ s stK stM H locs) (hl : lv_has ls 4 [(0, .ref b), (1, .ref (aK 0)), (2, .ref (aM 0)), (3, .int (nI i))])
    (next : ∀ (stK stM : sk_M) (H : Heap) (locs : List Loc) (ls : Array Slot), Inv stK stM → lw_W D aK aM cI cJ cC cZ s stK stM H locs → lv_has ls 4 [(0, .ref b), (1, .ref (aK 0)), (2, .ref (aM 0)), (3, .int (nI i))] → W p l e room_1 s m #[Value.ref b] below meth c H locs 84 5723 Q (F0 m 790 ls [])) : W p l e room_1 s m #[Value.ref b] below meth c H locs 84 5723 Q (F0 m 112 ls []) := by
  obtain ⟨hx, hb, hr, hml, hown, hts0, hX, hbl, hlocks, hgv⟩ := C0
  have hts : ∀ w ∈ TB, w.before #[Value.ref b] s = true := fun w h => hts0 w (List.mem_filter.mp h).1
  have hbA : ¬ (fun q : Nat => s.heap.size ≤ q) b := Nat.not_le.mpr hbl
  refine lv_aload_n hx hb d_law_112 rfl (lv_at hl 1 rfl) ?_
  refine lv_aload_n hx hb d_law_113 rfl (lv_at hl 0 rfl) ?_
  refine lv_iload_n hx hb d_law_114 rfl (lv_at hl 3 rfl) ?_
  refine lv_iconst (v := 1) hx hb d_law_115 (by decide) ?_
  refine lv_iadd hx hb d_law_116 ?_
  refine va_sld hx hb hX hbl hbA hw.2.2.2.2.2.2.2 (lw_in hi hL 1 (by decide) rfl) d_law_117 ?_
  refine lv_aload_n hx hb d_law_118 rfl (lv_at hl 0 rfl) ?_
  refine lv_iload_n hx hb d_law_119 rfl (lv_at hl 3 rfl) ?_
  refine lv_iconst (v := 2) hx hb d_law_120 (by decide) ?_
  refine lv_iadd hx hb d_law_121 ?_
  refine va_sld hx hb hX hbl hbA hw.2.2.2.2.2.2.2 (lw_in hi hL 2 (by decide) rfl) d_law_122 ?_
  refine lv_aload_n hx hb d_law_123 rfl (lv_at hl 0 rfl) ?_
  refine lv_iload_n hx hb d_law_124 rfl (lv_at hl 3 rfl) ?_
  refine lv_iconst (v := 3) hx hb d_law_125 (by decide) ?_
  refine lv_iadd hx hb d_law_126 ?_
  refine va_sld hx hb hX hbl hbA hw.2.2.2.2.2.2.2 (lw_in hi hL 3 (by decide) rfl) d_law_127 ?_
  refine lv_aload_n hx hb d_law_128 rfl (lv_at hl 0 rfl) ?_
  refine lv_iload_n hx hb d_law_129 rfl (lv_at hl 3 rfl) ?_
  refine lv_iconst (v := 4) hx hb d_law_130 (by decide) ?_
  refine lv_iadd hx hb d_law_131 ?_
  refine va_sld hx hb hX hbl hbA hw.2.2.2.2.2.2.2 (lw_in hi hL 4 (by decide) rfl) d_law_132 ?_
  refine lv_aload_n hx hb d_law_133 rfl (lv_at hl 0 rfl) ?_
  refine lv_iload_n hx hb d_law_134 rfl (lv_at hl 3 rfl) ?_
  refine lv_iconst (v := 5) hx hb d_law_135 (by decide) ?_
  refine lv_iadd hx hb d_law_136 ?_
  refine va_sld hx hb hX hbl hbA hw.2.2.2.2.2.2.2 (lw_in hi hL 5 (by decide) rfl) d_law_137 ?_
  obtain ⟨r, stK2, stM2, qK, qM, hI2⟩ := hp stK stM (xs (nI i + 1).toNatClampNeg) (xs (nI i + 2).toNatClampNeg) (xs (nI i + 3).toNatClampNeg) (xs (nI i + 4).toNatClampNeg) (xs (nI i + 5).toNatClampNeg) hI
  refine lw_callK (As := [.int (xs (nI i + 1).toNatClampNeg), .int (xs (nI i + 2).toNatClampNeg), .int (xs (nI i + 3).toNatClampNeg), .int (xs (nI i + 4).toNatClampNeg), .int (xs (nI i + 5).toNatClampNeg)]) (rest := []) ⟨hx, hb, hml, hown, hts⟩ hw hnw (c_K_SF_type nwK_ok qK) (cw_law_13 hts (by decide)) rfl hl.1 rfl (Nat.le_of_ble_eq_true rfl) d_law_138 (by decide) (fun H locs hw => ?_)
  refine lv_aload_n hx hb d_law_141 rfl (lv_at hl 2 rfl) ?_
  refine lv_aload_n hx hb d_law_142 rfl (lv_at hl 0 rfl) ?_
  refine lv_iload_n hx hb d_law_143 rfl (lv_at hl 3 rfl) ?_
  refine lv_iconst (v := 1) hx hb d_law_144 (by decide) ?_
  refine lv_iadd hx hb d_law_145 ?_
  refine va_sld hx hb hX hbl hbA hw.2.2.2.2.2.2.2 (lw_in hi hL 1 (by decide) rfl) d_law_146 ?_
  refine lv_aload_n hx hb d_law_147 rfl (lv_at hl 0 rfl) ?_
  refine lv_iload_n hx hb d_law_148 rfl (lv_at hl 3 rfl) ?_
  refine lv_iconst (v := 2) hx hb d_law_149 (by decide) ?_
  refine lv_iadd hx hb d_law_150 ?_
  refine va_sld hx hb hX hbl hbA hw.2.2.2.2.2.2.2 (lw_in hi hL 2 (by decide) rfl) d_law_151 ?_
  refine lv_aload_n hx hb d_law_152 rfl (lv_at hl 0 rfl) ?_
  refine lv_iload_n hx hb d_law_153 rfl (lv_at hl 3 rfl) ?_
  refine lv_iconst (v := 3) hx hb d_law_154 (by decide) ?_
  refine lv_iadd hx hb d_law_155 ?_
  refine va_sld hx hb hX hbl hbA hw.2.2.2.2.2.2.2 (lw_in hi hL 3 (by decide) rfl) d_law_156 ?_
  refine lv_aload_n hx hb d_law_157 rfl (lv_at hl 0 rfl) ?_
  refine lv_iload_n hx hb d_law_158 rfl (lv_at hl 3 rfl) ?_
  refine lv_iconst (v := 4) hx hb d_law_159 (by decide) ?_
  refine lv_iadd hx hb d_law_160 ?_
  refine va_sld hx hb hX hbl hbA hw.2.2.2.2.2.2.2 (lw_in hi hL 4 (by decide) rfl) d_law_161 ?_
  refine lv_aload_n hx hb d_law_162 rfl (lv_at hl 0 rfl) ?_
  refine lv_iload_n hx hb d_law_163 rfl (lv_at hl 3 rfl) ?_
  refine lv_iconst (v := 5) hx hb d_law_164 (by decide) ?_
  refine lv_iadd hx hb d_law_165 ?_
  refine va_sld hx hb hX hbl hbA hw.2.2.2.2.2.2.2 (lw_in hi hL 5 (by decide) rfl) d_law_166 ?_
  refine lw_callM (As := [.int (xs (nI i + 1).toNatClampNeg), .int (xs (nI i + 2).toNatClampNeg), .int (xs (nI i + 3).toNatClampNeg), .int (xs (nI i + 4).toNatClampNeg), .int (xs (nI i + 5).toNatClampNeg)]) (rest := [.int r]) ⟨hx, hb, hml, hown, hts⟩ hw (c_M_type (nw := fun _ => True) ⟨fun _ _ _ _ _ _ => trivial, fun _ _ _ _ _ => trivial⟩ qM) (cw_law_17 hts (by decide)) rfl hl.1 rfl (Nat.le_of_ble_eq_true rfl) d_law_167 (by decide) (fun H locs hw => ?_)
  refine lv_icmp_eq (tgt := 790) hx hb d_law_170 (by decide) (fun c_170 => ?_) (fun c_170 => absurd rfl c_170)
  exact next _ _ _ _ _ hI2 hw hl
set_option maxHeartbeats 4000000 in
set_option maxRecDepth 100000 in
theorem lw_c1 {p : Program} {l : Launch} {e : Env} {s : State} {m : MethodId} {below : List Frame} {meth : Method} {c : Code} {Q : State → Prop} {D : va_G} {aK aM : Nat → Nat} {cI cJ cC cZ : ClassId} {adK adV : Nat → Nat} {b L : Nat} {xs : Nat → Int32} {N : Nat} {Inv : sk_M → sk_M → Prop} (C0 : lw_At p s m meth c b L xs) (hnw : nwK (lw_AK aK) adK adV s) (hp : pm_drop N Inv) {stK stM : sk_M} {H : Heap} {locs : List Loc} {ls : Array Slot} {i : Nat} (hi : i + 6 ≤ L) (hL : L ≤ 3072) (hI : Inv stK stM) (hw : lw_W D aK aM cI cJ cC cZ s stK stM H locs) (hl : lv_has ls 4 [(0, .ref b), (1, .ref (aK 0)), (2, .ref (aM 0)), (3, .int (nI i))])
    (next : ∀ (stK stM : sk_M) (H : Heap) (locs : List Loc) (ls : Array Slot), Inv stK stM → lw_W D aK aM cI cJ cC cZ s stK stM H locs → lv_has ls 4 [(0, .ref b), (1, .ref (aK 0)), (2, .ref (aM 0)), (3, .int (nI i))] → W p l e room_1 s m #[Value.ref b] below meth c H locs 84 5723 Q (F0 m 790 ls [])) : W p l e room_1 s m #[Value.ref b] below meth c H locs 84 5723 Q (F0 m 175 ls []) := by
  obtain ⟨hx, hb, hr, hml, hown, hts0, hX, hbl, hlocks, hgv⟩ := C0
  have hts : ∀ w ∈ TB, w.before #[Value.ref b] s = true := fun w h => hts0 w (List.mem_filter.mp h).1
  have hbA : ¬ (fun q : Nat => s.heap.size ≤ q) b := Nat.not_le.mpr hbl
  refine lv_aload_n hx hb d_law_175 rfl (lv_at hl 1 rfl) ?_
  refine lv_aload_n hx hb d_law_176 rfl (lv_at hl 0 rfl) ?_
  refine lv_iload_n hx hb d_law_177 rfl (lv_at hl 3 rfl) ?_
  refine lv_iconst (v := 1) hx hb d_law_178 (by decide) ?_
  refine lv_iadd hx hb d_law_179 ?_
  refine va_sld hx hb hX hbl hbA hw.2.2.2.2.2.2.2 (lw_in hi hL 1 (by decide) rfl) d_law_180 ?_
  obtain ⟨r, stK2, stM2, qK, qM, hI2⟩ := hp stK stM (xs (nI i + 1).toNatClampNeg) hI
  refine lw_callK (As := [.int (xs (nI i + 1).toNatClampNeg)]) (rest := []) ⟨hx, hb, hml, hown, hts⟩ hw hnw (c_K_SF_drop nwK_ok qK) (cw_law_18 hts (by decide)) rfl hl.1 rfl (Nat.le_of_ble_eq_true rfl) d_law_181 (by decide) (fun H locs hw => ?_)
  refine lv_aload_n hx hb d_law_184 rfl (lv_at hl 2 rfl) ?_
  refine lv_aload_n hx hb d_law_185 rfl (lv_at hl 0 rfl) ?_
  refine lv_iload_n hx hb d_law_186 rfl (lv_at hl 3 rfl) ?_
  refine lv_iconst (v := 1) hx hb d_law_187 (by decide) ?_
  refine lv_iadd hx hb d_law_188 ?_
  refine va_sld hx hb hX hbl hbA hw.2.2.2.2.2.2.2 (lw_in hi hL 1 (by decide) rfl) d_law_189 ?_
  refine lw_callM (As := [.int (xs (nI i + 1).toNatClampNeg)]) (rest := [.int r]) ⟨hx, hb, hml, hown, hts⟩ hw (c_M_drop (nw := fun _ => True) ⟨fun _ _ _ _ _ _ => trivial, fun _ _ _ _ _ => trivial⟩ qM) (cw_law_22 hts (by decide)) rfl hl.1 rfl (Nat.le_of_ble_eq_true rfl) d_law_190 (by decide) (fun H locs hw => ?_)
  refine lv_icmp_eq (tgt := 790) hx hb d_law_193 (by decide) (fun c_193 => ?_) (fun c_193 => absurd rfl c_193)
  exact next _ _ _ _ _ hI2 hw hl
set_option maxHeartbeats 4000000 in
set_option maxRecDepth 100000 in
theorem lw_c2 {p : Program} {l : Launch} {e : Env} {s : State} {m : MethodId} {below : List Frame} {meth : Method} {c : Code} {Q : State → Prop} {D : va_G} {aK aM : Nat → Nat} {cI cJ cC cZ : ClassId} {adK adV : Nat → Nat} {b L : Nat} {xs : Nat → Int32} {N : Nat} {Inv : sk_M → sk_M → Prop} (C0 : lw_At p s m meth c b L xs) (hnw : nwK (lw_AK aK) adK adV s) (hp : pm_member N Inv) {stK stM : sk_M} {H : Heap} {locs : List Loc} {ls : Array Slot} {i : Nat} (hi : i + 6 ≤ L) (hL : L ≤ 3072) (hI : Inv stK stM) (hw : lw_W D aK aM cI cJ cC cZ s stK stM H locs) (hl : lv_has ls 4 [(0, .ref b), (1, .ref (aK 0)), (2, .ref (aM 0)), (3, .int (nI i))])
    (next : ∀ (stK stM : sk_M) (H : Heap) (locs : List Loc) (ls : Array Slot), Inv stK stM → lw_W D aK aM cI cJ cC cZ s stK stM H locs → lv_has ls 4 [(0, .ref b), (1, .ref (aK 0)), (2, .ref (aM 0)), (3, .int (nI i))] → W p l e room_1 s m #[Value.ref b] below meth c H locs 84 5723 Q (F0 m 790 ls [])) : W p l e room_1 s m #[Value.ref b] below meth c H locs 84 5723 Q (F0 m 198 ls []) := by
  obtain ⟨hx, hb, hr, hml, hown, hts0, hX, hbl, hlocks, hgv⟩ := C0
  have hts : ∀ w ∈ TB, w.before #[Value.ref b] s = true := fun w h => hts0 w (List.mem_filter.mp h).1
  have hbA : ¬ (fun q : Nat => s.heap.size ≤ q) b := Nat.not_le.mpr hbl
  refine lv_aload_n hx hb d_law_198 rfl (lv_at hl 1 rfl) ?_
  refine lv_aload_n hx hb d_law_199 rfl (lv_at hl 0 rfl) ?_
  refine lv_iload_n hx hb d_law_200 rfl (lv_at hl 3 rfl) ?_
  refine lv_iconst (v := 1) hx hb d_law_201 (by decide) ?_
  refine lv_iadd hx hb d_law_202 ?_
  refine va_sld hx hb hX hbl hbA hw.2.2.2.2.2.2.2 (lw_in hi hL 1 (by decide) rfl) d_law_203 ?_
  refine lv_aload_n hx hb d_law_204 rfl (lv_at hl 0 rfl) ?_
  refine lv_iload_n hx hb d_law_205 rfl (lv_at hl 3 rfl) ?_
  refine lv_iconst (v := 2) hx hb d_law_206 (by decide) ?_
  refine lv_iadd hx hb d_law_207 ?_
  refine va_sld hx hb hX hbl hbA hw.2.2.2.2.2.2.2 (lw_in hi hL 2 (by decide) rfl) d_law_208 ?_
  refine lv_aload_n hx hb d_law_209 rfl (lv_at hl 0 rfl) ?_
  refine lv_iload_n hx hb d_law_210 rfl (lv_at hl 3 rfl) ?_
  refine lv_iconst (v := 3) hx hb d_law_211 (by decide) ?_
  refine lv_iadd hx hb d_law_212 ?_
  refine va_sld hx hb hX hbl hbA hw.2.2.2.2.2.2.2 (lw_in hi hL 3 (by decide) rfl) d_law_213 ?_
  refine lv_aload_n hx hb d_law_214 rfl (lv_at hl 0 rfl) ?_
  refine lv_iload_n hx hb d_law_215 rfl (lv_at hl 3 rfl) ?_
  refine lv_iconst (v := 4) hx hb d_law_216 (by decide) ?_
  refine lv_iadd hx hb d_law_217 ?_
  refine va_sld hx hb hX hbl hbA hw.2.2.2.2.2.2.2 (lw_in hi hL 4 (by decide) rfl) d_law_218 ?_
  obtain ⟨r, stK2, stM2, qK, qM, hI2⟩ := hp stK stM (xs (nI i + 1).toNatClampNeg) (xs (nI i + 2).toNatClampNeg) (xs (nI i + 3).toNatClampNeg) (xs (nI i + 4).toNatClampNeg) hI
  refine lw_callK (As := [.int (xs (nI i + 1).toNatClampNeg), .int (xs (nI i + 2).toNatClampNeg), .int (xs (nI i + 3).toNatClampNeg), .int (xs (nI i + 4).toNatClampNeg)]) (rest := []) ⟨hx, hb, hml, hown, hts⟩ hw hnw (c_K_SF_member nwK_ok qK) (cw_law_23 hts (by decide)) rfl hl.1 rfl (Nat.le_of_ble_eq_true rfl) d_law_219 (by decide) (fun H locs hw => ?_)
  refine lv_aload_n hx hb d_law_222 rfl (lv_at hl 2 rfl) ?_
  refine lv_aload_n hx hb d_law_223 rfl (lv_at hl 0 rfl) ?_
  refine lv_iload_n hx hb d_law_224 rfl (lv_at hl 3 rfl) ?_
  refine lv_iconst (v := 1) hx hb d_law_225 (by decide) ?_
  refine lv_iadd hx hb d_law_226 ?_
  refine va_sld hx hb hX hbl hbA hw.2.2.2.2.2.2.2 (lw_in hi hL 1 (by decide) rfl) d_law_227 ?_
  refine lv_aload_n hx hb d_law_228 rfl (lv_at hl 0 rfl) ?_
  refine lv_iload_n hx hb d_law_229 rfl (lv_at hl 3 rfl) ?_
  refine lv_iconst (v := 2) hx hb d_law_230 (by decide) ?_
  refine lv_iadd hx hb d_law_231 ?_
  refine va_sld hx hb hX hbl hbA hw.2.2.2.2.2.2.2 (lw_in hi hL 2 (by decide) rfl) d_law_232 ?_
  refine lv_aload_n hx hb d_law_233 rfl (lv_at hl 0 rfl) ?_
  refine lv_iload_n hx hb d_law_234 rfl (lv_at hl 3 rfl) ?_
  refine lv_iconst (v := 3) hx hb d_law_235 (by decide) ?_
  refine lv_iadd hx hb d_law_236 ?_
  refine va_sld hx hb hX hbl hbA hw.2.2.2.2.2.2.2 (lw_in hi hL 3 (by decide) rfl) d_law_237 ?_
  refine lv_aload_n hx hb d_law_238 rfl (lv_at hl 0 rfl) ?_
  refine lv_iload_n hx hb d_law_239 rfl (lv_at hl 3 rfl) ?_
  refine lv_iconst (v := 4) hx hb d_law_240 (by decide) ?_
  refine lv_iadd hx hb d_law_241 ?_
  refine va_sld hx hb hX hbl hbA hw.2.2.2.2.2.2.2 (lw_in hi hL 4 (by decide) rfl) d_law_242 ?_
  refine lw_callM (As := [.int (xs (nI i + 1).toNatClampNeg), .int (xs (nI i + 2).toNatClampNeg), .int (xs (nI i + 3).toNatClampNeg), .int (xs (nI i + 4).toNatClampNeg)]) (rest := [.int r]) ⟨hx, hb, hml, hown, hts⟩ hw (c_M_member (nw := fun _ => True) ⟨fun _ _ _ _ _ _ => trivial, fun _ _ _ _ _ => trivial⟩ qM) (cw_law_27 hts (by decide)) rfl hl.1 rfl (Nat.le_of_ble_eq_true rfl) d_law_243 (by decide) (fun H locs hw => ?_)
  refine lv_icmp_eq (tgt := 790) hx hb d_law_246 (by decide) (fun c_246 => ?_) (fun c_246 => absurd rfl c_246)
  exact next _ _ _ _ _ hI2 hw hl
set_option maxHeartbeats 4000000 in
set_option maxRecDepth 100000 in
theorem lw_c3 {p : Program} {l : Launch} {e : Env} {s : State} {m : MethodId} {below : List Frame} {meth : Method} {c : Code} {Q : State → Prop} {D : va_G} {aK aM : Nat → Nat} {cI cJ cC cZ : ClassId} {adK adV : Nat → Nat} {b L : Nat} {xs : Nat → Int32} {N : Nat} {Inv : sk_M → sk_M → Prop} (C0 : lw_At p s m meth c b L xs) (hnw : nwK (lw_AK aK) adK adV s) (hp : pm_remove N Inv) {stK stM : sk_M} {H : Heap} {locs : List Loc} {ls : Array Slot} {i : Nat} (hi : i + 6 ≤ L) (hL : L ≤ 3072) (hI : Inv stK stM) (hw : lw_W D aK aM cI cJ cC cZ s stK stM H locs) (hl : lv_has ls 4 [(0, .ref b), (1, .ref (aK 0)), (2, .ref (aM 0)), (3, .int (nI i))])
    (next : ∀ (stK stM : sk_M) (H : Heap) (locs : List Loc) (ls : Array Slot), Inv stK stM → lw_W D aK aM cI cJ cC cZ s stK stM H locs → lv_has ls 4 [(0, .ref b), (1, .ref (aK 0)), (2, .ref (aM 0)), (3, .int (nI i))] → W p l e room_1 s m #[Value.ref b] below meth c H locs 84 5723 Q (F0 m 790 ls [])) : W p l e room_1 s m #[Value.ref b] below meth c H locs 84 5723 Q (F0 m 251 ls []) := by
  obtain ⟨hx, hb, hr, hml, hown, hts0, hX, hbl, hlocks, hgv⟩ := C0
  have hts : ∀ w ∈ TB, w.before #[Value.ref b] s = true := fun w h => hts0 w (List.mem_filter.mp h).1
  have hbA : ¬ (fun q : Nat => s.heap.size ≤ q) b := Nat.not_le.mpr hbl
  refine lv_aload_n hx hb d_law_251 rfl (lv_at hl 1 rfl) ?_
  refine lv_aload_n hx hb d_law_252 rfl (lv_at hl 0 rfl) ?_
  refine lv_iload_n hx hb d_law_253 rfl (lv_at hl 3 rfl) ?_
  refine lv_iconst (v := 1) hx hb d_law_254 (by decide) ?_
  refine lv_iadd hx hb d_law_255 ?_
  refine va_sld hx hb hX hbl hbA hw.2.2.2.2.2.2.2 (lw_in hi hL 1 (by decide) rfl) d_law_256 ?_
  obtain ⟨r, stK2, stM2, qK, qM, hI2⟩ := hp stK stM (xs (nI i + 1).toNatClampNeg) hI
  refine lw_callK (As := [.int (xs (nI i + 1).toNatClampNeg)]) (rest := []) ⟨hx, hb, hml, hown, hts⟩ hw hnw (c_K_SF_remove nwK_ok qK) (cw_law_28 hts (by decide)) rfl hl.1 rfl (Nat.le_of_ble_eq_true rfl) d_law_257 (by decide) (fun H locs hw => ?_)
  refine lv_aload_n hx hb d_law_260 rfl (lv_at hl 2 rfl) ?_
  refine lv_aload_n hx hb d_law_261 rfl (lv_at hl 0 rfl) ?_
  refine lv_iload_n hx hb d_law_262 rfl (lv_at hl 3 rfl) ?_
  refine lv_iconst (v := 1) hx hb d_law_263 (by decide) ?_
  refine lv_iadd hx hb d_law_264 ?_
  refine va_sld hx hb hX hbl hbA hw.2.2.2.2.2.2.2 (lw_in hi hL 1 (by decide) rfl) d_law_265 ?_
  refine lw_callM (As := [.int (xs (nI i + 1).toNatClampNeg)]) (rest := [.int r]) ⟨hx, hb, hml, hown, hts⟩ hw (c_M_remove (nw := fun _ => True) ⟨fun _ _ _ _ _ _ => trivial, fun _ _ _ _ _ => trivial⟩ qM) (cw_law_31 hts (by decide)) rfl hl.1 rfl (Nat.le_of_ble_eq_true rfl) d_law_266 (by decide) (fun H locs hw => ?_)
  refine lv_icmp_eq (tgt := 790) hx hb d_law_269 (by decide) (fun c_269 => ?_) (fun c_269 => absurd rfl c_269)
  exact next _ _ _ _ _ hI2 hw hl
set_option maxHeartbeats 4000000 in
set_option maxRecDepth 100000 in
theorem lw_c4 {p : Program} {l : Launch} {e : Env} {s : State} {m : MethodId} {below : List Frame} {meth : Method} {c : Code} {Q : State → Prop} {D : va_G} {aK aM : Nat → Nat} {cI cJ cC cZ : ClassId} {adK adV : Nat → Nat} {b L : Nat} {xs : Nat → Int32} {N : Nat} {Inv : sk_M → sk_M → Prop} (C0 : lw_At p s m meth c b L xs) (hnw : nwK (lw_AK aK) adK adV s) (hp : pm_refer N Inv) {stK stM : sk_M} {H : Heap} {locs : List Loc} {ls : Array Slot} {i : Nat} (hi : i + 6 ≤ L) (hL : L ≤ 3072) (hI : Inv stK stM) (hw : lw_W D aK aM cI cJ cC cZ s stK stM H locs) (hl : lv_has ls 4 [(0, .ref b), (1, .ref (aK 0)), (2, .ref (aM 0)), (3, .int (nI i))])
    (next : ∀ (stK stM : sk_M) (H : Heap) (locs : List Loc) (ls : Array Slot), Inv stK stM → lw_W D aK aM cI cJ cC cZ s stK stM H locs → lv_has ls 4 [(0, .ref b), (1, .ref (aK 0)), (2, .ref (aM 0)), (3, .int (nI i))] → W p l e room_1 s m #[Value.ref b] below meth c H locs 84 5723 Q (F0 m 790 ls [])) : W p l e room_1 s m #[Value.ref b] below meth c H locs 84 5723 Q (F0 m 274 ls []) := by
  obtain ⟨hx, hb, hr, hml, hown, hts0, hX, hbl, hlocks, hgv⟩ := C0
  have hts : ∀ w ∈ TB, w.before #[Value.ref b] s = true := fun w h => hts0 w (List.mem_filter.mp h).1
  have hbA : ¬ (fun q : Nat => s.heap.size ≤ q) b := Nat.not_le.mpr hbl
  refine lv_aload_n hx hb d_law_274 rfl (lv_at hl 1 rfl) ?_
  refine lv_aload_n hx hb d_law_275 rfl (lv_at hl 0 rfl) ?_
  refine lv_iload_n hx hb d_law_276 rfl (lv_at hl 3 rfl) ?_
  refine lv_iconst (v := 1) hx hb d_law_277 (by decide) ?_
  refine lv_iadd hx hb d_law_278 ?_
  refine va_sld hx hb hX hbl hbA hw.2.2.2.2.2.2.2 (lw_in hi hL 1 (by decide) rfl) d_law_279 ?_
  refine lv_aload_n hx hb d_law_280 rfl (lv_at hl 0 rfl) ?_
  refine lv_iload_n hx hb d_law_281 rfl (lv_at hl 3 rfl) ?_
  refine lv_iconst (v := 2) hx hb d_law_282 (by decide) ?_
  refine lv_iadd hx hb d_law_283 ?_
  refine va_sld hx hb hX hbl hbA hw.2.2.2.2.2.2.2 (lw_in hi hL 2 (by decide) rfl) d_law_284 ?_
  refine lv_aload_n hx hb d_law_285 rfl (lv_at hl 0 rfl) ?_
  refine lv_iload_n hx hb d_law_286 rfl (lv_at hl 3 rfl) ?_
  refine lv_iconst (v := 3) hx hb d_law_287 (by decide) ?_
  refine lv_iadd hx hb d_law_288 ?_
  refine va_sld hx hb hX hbl hbA hw.2.2.2.2.2.2.2 (lw_in hi hL 3 (by decide) rfl) d_law_289 ?_
  refine lv_aload_n hx hb d_law_290 rfl (lv_at hl 0 rfl) ?_
  refine lv_iload_n hx hb d_law_291 rfl (lv_at hl 3 rfl) ?_
  refine lv_iconst (v := 4) hx hb d_law_292 (by decide) ?_
  refine lv_iadd hx hb d_law_293 ?_
  refine va_sld hx hb hX hbl hbA hw.2.2.2.2.2.2.2 (lw_in hi hL 4 (by decide) rfl) d_law_294 ?_
  refine lv_aload_n hx hb d_law_295 rfl (lv_at hl 0 rfl) ?_
  refine lv_iload_n hx hb d_law_296 rfl (lv_at hl 3 rfl) ?_
  refine lv_iconst (v := 5) hx hb d_law_297 (by decide) ?_
  refine lv_iadd hx hb d_law_298 ?_
  refine va_sld hx hb hX hbl hbA hw.2.2.2.2.2.2.2 (lw_in hi hL 5 (by decide) rfl) d_law_299 ?_
  obtain ⟨r, stK2, stM2, qK, qM, hI2⟩ := hp stK stM (xs (nI i + 1).toNatClampNeg) (xs (nI i + 2).toNatClampNeg) (xs (nI i + 3).toNatClampNeg) (xs (nI i + 4).toNatClampNeg) (xs (nI i + 5).toNatClampNeg) hI
  refine lw_callK (As := [.int (xs (nI i + 1).toNatClampNeg), .int (xs (nI i + 2).toNatClampNeg), .int (xs (nI i + 3).toNatClampNeg), .int (xs (nI i + 4).toNatClampNeg), .int (xs (nI i + 5).toNatClampNeg)]) (rest := []) ⟨hx, hb, hml, hown, hts⟩ hw hnw (c_K_SF_refer nwK_ok qK) (cw_law_32 hts (by decide)) rfl hl.1 rfl (Nat.le_of_ble_eq_true rfl) d_law_300 (by decide) (fun H locs hw => ?_)
  refine lv_aload_n hx hb d_law_303 rfl (lv_at hl 2 rfl) ?_
  refine lv_aload_n hx hb d_law_304 rfl (lv_at hl 0 rfl) ?_
  refine lv_iload_n hx hb d_law_305 rfl (lv_at hl 3 rfl) ?_
  refine lv_iconst (v := 1) hx hb d_law_306 (by decide) ?_
  refine lv_iadd hx hb d_law_307 ?_
  refine va_sld hx hb hX hbl hbA hw.2.2.2.2.2.2.2 (lw_in hi hL 1 (by decide) rfl) d_law_308 ?_
  refine lv_aload_n hx hb d_law_309 rfl (lv_at hl 0 rfl) ?_
  refine lv_iload_n hx hb d_law_310 rfl (lv_at hl 3 rfl) ?_
  refine lv_iconst (v := 2) hx hb d_law_311 (by decide) ?_
  refine lv_iadd hx hb d_law_312 ?_
  refine va_sld hx hb hX hbl hbA hw.2.2.2.2.2.2.2 (lw_in hi hL 2 (by decide) rfl) d_law_313 ?_
  refine lv_aload_n hx hb d_law_314 rfl (lv_at hl 0 rfl) ?_
  refine lv_iload_n hx hb d_law_315 rfl (lv_at hl 3 rfl) ?_
  refine lv_iconst (v := 3) hx hb d_law_316 (by decide) ?_
  refine lv_iadd hx hb d_law_317 ?_
  refine va_sld hx hb hX hbl hbA hw.2.2.2.2.2.2.2 (lw_in hi hL 3 (by decide) rfl) d_law_318 ?_
  refine lv_aload_n hx hb d_law_319 rfl (lv_at hl 0 rfl) ?_
  refine lv_iload_n hx hb d_law_320 rfl (lv_at hl 3 rfl) ?_
  refine lv_iconst (v := 4) hx hb d_law_321 (by decide) ?_
  refine lv_iadd hx hb d_law_322 ?_
  refine va_sld hx hb hX hbl hbA hw.2.2.2.2.2.2.2 (lw_in hi hL 4 (by decide) rfl) d_law_323 ?_
  refine lv_aload_n hx hb d_law_324 rfl (lv_at hl 0 rfl) ?_
  refine lv_iload_n hx hb d_law_325 rfl (lv_at hl 3 rfl) ?_
  refine lv_iconst (v := 5) hx hb d_law_326 (by decide) ?_
  refine lv_iadd hx hb d_law_327 ?_
  refine va_sld hx hb hX hbl hbA hw.2.2.2.2.2.2.2 (lw_in hi hL 5 (by decide) rfl) d_law_328 ?_
  refine lw_callM (As := [.int (xs (nI i + 1).toNatClampNeg), .int (xs (nI i + 2).toNatClampNeg), .int (xs (nI i + 3).toNatClampNeg), .int (xs (nI i + 4).toNatClampNeg), .int (xs (nI i + 5).toNatClampNeg)]) (rest := [.int r]) ⟨hx, hb, hml, hown, hts⟩ hw (c_M_refer (nw := fun _ => True) ⟨fun _ _ _ _ _ _ => trivial, fun _ _ _ _ _ => trivial⟩ qM) (cw_law_36 hts (by decide)) rfl hl.1 rfl (Nat.le_of_ble_eq_true rfl) d_law_329 (by decide) (fun H locs hw => ?_)
  refine lv_icmp_eq (tgt := 790) hx hb d_law_332 (by decide) (fun c_332 => ?_) (fun c_332 => absurd rfl c_332)
  exact next _ _ _ _ _ hI2 hw hl
set_option maxHeartbeats 4000000 in
set_option maxRecDepth 100000 in
theorem lw_c5 {p : Program} {l : Launch} {e : Env} {s : State} {m : MethodId} {below : List Frame} {meth : Method} {c : Code} {Q : State → Prop} {D : va_G} {aK aM : Nat → Nat} {cI cJ cC cZ : ClassId} {adK adV : Nat → Nat} {b L : Nat} {xs : Nat → Int32} {N : Nat} {Inv : sk_M → sk_M → Prop} (C0 : lw_At p s m meth c b L xs) (hnw : nwK (lw_AK aK) adK adV s) (hp : pm_letter N Inv) {stK stM : sk_M} {H : Heap} {locs : List Loc} {ls : Array Slot} {i : Nat} (hi : i + 6 ≤ L) (hL : L ≤ 3072) (hI : Inv stK stM) (hw : lw_W D aK aM cI cJ cC cZ s stK stM H locs) (hl : lv_has ls 4 [(0, .ref b), (1, .ref (aK 0)), (2, .ref (aM 0)), (3, .int (nI i))])
    (next : ∀ (stK stM : sk_M) (H : Heap) (locs : List Loc) (ls : Array Slot), Inv stK stM → lw_W D aK aM cI cJ cC cZ s stK stM H locs → lv_has ls 4 [(0, .ref b), (1, .ref (aK 0)), (2, .ref (aM 0)), (3, .int (nI i))] → W p l e room_1 s m #[Value.ref b] below meth c H locs 84 5723 Q (F0 m 790 ls [])) : W p l e room_1 s m #[Value.ref b] below meth c H locs 84 5723 Q (F0 m 337 ls []) := by
  obtain ⟨hx, hb, hr, hml, hown, hts0, hX, hbl, hlocks, hgv⟩ := C0
  have hts : ∀ w ∈ TB, w.before #[Value.ref b] s = true := fun w h => hts0 w (List.mem_filter.mp h).1
  have hbA : ¬ (fun q : Nat => s.heap.size ≤ q) b := Nat.not_le.mpr hbl
  refine lv_aload_n hx hb d_law_337 rfl (lv_at hl 1 rfl) ?_
  refine lv_aload_n hx hb d_law_338 rfl (lv_at hl 0 rfl) ?_
  refine lv_iload_n hx hb d_law_339 rfl (lv_at hl 3 rfl) ?_
  refine lv_iconst (v := 1) hx hb d_law_340 (by decide) ?_
  refine lv_iadd hx hb d_law_341 ?_
  refine va_sld hx hb hX hbl hbA hw.2.2.2.2.2.2.2 (lw_in hi hL 1 (by decide) rfl) d_law_342 ?_
  obtain ⟨r, stK2, stM2, qK, qM, hI2⟩ := hp stK stM (xs (nI i + 1).toNatClampNeg) hI
  refine lw_callK (As := [.int (xs (nI i + 1).toNatClampNeg)]) (rest := []) ⟨hx, hb, hml, hown, hts⟩ hw hnw (c_K_SF_letter nwK_ok qK) (cw_law_37 hts (by decide)) rfl hl.1 rfl (Nat.le_of_ble_eq_true rfl) d_law_343 (by decide) (fun H locs hw => ?_)
  refine lv_aload_n hx hb d_law_346 rfl (lv_at hl 2 rfl) ?_
  refine lv_aload_n hx hb d_law_347 rfl (lv_at hl 0 rfl) ?_
  refine lv_iload_n hx hb d_law_348 rfl (lv_at hl 3 rfl) ?_
  refine lv_iconst (v := 1) hx hb d_law_349 (by decide) ?_
  refine lv_iadd hx hb d_law_350 ?_
  refine va_sld hx hb hX hbl hbA hw.2.2.2.2.2.2.2 (lw_in hi hL 1 (by decide) rfl) d_law_351 ?_
  refine lw_callM (As := [.int (xs (nI i + 1).toNatClampNeg)]) (rest := [.int r]) ⟨hx, hb, hml, hown, hts⟩ hw (c_M_letter (nw := fun _ => True) ⟨fun _ _ _ _ _ _ => trivial, fun _ _ _ _ _ => trivial⟩ qM) (cw_law_41 hts (by decide)) rfl hl.1 rfl (Nat.le_of_ble_eq_true rfl) d_law_352 (by decide) (fun H locs hw => ?_)
  refine lv_icmp_eq (tgt := 790) hx hb d_law_355 (by decide) (fun c_355 => ?_) (fun c_355 => absurd rfl c_355)
  exact next _ _ _ _ _ hI2 hw hl
set_option maxHeartbeats 4000000 in
set_option maxRecDepth 100000 in
theorem lw_c6 {p : Program} {l : Launch} {e : Env} {s : State} {m : MethodId} {below : List Frame} {meth : Method} {c : Code} {Q : State → Prop} {D : va_G} {aK aM : Nat → Nat} {cI cJ cC cZ : ClassId} {adK adV : Nat → Nat} {b L : Nat} {xs : Nat → Int32} {N : Nat} {Inv : sk_M → sk_M → Prop} (C0 : lw_At p s m meth c b L xs) (hnw : nwK (lw_AK aK) adK adV s) (hp : pm_rule N Inv) {stK stM : sk_M} {H : Heap} {locs : List Loc} {ls : Array Slot} {i : Nat} (hi : i + 6 ≤ L) (hL : L ≤ 3072) (hI : Inv stK stM) (hw : lw_W D aK aM cI cJ cC cZ s stK stM H locs) (hl : lv_has ls 4 [(0, .ref b), (1, .ref (aK 0)), (2, .ref (aM 0)), (3, .int (nI i))])
    (next : ∀ (stK stM : sk_M) (H : Heap) (locs : List Loc) (ls : Array Slot), Inv stK stM → lw_W D aK aM cI cJ cC cZ s stK stM H locs → lv_has ls 4 [(0, .ref b), (1, .ref (aK 0)), (2, .ref (aM 0)), (3, .int (nI i))] → W p l e room_1 s m #[Value.ref b] below meth c H locs 84 5723 Q (F0 m 790 ls [])) : W p l e room_1 s m #[Value.ref b] below meth c H locs 84 5723 Q (F0 m 360 ls []) := by
  obtain ⟨hx, hb, hr, hml, hown, hts0, hX, hbl, hlocks, hgv⟩ := C0
  have hts : ∀ w ∈ TB, w.before #[Value.ref b] s = true := fun w h => hts0 w (List.mem_filter.mp h).1
  have hbA : ¬ (fun q : Nat => s.heap.size ≤ q) b := Nat.not_le.mpr hbl
  refine lv_aload_n hx hb d_law_360 rfl (lv_at hl 1 rfl) ?_
  obtain ⟨r, stK2, stM2, qK, qM, hI2⟩ := hp stK stM  hI
  refine lw_callK (As := []) (rest := []) ⟨hx, hb, hml, hown, hts⟩ hw hnw (c_K_SF_rule nwK_ok qK) (cw_law_42 hts (by decide)) rfl hl.1 rfl (Nat.le_of_ble_eq_true rfl) d_law_361 (by decide) (fun H locs hw => ?_)
  refine lv_aload_n hx hb d_law_364 rfl (lv_at hl 2 rfl) ?_
  refine lw_callM (As := []) (rest := [.int r]) ⟨hx, hb, hml, hown, hts⟩ hw (c_M_rule (nw := fun _ => True) ⟨fun _ _ _ _ _ _ => trivial, fun _ _ _ _ _ => trivial⟩ qM) (cw_law_46 hts (by decide)) rfl hl.1 rfl (Nat.le_of_ble_eq_true rfl) d_law_365 (by decide) (fun H locs hw => ?_)
  refine lv_icmp_eq (tgt := 790) hx hb d_law_368 (by decide) (fun c_368 => ?_) (fun c_368 => absurd rfl c_368)
  exact next _ _ _ _ _ hI2 hw hl
set_option maxHeartbeats 4000000 in
set_option maxRecDepth 100000 in
theorem lw_c7 {p : Program} {l : Launch} {e : Env} {s : State} {m : MethodId} {below : List Frame} {meth : Method} {c : Code} {Q : State → Prop} {D : va_G} {aK aM : Nat → Nat} {cI cJ cC cZ : ClassId} {adK adV : Nat → Nat} {b L : Nat} {xs : Nat → Int32} {N : Nat} {Inv : sk_M → sk_M → Prop} (C0 : lw_At p s m meth c b L xs) (hnw : nwK (lw_AK aK) adK adV s) (hp : pm_clear N Inv) {stK stM : sk_M} {H : Heap} {locs : List Loc} {ls : Array Slot} {i : Nat} (hi : i + 6 ≤ L) (hL : L ≤ 3072) (hI : Inv stK stM) (hw : lw_W D aK aM cI cJ cC cZ s stK stM H locs) (hl : lv_has ls 4 [(0, .ref b), (1, .ref (aK 0)), (2, .ref (aM 0)), (3, .int (nI i))])
    (next : ∀ (stK stM : sk_M) (H : Heap) (locs : List Loc) (ls : Array Slot), Inv stK stM → lw_W D aK aM cI cJ cC cZ s stK stM H locs → lv_has ls 4 [(0, .ref b), (1, .ref (aK 0)), (2, .ref (aM 0)), (3, .int (nI i))] → W p l e room_1 s m #[Value.ref b] below meth c H locs 84 5723 Q (F0 m 790 ls [])) : W p l e room_1 s m #[Value.ref b] below meth c H locs 84 5723 Q (F0 m 373 ls []) := by
  obtain ⟨hx, hb, hr, hml, hown, hts0, hX, hbl, hlocks, hgv⟩ := C0
  have hts : ∀ w ∈ TB, w.before #[Value.ref b] s = true := fun w h => hts0 w (List.mem_filter.mp h).1
  have hbA : ¬ (fun q : Nat => s.heap.size ≤ q) b := Nat.not_le.mpr hbl
  refine lv_aload_n hx hb d_law_373 rfl (lv_at hl 1 rfl) ?_
  refine lv_aload_n hx hb d_law_374 rfl (lv_at hl 0 rfl) ?_
  refine lv_iload_n hx hb d_law_375 rfl (lv_at hl 3 rfl) ?_
  refine lv_iconst (v := 1) hx hb d_law_376 (by decide) ?_
  refine lv_iadd hx hb d_law_377 ?_
  refine va_sld hx hb hX hbl hbA hw.2.2.2.2.2.2.2 (lw_in hi hL 1 (by decide) rfl) d_law_378 ?_
  refine lv_if_eq (tgt := 386) hx hb d_law_379 (by decide) (fun p_379 => ?_) (fun n_379 => ?_)
  · refine lv_iconst (v := 0) hx hb d_law_386 (by decide) ?_
    obtain ⟨r, stK2, stM2, qK, qM, hI2⟩ := hp stK stM 0 hI (Or.inl rfl)
    refine lw_callK (As := [.int 0]) (rest := []) ⟨hx, hb, hml, hown, hts⟩ hw hnw (c_K_SF_clear nwK_ok qK) (cw_law_47 hts (by decide)) rfl hl.1 rfl (Nat.le_of_ble_eq_true rfl) d_law_387 (by decide) (fun H locs hw => ?_)
    refine lv_aload_n hx hb d_law_390 rfl (lv_at hl 2 rfl) ?_
    refine lv_aload_n hx hb d_law_391 rfl (lv_at hl 0 rfl) ?_
    refine lv_iload_n hx hb d_law_392 rfl (lv_at hl 3 rfl) ?_
    refine lv_iconst (v := 1) hx hb d_law_393 (by decide) ?_
    refine lv_iadd hx hb d_law_394 ?_
    refine va_sld hx hb hX hbl hbA hw.2.2.2.2.2.2.2 (lw_in hi hL 1 (by decide) rfl) d_law_395 ?_
    refine lv_if_eq (tgt := 403) hx hb d_law_396 (by decide) (fun c_396 => ?_) (fun c_396 => absurd p_379 c_396)
    refine lv_iconst (v := 0) hx hb d_law_403 (by decide) ?_
    refine lw_callM (As := [.int 0]) (rest := [.int r]) ⟨hx, hb, hml, hown, hts⟩ hw (c_M_clear (nw := fun _ => True) ⟨fun _ _ _ _ _ _ => trivial, fun _ _ _ _ _ => trivial⟩ qM) (cw_law_51 hts (by decide)) rfl hl.1 rfl (Nat.le_of_ble_eq_true rfl) d_law_404 (by decide) (fun H locs hw => ?_)
    refine lv_icmp_eq (tgt := 790) hx hb d_law_407 (by decide) (fun c_407 => ?_) (fun c_407 => absurd rfl c_407)
    exact next _ _ _ _ _ hI2 hw hl
  · refine lv_iconst (v := 1) hx hb d_law_382 (by decide) ?_
    refine lv_goto (tgt := 387) hx hb d_law_383 (by decide) ?_
    obtain ⟨r, stK2, stM2, qK, qM, hI2⟩ := hp stK stM 1 hI (Or.inr rfl)
    refine lw_callK (As := [.int 1]) (rest := []) ⟨hx, hb, hml, hown, hts⟩ hw hnw (c_K_SF_clear nwK_ok qK) (cw_law_47 hts (by decide)) rfl hl.1 rfl (Nat.le_of_ble_eq_true rfl) d_law_387 (by decide) (fun H locs hw => ?_)
    refine lv_aload_n hx hb d_law_390 rfl (lv_at hl 2 rfl) ?_
    refine lv_aload_n hx hb d_law_391 rfl (lv_at hl 0 rfl) ?_
    refine lv_iload_n hx hb d_law_392 rfl (lv_at hl 3 rfl) ?_
    refine lv_iconst (v := 1) hx hb d_law_393 (by decide) ?_
    refine lv_iadd hx hb d_law_394 ?_
    refine va_sld hx hb hX hbl hbA hw.2.2.2.2.2.2.2 (lw_in hi hL 1 (by decide) rfl) d_law_395 ?_
    refine lv_if_eq (tgt := 403) hx hb d_law_396 (by decide) (fun c_396 => absurd c_396 n_379) (fun c_396 => ?_)
    refine lv_iconst (v := 1) hx hb d_law_399 (by decide) ?_
    refine lv_goto (tgt := 404) hx hb d_law_400 (by decide) ?_
    refine lw_callM (As := [.int 1]) (rest := [.int r]) ⟨hx, hb, hml, hown, hts⟩ hw (c_M_clear (nw := fun _ => True) ⟨fun _ _ _ _ _ _ => trivial, fun _ _ _ _ _ => trivial⟩ qM) (cw_law_51 hts (by decide)) rfl hl.1 rfl (Nat.le_of_ble_eq_true rfl) d_law_404 (by decide) (fun H locs hw => ?_)
    refine lv_icmp_eq (tgt := 790) hx hb d_law_407 (by decide) (fun c_407 => ?_) (fun c_407 => absurd rfl c_407)
    exact next _ _ _ _ _ hI2 hw hl
set_option maxHeartbeats 4000000 in
set_option maxRecDepth 100000 in
theorem lw_c8 {p : Program} {l : Launch} {e : Env} {s : State} {m : MethodId} {below : List Frame} {meth : Method} {c : Code} {Q : State → Prop} {D : va_G} {aK aM : Nat → Nat} {cI cJ cC cZ : ClassId} {adK adV : Nat → Nat} {b L : Nat} {xs : Nat → Int32} {N : Nat} {Inv : sk_M → sk_M → Prop} (C0 : lw_At p s m meth c b L xs) (hnw : nwK (lw_AK aK) adK adV s) (hp : pm_needs N Inv) {stK stM : sk_M} {H : Heap} {locs : List Loc} {ls : Array Slot} {i : Nat} (hi : i + 6 ≤ L) (hL : L ≤ 3072) (hI : Inv stK stM) (hw : lw_W D aK aM cI cJ cC cZ s stK stM H locs) (hl : lv_has ls 4 [(0, .ref b), (1, .ref (aK 0)), (2, .ref (aM 0)), (3, .int (nI i))])
    (next : ∀ (stK stM : sk_M) (H : Heap) (locs : List Loc) (ls : Array Slot), Inv stK stM → lw_W D aK aM cI cJ cC cZ s stK stM H locs → lv_has ls 4 [(0, .ref b), (1, .ref (aK 0)), (2, .ref (aM 0)), (3, .int (nI i))] → W p l e room_1 s m #[Value.ref b] below meth c H locs 84 5723 Q (F0 m 790 ls [])) : W p l e room_1 s m #[Value.ref b] below meth c H locs 84 5723 Q (F0 m 412 ls []) := by
  obtain ⟨hx, hb, hr, hml, hown, hts0, hX, hbl, hlocks, hgv⟩ := C0
  have hts : ∀ w ∈ TB, w.before #[Value.ref b] s = true := fun w h => hts0 w (List.mem_filter.mp h).1
  have hbA : ¬ (fun q : Nat => s.heap.size ≤ q) b := Nat.not_le.mpr hbl
  refine lv_aload_n hx hb d_law_412 rfl (lv_at hl 1 rfl) ?_
  refine lv_aload_n hx hb d_law_413 rfl (lv_at hl 0 rfl) ?_
  refine lv_iload_n hx hb d_law_414 rfl (lv_at hl 3 rfl) ?_
  refine lv_iconst (v := 1) hx hb d_law_415 (by decide) ?_
  refine lv_iadd hx hb d_law_416 ?_
  refine va_sld hx hb hX hbl hbA hw.2.2.2.2.2.2.2 (lw_in hi hL 1 (by decide) rfl) d_law_417 ?_
  refine lv_aload_n hx hb d_law_418 rfl (lv_at hl 0 rfl) ?_
  refine lv_iload_n hx hb d_law_419 rfl (lv_at hl 3 rfl) ?_
  refine lv_iconst (v := 2) hx hb d_law_420 (by decide) ?_
  refine lv_iadd hx hb d_law_421 ?_
  refine va_sld hx hb hX hbl hbA hw.2.2.2.2.2.2.2 (lw_in hi hL 2 (by decide) rfl) d_law_422 ?_
  obtain ⟨r, stK2, stM2, qK, qM, hI2⟩ := hp stK stM (xs (nI i + 1).toNatClampNeg) (xs (nI i + 2).toNatClampNeg) hI
  refine lw_callK (As := [.int (xs (nI i + 1).toNatClampNeg), .int (xs (nI i + 2).toNatClampNeg)]) (rest := []) ⟨hx, hb, hml, hown, hts⟩ hw hnw (c_K_SF_needs nwK_ok qK) (cw_law_52 hts (by decide)) rfl hl.1 rfl (Nat.le_of_ble_eq_true rfl) d_law_423 (by decide) (fun H locs hw => ?_)
  refine lv_aload_n hx hb d_law_426 rfl (lv_at hl 2 rfl) ?_
  refine lv_aload_n hx hb d_law_427 rfl (lv_at hl 0 rfl) ?_
  refine lv_iload_n hx hb d_law_428 rfl (lv_at hl 3 rfl) ?_
  refine lv_iconst (v := 1) hx hb d_law_429 (by decide) ?_
  refine lv_iadd hx hb d_law_430 ?_
  refine va_sld hx hb hX hbl hbA hw.2.2.2.2.2.2.2 (lw_in hi hL 1 (by decide) rfl) d_law_431 ?_
  refine lv_aload_n hx hb d_law_432 rfl (lv_at hl 0 rfl) ?_
  refine lv_iload_n hx hb d_law_433 rfl (lv_at hl 3 rfl) ?_
  refine lv_iconst (v := 2) hx hb d_law_434 (by decide) ?_
  refine lv_iadd hx hb d_law_435 ?_
  refine va_sld hx hb hX hbl hbA hw.2.2.2.2.2.2.2 (lw_in hi hL 2 (by decide) rfl) d_law_436 ?_
  refine lw_callM (As := [.int (xs (nI i + 1).toNatClampNeg), .int (xs (nI i + 2).toNatClampNeg)]) (rest := [.int r]) ⟨hx, hb, hml, hown, hts⟩ hw (c_M_needs (nw := fun _ => True) ⟨fun _ _ _ _ _ _ => trivial, fun _ _ _ _ _ => trivial⟩ qM) (cw_law_56 hts (by decide)) rfl hl.1 rfl (Nat.le_of_ble_eq_true rfl) d_law_437 (by decide) (fun H locs hw => ?_)
  refine lv_icmp_eq (tgt := 790) hx hb d_law_440 (by decide) (fun c_440 => ?_) (fun c_440 => absurd rfl c_440)
  exact next _ _ _ _ _ hI2 hw hl
set_option maxHeartbeats 4000000 in
set_option maxRecDepth 100000 in
theorem lw_c9 {p : Program} {l : Launch} {e : Env} {s : State} {m : MethodId} {below : List Frame} {meth : Method} {c : Code} {Q : State → Prop} {D : va_G} {aK aM : Nat → Nat} {cI cJ cC cZ : ClassId} {adK adV : Nat → Nat} {b L : Nat} {xs : Nat → Int32} {N : Nat} {Inv : sk_M → sk_M → Prop} (C0 : lw_At p s m meth c b L xs) (hnw : nwK (lw_AK aK) adK adV s) (hp : pm_part N Inv) {stK stM : sk_M} {H : Heap} {locs : List Loc} {ls : Array Slot} {i : Nat} (hi : i + 6 ≤ L) (hL : L ≤ 3072) (hI : Inv stK stM) (hw : lw_W D aK aM cI cJ cC cZ s stK stM H locs) (hl : lv_has ls 4 [(0, .ref b), (1, .ref (aK 0)), (2, .ref (aM 0)), (3, .int (nI i))])
    (next : ∀ (stK stM : sk_M) (H : Heap) (locs : List Loc) (ls : Array Slot), Inv stK stM → lw_W D aK aM cI cJ cC cZ s stK stM H locs → lv_has ls 4 [(0, .ref b), (1, .ref (aK 0)), (2, .ref (aM 0)), (3, .int (nI i))] → W p l e room_1 s m #[Value.ref b] below meth c H locs 84 5723 Q (F0 m 790 ls [])) : W p l e room_1 s m #[Value.ref b] below meth c H locs 84 5723 Q (F0 m 445 ls []) := by
  obtain ⟨hx, hb, hr, hml, hown, hts0, hX, hbl, hlocks, hgv⟩ := C0
  have hts : ∀ w ∈ TB, w.before #[Value.ref b] s = true := fun w h => hts0 w (List.mem_filter.mp h).1
  have hbA : ¬ (fun q : Nat => s.heap.size ≤ q) b := Nat.not_le.mpr hbl
  refine lv_aload_n hx hb d_law_445 rfl (lv_at hl 1 rfl) ?_
  refine lv_aload_n hx hb d_law_446 rfl (lv_at hl 0 rfl) ?_
  refine lv_iload_n hx hb d_law_447 rfl (lv_at hl 3 rfl) ?_
  refine lv_iconst (v := 1) hx hb d_law_448 (by decide) ?_
  refine lv_iadd hx hb d_law_449 ?_
  refine va_sld hx hb hX hbl hbA hw.2.2.2.2.2.2.2 (lw_in hi hL 1 (by decide) rfl) d_law_450 ?_
  refine lv_aload_n hx hb d_law_451 rfl (lv_at hl 0 rfl) ?_
  refine lv_iload_n hx hb d_law_452 rfl (lv_at hl 3 rfl) ?_
  refine lv_iconst (v := 2) hx hb d_law_453 (by decide) ?_
  refine lv_iadd hx hb d_law_454 ?_
  refine va_sld hx hb hX hbl hbA hw.2.2.2.2.2.2.2 (lw_in hi hL 2 (by decide) rfl) d_law_455 ?_
  obtain ⟨r, stK2, stM2, qK, qM, hI2⟩ := hp stK stM (xs (nI i + 1).toNatClampNeg) (xs (nI i + 2).toNatClampNeg) hI
  refine lw_callK (As := [.int (xs (nI i + 1).toNatClampNeg), .int (xs (nI i + 2).toNatClampNeg)]) (rest := []) ⟨hx, hb, hml, hown, hts⟩ hw hnw (c_K_SF_part nwK_ok qK) (cw_law_57 hts (by decide)) rfl hl.1 rfl (Nat.le_of_ble_eq_true rfl) d_law_456 (by decide) (fun H locs hw => ?_)
  refine lv_aload_n hx hb d_law_459 rfl (lv_at hl 2 rfl) ?_
  refine lv_aload_n hx hb d_law_460 rfl (lv_at hl 0 rfl) ?_
  refine lv_iload_n hx hb d_law_461 rfl (lv_at hl 3 rfl) ?_
  refine lv_iconst (v := 1) hx hb d_law_462 (by decide) ?_
  refine lv_iadd hx hb d_law_463 ?_
  refine va_sld hx hb hX hbl hbA hw.2.2.2.2.2.2.2 (lw_in hi hL 1 (by decide) rfl) d_law_464 ?_
  refine lv_aload_n hx hb d_law_465 rfl (lv_at hl 0 rfl) ?_
  refine lv_iload_n hx hb d_law_466 rfl (lv_at hl 3 rfl) ?_
  refine lv_iconst (v := 2) hx hb d_law_467 (by decide) ?_
  refine lv_iadd hx hb d_law_468 ?_
  refine va_sld hx hb hX hbl hbA hw.2.2.2.2.2.2.2 (lw_in hi hL 2 (by decide) rfl) d_law_469 ?_
  refine lw_callM (As := [.int (xs (nI i + 1).toNatClampNeg), .int (xs (nI i + 2).toNatClampNeg)]) (rest := [.int r]) ⟨hx, hb, hml, hown, hts⟩ hw (c_M_part (nw := fun _ => True) ⟨fun _ _ _ _ _ _ => trivial, fun _ _ _ _ _ => trivial⟩ qM) (cw_law_60 hts (by decide)) rfl hl.1 rfl (Nat.le_of_ble_eq_true rfl) d_law_470 (by decide) (fun H locs hw => ?_)
  refine lv_icmp_eq (tgt := 790) hx hb d_law_473 (by decide) (fun c_473 => ?_) (fun c_473 => absurd rfl c_473)
  exact next _ _ _ _ _ hI2 hw hl
set_option maxHeartbeats 4000000 in
set_option maxRecDepth 100000 in
theorem lw_c10 {p : Program} {l : Launch} {e : Env} {s : State} {m : MethodId} {below : List Frame} {meth : Method} {c : Code} {Q : State → Prop} {D : va_G} {aK aM : Nat → Nat} {cI cJ cC cZ : ClassId} {adK adV : Nat → Nat} {b L : Nat} {xs : Nat → Int32} {N : Nat} {Inv : sk_M → sk_M → Prop} (C0 : lw_At p s m meth c b L xs) (hnw : nwK (lw_AK aK) adK adV s) (hp : pm_found N Inv) {stK stM : sk_M} {H : Heap} {locs : List Loc} {ls : Array Slot} {i : Nat} (hi : i + 6 ≤ L) (hL : L ≤ 3072) (hI : Inv stK stM) (hw : lw_W D aK aM cI cJ cC cZ s stK stM H locs) (hl : lv_has ls 4 [(0, .ref b), (1, .ref (aK 0)), (2, .ref (aM 0)), (3, .int (nI i))])
    (next : ∀ (stK stM : sk_M) (H : Heap) (locs : List Loc) (ls : Array Slot), Inv stK stM → lw_W D aK aM cI cJ cC cZ s stK stM H locs → lv_has ls 4 [(0, .ref b), (1, .ref (aK 0)), (2, .ref (aM 0)), (3, .int (nI i))] → W p l e room_1 s m #[Value.ref b] below meth c H locs 84 5723 Q (F0 m 790 ls [])) : W p l e room_1 s m #[Value.ref b] below meth c H locs 84 5723 Q (F0 m 478 ls []) := by
  obtain ⟨hx, hb, hr, hml, hown, hts0, hX, hbl, hlocks, hgv⟩ := C0
  have hts : ∀ w ∈ TB, w.before #[Value.ref b] s = true := fun w h => hts0 w (List.mem_filter.mp h).1
  have hbA : ¬ (fun q : Nat => s.heap.size ≤ q) b := Nat.not_le.mpr hbl
  refine lv_aload_n hx hb d_law_478 rfl (lv_at hl 1 rfl) ?_
  refine lv_aload_n hx hb d_law_479 rfl (lv_at hl 0 rfl) ?_
  refine lv_iload_n hx hb d_law_480 rfl (lv_at hl 3 rfl) ?_
  refine lv_iconst (v := 1) hx hb d_law_481 (by decide) ?_
  refine lv_iadd hx hb d_law_482 ?_
  refine va_sld hx hb hX hbl hbA hw.2.2.2.2.2.2.2 (lw_in hi hL 1 (by decide) rfl) d_law_483 ?_
  refine lv_aload_n hx hb d_law_484 rfl (lv_at hl 0 rfl) ?_
  refine lv_iload_n hx hb d_law_485 rfl (lv_at hl 3 rfl) ?_
  refine lv_iconst (v := 2) hx hb d_law_486 (by decide) ?_
  refine lv_iadd hx hb d_law_487 ?_
  refine va_sld hx hb hX hbl hbA hw.2.2.2.2.2.2.2 (lw_in hi hL 2 (by decide) rfl) d_law_488 ?_
  refine lv_aload_n hx hb d_law_489 rfl (lv_at hl 0 rfl) ?_
  refine lv_iload_n hx hb d_law_490 rfl (lv_at hl 3 rfl) ?_
  refine lv_iconst (v := 3) hx hb d_law_491 (by decide) ?_
  refine lv_iadd hx hb d_law_492 ?_
  refine va_sld hx hb hX hbl hbA hw.2.2.2.2.2.2.2 (lw_in hi hL 3 (by decide) rfl) d_law_493 ?_
  refine lv_aload_n hx hb d_law_494 rfl (lv_at hl 0 rfl) ?_
  refine lv_iload_n hx hb d_law_495 rfl (lv_at hl 3 rfl) ?_
  refine lv_iconst (v := 4) hx hb d_law_496 (by decide) ?_
  refine lv_iadd hx hb d_law_497 ?_
  refine va_sld hx hb hX hbl hbA hw.2.2.2.2.2.2.2 (lw_in hi hL 4 (by decide) rfl) d_law_498 ?_
  refine lv_aload_n hx hb d_law_499 rfl (lv_at hl 0 rfl) ?_
  refine lv_iload_n hx hb d_law_500 rfl (lv_at hl 3 rfl) ?_
  refine lv_iconst (v := 5) hx hb d_law_501 (by decide) ?_
  refine lv_iadd hx hb d_law_502 ?_
  refine va_sld hx hb hX hbl hbA hw.2.2.2.2.2.2.2 (lw_in hi hL 5 (by decide) rfl) d_law_503 ?_
  refine lv_if_eq (tgt := 511) hx hb d_law_504 (by decide) (fun p_504 => ?_) (fun n_504 => ?_)
  · refine lv_iconst (v := 0) hx hb d_law_511 (by decide) ?_
    obtain ⟨r, stK2, stM2, qK, qM, hI2⟩ := hp stK stM (xs (nI i + 1).toNatClampNeg) (xs (nI i + 2).toNatClampNeg) (xs (nI i + 3).toNatClampNeg) (xs (nI i + 4).toNatClampNeg) 0 hI (Or.inl rfl)
    refine lw_callK (As := [.int (xs (nI i + 1).toNatClampNeg), .int (xs (nI i + 2).toNatClampNeg), .int (xs (nI i + 3).toNatClampNeg), .int (xs (nI i + 4).toNatClampNeg), .int 0]) (rest := []) ⟨hx, hb, hml, hown, hts⟩ hw hnw (c_K_SF_found nwK_ok qK) (cw_law_61 hts (by decide)) rfl hl.1 rfl (Nat.le_of_ble_eq_true rfl) d_law_512 (by decide) (fun H locs hw => ?_)
    refine lv_aload_n hx hb d_law_515 rfl (lv_at hl 2 rfl) ?_
    refine lv_aload_n hx hb d_law_516 rfl (lv_at hl 0 rfl) ?_
    refine lv_iload_n hx hb d_law_517 rfl (lv_at hl 3 rfl) ?_
    refine lv_iconst (v := 1) hx hb d_law_518 (by decide) ?_
    refine lv_iadd hx hb d_law_519 ?_
    refine va_sld hx hb hX hbl hbA hw.2.2.2.2.2.2.2 (lw_in hi hL 1 (by decide) rfl) d_law_520 ?_
    refine lv_aload_n hx hb d_law_521 rfl (lv_at hl 0 rfl) ?_
    refine lv_iload_n hx hb d_law_522 rfl (lv_at hl 3 rfl) ?_
    refine lv_iconst (v := 2) hx hb d_law_523 (by decide) ?_
    refine lv_iadd hx hb d_law_524 ?_
    refine va_sld hx hb hX hbl hbA hw.2.2.2.2.2.2.2 (lw_in hi hL 2 (by decide) rfl) d_law_525 ?_
    refine lv_aload_n hx hb d_law_526 rfl (lv_at hl 0 rfl) ?_
    refine lv_iload_n hx hb d_law_527 rfl (lv_at hl 3 rfl) ?_
    refine lv_iconst (v := 3) hx hb d_law_528 (by decide) ?_
    refine lv_iadd hx hb d_law_529 ?_
    refine va_sld hx hb hX hbl hbA hw.2.2.2.2.2.2.2 (lw_in hi hL 3 (by decide) rfl) d_law_530 ?_
    refine lv_aload_n hx hb d_law_531 rfl (lv_at hl 0 rfl) ?_
    refine lv_iload_n hx hb d_law_532 rfl (lv_at hl 3 rfl) ?_
    refine lv_iconst (v := 4) hx hb d_law_533 (by decide) ?_
    refine lv_iadd hx hb d_law_534 ?_
    refine va_sld hx hb hX hbl hbA hw.2.2.2.2.2.2.2 (lw_in hi hL 4 (by decide) rfl) d_law_535 ?_
    refine lv_aload_n hx hb d_law_536 rfl (lv_at hl 0 rfl) ?_
    refine lv_iload_n hx hb d_law_537 rfl (lv_at hl 3 rfl) ?_
    refine lv_iconst (v := 5) hx hb d_law_538 (by decide) ?_
    refine lv_iadd hx hb d_law_539 ?_
    refine va_sld hx hb hX hbl hbA hw.2.2.2.2.2.2.2 (lw_in hi hL 5 (by decide) rfl) d_law_540 ?_
    refine lv_if_eq (tgt := 548) hx hb d_law_541 (by decide) (fun c_541 => ?_) (fun c_541 => absurd p_504 c_541)
    refine lv_iconst (v := 0) hx hb d_law_548 (by decide) ?_
    refine lw_callM (As := [.int (xs (nI i + 1).toNatClampNeg), .int (xs (nI i + 2).toNatClampNeg), .int (xs (nI i + 3).toNatClampNeg), .int (xs (nI i + 4).toNatClampNeg), .int 0]) (rest := [.int r]) ⟨hx, hb, hml, hown, hts⟩ hw (c_M_found (nw := fun _ => True) ⟨fun _ _ _ _ _ _ => trivial, fun _ _ _ _ _ => trivial⟩ qM) (cw_law_65 hts (by decide)) rfl hl.1 rfl (Nat.le_of_ble_eq_true rfl) d_law_549 (by decide) (fun H locs hw => ?_)
    refine lv_icmp_eq (tgt := 790) hx hb d_law_552 (by decide) (fun c_552 => ?_) (fun c_552 => absurd rfl c_552)
    exact next _ _ _ _ _ hI2 hw hl
  · refine lv_iconst (v := 1) hx hb d_law_507 (by decide) ?_
    refine lv_goto (tgt := 512) hx hb d_law_508 (by decide) ?_
    obtain ⟨r, stK2, stM2, qK, qM, hI2⟩ := hp stK stM (xs (nI i + 1).toNatClampNeg) (xs (nI i + 2).toNatClampNeg) (xs (nI i + 3).toNatClampNeg) (xs (nI i + 4).toNatClampNeg) 1 hI (Or.inr rfl)
    refine lw_callK (As := [.int (xs (nI i + 1).toNatClampNeg), .int (xs (nI i + 2).toNatClampNeg), .int (xs (nI i + 3).toNatClampNeg), .int (xs (nI i + 4).toNatClampNeg), .int 1]) (rest := []) ⟨hx, hb, hml, hown, hts⟩ hw hnw (c_K_SF_found nwK_ok qK) (cw_law_61 hts (by decide)) rfl hl.1 rfl (Nat.le_of_ble_eq_true rfl) d_law_512 (by decide) (fun H locs hw => ?_)
    refine lv_aload_n hx hb d_law_515 rfl (lv_at hl 2 rfl) ?_
    refine lv_aload_n hx hb d_law_516 rfl (lv_at hl 0 rfl) ?_
    refine lv_iload_n hx hb d_law_517 rfl (lv_at hl 3 rfl) ?_
    refine lv_iconst (v := 1) hx hb d_law_518 (by decide) ?_
    refine lv_iadd hx hb d_law_519 ?_
    refine va_sld hx hb hX hbl hbA hw.2.2.2.2.2.2.2 (lw_in hi hL 1 (by decide) rfl) d_law_520 ?_
    refine lv_aload_n hx hb d_law_521 rfl (lv_at hl 0 rfl) ?_
    refine lv_iload_n hx hb d_law_522 rfl (lv_at hl 3 rfl) ?_
    refine lv_iconst (v := 2) hx hb d_law_523 (by decide) ?_
    refine lv_iadd hx hb d_law_524 ?_
    refine va_sld hx hb hX hbl hbA hw.2.2.2.2.2.2.2 (lw_in hi hL 2 (by decide) rfl) d_law_525 ?_
    refine lv_aload_n hx hb d_law_526 rfl (lv_at hl 0 rfl) ?_
    refine lv_iload_n hx hb d_law_527 rfl (lv_at hl 3 rfl) ?_
    refine lv_iconst (v := 3) hx hb d_law_528 (by decide) ?_
    refine lv_iadd hx hb d_law_529 ?_
    refine va_sld hx hb hX hbl hbA hw.2.2.2.2.2.2.2 (lw_in hi hL 3 (by decide) rfl) d_law_530 ?_
    refine lv_aload_n hx hb d_law_531 rfl (lv_at hl 0 rfl) ?_
    refine lv_iload_n hx hb d_law_532 rfl (lv_at hl 3 rfl) ?_
    refine lv_iconst (v := 4) hx hb d_law_533 (by decide) ?_
    refine lv_iadd hx hb d_law_534 ?_
    refine va_sld hx hb hX hbl hbA hw.2.2.2.2.2.2.2 (lw_in hi hL 4 (by decide) rfl) d_law_535 ?_
    refine lv_aload_n hx hb d_law_536 rfl (lv_at hl 0 rfl) ?_
    refine lv_iload_n hx hb d_law_537 rfl (lv_at hl 3 rfl) ?_
    refine lv_iconst (v := 5) hx hb d_law_538 (by decide) ?_
    refine lv_iadd hx hb d_law_539 ?_
    refine va_sld hx hb hX hbl hbA hw.2.2.2.2.2.2.2 (lw_in hi hL 5 (by decide) rfl) d_law_540 ?_
    refine lv_if_eq (tgt := 548) hx hb d_law_541 (by decide) (fun c_541 => absurd c_541 n_504) (fun c_541 => ?_)
    refine lv_iconst (v := 1) hx hb d_law_544 (by decide) ?_
    refine lv_goto (tgt := 549) hx hb d_law_545 (by decide) ?_
    refine lw_callM (As := [.int (xs (nI i + 1).toNatClampNeg), .int (xs (nI i + 2).toNatClampNeg), .int (xs (nI i + 3).toNatClampNeg), .int (xs (nI i + 4).toNatClampNeg), .int 1]) (rest := [.int r]) ⟨hx, hb, hml, hown, hts⟩ hw (c_M_found (nw := fun _ => True) ⟨fun _ _ _ _ _ _ => trivial, fun _ _ _ _ _ => trivial⟩ qM) (cw_law_65 hts (by decide)) rfl hl.1 rfl (Nat.le_of_ble_eq_true rfl) d_law_549 (by decide) (fun H locs hw => ?_)
    refine lv_icmp_eq (tgt := 790) hx hb d_law_552 (by decide) (fun c_552 => ?_) (fun c_552 => absurd rfl c_552)
    exact next _ _ _ _ _ hI2 hw hl
set_option maxHeartbeats 4000000 in
set_option maxRecDepth 100000 in
theorem lw_c11 {p : Program} {l : Launch} {e : Env} {s : State} {m : MethodId} {below : List Frame} {meth : Method} {c : Code} {Q : State → Prop} {D : va_G} {aK aM : Nat → Nat} {cI cJ cC cZ : ClassId} {adK adV : Nat → Nat} {b L : Nat} {xs : Nat → Int32} {N : Nat} {Inv : sk_M → sk_M → Prop} (C0 : lw_At p s m meth c b L xs) (hnw : nwK (lw_AK aK) adK adV s) (hp : pm_selected N Inv) {stK stM : sk_M} {H : Heap} {locs : List Loc} {ls : Array Slot} {i : Nat} (hi : i + 6 ≤ L) (hL : L ≤ 3072) (hI : Inv stK stM) (hw : lw_W D aK aM cI cJ cC cZ s stK stM H locs) (hl : lv_has ls 4 [(0, .ref b), (1, .ref (aK 0)), (2, .ref (aM 0)), (3, .int (nI i))])
    (next : ∀ (stK stM : sk_M) (H : Heap) (locs : List Loc) (ls : Array Slot), Inv stK stM → lw_W D aK aM cI cJ cC cZ s stK stM H locs → lv_has ls 4 [(0, .ref b), (1, .ref (aK 0)), (2, .ref (aM 0)), (3, .int (nI i))] → W p l e room_1 s m #[Value.ref b] below meth c H locs 84 5723 Q (F0 m 790 ls [])) : W p l e room_1 s m #[Value.ref b] below meth c H locs 84 5723 Q (F0 m 557 ls []) := by
  obtain ⟨hx, hb, hr, hml, hown, hts0, hX, hbl, hlocks, hgv⟩ := C0
  have hts : ∀ w ∈ TB, w.before #[Value.ref b] s = true := fun w h => hts0 w (List.mem_filter.mp h).1
  have hbA : ¬ (fun q : Nat => s.heap.size ≤ q) b := Nat.not_le.mpr hbl
  refine lv_aload_n hx hb d_law_557 rfl (lv_at hl 1 rfl) ?_
  refine lv_aload_n hx hb d_law_558 rfl (lv_at hl 0 rfl) ?_
  refine lv_iload_n hx hb d_law_559 rfl (lv_at hl 3 rfl) ?_
  refine lv_iconst (v := 1) hx hb d_law_560 (by decide) ?_
  refine lv_iadd hx hb d_law_561 ?_
  refine va_sld hx hb hX hbl hbA hw.2.2.2.2.2.2.2 (lw_in hi hL 1 (by decide) rfl) d_law_562 ?_
  refine lv_aload_n hx hb d_law_563 rfl (lv_at hl 0 rfl) ?_
  refine lv_iload_n hx hb d_law_564 rfl (lv_at hl 3 rfl) ?_
  refine lv_iconst (v := 2) hx hb d_law_565 (by decide) ?_
  refine lv_iadd hx hb d_law_566 ?_
  refine va_sld hx hb hX hbl hbA hw.2.2.2.2.2.2.2 (lw_in hi hL 2 (by decide) rfl) d_law_567 ?_
  refine lv_aload_n hx hb d_law_568 rfl (lv_at hl 0 rfl) ?_
  refine lv_iload_n hx hb d_law_569 rfl (lv_at hl 3 rfl) ?_
  refine lv_iconst (v := 3) hx hb d_law_570 (by decide) ?_
  refine lv_iadd hx hb d_law_571 ?_
  refine va_sld hx hb hX hbl hbA hw.2.2.2.2.2.2.2 (lw_in hi hL 3 (by decide) rfl) d_law_572 ?_
  refine lv_aload_n hx hb d_law_573 rfl (lv_at hl 0 rfl) ?_
  refine lv_iload_n hx hb d_law_574 rfl (lv_at hl 3 rfl) ?_
  refine lv_iconst (v := 4) hx hb d_law_575 (by decide) ?_
  refine lv_iadd hx hb d_law_576 ?_
  refine va_sld hx hb hX hbl hbA hw.2.2.2.2.2.2.2 (lw_in hi hL 4 (by decide) rfl) d_law_577 ?_
  refine lv_if_eq (tgt := 585) hx hb d_law_578 (by decide) (fun p_578 => ?_) (fun n_578 => ?_)
  · refine lv_iconst (v := 0) hx hb d_law_585 (by decide) ?_
    obtain ⟨r, stK2, stM2, qK, qM, hI2⟩ := hp stK stM (xs (nI i + 1).toNatClampNeg) (xs (nI i + 2).toNatClampNeg) (xs (nI i + 3).toNatClampNeg) 0 hI (Or.inl rfl)
    refine lw_callK (As := [.int (xs (nI i + 1).toNatClampNeg), .int (xs (nI i + 2).toNatClampNeg), .int (xs (nI i + 3).toNatClampNeg), .int 0]) (rest := []) ⟨hx, hb, hml, hown, hts⟩ hw hnw (c_K_SF_selected nwK_ok qK) (cw_law_66 hts (by decide)) rfl hl.1 rfl (Nat.le_of_ble_eq_true rfl) d_law_586 (by decide) (fun H locs hw => ?_)
    refine lv_aload_n hx hb d_law_589 rfl (lv_at hl 2 rfl) ?_
    refine lv_aload_n hx hb d_law_590 rfl (lv_at hl 0 rfl) ?_
    refine lv_iload_n hx hb d_law_591 rfl (lv_at hl 3 rfl) ?_
    refine lv_iconst (v := 1) hx hb d_law_592 (by decide) ?_
    refine lv_iadd hx hb d_law_593 ?_
    refine va_sld hx hb hX hbl hbA hw.2.2.2.2.2.2.2 (lw_in hi hL 1 (by decide) rfl) d_law_594 ?_
    refine lv_aload_n hx hb d_law_595 rfl (lv_at hl 0 rfl) ?_
    refine lv_iload_n hx hb d_law_596 rfl (lv_at hl 3 rfl) ?_
    refine lv_iconst (v := 2) hx hb d_law_597 (by decide) ?_
    refine lv_iadd hx hb d_law_598 ?_
    refine va_sld hx hb hX hbl hbA hw.2.2.2.2.2.2.2 (lw_in hi hL 2 (by decide) rfl) d_law_599 ?_
    refine lv_aload_n hx hb d_law_600 rfl (lv_at hl 0 rfl) ?_
    refine lv_iload_n hx hb d_law_601 rfl (lv_at hl 3 rfl) ?_
    refine lv_iconst (v := 3) hx hb d_law_602 (by decide) ?_
    refine lv_iadd hx hb d_law_603 ?_
    refine va_sld hx hb hX hbl hbA hw.2.2.2.2.2.2.2 (lw_in hi hL 3 (by decide) rfl) d_law_604 ?_
    refine lv_aload_n hx hb d_law_605 rfl (lv_at hl 0 rfl) ?_
    refine lv_iload_n hx hb d_law_606 rfl (lv_at hl 3 rfl) ?_
    refine lv_iconst (v := 4) hx hb d_law_607 (by decide) ?_
    refine lv_iadd hx hb d_law_608 ?_
    refine va_sld hx hb hX hbl hbA hw.2.2.2.2.2.2.2 (lw_in hi hL 4 (by decide) rfl) d_law_609 ?_
    refine lv_if_eq (tgt := 617) hx hb d_law_610 (by decide) (fun c_610 => ?_) (fun c_610 => absurd p_578 c_610)
    refine lv_iconst (v := 0) hx hb d_law_617 (by decide) ?_
    refine lw_callM (As := [.int (xs (nI i + 1).toNatClampNeg), .int (xs (nI i + 2).toNatClampNeg), .int (xs (nI i + 3).toNatClampNeg), .int 0]) (rest := [.int r]) ⟨hx, hb, hml, hown, hts⟩ hw (c_M_selected (nw := fun _ => True) ⟨fun _ _ _ _ _ _ => trivial, fun _ _ _ _ _ => trivial⟩ qM) (cw_law_70 hts (by decide)) rfl hl.1 rfl (Nat.le_of_ble_eq_true rfl) d_law_618 (by decide) (fun H locs hw => ?_)
    refine lv_icmp_eq (tgt := 790) hx hb d_law_621 (by decide) (fun c_621 => ?_) (fun c_621 => absurd rfl c_621)
    exact next _ _ _ _ _ hI2 hw hl
  · refine lv_iconst (v := 1) hx hb d_law_581 (by decide) ?_
    refine lv_goto (tgt := 586) hx hb d_law_582 (by decide) ?_
    obtain ⟨r, stK2, stM2, qK, qM, hI2⟩ := hp stK stM (xs (nI i + 1).toNatClampNeg) (xs (nI i + 2).toNatClampNeg) (xs (nI i + 3).toNatClampNeg) 1 hI (Or.inr rfl)
    refine lw_callK (As := [.int (xs (nI i + 1).toNatClampNeg), .int (xs (nI i + 2).toNatClampNeg), .int (xs (nI i + 3).toNatClampNeg), .int 1]) (rest := []) ⟨hx, hb, hml, hown, hts⟩ hw hnw (c_K_SF_selected nwK_ok qK) (cw_law_66 hts (by decide)) rfl hl.1 rfl (Nat.le_of_ble_eq_true rfl) d_law_586 (by decide) (fun H locs hw => ?_)
    refine lv_aload_n hx hb d_law_589 rfl (lv_at hl 2 rfl) ?_
    refine lv_aload_n hx hb d_law_590 rfl (lv_at hl 0 rfl) ?_
    refine lv_iload_n hx hb d_law_591 rfl (lv_at hl 3 rfl) ?_
    refine lv_iconst (v := 1) hx hb d_law_592 (by decide) ?_
    refine lv_iadd hx hb d_law_593 ?_
    refine va_sld hx hb hX hbl hbA hw.2.2.2.2.2.2.2 (lw_in hi hL 1 (by decide) rfl) d_law_594 ?_
    refine lv_aload_n hx hb d_law_595 rfl (lv_at hl 0 rfl) ?_
    refine lv_iload_n hx hb d_law_596 rfl (lv_at hl 3 rfl) ?_
    refine lv_iconst (v := 2) hx hb d_law_597 (by decide) ?_
    refine lv_iadd hx hb d_law_598 ?_
    refine va_sld hx hb hX hbl hbA hw.2.2.2.2.2.2.2 (lw_in hi hL 2 (by decide) rfl) d_law_599 ?_
    refine lv_aload_n hx hb d_law_600 rfl (lv_at hl 0 rfl) ?_
    refine lv_iload_n hx hb d_law_601 rfl (lv_at hl 3 rfl) ?_
    refine lv_iconst (v := 3) hx hb d_law_602 (by decide) ?_
    refine lv_iadd hx hb d_law_603 ?_
    refine va_sld hx hb hX hbl hbA hw.2.2.2.2.2.2.2 (lw_in hi hL 3 (by decide) rfl) d_law_604 ?_
    refine lv_aload_n hx hb d_law_605 rfl (lv_at hl 0 rfl) ?_
    refine lv_iload_n hx hb d_law_606 rfl (lv_at hl 3 rfl) ?_
    refine lv_iconst (v := 4) hx hb d_law_607 (by decide) ?_
    refine lv_iadd hx hb d_law_608 ?_
    refine va_sld hx hb hX hbl hbA hw.2.2.2.2.2.2.2 (lw_in hi hL 4 (by decide) rfl) d_law_609 ?_
    refine lv_if_eq (tgt := 617) hx hb d_law_610 (by decide) (fun c_610 => absurd c_610 n_578) (fun c_610 => ?_)
    refine lv_iconst (v := 1) hx hb d_law_613 (by decide) ?_
    refine lv_goto (tgt := 618) hx hb d_law_614 (by decide) ?_
    refine lw_callM (As := [.int (xs (nI i + 1).toNatClampNeg), .int (xs (nI i + 2).toNatClampNeg), .int (xs (nI i + 3).toNatClampNeg), .int 1]) (rest := [.int r]) ⟨hx, hb, hml, hown, hts⟩ hw (c_M_selected (nw := fun _ => True) ⟨fun _ _ _ _ _ _ => trivial, fun _ _ _ _ _ => trivial⟩ qM) (cw_law_70 hts (by decide)) rfl hl.1 rfl (Nat.le_of_ble_eq_true rfl) d_law_618 (by decide) (fun H locs hw => ?_)
    refine lv_icmp_eq (tgt := 790) hx hb d_law_621 (by decide) (fun c_621 => ?_) (fun c_621 => absurd rfl c_621)
    exact next _ _ _ _ _ hI2 hw hl
set_option maxHeartbeats 4000000 in
set_option maxRecDepth 100000 in
theorem lw_c12 {p : Program} {l : Launch} {e : Env} {s : State} {m : MethodId} {below : List Frame} {meth : Method} {c : Code} {Q : State → Prop} {D : va_G} {aK aM : Nat → Nat} {cI cJ cC cZ : ClassId} {adK adV : Nat → Nat} {b L : Nat} {xs : Nat → Int32} {N : Nat} {Inv : sk_M → sk_M → Prop} (C0 : lw_At p s m meth c b L xs) (hnw : nwK (lw_AK aK) adK adV s) (hp : pm_name N Inv) {stK stM : sk_M} {H : Heap} {locs : List Loc} {ls : Array Slot} {i : Nat} (hi : i + 6 ≤ L) (hL : L ≤ 3072) (hI : Inv stK stM) (hw : lw_W D aK aM cI cJ cC cZ s stK stM H locs) (hl : lv_has ls 4 [(0, .ref b), (1, .ref (aK 0)), (2, .ref (aM 0)), (3, .int (nI i))])
    (next : ∀ (stK stM : sk_M) (H : Heap) (locs : List Loc) (ls : Array Slot), Inv stK stM → lw_W D aK aM cI cJ cC cZ s stK stM H locs → lv_has ls 4 [(0, .ref b), (1, .ref (aK 0)), (2, .ref (aM 0)), (3, .int (nI i))] → W p l e room_1 s m #[Value.ref b] below meth c H locs 84 5723 Q (F0 m 790 ls [])) : W p l e room_1 s m #[Value.ref b] below meth c H locs 84 5723 Q (F0 m 626 ls []) := by
  obtain ⟨hx, hb, hr, hml, hown, hts0, hX, hbl, hlocks, hgv⟩ := C0
  have hts : ∀ w ∈ TB, w.before #[Value.ref b] s = true := fun w h => hts0 w (List.mem_filter.mp h).1
  have hbA : ¬ (fun q : Nat => s.heap.size ≤ q) b := Nat.not_le.mpr hbl
  refine lv_aload_n hx hb d_law_626 rfl (lv_at hl 1 rfl) ?_
  refine lv_aload_n hx hb d_law_627 rfl (lv_at hl 0 rfl) ?_
  refine lv_iload_n hx hb d_law_628 rfl (lv_at hl 3 rfl) ?_
  refine lv_iconst (v := 1) hx hb d_law_629 (by decide) ?_
  refine lv_iadd hx hb d_law_630 ?_
  refine va_sld hx hb hX hbl hbA hw.2.2.2.2.2.2.2 (lw_in hi hL 1 (by decide) rfl) d_law_631 ?_
  refine lv_if_eq (tgt := 639) hx hb d_law_632 (by decide) (fun p_632 => ?_) (fun n_632 => ?_)
  · refine lv_iconst (v := 0) hx hb d_law_639 (by decide) ?_
    refine lv_aload_n hx hb d_law_640 rfl (lv_at hl 0 rfl) ?_
    refine lv_iload_n hx hb d_law_641 rfl (lv_at hl 3 rfl) ?_
    refine lv_iconst (v := 2) hx hb d_law_642 (by decide) ?_
    refine lv_iadd hx hb d_law_643 ?_
    refine va_sld hx hb hX hbl hbA hw.2.2.2.2.2.2.2 (lw_in hi hL 2 (by decide) rfl) d_law_644 ?_
    refine lv_aload_n hx hb d_law_645 rfl (lv_at hl 0 rfl) ?_
    refine lv_iload_n hx hb d_law_646 rfl (lv_at hl 3 rfl) ?_
    refine lv_iconst (v := 3) hx hb d_law_647 (by decide) ?_
    refine lv_iadd hx hb d_law_648 ?_
    refine va_sld hx hb hX hbl hbA hw.2.2.2.2.2.2.2 (lw_in hi hL 3 (by decide) rfl) d_law_649 ?_
    obtain ⟨r, stK2, stM2, qK, qM, hI2⟩ := hp stK stM 0 (xs (nI i + 2).toNatClampNeg) (xs (nI i + 3).toNatClampNeg) hI (Or.inl rfl)
    refine lw_callK (As := [.int 0, .int (xs (nI i + 2).toNatClampNeg), .int (xs (nI i + 3).toNatClampNeg)]) (rest := []) ⟨hx, hb, hml, hown, hts⟩ hw hnw (c_K_SF_name nwK_ok qK) (cw_law_71 hts (by decide)) rfl hl.1 rfl (Nat.le_of_ble_eq_true rfl) d_law_650 (by decide) (fun H locs hw => ?_)
    refine lv_aload_n hx hb d_law_653 rfl (lv_at hl 2 rfl) ?_
    refine lv_aload_n hx hb d_law_654 rfl (lv_at hl 0 rfl) ?_
    refine lv_iload_n hx hb d_law_655 rfl (lv_at hl 3 rfl) ?_
    refine lv_iconst (v := 1) hx hb d_law_656 (by decide) ?_
    refine lv_iadd hx hb d_law_657 ?_
    refine va_sld hx hb hX hbl hbA hw.2.2.2.2.2.2.2 (lw_in hi hL 1 (by decide) rfl) d_law_658 ?_
    refine lv_if_eq (tgt := 666) hx hb d_law_659 (by decide) (fun c_659 => ?_) (fun c_659 => absurd p_632 c_659)
    refine lv_iconst (v := 0) hx hb d_law_666 (by decide) ?_
    refine lv_aload_n hx hb d_law_667 rfl (lv_at hl 0 rfl) ?_
    refine lv_iload_n hx hb d_law_668 rfl (lv_at hl 3 rfl) ?_
    refine lv_iconst (v := 2) hx hb d_law_669 (by decide) ?_
    refine lv_iadd hx hb d_law_670 ?_
    refine va_sld hx hb hX hbl hbA hw.2.2.2.2.2.2.2 (lw_in hi hL 2 (by decide) rfl) d_law_671 ?_
    refine lv_aload_n hx hb d_law_672 rfl (lv_at hl 0 rfl) ?_
    refine lv_iload_n hx hb d_law_673 rfl (lv_at hl 3 rfl) ?_
    refine lv_iconst (v := 3) hx hb d_law_674 (by decide) ?_
    refine lv_iadd hx hb d_law_675 ?_
    refine va_sld hx hb hX hbl hbA hw.2.2.2.2.2.2.2 (lw_in hi hL 3 (by decide) rfl) d_law_676 ?_
    refine lw_callM (As := [.int 0, .int (xs (nI i + 2).toNatClampNeg), .int (xs (nI i + 3).toNatClampNeg)]) (rest := [.int r]) ⟨hx, hb, hml, hown, hts⟩ hw (c_M_name (nw := fun _ => True) ⟨fun _ _ _ _ _ _ => trivial, fun _ _ _ _ _ => trivial⟩ qM) (cw_law_75 hts (by decide)) rfl hl.1 rfl (Nat.le_of_ble_eq_true rfl) d_law_677 (by decide) (fun H locs hw => ?_)
    refine lv_icmp_eq (tgt := 790) hx hb d_law_680 (by decide) (fun c_680 => ?_) (fun c_680 => absurd rfl c_680)
    exact next _ _ _ _ _ hI2 hw hl
  · refine lv_iconst (v := 1) hx hb d_law_635 (by decide) ?_
    refine lv_goto (tgt := 640) hx hb d_law_636 (by decide) ?_
    refine lv_aload_n hx hb d_law_640 rfl (lv_at hl 0 rfl) ?_
    refine lv_iload_n hx hb d_law_641 rfl (lv_at hl 3 rfl) ?_
    refine lv_iconst (v := 2) hx hb d_law_642 (by decide) ?_
    refine lv_iadd hx hb d_law_643 ?_
    refine va_sld hx hb hX hbl hbA hw.2.2.2.2.2.2.2 (lw_in hi hL 2 (by decide) rfl) d_law_644 ?_
    refine lv_aload_n hx hb d_law_645 rfl (lv_at hl 0 rfl) ?_
    refine lv_iload_n hx hb d_law_646 rfl (lv_at hl 3 rfl) ?_
    refine lv_iconst (v := 3) hx hb d_law_647 (by decide) ?_
    refine lv_iadd hx hb d_law_648 ?_
    refine va_sld hx hb hX hbl hbA hw.2.2.2.2.2.2.2 (lw_in hi hL 3 (by decide) rfl) d_law_649 ?_
    obtain ⟨r, stK2, stM2, qK, qM, hI2⟩ := hp stK stM 1 (xs (nI i + 2).toNatClampNeg) (xs (nI i + 3).toNatClampNeg) hI (Or.inr rfl)
    refine lw_callK (As := [.int 1, .int (xs (nI i + 2).toNatClampNeg), .int (xs (nI i + 3).toNatClampNeg)]) (rest := []) ⟨hx, hb, hml, hown, hts⟩ hw hnw (c_K_SF_name nwK_ok qK) (cw_law_71 hts (by decide)) rfl hl.1 rfl (Nat.le_of_ble_eq_true rfl) d_law_650 (by decide) (fun H locs hw => ?_)
    refine lv_aload_n hx hb d_law_653 rfl (lv_at hl 2 rfl) ?_
    refine lv_aload_n hx hb d_law_654 rfl (lv_at hl 0 rfl) ?_
    refine lv_iload_n hx hb d_law_655 rfl (lv_at hl 3 rfl) ?_
    refine lv_iconst (v := 1) hx hb d_law_656 (by decide) ?_
    refine lv_iadd hx hb d_law_657 ?_
    refine va_sld hx hb hX hbl hbA hw.2.2.2.2.2.2.2 (lw_in hi hL 1 (by decide) rfl) d_law_658 ?_
    refine lv_if_eq (tgt := 666) hx hb d_law_659 (by decide) (fun c_659 => absurd c_659 n_632) (fun c_659 => ?_)
    refine lv_iconst (v := 1) hx hb d_law_662 (by decide) ?_
    refine lv_goto (tgt := 667) hx hb d_law_663 (by decide) ?_
    refine lv_aload_n hx hb d_law_667 rfl (lv_at hl 0 rfl) ?_
    refine lv_iload_n hx hb d_law_668 rfl (lv_at hl 3 rfl) ?_
    refine lv_iconst (v := 2) hx hb d_law_669 (by decide) ?_
    refine lv_iadd hx hb d_law_670 ?_
    refine va_sld hx hb hX hbl hbA hw.2.2.2.2.2.2.2 (lw_in hi hL 2 (by decide) rfl) d_law_671 ?_
    refine lv_aload_n hx hb d_law_672 rfl (lv_at hl 0 rfl) ?_
    refine lv_iload_n hx hb d_law_673 rfl (lv_at hl 3 rfl) ?_
    refine lv_iconst (v := 3) hx hb d_law_674 (by decide) ?_
    refine lv_iadd hx hb d_law_675 ?_
    refine va_sld hx hb hX hbl hbA hw.2.2.2.2.2.2.2 (lw_in hi hL 3 (by decide) rfl) d_law_676 ?_
    refine lw_callM (As := [.int 1, .int (xs (nI i + 2).toNatClampNeg), .int (xs (nI i + 3).toNatClampNeg)]) (rest := [.int r]) ⟨hx, hb, hml, hown, hts⟩ hw (c_M_name (nw := fun _ => True) ⟨fun _ _ _ _ _ _ => trivial, fun _ _ _ _ _ => trivial⟩ qM) (cw_law_75 hts (by decide)) rfl hl.1 rfl (Nat.le_of_ble_eq_true rfl) d_law_677 (by decide) (fun H locs hw => ?_)
    refine lv_icmp_eq (tgt := 790) hx hb d_law_680 (by decide) (fun c_680 => ?_) (fun c_680 => absurd rfl c_680)
    exact next _ _ _ _ _ hI2 hw hl
set_option maxHeartbeats 4000000 in
set_option maxRecDepth 100000 in
theorem lw_c13 {p : Program} {l : Launch} {e : Env} {s : State} {m : MethodId} {below : List Frame} {meth : Method} {c : Code} {Q : State → Prop} {D : va_G} {aK aM : Nat → Nat} {cI cJ cC cZ : ClassId} {adK adV : Nat → Nat} {b L : Nat} {xs : Nat → Int32} {N : Nat} {Inv : sk_M → sk_M → Prop} (C0 : lw_At p s m meth c b L xs) (hnw : nwK (lw_AK aK) adK adV s) (hp : pm_mapping N Inv) {stK stM : sk_M} {H : Heap} {locs : List Loc} {ls : Array Slot} {i : Nat} (hi : i + 6 ≤ L) (hL : L ≤ 3072) (hI : Inv stK stM) (hw : lw_W D aK aM cI cJ cC cZ s stK stM H locs) (hl : lv_has ls 4 [(0, .ref b), (1, .ref (aK 0)), (2, .ref (aM 0)), (3, .int (nI i))])
    (next : ∀ (stK stM : sk_M) (H : Heap) (locs : List Loc) (ls : Array Slot), Inv stK stM → lw_W D aK aM cI cJ cC cZ s stK stM H locs → lv_has ls 4 [(0, .ref b), (1, .ref (aK 0)), (2, .ref (aM 0)), (3, .int (nI i))] → W p l e room_1 s m #[Value.ref b] below meth c H locs 84 5723 Q (F0 m 790 ls [])) : W p l e room_1 s m #[Value.ref b] below meth c H locs 84 5723 Q (F0 m 685 ls []) := by
  obtain ⟨hx, hb, hr, hml, hown, hts0, hX, hbl, hlocks, hgv⟩ := C0
  have hts : ∀ w ∈ TB, w.before #[Value.ref b] s = true := fun w h => hts0 w (List.mem_filter.mp h).1
  have hbA : ¬ (fun q : Nat => s.heap.size ≤ q) b := Nat.not_le.mpr hbl
  refine lv_aload_n hx hb d_law_685 rfl (lv_at hl 1 rfl) ?_
  refine lv_aload_n hx hb d_law_686 rfl (lv_at hl 0 rfl) ?_
  refine lv_iload_n hx hb d_law_687 rfl (lv_at hl 3 rfl) ?_
  refine lv_iconst (v := 1) hx hb d_law_688 (by decide) ?_
  refine lv_iadd hx hb d_law_689 ?_
  refine va_sld hx hb hX hbl hbA hw.2.2.2.2.2.2.2 (lw_in hi hL 1 (by decide) rfl) d_law_690 ?_
  obtain ⟨r, stK2, stM2, qK, qM, hI2⟩ := hp stK stM (xs (nI i + 1).toNatClampNeg) hI
  refine lw_callK (As := [.int (xs (nI i + 1).toNatClampNeg)]) (rest := []) ⟨hx, hb, hml, hown, hts⟩ hw hnw (c_K_SF_mapping nwK_ok qK) (cw_law_76 hts (by decide)) rfl hl.1 rfl (Nat.le_of_ble_eq_true rfl) d_law_691 (by decide) (fun H locs hw => ?_)
  refine lv_aload_n hx hb d_law_694 rfl (lv_at hl 2 rfl) ?_
  refine lv_aload_n hx hb d_law_695 rfl (lv_at hl 0 rfl) ?_
  refine lv_iload_n hx hb d_law_696 rfl (lv_at hl 3 rfl) ?_
  refine lv_iconst (v := 1) hx hb d_law_697 (by decide) ?_
  refine lv_iadd hx hb d_law_698 ?_
  refine va_sld hx hb hX hbl hbA hw.2.2.2.2.2.2.2 (lw_in hi hL 1 (by decide) rfl) d_law_699 ?_
  refine lw_callM (As := [.int (xs (nI i + 1).toNatClampNeg)]) (rest := [.int r]) ⟨hx, hb, hml, hown, hts⟩ hw (c_M_mapping (nw := fun _ => True) ⟨fun _ _ _ _ _ _ => trivial, fun _ _ _ _ _ => trivial⟩ qM) (cw_law_79 hts (by decide)) rfl hl.1 rfl (Nat.le_of_ble_eq_true rfl) d_law_700 (by decide) (fun H locs hw => ?_)
  refine lv_icmp_eq (tgt := 790) hx hb d_law_703 (by decide) (fun c_703 => ?_) (fun c_703 => absurd rfl c_703)
  exact next _ _ _ _ _ hI2 hw hl
set_option maxHeartbeats 4000000 in
set_option maxRecDepth 100000 in
theorem lw_c14 {p : Program} {l : Launch} {e : Env} {s : State} {m : MethodId} {below : List Frame} {meth : Method} {c : Code} {Q : State → Prop} {D : va_G} {aK aM : Nat → Nat} {cI cJ cC cZ : ClassId} {adK adV : Nat → Nat} {b L : Nat} {xs : Nat → Int32} {N : Nat} {Inv : sk_M → sk_M → Prop} (C0 : lw_At p s m meth c b L xs) (hnw : nwK (lw_AK aK) adK adV s) (hp : pm_trace N Inv) {stK stM : sk_M} {H : Heap} {locs : List Loc} {ls : Array Slot} {i : Nat} (hi : i + 6 ≤ L) (hL : L ≤ 3072) (hI : Inv stK stM) (hw : lw_W D aK aM cI cJ cC cZ s stK stM H locs) (hl : lv_has ls 4 [(0, .ref b), (1, .ref (aK 0)), (2, .ref (aM 0)), (3, .int (nI i))])
    (next : ∀ (stK stM : sk_M) (H : Heap) (locs : List Loc) (ls : Array Slot), Inv stK stM → lw_W D aK aM cI cJ cC cZ s stK stM H locs → lv_has ls 4 [(0, .ref b), (1, .ref (aK 0)), (2, .ref (aM 0)), (3, .int (nI i))] → W p l e room_1 s m #[Value.ref b] below meth c H locs 84 5723 Q (F0 m 790 ls [])) : W p l e room_1 s m #[Value.ref b] below meth c H locs 84 5723 Q (F0 m 708 ls []) := by
  obtain ⟨hx, hb, hr, hml, hown, hts0, hX, hbl, hlocks, hgv⟩ := C0
  have hts : ∀ w ∈ TB, w.before #[Value.ref b] s = true := fun w h => hts0 w (List.mem_filter.mp h).1
  have hbA : ¬ (fun q : Nat => s.heap.size ≤ q) b := Nat.not_le.mpr hbl
  refine lv_aload_n hx hb d_law_708 rfl (lv_at hl 1 rfl) ?_
  refine lv_aload_n hx hb d_law_709 rfl (lv_at hl 0 rfl) ?_
  refine lv_iload_n hx hb d_law_710 rfl (lv_at hl 3 rfl) ?_
  refine lv_iconst (v := 1) hx hb d_law_711 (by decide) ?_
  refine lv_iadd hx hb d_law_712 ?_
  refine va_sld hx hb hX hbl hbA hw.2.2.2.2.2.2.2 (lw_in hi hL 1 (by decide) rfl) d_law_713 ?_
  refine lv_aload_n hx hb d_law_714 rfl (lv_at hl 0 rfl) ?_
  refine lv_iload_n hx hb d_law_715 rfl (lv_at hl 3 rfl) ?_
  refine lv_iconst (v := 2) hx hb d_law_716 (by decide) ?_
  refine lv_iadd hx hb d_law_717 ?_
  refine va_sld hx hb hX hbl hbA hw.2.2.2.2.2.2.2 (lw_in hi hL 2 (by decide) rfl) d_law_718 ?_
  refine lv_aload_n hx hb d_law_719 rfl (lv_at hl 0 rfl) ?_
  refine lv_iload_n hx hb d_law_720 rfl (lv_at hl 3 rfl) ?_
  refine lv_iconst (v := 3) hx hb d_law_721 (by decide) ?_
  refine lv_iadd hx hb d_law_722 ?_
  refine va_sld hx hb hX hbl hbA hw.2.2.2.2.2.2.2 (lw_in hi hL 3 (by decide) rfl) d_law_723 ?_
  refine lv_if_eq (tgt := 731) hx hb d_law_724 (by decide) (fun p_724 => ?_) (fun n_724 => ?_)
  · refine lv_iconst (v := 0) hx hb d_law_731 (by decide) ?_
    obtain ⟨r, stK2, stM2, qK, qM, hI2⟩ := hp stK stM (xs (nI i + 1).toNatClampNeg) (xs (nI i + 2).toNatClampNeg) 0 hI (Or.inl rfl)
    refine lw_callK (As := [.int (xs (nI i + 1).toNatClampNeg), .int (xs (nI i + 2).toNatClampNeg), .int 0]) (rest := []) ⟨hx, hb, hml, hown, hts⟩ hw hnw (c_K_SF_trace nwK_ok qK) (cw_law_80 hts (by decide)) rfl hl.1 rfl (Nat.le_of_ble_eq_true rfl) d_law_732 (by decide) (fun H locs hw => ?_)
    refine lv_aload_n hx hb d_law_735 rfl (lv_at hl 2 rfl) ?_
    refine lv_aload_n hx hb d_law_736 rfl (lv_at hl 0 rfl) ?_
    refine lv_iload_n hx hb d_law_737 rfl (lv_at hl 3 rfl) ?_
    refine lv_iconst (v := 1) hx hb d_law_738 (by decide) ?_
    refine lv_iadd hx hb d_law_739 ?_
    refine va_sld hx hb hX hbl hbA hw.2.2.2.2.2.2.2 (lw_in hi hL 1 (by decide) rfl) d_law_740 ?_
    refine lv_aload_n hx hb d_law_741 rfl (lv_at hl 0 rfl) ?_
    refine lv_iload_n hx hb d_law_742 rfl (lv_at hl 3 rfl) ?_
    refine lv_iconst (v := 2) hx hb d_law_743 (by decide) ?_
    refine lv_iadd hx hb d_law_744 ?_
    refine va_sld hx hb hX hbl hbA hw.2.2.2.2.2.2.2 (lw_in hi hL 2 (by decide) rfl) d_law_745 ?_
    refine lv_aload_n hx hb d_law_746 rfl (lv_at hl 0 rfl) ?_
    refine lv_iload_n hx hb d_law_747 rfl (lv_at hl 3 rfl) ?_
    refine lv_iconst (v := 3) hx hb d_law_748 (by decide) ?_
    refine lv_iadd hx hb d_law_749 ?_
    refine va_sld hx hb hX hbl hbA hw.2.2.2.2.2.2.2 (lw_in hi hL 3 (by decide) rfl) d_law_750 ?_
    refine lv_if_eq (tgt := 758) hx hb d_law_751 (by decide) (fun c_751 => ?_) (fun c_751 => absurd p_724 c_751)
    refine lv_iconst (v := 0) hx hb d_law_758 (by decide) ?_
    refine lw_callM (As := [.int (xs (nI i + 1).toNatClampNeg), .int (xs (nI i + 2).toNatClampNeg), .int 0]) (rest := [.int r]) ⟨hx, hb, hml, hown, hts⟩ hw (c_M_trace (nw := fun _ => True) ⟨fun _ _ _ _ _ _ => trivial, fun _ _ _ _ _ => trivial⟩ qM) (cw_law_84 hts (by decide)) rfl hl.1 rfl (Nat.le_of_ble_eq_true rfl) d_law_759 (by decide) (fun H locs hw => ?_)
    refine lv_icmp_eq (tgt := 790) hx hb d_law_762 (by decide) (fun c_762 => ?_) (fun c_762 => absurd rfl c_762)
    exact next _ _ _ _ _ hI2 hw hl
  · refine lv_iconst (v := 1) hx hb d_law_727 (by decide) ?_
    refine lv_goto (tgt := 732) hx hb d_law_728 (by decide) ?_
    obtain ⟨r, stK2, stM2, qK, qM, hI2⟩ := hp stK stM (xs (nI i + 1).toNatClampNeg) (xs (nI i + 2).toNatClampNeg) 1 hI (Or.inr rfl)
    refine lw_callK (As := [.int (xs (nI i + 1).toNatClampNeg), .int (xs (nI i + 2).toNatClampNeg), .int 1]) (rest := []) ⟨hx, hb, hml, hown, hts⟩ hw hnw (c_K_SF_trace nwK_ok qK) (cw_law_80 hts (by decide)) rfl hl.1 rfl (Nat.le_of_ble_eq_true rfl) d_law_732 (by decide) (fun H locs hw => ?_)
    refine lv_aload_n hx hb d_law_735 rfl (lv_at hl 2 rfl) ?_
    refine lv_aload_n hx hb d_law_736 rfl (lv_at hl 0 rfl) ?_
    refine lv_iload_n hx hb d_law_737 rfl (lv_at hl 3 rfl) ?_
    refine lv_iconst (v := 1) hx hb d_law_738 (by decide) ?_
    refine lv_iadd hx hb d_law_739 ?_
    refine va_sld hx hb hX hbl hbA hw.2.2.2.2.2.2.2 (lw_in hi hL 1 (by decide) rfl) d_law_740 ?_
    refine lv_aload_n hx hb d_law_741 rfl (lv_at hl 0 rfl) ?_
    refine lv_iload_n hx hb d_law_742 rfl (lv_at hl 3 rfl) ?_
    refine lv_iconst (v := 2) hx hb d_law_743 (by decide) ?_
    refine lv_iadd hx hb d_law_744 ?_
    refine va_sld hx hb hX hbl hbA hw.2.2.2.2.2.2.2 (lw_in hi hL 2 (by decide) rfl) d_law_745 ?_
    refine lv_aload_n hx hb d_law_746 rfl (lv_at hl 0 rfl) ?_
    refine lv_iload_n hx hb d_law_747 rfl (lv_at hl 3 rfl) ?_
    refine lv_iconst (v := 3) hx hb d_law_748 (by decide) ?_
    refine lv_iadd hx hb d_law_749 ?_
    refine va_sld hx hb hX hbl hbA hw.2.2.2.2.2.2.2 (lw_in hi hL 3 (by decide) rfl) d_law_750 ?_
    refine lv_if_eq (tgt := 758) hx hb d_law_751 (by decide) (fun c_751 => absurd c_751 n_724) (fun c_751 => ?_)
    refine lv_iconst (v := 1) hx hb d_law_754 (by decide) ?_
    refine lv_goto (tgt := 759) hx hb d_law_755 (by decide) ?_
    refine lw_callM (As := [.int (xs (nI i + 1).toNatClampNeg), .int (xs (nI i + 2).toNatClampNeg), .int 1]) (rest := [.int r]) ⟨hx, hb, hml, hown, hts⟩ hw (c_M_trace (nw := fun _ => True) ⟨fun _ _ _ _ _ _ => trivial, fun _ _ _ _ _ => trivial⟩ qM) (cw_law_84 hts (by decide)) rfl hl.1 rfl (Nat.le_of_ble_eq_true rfl) d_law_759 (by decide) (fun H locs hw => ?_)
    refine lv_icmp_eq (tgt := 790) hx hb d_law_762 (by decide) (fun c_762 => ?_) (fun c_762 => absurd rfl c_762)
    exact next _ _ _ _ _ hI2 hw hl
set_option maxHeartbeats 4000000 in
set_option maxRecDepth 100000 in
theorem lw_c15 {p : Program} {l : Launch} {e : Env} {s : State} {m : MethodId} {below : List Frame} {meth : Method} {c : Code} {Q : State → Prop} {D : va_G} {aK aM : Nat → Nat} {cI cJ cC cZ : ClassId} {adK adV : Nat → Nat} {b L : Nat} {xs : Nat → Int32} {N : Nat} {Inv : sk_M → sk_M → Prop} (C0 : lw_At p s m meth c b L xs) (hnw : nwK (lw_AK aK) adK adV s) (hp : pm_count N Inv) {stK stM : sk_M} {H : Heap} {locs : List Loc} {ls : Array Slot} {i : Nat} (hi : i + 6 ≤ L) (hL : L ≤ 3072) (hI : Inv stK stM) (hw : lw_W D aK aM cI cJ cC cZ s stK stM H locs) (hl : lv_has ls 4 [(0, .ref b), (1, .ref (aK 0)), (2, .ref (aM 0)), (3, .int (nI i))])
    (next : ∀ (stK stM : sk_M) (H : Heap) (locs : List Loc) (ls : Array Slot), Inv stK stM → lw_W D aK aM cI cJ cC cZ s stK stM H locs → lv_has ls 4 [(0, .ref b), (1, .ref (aK 0)), (2, .ref (aM 0)), (3, .int (nI i))] → W p l e room_1 s m #[Value.ref b] below meth c H locs 84 5723 Q (F0 m 790 ls [])) : W p l e room_1 s m #[Value.ref b] below meth c H locs 84 5723 Q (F0 m 767 ls []) := by
  obtain ⟨hx, hb, hr, hml, hown, hts0, hX, hbl, hlocks, hgv⟩ := C0
  have hts : ∀ w ∈ TB, w.before #[Value.ref b] s = true := fun w h => hts0 w (List.mem_filter.mp h).1
  have hbA : ¬ (fun q : Nat => s.heap.size ≤ q) b := Nat.not_le.mpr hbl
  refine lv_aload_n hx hb d_law_767 rfl (lv_at hl 1 rfl) ?_
  refine lv_aload_n hx hb d_law_768 rfl (lv_at hl 0 rfl) ?_
  refine lv_iload_n hx hb d_law_769 rfl (lv_at hl 3 rfl) ?_
  refine lv_iconst (v := 1) hx hb d_law_770 (by decide) ?_
  refine lv_iadd hx hb d_law_771 ?_
  refine va_sld hx hb hX hbl hbA hw.2.2.2.2.2.2.2 (lw_in hi hL 1 (by decide) rfl) d_law_772 ?_
  obtain ⟨r, stK2, stM2, qK, qM, hI2⟩ := hp stK stM (xs (nI i + 1).toNatClampNeg) hI
  refine lw_callK (As := [.int (xs (nI i + 1).toNatClampNeg)]) (rest := []) ⟨hx, hb, hml, hown, hts⟩ hw hnw (c_K_SF_count nwK_ok qK) (cw_law_85 hts (by decide)) rfl hl.1 rfl (Nat.le_of_ble_eq_true rfl) d_law_773 (by decide) (fun H locs hw => ?_)
  refine lv_aload_n hx hb d_law_776 rfl (lv_at hl 2 rfl) ?_
  refine lv_aload_n hx hb d_law_777 rfl (lv_at hl 0 rfl) ?_
  refine lv_iload_n hx hb d_law_778 rfl (lv_at hl 3 rfl) ?_
  refine lv_iconst (v := 1) hx hb d_law_779 (by decide) ?_
  refine lv_iadd hx hb d_law_780 ?_
  refine va_sld hx hb hX hbl hbA hw.2.2.2.2.2.2.2 (lw_in hi hL 1 (by decide) rfl) d_law_781 ?_
  refine lw_callM (As := [.int (xs (nI i + 1).toNatClampNeg)]) (rest := [.int r]) ⟨hx, hb, hml, hown, hts⟩ hw (c_M_count (nw := fun _ => True) ⟨fun _ _ _ _ _ _ => trivial, fun _ _ _ _ _ => trivial⟩ qM) (cw_law_88 hts (by decide)) rfl hl.1 rfl (Nat.le_of_ble_eq_true rfl) d_law_782 (by decide) (fun H locs hw => ?_)
  refine lv_icmp_eq (tgt := 790) hx hb d_law_785 (by decide) (fun c_785 => ?_) (fun c_785 => absurd rfl c_785)
  exact next _ _ _ _ _ hI2 hw hl
set_option maxHeartbeats 4000000 in
set_option maxRecDepth 100000 in
theorem lw_loop {p : Program} {l : Launch} {e : Env} {s : State} {m : MethodId} {below : List Frame} {meth : Method} {c : Code} {Q : State → Prop} {D : va_G} {aK aM : Nat → Nat} {cI cJ cC cZ : ClassId} {adK adV : Nat → Nat} {b L : Nat} {xs : Nat → Int32} {N : Nat} {Inv : sk_M → sk_M → Prop} (C0 : lw_At p s m meth c b L xs) (hnw : nwK (lw_AK aK) adK adV s) (hp : pm_ok N Inv) (hL : L ≤ 3072) : ∀ (n i : Nat), i ≤ L + 6 → L + 6 < i + n → ∀ (stK stM : sk_M) (H : Heap) (locs : List Loc) (ls : Array Slot), Inv stK stM → lw_W D aK aM cI cJ cC cZ s stK stM H locs → lv_has ls 4 [(0, .ref b), (1, .ref (aK 0)), (2, .ref (aM 0)), (3, .int (nI i))] → W p l e room_1 s m #[Value.ref b] below meth c H locs 84 5723 (lw_Z below #[Value.ref b] s) (F0 m 18 ls []) := by
  intro n
  induction n with
  | zero =>
    intro i h1 h2
    exact absurd h2 (by omega)
  | succ n ih =>
    intro i h1 h2 stK stM H locs ls hI hw hl
    obtain ⟨hx, hb, hr, hml, hown, hts0, hX, hbl, hlocks, hgv⟩ := id C0
    have hbA : ¬ (fun q : Nat => s.heap.size ≤ q) b := Nat.not_le.mpr hbl
    have hS := hw.2.2.2.2.2.2.2
    refine lv_iload_n hx hb d_law_18 rfl (lv_at hl 3 rfl) ?_
    refine lv_aload_n hx hb d_law_19 rfl (lv_at hl 0 rfl) ?_
    refine va_slen hx hb hX hbl hbA hS d_law_20 ?_
    refine lv_bipush (v := 6) hx hb d_law_21 (by decide) ?_
    refine lv_isub hx hb d_law_23 ?_
    refine lv_icmp_gt (tgt := 796) hx hb d_law_24 (by decide) (fun c_24 => ?_) (fun c_24 => ?_)
    · refine lv_iconst (v := 1) hx hb d_law_796 (by decide) ?_
      refine va_forget (fun q hq => hS.2.2 q hq) ?_
      refine W.widen (k := 600000) (n := 7302250) (by decide) (by decide) ?_
      exact lw_ret hx hb hr hlocks d_law_797
    · have hi : i + 6 ≤ L := lw_le6 (by omega) (by omega) c_24
      refine lv_aload_n hx hb d_law_27 rfl (lv_at hl 0 rfl) ?_
      refine lv_iload_n hx hb d_law_28 rfl (lv_at hl 3 rfl) ?_
      refine va_sld hx hb hX hbl hbA hS (vp_in_nI (by omega) (by omega)) d_law_29 ?_
      refine lv_bipush (v := 15) hx hb d_law_30 (by decide) ?_
      refine lv_iand hx hb d_law_32 ?_
      have next : ∀ (stK stM : sk_M) (H : Heap) (locs : List Loc) (ls : Array Slot), Inv stK stM → lw_W D aK aM cI cJ cC cZ s stK stM H locs → lv_has ls 4 [(0, .ref b), (1, .ref (aK 0)), (2, .ref (aM 0)), (3, .int (nI i))] → W p l e room_1 s m #[Value.ref b] below meth c H locs 84 5723 (lw_Z below #[Value.ref b] s) (F0 m 790 ls []) := by
        intro stK stM H locs ls hI hw hl
        refine lv_iinc (v := nI i + 6) (lv' := [(3, .int (nI i + 6)), (0, .ref b), (1, .ref (aK 0)), (2, .ref (aM 0))]) hx hb d_law_790 hl (k := 3) rfl rfl (by decide) rfl (fun ls hl => ?_)
        refine lv_goto (tgt := 18) hx hb d_law_793 (by decide) ?_
        have e6 : nI i + 6 = nI (i + 6) := nI_add i 6
        rw [e6] at hl
        exact ih (i + 6) (by omega) (by omega) stK stM H locs ls hI hw (lv_sub hl [1, 2, 3, 0] rfl)
      obtain ⟨j, hj, ej⟩ := pk_andE (xs (nI i).toNatClampNeg) (m := 15) 4 (by decide)
      have hj : j < 16 := hj
      obtain ⟨p0, p1, p2, p3, p4, p5, p6, p7, p8, p9, p10, p11, p12, p13, p14, p15⟩ := hp
      have go : ∀ (k : Int32) {off : Int} {tgt : Nat}, nI j = k → ¬ k.toInt < 0 → ¬ 15 < k.toInt → (#[79, 142, 165, 218, 241, 304, 327, 340, 379, 412, 445, 524, 593, 652, 675, 734] : Array Int)[(k.toInt - 0).toNat]? = some off → (33 : Int) + off = (tgt : Int) → W p l e room_1 s m #[Value.ref b] below meth c H locs 84 5723 (lw_Z below #[Value.ref b] s) (F0 m tgt ls []) → W p l e room_1 s m #[Value.ref b] below meth c H locs 84 5723 (lw_Z below #[Value.ref b] s) (F0 m (32 + 1) ls [.int (xs (nI i).toNatClampNeg &&& 15)]) :=
        fun k off tgt hk a1 a2 a3 a4 kk => sk_tin (k := k) hx hb d_law_33 (ej.trans hk) a1 a2 a3 a4 kk
      have hj2 : j = 0 ∨ j = 1 ∨ j = 2 ∨ j = 3 ∨ j = 4 ∨ j = 5 ∨ j = 6 ∨ j = 7 ∨ j = 8 ∨ j = 9 ∨ j = 10 ∨ j = 11 ∨ j = 12 ∨ j = 13 ∨ j = 14 ∨ j = 15 := by omega
      rcases hj2 with rfl | rfl | rfl | rfl | rfl | rfl | rfl | rfl | rfl | rfl | rfl | rfl | rfl | rfl | rfl | rfl
      · exact go 0 (tgt := 112) rfl (by decide) (by decide) rfl (by decide) (lw_c0 C0 hnw p0 hi hL hI hw hl next)
      · exact go 1 (tgt := 175) rfl (by decide) (by decide) rfl (by decide) (lw_c1 C0 hnw p1 hi hL hI hw hl next)
      · exact go 2 (tgt := 198) rfl (by decide) (by decide) rfl (by decide) (lw_c2 C0 hnw p2 hi hL hI hw hl next)
      · exact go 3 (tgt := 251) rfl (by decide) (by decide) rfl (by decide) (lw_c3 C0 hnw p3 hi hL hI hw hl next)
      · exact go 4 (tgt := 274) rfl (by decide) (by decide) rfl (by decide) (lw_c4 C0 hnw p4 hi hL hI hw hl next)
      · exact go 5 (tgt := 337) rfl (by decide) (by decide) rfl (by decide) (lw_c5 C0 hnw p5 hi hL hI hw hl next)
      · exact go 6 (tgt := 360) rfl (by decide) (by decide) rfl (by decide) (lw_c6 C0 hnw p6 hi hL hI hw hl next)
      · exact go 7 (tgt := 373) rfl (by decide) (by decide) rfl (by decide) (lw_c7 C0 hnw p7 hi hL hI hw hl next)
      · exact go 8 (tgt := 412) rfl (by decide) (by decide) rfl (by decide) (lw_c8 C0 hnw p8 hi hL hI hw hl next)
      · exact go 9 (tgt := 445) rfl (by decide) (by decide) rfl (by decide) (lw_c9 C0 hnw p9 hi hL hI hw hl next)
      · exact go 10 (tgt := 478) rfl (by decide) (by decide) rfl (by decide) (lw_c10 C0 hnw p10 hi hL hI hw hl next)
      · exact go 11 (tgt := 557) rfl (by decide) (by decide) rfl (by decide) (lw_c11 C0 hnw p11 hi hL hI hw hl next)
      · exact go 12 (tgt := 626) rfl (by decide) (by decide) rfl (by decide) (lw_c12 C0 hnw p12 hi hL hI hw hl next)
      · exact go 13 (tgt := 685) rfl (by decide) (by decide) rfl (by decide) (lw_c13 C0 hnw p13 hi hL hI hw hl next)
      · exact go 14 (tgt := 708) rfl (by decide) (by decide) rfl (by decide) (lw_c14 C0 hnw p14 hi hL hI hw hl next)
      · exact go 15 (tgt := 767) rfl (by decide) (by decide) rfl (by decide) (lw_c15 C0 hnw p15 hi hL hI hw hl next)
