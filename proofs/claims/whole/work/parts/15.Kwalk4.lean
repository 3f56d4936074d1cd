set_option maxHeartbeats 4000000 in
set_option maxRecDepth 100000 in
theorem c_K_SF_letter {l : Launch} {D : va_G} {A : Nat → Prop} {a : Nat → Nat} {cI cJ cC : ClassId} {adK adV : Nat → Nat} {st : sk_M} {v1 : Int32} {res : Int32 × sk_M} (hok : sk_ok A (nwK A adK adV)) (h : K_SF_letter st v1 = some res) : sk_Ci l y_K_SF_letter w_K_SF_letter rm_K_SF_letter D (tyK cI cJ cC) A (ceK a cI cJ cC) (nwK A adK adV) [.ref (a 0), .int v1] st res.1 res.2 := by
  refine sk_headi .int (by decide) rfl (Nat.le_of_ble_eq_true rfl) ?_
  intro p e s m args below meth c Q hx hb hml hown hts0 hnw hret ls hl hw
  have hts : ∀ w ∈ TB, w.before args s = true := fun w h => hts0 w (List.mem_cons_of_mem _ h)
  have hown : s.vm.findClass R_SF = some m.cls := hown
  have hl : lv_has ls 2 [(0, .ref (a 0)), (1, .int v1)] := hl
  unfold K_SF_letter at h
  refine lv_iload_n hx hb d_K_SF_letter_0 rfl (lv_at hl 1 rfl) ?_
  refine lv_bipush (v := 32) hx hb d_K_SF_letter_1 (by decide) ?_
  refine lv_bipush (v := 126) hx hb d_K_SF_letter_3 (by decide) ?_
  refine sk_callSi (As := [.int v1, .int (32 : Int32), .int (126 : Int32)]) (rest := []) ⟨hx, hb, hml, hown, hts⟩ hw hnw hok (c_K_SF_within hok rfl) (cw_SF_87 hts hnw (by decide)) rfl hl.1 rfl (Nat.le_of_ble_eq_true rfl) d_K_SF_letter_5 (fun H locs hw => ?_)
  refine lv_if_ne (tgt := 13) hx hb d_K_SF_letter_8 (by decide) (fun c_8 => ?_) (fun c_8 => ?_)
  · have h := (if_neg c_8).symm.trans h
    refine lv_aload_n hx hb d_K_SF_letter_13 rfl (lv_at hl 0 rfl) ?_
    refine gf_SF_37 hx hb hts hnw hown hw d_K_SF_letter_14 ?_
    refine lv_iload_n hx hb d_K_SF_letter_17 rfl (lv_at hl 1 rfl) ?_
    obtain ⟨x18, st18, q_18, h⟩ := sk_oW_some h
    refine sk_callVi (As := [.int v1]) (rest := []) ⟨hx, hb, hml, hown, hts⟩ hw hnw hok (c_K_Text_put hok (by decide) q_18) (cw_SF_137 hts hnw (by decide)) (rc_T (i := 0) hw (by decide)) rfl hl.1 rfl (Nat.le_of_ble_eq_true rfl) d_K_SF_letter_18 (fun H locs hw => ?_)
    refine lv_if_eq (tgt := 34) hx hb d_K_SF_letter_21 (by decide) (fun c_21 => ?_) (fun c_21 => ?_)
    · have h := (if_pos c_21).symm.trans h
      refine lv_bipush (v := -3) hx hb d_K_SF_letter_34 (by decide) ?_
      exact hret _ _ _ _ _ _ (sk_p1 h) (sk_p2 h) (vp_nar_int _) hw d_K_SF_letter_36
    · have h := (if_neg c_21).symm.trans h
      refine lv_aload_n hx hb d_K_SF_letter_24 rfl (lv_at hl 0 rfl) ?_
      refine gf_SF_37 hx hb hts hnw hown hw d_K_SF_letter_25 ?_
      refine gf_SF_140 (i := 0) hx hb hts hnw hown hw (by decide) d_K_SF_letter_28 ?_
      refine lv_goto (tgt := 36) hx hb d_K_SF_letter_31 (by decide) ?_
      exact hret _ _ _ _ _ _ (sk_p1 h) (sk_p2 h) (vp_nar_int _) hw d_K_SF_letter_36
  · have h := (if_pos c_8).symm.trans h
    refine lv_iconst (v := -1) hx hb d_K_SF_letter_11 (by decide) ?_
    exact hret _ _ _ _ _ _ (sk_p1 h) (sk_p2 h) (vp_nar_int _) hw d_K_SF_letter_12
set_option maxHeartbeats 4000000 in
set_option maxRecDepth 100000 in
theorem c_K_SF_rule {l : Launch} {D : va_G} {A : Nat → Prop} {a : Nat → Nat} {cI cJ cC : ClassId} {adK adV : Nat → Nat} {N : Nat} {st : sk_M} {res : Int32 × sk_M} (hok : sk_ok A (nwK A adK adV)) (h : K_SF_rule N st = some res) : sk_Ci l y_K_SF_rule w_K_SF_rule rm_K_SF_rule D (tyK cI cJ cC) A (ceK a cI cJ cC) (nwK A adK adV) [.ref (a 0)] st res.1 res.2 := by
  refine sk_headi .int (by decide) rfl (Nat.le_of_ble_eq_true rfl) ?_
  intro p e s m args below meth c Q hx hb hml hown hts0 hnw hret ls hl hw
  have hts : ∀ w ∈ TB, w.before args s = true := fun w h => hts0 w (List.mem_cons_of_mem _ h)
  have hown : s.vm.findClass R_SF = some m.cls := hown
  have hl : lv_has ls 2 [(0, .ref (a 0))] := hl
  unfold K_SF_rule at h
  refine lv_aload_n hx hb d_K_SF_rule_0 rfl (lv_at hl 0 rfl) ?_
  refine gf_SF_46 hx hb hts hnw hown hw d_K_SF_rule_1 ?_
  obtain ⟨x4, st4, q_4, h⟩ := sk_oW_some h
  refine sk_callVi (As := []) (rest := []) ⟨hx, hb, hml, hown, hts⟩ hw hnw hok (c_K_RuleReader_read hok q_4) (cw_SF_144 hts hnw (by decide)) (rc_K8 hw) rfl hl.1 rfl (Nat.le_of_ble_eq_true rfl) d_K_SF_rule_4 (fun H locs hw => ?_)
  refine lv_istore_n (lv' := [(1, .int x4), (0, .ref (a 0))]) hx hb d_K_SF_rule_7 rfl hl (by decide) rfl (fun ls hl => ?_)
  refine lv_aload_n hx hb d_K_SF_rule_8 rfl (lv_at hl 1 rfl) ?_
  refine gf_SF_37 hx hb hts hnw hown hw d_K_SF_rule_9 ?_
  obtain ⟨st12, q_12, h⟩ := sk_oR_some h
  refine sk_callVv (As := []) (rest := []) ⟨hx, hb, hml, hown, hts⟩ hw hnw hok (c_K_Text_wipe hok (by decide) q_12) (cw_SF_148 hts hnw (by decide)) (rc_T (i := 0) hw (by decide)) rfl hl.1 rfl (Nat.le_of_ble_eq_true rfl) d_K_SF_rule_12 (fun H locs hw => ?_)
  refine lv_iload_n hx hb d_K_SF_rule_15 rfl (lv_at hl 0 rfl) ?_
  refine lv_if_eq (tgt := 24) hx hb d_K_SF_rule_16 (by decide) (fun c_16 => ?_) (fun c_16 => ?_)
  · have h := (if_pos c_16).symm.trans h
    refine lv_aload_n hx hb d_K_SF_rule_24 rfl (lv_at hl 1 rfl) ?_
    refine lv_iconst (v := 0) hx hb d_K_SF_rule_25 (by decide) ?_
    obtain ⟨st26, e_26, h⟩ := sk_fI_some h
    refine pf_SF_95 hx hb hts hnw hown hw (by decide) e_26 d_K_SF_rule_26 (fun H locs hw => ?_)
    refine lv_aload_n hx hb d_K_SF_rule_29 rfl (lv_at hl 1 rfl) ?_
    refine gf_SF_53 hx hb hts hnw hown hw d_K_SF_rule_30 ?_
    refine lv_aload_n hx hb d_K_SF_rule_33 rfl (lv_at hl 1 rfl) ?_
    refine gf_SF_46 hx hb hts hnw hown hw d_K_SF_rule_34 ?_
    obtain ⟨x37, st37, q_37, h⟩ := sk_oW_some h
    refine sk_callVi (As := [.ref (a 8)]) (rest := []) ⟨hx, hb, hml, hown, hts⟩ hw hnw hok (c_K_RuleBook_add hok q_37) (cw_SF_151 hts hnw (by decide)) (rc_K9 hw) rfl hl.1 rfl (Nat.le_of_ble_eq_true rfl) d_K_SF_rule_37 (fun H locs hw => ?_)
    exact hret _ _ _ _ _ _ (sk_p1 h) (sk_p2 h) (vp_nar_int _) hw d_K_SF_rule_40
  · have h := (if_neg c_16).symm.trans h
    refine lv_bipush (v := -10) hx hb d_K_SF_rule_19 (by decide) ?_
    refine lv_iload_n hx hb d_K_SF_rule_21 rfl (lv_at hl 0 rfl) ?_
    refine lv_isub hx hb d_K_SF_rule_22 ?_
    exact hret _ _ _ _ _ _ (sk_p1 h) (sk_p2 h) (vp_nar_int _) hw d_K_SF_rule_23
set_option maxHeartbeats 4000000 in
set_option maxRecDepth 100000 in
theorem c_K_SF_clear {l : Launch} {D : va_G} {A : Nat → Prop} {a : Nat → Nat} {cI cJ cC : ClassId} {adK adV : Nat → Nat} {N : Nat} {st : sk_M} {v1 : Int32} {res : Int32 × sk_M} (hok : sk_ok A (nwK A adK adV)) (h : K_SF_clear N st v1 = some res) : sk_Ci l y_K_SF_clear w_K_SF_clear rm_K_SF_clear D (tyK cI cJ cC) A (ceK a cI cJ cC) (nwK A adK adV) [.ref (a 0), .int v1] st res.1 res.2 := by
  refine sk_headi .int (by decide) rfl (Nat.le_of_ble_eq_true rfl) ?_
  intro p e s m args below meth c Q hx hb hml hown hts0 hnw hret ls hl hw
  have hts : ∀ w ∈ TB, w.before args s = true := fun w h => hts0 w (List.mem_cons_of_mem _ h)
  have hown : s.vm.findClass R_SF = some m.cls := hown
  have hl : lv_has ls 3 [(0, .ref (a 0)), (1, .int v1)] := hl
  unfold K_SF_clear at h
  refine lv_aload_n hx hb d_K_SF_clear_0 rfl (lv_at hl 0 rfl) ?_
  refine gf_SF_53 hx hb hts hnw hown hw d_K_SF_clear_1 ?_
  refine gf_SF_154 hx hb hts hnw hown hw d_K_SF_clear_4 ?_
  refine lv_istore_n (lv' := [(2, .int (st.1 0 7)), (0, .ref (a 0)), (1, .int v1)]) hx hb d_K_SF_clear_7 rfl hl (by decide) rfl (fun ls hl => ?_)
  refine lv_aload_n hx hb d_K_SF_clear_8 rfl (lv_at hl 1 rfl) ?_
  refine gf_SF_53 hx hb hts hnw hown hw d_K_SF_clear_9 ?_
  refine lv_iconst (v := 0) hx hb d_K_SF_clear_12 (by decide) ?_
  obtain ⟨st13, e_13, h⟩ := sk_fI_some h
  refine pf_SF_154 hx hb hts hnw hown hw e_13 d_K_SF_clear_13 (fun H locs hw => ?_)
  refine lv_aload_n hx hb d_K_SF_clear_16 rfl (lv_at hl 1 rfl) ?_
  refine gf_SF_37 hx hb hts hnw hown hw d_K_SF_clear_17 ?_
  obtain ⟨st20, q_20, h⟩ := sk_oR_some h
  refine sk_callVv (As := []) (rest := []) ⟨hx, hb, hml, hown, hts⟩ hw hnw hok (c_K_Text_wipe hok (by decide) q_20) (cw_SF_148 hts hnw (by decide)) (rc_T (i := 0) hw (by decide)) rfl hl.1 rfl (Nat.le_of_ble_eq_true rfl) d_K_SF_clear_20 (fun H locs hw => ?_)
  refine lv_iload_n hx hb d_K_SF_clear_23 rfl (lv_at hl 2 rfl) ?_
  have hJ49 : ∀ (st : sk_M) (v2 : Int32) (H : Heap) (locs : List Loc) (ls : Array Slot), K_SF_clear_J49 N st v2 = some res → sk_w D (tyK cI cJ cC) A (ceK a cI cJ cC) s st H locs → lv_has ls 3 [(0, .ref (a 0)), (2, .int v2)] → W p l e rm_K_SF_clear s m args below meth c H locs 0 0 Q (F0 m 49 ls []) := by
    intro st v2 H locs ls h hw hl
    unfold K_SF_clear_J49 at h
    refine lv_aload_n hx hb d_K_SF_clear_49 rfl (lv_at hl 0 rfl) ?_
    refine lv_iconst (v := 0) hx hb d_K_SF_clear_50 (by decide) ?_
    obtain ⟨st51, e_51, h⟩ := sk_fI_some h
    refine pf_SF_95 hx hb hts hnw hown hw (by decide) e_51 d_K_SF_clear_51 (fun H locs hw => ?_)
    refine lv_iload_n hx hb d_K_SF_clear_54 rfl (lv_at hl 1 rfl) ?_
    exact hret _ _ _ _ _ _ (sk_p1 h) (sk_p2 h) (vp_nar_int _) hw d_K_SF_clear_55
  refine lv_if_eq (tgt := 49) hx hb d_K_SF_clear_24 (by decide) (fun c_24 => ?_) (fun c_24 => ?_)
  · have h := (if_pos c_24).symm.trans h
    exact hJ49 _ _ _ _ _ h hw (lv_sub hl [1, 0] rfl)
  · have h := (if_neg c_24).symm.trans h
    refine lv_aload_n hx hb d_K_SF_clear_27 rfl (lv_at hl 1 rfl) ?_
    refine gf_SF_12 hx hb hts hnw hown hw d_K_SF_clear_28 ?_
    obtain ⟨st31, q_31, h⟩ := sk_oR_some h
    refine sk_callVv (As := []) (rest := []) ⟨hx, hb, hml, hown, hts⟩ hw hnw hok (c_K_Types_reset hok q_31) (cw_SF_157 hts hnw (by decide)) (rc_K1 hw) rfl hl.1 rfl (Nat.le_of_ble_eq_true rfl) d_K_SF_clear_31 (fun H locs hw => ?_)
    refine lv_aload_n hx hb d_K_SF_clear_34 rfl (lv_at hl 1 rfl) ?_
    refine gf_SF_21 hx hb hts hnw hown hw d_K_SF_clear_35 ?_
    obtain ⟨st38, q_38, h⟩ := sk_oR_some h
    refine sk_callVv (As := []) (rest := []) ⟨hx, hb, hml, hown, hts⟩ hw hnw hok (c_K_Members_reset hok q_38) (cw_SF_160 hts hnw (by decide)) (rc_K2 hw) rfl hl.1 rfl (Nat.le_of_ble_eq_true rfl) d_K_SF_clear_38 (fun H locs hw => ?_)
    refine lv_aload_n hx hb d_K_SF_clear_41 rfl (lv_at hl 1 rfl) ?_
    refine gf_SF_28 hx hb hts hnw hown hw d_K_SF_clear_42 ?_
    refine lv_iconst (v := 0) hx hb d_K_SF_clear_45 (by decide) ?_
    obtain ⟨st46, e_46, h⟩ := sk_fI_some h
    refine pf_SF_161 hx hb hts hnw hown hw e_46 d_K_SF_clear_46 (fun H locs hw => ?_)
    exact hJ49 _ _ _ _ _ h hw (lv_sub hl [1, 0] rfl)
set_option maxHeartbeats 4000000 in
set_option maxRecDepth 100000 in
theorem c_K_SF_settle {l : Launch} {D : va_G} {A : Nat → Prop} {a : Nat → Nat} {cI cJ cC : ClassId} {adK adV : Nat → Nat} {N : Nat} {st : sk_M} {res : sk_M} (hok : sk_ok A (nwK A adK adV)) (h : K_SF_settle N st = some res) : sk_Cv l y_K_SF_settle w_K_SF_settle rm_K_SF_settle D (tyK cI cJ cC) A (ceK a cI cJ cC) (nwK A adK adV) [.ref (a 0)] st res := by
  refine sk_headv (by decide) rfl (Nat.le_of_ble_eq_true rfl) ?_
  intro p e s m args below meth c Q hx hb hml hown hts0 hnw hret ls hl hw
  have hts : ∀ w ∈ TB, w.before args s = true := fun w h => hts0 w (List.mem_cons_of_mem _ h)
  have hown : s.vm.findClass R_SF = some m.cls := hown
  have hl : lv_has ls 1 [(0, .ref (a 0))] := hl
  unfold K_SF_settle at h
  refine lv_aload_n hx hb d_K_SF_settle_0 rfl (lv_at hl 0 rfl) ?_
  refine gf_SF_95 hx hb hts hnw hown hw d_K_SF_settle_1 ?_
  refine lv_if_eq (tgt := 8) hx hb d_K_SF_settle_4 (by decide) (fun c_4 => ?_) (fun c_4 => ?_)
  · have h := (if_pos c_4).symm.trans h
    refine lv_aload_n hx hb d_K_SF_settle_8 rfl (lv_at hl 0 rfl) ?_
    refine gf_SF_53 hx hb hts hnw hown hw d_K_SF_settle_9 ?_
    refine lv_aload_n hx hb d_K_SF_settle_12 rfl (lv_at hl 0 rfl) ?_
    refine gf_SF_12 hx hb hts hnw hown hw d_K_SF_settle_13 ?_
    refine lv_aload_n hx hb d_K_SF_settle_16 rfl (lv_at hl 0 rfl) ?_
    refine gf_SF_21 hx hb hts hnw hown hw d_K_SF_settle_17 ?_
    obtain ⟨st20, q_20, h⟩ := sk_oR_some h
    refine sk_callVv (As := [.ref (a 1), .ref (a 2)]) (rest := []) ⟨hx, hb, hml, hown, hts⟩ hw hnw hok (c_K_RuleBook_look hok q_20) (cw_SF_263 hts hnw (by decide)) (rc_K9 hw) rfl hl.1 rfl (Nat.le_of_ble_eq_true rfl) d_K_SF_settle_20 (fun H locs hw => ?_)
    refine lv_aload_n hx hb d_K_SF_settle_23 rfl (lv_at hl 0 rfl) ?_
    refine gf_SF_62 hx hb hts hnw hown hw d_K_SF_settle_24 ?_
    obtain ⟨st27, q_27, h⟩ := sk_oR_some h
    refine sk_callVv (As := []) (rest := []) ⟨hx, hb, hml, hown, hts⟩ hw hnw hok (c_K_Needs_work hok q_27) (cw_SF_267 hts hnw (by decide)) (rc_K10 hw) rfl hl.1 rfl (Nat.le_of_ble_eq_true rfl) d_K_SF_settle_27 (fun H locs hw => ?_)
    refine lv_aload_n hx hb d_K_SF_settle_30 rfl (lv_at hl 0 rfl) ?_
    refine gf_SF_71 hx hb hts hnw hown hw d_K_SF_settle_31 ?_
    obtain ⟨st34, q_34, h⟩ := sk_oR_some h
    refine sk_callVv (As := []) (rest := []) ⟨hx, hb, hml, hown, hts⟩ hw hnw hok (c_K_Names_work hok q_34) (cw_SF_270 hts hnw (by decide)) (rc_K11 hw) rfl hl.1 rfl (Nat.le_of_ble_eq_true rfl) d_K_SF_settle_34 (fun H locs hw => ?_)
    refine lv_aload_n hx hb d_K_SF_settle_37 rfl (lv_at hl 0 rfl) ?_
    refine gf_SF_80 hx hb hts hnw hown hw d_K_SF_settle_38 ?_
    refine lv_iconst (v := 1) hx hb d_K_SF_settle_41 (by decide) ?_
    obtain ⟨st42, e_42, h⟩ := sk_fI_some h
    refine pf_SF_271 hx hb hts hnw hown hw (by decide) e_42 d_K_SF_settle_42 (fun H locs hw => ?_)
    refine lv_aload_n hx hb d_K_SF_settle_45 rfl (lv_at hl 0 rfl) ?_
    refine lv_iconst (v := 1) hx hb d_K_SF_settle_46 (by decide) ?_
    obtain ⟨st47, e_47, h⟩ := sk_fI_some h
    refine pf_SF_95 hx hb hts hnw hown hw (by decide) e_47 d_K_SF_settle_47 (fun H locs hw => ?_)
    exact hret _ _ _ _ _ (Option.some.inj h) hw d_K_SF_settle_50
  · have h := (if_neg c_4).symm.trans h
    exact hret _ _ _ _ _ (Option.some.inj h) hw d_K_SF_settle_7
set_option maxHeartbeats 4000000 in
set_option maxRecDepth 100000 in
theorem c_K_SF_needs {l : Launch} {D : va_G} {A : Nat → Prop} {a : Nat → Nat} {cI cJ cC : ClassId} {adK adV : Nat → Nat} {N : Nat} {st : sk_M} {v1 : Int32} {v2 : Int32} {res : Int32 × sk_M} (hok : sk_ok A (nwK A adK adV)) (h : K_SF_needs N st v1 v2 = some res) : sk_Ci l y_K_SF_needs w_K_SF_needs rm_K_SF_needs D (tyK cI cJ cC) A (ceK a cI cJ cC) (nwK A adK adV) [.ref (a 0), .int v1, .int v2] st res.1 res.2 := by
  refine sk_headi .int (by decide) rfl (Nat.le_of_ble_eq_true rfl) ?_
  intro p e s m args below meth c Q hx hb hml hown hts0 hnw hret ls hl hw
  have hts : ∀ w ∈ TB, w.before args s = true := fun w h => hts0 w (List.mem_cons_of_mem _ h)
  have hown : s.vm.findClass R_SF = some m.cls := hown
  have hl : lv_has ls 3 [(0, .ref (a 0)), (1, .int v1), (2, .int v2)] := hl
  unfold K_SF_needs at h
  refine lv_iload_n hx hb d_K_SF_needs_0 rfl (lv_at hl 2 rfl) ?_
  refine lv_iconst (v := 0) hx hb d_K_SF_needs_1 (by decide) ?_
  refine lv_iconst (v := 5) hx hb d_K_SF_needs_2 (by decide) ?_
  refine sk_callSi (As := [.int v2, .int (0 : Int32), .int (5 : Int32)]) (rest := []) ⟨hx, hb, hml, hown, hts⟩ hw hnw hok (c_K_SF_within hok rfl) (cw_SF_87 hts hnw (by decide)) rfl hl.1 rfl (Nat.le_of_ble_eq_true rfl) d_K_SF_needs_3 (fun H locs hw => ?_)
  refine lv_if_ne (tgt := 11) hx hb d_K_SF_needs_6 (by decide) (fun c_6 => ?_) (fun c_6 => ?_)
  · have h := (if_neg c_6).symm.trans h
    refine lv_aload_n hx hb d_K_SF_needs_11 rfl (lv_at hl 0 rfl) ?_
    refine gf_SF_12 hx hb hts hnw hown hw d_K_SF_needs_12 ?_
    refine lv_iload_n hx hb d_K_SF_needs_15 rfl (lv_at hl 1 rfl) ?_
    refine sk_callVi (As := [.int v1]) (rest := []) ⟨hx, hb, hml, hown, hts⟩ hw hnw hok (c_K_Types_isThere hok rfl) (cw_SF_99 hts hnw (by decide)) (rc_K1 hw) rfl hl.1 rfl (Nat.le_of_ble_eq_true rfl) d_K_SF_needs_16 (fun H locs hw => ?_)
    refine lv_if_ne (tgt := 25) hx hb d_K_SF_needs_19 (by decide) (fun c_19 => ?_) (fun c_19 => ?_)
    · have h := (if_neg c_19).symm.trans h
      refine lv_aload_n hx hb d_K_SF_needs_25 rfl (lv_at hl 0 rfl) ?_
      obtain ⟨st26, q_26, h⟩ := sk_oR_some h
      refine sk_callVv (As := []) (rest := []) ⟨hx, hb, hml, hown, hts⟩ hw hnw hok (c_K_SF_settle hok q_26) (cw_SF_162 hts hnw (by decide)) (rc_K0 hw) rfl hl.1 rfl (Nat.le_of_ble_eq_true rfl) d_K_SF_needs_26 (fun H locs hw => ?_)
      refine lv_iload_n hx hb d_K_SF_needs_29 rfl (lv_at hl 2 rfl) ?_
      rcases Classical.em (v2 = 0) with c_30_0 | c_30_0
      · have h := (if_pos c_30_0).symm.trans h
        refine sk_tin (k := 0) (tgt := 64) hx hb d_K_SF_needs_30 c_30_0 (by decide) (by decide) rfl (by decide) ?_
        refine lv_aload_n hx hb d_K_SF_needs_64 rfl (lv_at hl 0 rfl) ?_
        refine gf_SF_62 hx hb hts hnw hown hw d_K_SF_needs_65 ?_
        refine gf_SF_165 hx hb hts hnw hown hw d_K_SF_needs_68 ?_
        refine lv_iload_n hx hb d_K_SF_needs_71 rfl (lv_at hl 1 rfl) ?_
        refine sk_callSi (As := [.long (st26.2 0 4), .int v1]) (rest := []) ⟨hx, hb, hml, hown, hts⟩ hw hnw hok (c_K_SF_has hok rfl) (cw_SF_169 hts hnw (by decide)) rfl hl.1 rfl (Nat.le_of_ble_eq_true rfl) d_K_SF_needs_72 (fun H locs hw => ?_)
        refine sk_callSi (As := [.int (K_SF_has (st26.2 0 4) v1)]) (rest := []) ⟨hx, hb, hml, hown, hts⟩ hw hnw hok (c_K_SF_asNumber hok rfl) (cw_SF_173 hts hnw (by decide)) rfl hl.1 rfl (Nat.le_of_ble_eq_true rfl) d_K_SF_needs_75 (fun H locs hw => ?_)
        exact hret _ _ _ _ _ _ (sk_p1 h) (sk_p2 h) (vp_nar_int _) hw d_K_SF_needs_78
      have h := (if_neg c_30_0).symm.trans h
      rcases Classical.em (v2 = 1) with c_30_1 | c_30_1
      · have h := (if_pos c_30_1).symm.trans h
        refine sk_tin (k := 1) (tgt := 79) hx hb d_K_SF_needs_30 c_30_1 (by decide) (by decide) rfl (by decide) ?_
        refine lv_aload_n hx hb d_K_SF_needs_79 rfl (lv_at hl 0 rfl) ?_
        refine gf_SF_62 hx hb hts hnw hown hw d_K_SF_needs_80 ?_
        refine gf_SF_177 hx hb hts hnw hown hw d_K_SF_needs_83 ?_
        refine lv_iload_n hx hb d_K_SF_needs_86 rfl (lv_at hl 1 rfl) ?_
        refine sk_callSi (As := [.long (st26.2 0 5), .int v1]) (rest := []) ⟨hx, hb, hml, hown, hts⟩ hw hnw hok (c_K_SF_has hok rfl) (cw_SF_169 hts hnw (by decide)) rfl hl.1 rfl (Nat.le_of_ble_eq_true rfl) d_K_SF_needs_87 (fun H locs hw => ?_)
        refine sk_callSi (As := [.int (K_SF_has (st26.2 0 5) v1)]) (rest := []) ⟨hx, hb, hml, hown, hts⟩ hw hnw hok (c_K_SF_asNumber hok rfl) (cw_SF_173 hts hnw (by decide)) rfl hl.1 rfl (Nat.le_of_ble_eq_true rfl) d_K_SF_needs_90 (fun H locs hw => ?_)
        exact hret _ _ _ _ _ _ (sk_p1 h) (sk_p2 h) (vp_nar_int _) hw d_K_SF_needs_93
      have h := (if_neg c_30_1).symm.trans h
      rcases Classical.em (v2 = 2) with c_30_2 | c_30_2
      · have h := (if_pos c_30_2).symm.trans h
        refine sk_tin (k := 2) (tgt := 94) hx hb d_K_SF_needs_30 c_30_2 (by decide) (by decide) rfl (by decide) ?_
        refine lv_aload_n hx hb d_K_SF_needs_94 rfl (lv_at hl 0 rfl) ?_
        refine gf_SF_62 hx hb hts hnw hown hw d_K_SF_needs_95 ?_
        refine gf_SF_180 hx hb hts hnw hown hw d_K_SF_needs_98 ?_
        refine lv_iload_n hx hb d_K_SF_needs_101 rfl (lv_at hl 1 rfl) ?_
        refine sk_callSi (As := [.long (st26.2 0 6), .int v1]) (rest := []) ⟨hx, hb, hml, hown, hts⟩ hw hnw hok (c_K_SF_has hok rfl) (cw_SF_169 hts hnw (by decide)) rfl hl.1 rfl (Nat.le_of_ble_eq_true rfl) d_K_SF_needs_102 (fun H locs hw => ?_)
        refine sk_callSi (As := [.int (K_SF_has (st26.2 0 6) v1)]) (rest := []) ⟨hx, hb, hml, hown, hts⟩ hw hnw hok (c_K_SF_asNumber hok rfl) (cw_SF_173 hts hnw (by decide)) rfl hl.1 rfl (Nat.le_of_ble_eq_true rfl) d_K_SF_needs_105 (fun H locs hw => ?_)
        exact hret _ _ _ _ _ _ (sk_p1 h) (sk_p2 h) (vp_nar_int _) hw d_K_SF_needs_108
      have h := (if_neg c_30_2).symm.trans h
      rcases Classical.em (v2 = 3) with c_30_3 | c_30_3
      · have h := (if_pos c_30_3).symm.trans h
        refine sk_tin (k := 3) (tgt := 109) hx hb d_K_SF_needs_30 c_30_3 (by decide) (by decide) rfl (by decide) ?_
        refine lv_aload_n hx hb d_K_SF_needs_109 rfl (lv_at hl 0 rfl) ?_
        refine gf_SF_71 hx hb hts hnw hown hw d_K_SF_needs_110 ?_
        refine gf_SF_183 hx hb hts hnw hown hw d_K_SF_needs_113 ?_
        refine lv_iload_n hx hb d_K_SF_needs_116 rfl (lv_at hl 1 rfl) ?_
        refine sk_callSi (As := [.long (st26.2 0 2), .int v1]) (rest := []) ⟨hx, hb, hml, hown, hts⟩ hw hnw hok (c_K_SF_has hok rfl) (cw_SF_169 hts hnw (by decide)) rfl hl.1 rfl (Nat.le_of_ble_eq_true rfl) d_K_SF_needs_117 (fun H locs hw => ?_)
        refine sk_callSi (As := [.int (K_SF_has (st26.2 0 2) v1)]) (rest := []) ⟨hx, hb, hml, hown, hts⟩ hw hnw hok (c_K_SF_asNumber hok rfl) (cw_SF_173 hts hnw (by decide)) rfl hl.1 rfl (Nat.le_of_ble_eq_true rfl) d_K_SF_needs_120 (fun H locs hw => ?_)
        exact hret _ _ _ _ _ _ (sk_p1 h) (sk_p2 h) (vp_nar_int _) hw d_K_SF_needs_123
      have h := (if_neg c_30_3).symm.trans h
      rcases Classical.em (v2 = 4) with c_30_4 | c_30_4
      · have h := (if_pos c_30_4).symm.trans h
        refine sk_tin (k := 4) (tgt := 124) hx hb d_K_SF_needs_30 c_30_4 (by decide) (by decide) rfl (by decide) ?_
        refine lv_aload_n hx hb d_K_SF_needs_124 rfl (lv_at hl 0 rfl) ?_
        refine gf_SF_12 hx hb hts hnw hown hw d_K_SF_needs_125 ?_
        refine gf_SF_186 hx hb hts hnw hown hw d_K_SF_needs_128 ?_
        refine lv_iload_n hx hb d_K_SF_needs_131 rfl (lv_at hl 1 rfl) ?_
        obtain ⟨x132, g_132, e_132, h⟩ := sk_rL_some h
        refine al_K42 hx hb hw g_132 e_132 d_K_SF_needs_132 ?_
        refine sk_callSi (As := [.long x132]) (rest := []) ⟨hx, hb, hml, hown, hts⟩ hw hnw hok (c_J_bitCount hok rfl) (cw_SF_190 hts hnw (by decide)) rfl hl.1 rfl (Nat.le_of_ble_eq_true rfl) d_K_SF_needs_133 (fun H locs hw => ?_)
        exact hret _ _ _ _ _ _ (sk_p1 h) (sk_p2 h) (vp_nar_int _) hw d_K_SF_needs_136
      have h := (if_neg c_30_4).symm.trans h
      refine lv_tableOut (tgt := 137) hx hb d_K_SF_needs_30 (sk_tout5 c_30_0 c_30_1 c_30_2 c_30_3 c_30_4) (by decide) ?_
      refine lv_aload_n hx hb d_K_SF_needs_137 rfl (lv_at hl 0 rfl) ?_
      refine gf_SF_53 hx hb hts hnw hown hw d_K_SF_needs_138 ?_
      refine lv_iload_n hx hb d_K_SF_needs_141 rfl (lv_at hl 1 rfl) ?_
      obtain ⟨x142, q_142, h⟩ := sk_oR_some h
      refine sk_callVi (As := [.int v1]) (rest := []) ⟨hx, hb, hml, hown, hts⟩ hw hnw hok (c_K_RuleBook_greatestAbout hok q_142) (cw_SF_196 hts hnw (by decide)) (rc_K9 hw) rfl hl.1 rfl (Nat.le_of_ble_eq_true rfl) d_K_SF_needs_142 (fun H locs hw => ?_)
      exact hret _ _ _ _ _ _ (sk_p1 h) (sk_p2 h) (vp_nar_int _) hw d_K_SF_needs_145
    · have h := (if_pos c_19).symm.trans h
      refine lv_bipush (v := -2) hx hb d_K_SF_needs_22 (by decide) ?_
      exact hret _ _ _ _ _ _ (sk_p1 h) (sk_p2 h) (vp_nar_int _) hw d_K_SF_needs_24
  · have h := (if_pos c_6).symm.trans h
    refine lv_iconst (v := -1) hx hb d_K_SF_needs_9 (by decide) ?_
    exact hret _ _ _ _ _ _ (sk_p1 h) (sk_p2 h) (vp_nar_int _) hw d_K_SF_needs_10
set_option maxHeartbeats 4000000 in
set_option maxRecDepth 100000 in
theorem c_K_SF_part {l : Launch} {D : va_G} {A : Nat → Prop} {a : Nat → Nat} {cI cJ cC : ClassId} {adK adV : Nat → Nat} {N : Nat} {st : sk_M} {v1 : Int32} {v2 : Int32} {res : Int32 × sk_M} (hok : sk_ok A (nwK A adK adV)) (h : K_SF_part N st v1 v2 = some res) : sk_Ci l y_K_SF_part w_K_SF_part rm_K_SF_part D (tyK cI cJ cC) A (ceK a cI cJ cC) (nwK A adK adV) [.ref (a 0), .int v1, .int v2] st res.1 res.2 := by
  refine sk_headi .int (by decide) rfl (Nat.le_of_ble_eq_true rfl) ?_
  intro p e s m args below meth c Q hx hb hml hown hts0 hnw hret ls hl hw
  have hts : ∀ w ∈ TB, w.before args s = true := fun w h => hts0 w (List.mem_cons_of_mem _ h)
  have hown : s.vm.findClass R_SF = some m.cls := hown
  have hl : lv_has ls 3 [(0, .ref (a 0)), (1, .int v1), (2, .int v2)] := hl
  unfold K_SF_part at h
  refine lv_iload_n hx hb d_K_SF_part_0 rfl (lv_at hl 2 rfl) ?_
  refine lv_iconst (v := 0) hx hb d_K_SF_part_1 (by decide) ?_
  refine lv_iconst (v := 5) hx hb d_K_SF_part_2 (by decide) ?_
  refine sk_callSi (As := [.int v2, .int (0 : Int32), .int (5 : Int32)]) (rest := []) ⟨hx, hb, hml, hown, hts⟩ hw hnw hok (c_K_SF_within hok rfl) (cw_SF_87 hts hnw (by decide)) rfl hl.1 rfl (Nat.le_of_ble_eq_true rfl) d_K_SF_part_3 (fun H locs hw => ?_)
  refine lv_if_ne (tgt := 11) hx hb d_K_SF_part_6 (by decide) (fun c_6 => ?_) (fun c_6 => ?_)
  · have h := (if_neg c_6).symm.trans h
    refine lv_aload_n hx hb d_K_SF_part_11 rfl (lv_at hl 0 rfl) ?_
    refine gf_SF_21 hx hb hts hnw hown hw d_K_SF_part_12 ?_
    refine lv_iload_n hx hb d_K_SF_part_15 rfl (lv_at hl 1 rfl) ?_
    refine sk_callVi (As := [.int v1]) (rest := []) ⟨hx, hb, hml, hown, hts⟩ hw hnw hok (c_K_Members_isAlive hok rfl) (cw_SF_121 hts hnw (by decide)) (rc_K2 hw) rfl hl.1 rfl (Nat.le_of_ble_eq_true rfl) d_K_SF_part_16 (fun H locs hw => ?_)
    refine lv_if_ne (tgt := 25) hx hb d_K_SF_part_19 (by decide) (fun c_19 => ?_) (fun c_19 => ?_)
    · have h := (if_neg c_19).symm.trans h
      refine lv_aload_n hx hb d_K_SF_part_25 rfl (lv_at hl 0 rfl) ?_
      obtain ⟨st26, q_26, h⟩ := sk_oR_some h
      refine sk_callVv (As := []) (rest := []) ⟨hx, hb, hml, hown, hts⟩ hw hnw hok (c_K_SF_settle hok q_26) (cw_SF_162 hts hnw (by decide)) (rc_K0 hw) rfl hl.1 rfl (Nat.le_of_ble_eq_true rfl) d_K_SF_part_26 (fun H locs hw => ?_)
      refine lv_iload_n hx hb d_K_SF_part_29 rfl (lv_at hl 2 rfl) ?_
      rcases Classical.em (v2 = 0) with c_30_0 | c_30_0
      · have h := (if_pos c_30_0).symm.trans h
        refine sk_tin (k := 0) (tgt := 64) hx hb d_K_SF_part_30 c_30_0 (by decide) (by decide) rfl (by decide) ?_
        refine lv_aload_n hx hb d_K_SF_part_64 rfl (lv_at hl 0 rfl) ?_
        refine gf_SF_62 hx hb hts hnw hown hw d_K_SF_part_65 ?_
        refine gf_SF_200 hx hb hts hnw hown hw d_K_SF_part_68 ?_
        refine lv_iload_n hx hb d_K_SF_part_71 rfl (lv_at hl 1 rfl) ?_
        refine sk_callSi (As := [.long (st26.2 0 7), .int v1]) (rest := []) ⟨hx, hb, hml, hown, hts⟩ hw hnw hok (c_K_SF_has hok rfl) (cw_SF_169 hts hnw (by decide)) rfl hl.1 rfl (Nat.le_of_ble_eq_true rfl) d_K_SF_part_72 (fun H locs hw => ?_)
        refine sk_callSi (As := [.int (K_SF_has (st26.2 0 7) v1)]) (rest := []) ⟨hx, hb, hml, hown, hts⟩ hw hnw hok (c_K_SF_asNumber hok rfl) (cw_SF_173 hts hnw (by decide)) rfl hl.1 rfl (Nat.le_of_ble_eq_true rfl) d_K_SF_part_75 (fun H locs hw => ?_)
        exact hret _ _ _ _ _ _ (sk_p1 h) (sk_p2 h) (vp_nar_int _) hw d_K_SF_part_78
      have h := (if_neg c_30_0).symm.trans h
      rcases Classical.em (v2 = 1) with c_30_1 | c_30_1
      · have h := (if_pos c_30_1).symm.trans h
        refine sk_tin (k := 1) (tgt := 79) hx hb d_K_SF_part_30 c_30_1 (by decide) (by decide) rfl (by decide) ?_
        refine lv_aload_n hx hb d_K_SF_part_79 rfl (lv_at hl 0 rfl) ?_
        refine gf_SF_71 hx hb hts hnw hown hw d_K_SF_part_80 ?_
        refine gf_SF_202 hx hb hts hnw hown hw d_K_SF_part_83 ?_
        refine lv_aload_n hx hb d_K_SF_part_86 rfl (lv_at hl 0 rfl) ?_
        refine gf_SF_21 hx hb hts hnw hown hw d_K_SF_part_87 ?_
        refine gf_SF_205 hx hb hts hnw hown hw d_K_SF_part_90 ?_
        refine lv_iload_n hx hb d_K_SF_part_93 rfl (lv_at hl 1 rfl) ?_
        obtain ⟨x94, g_94, e_94, h⟩ := sk_rI_some h
        refine al_K18 hx hb hw g_94 e_94 d_K_SF_part_94 ?_
        refine sk_callSi (As := [.long (st26.2 0 3), .int x94]) (rest := []) ⟨hx, hb, hml, hown, hts⟩ hw hnw hok (c_K_SF_has hok rfl) (cw_SF_169 hts hnw (by decide)) rfl hl.1 rfl (Nat.le_of_ble_eq_true rfl) d_K_SF_part_95 (fun H locs hw => ?_)
        refine sk_callSi (As := [.int (K_SF_has (st26.2 0 3) x94)]) (rest := []) ⟨hx, hb, hml, hown, hts⟩ hw hnw hok (c_K_SF_asNumber hok rfl) (cw_SF_173 hts hnw (by decide)) rfl hl.1 rfl (Nat.le_of_ble_eq_true rfl) d_K_SF_part_98 (fun H locs hw => ?_)
        exact hret _ _ _ _ _ _ (sk_p1 h) (sk_p2 h) (vp_nar_int _) hw d_K_SF_part_101
      have h := (if_neg c_30_1).symm.trans h
      rcases Classical.em (v2 = 2) with c_30_2 | c_30_2
      · have h := (if_pos c_30_2).symm.trans h
        refine sk_tin (k := 2) (tgt := 102) hx hb d_K_SF_part_30 c_30_2 (by decide) (by decide) rfl (by decide) ?_
        refine lv_aload_n hx hb d_K_SF_part_102 rfl (lv_at hl 0 rfl) ?_
        refine gf_SF_21 hx hb hts hnw hown hw d_K_SF_part_103 ?_
        refine gf_SF_209 hx hb hts hnw hown hw d_K_SF_part_106 ?_
        refine lv_iload_n hx hb d_K_SF_part_109 rfl (lv_at hl 1 rfl) ?_
        obtain ⟨x110, g_110, e_110, h⟩ := sk_rI_some h
        refine al_K17 hx hb hw g_110 e_110 d_K_SF_part_110 ?_
        exact hret _ _ _ _ _ _ (sk_p1 h) (sk_p2 h) (vp_nar_int _) hw d_K_SF_part_111
      have h := (if_neg c_30_2).symm.trans h
      rcases Classical.em (v2 = 3) with c_30_3 | c_30_3
      · have h := (if_pos c_30_3).symm.trans h
        refine sk_tin (k := 3) (tgt := 112) hx hb d_K_SF_part_30 c_30_3 (by decide) (by decide) rfl (by decide) ?_
        refine lv_aload_n hx hb d_K_SF_part_112 rfl (lv_at hl 0 rfl) ?_
        refine gf_SF_21 hx hb hts hnw hown hw d_K_SF_part_113 ?_
        refine gf_SF_205 hx hb hts hnw hown hw d_K_SF_part_116 ?_
        refine lv_iload_n hx hb d_K_SF_part_119 rfl (lv_at hl 1 rfl) ?_
        obtain ⟨x120, g_120, e_120, h⟩ := sk_rI_some h
        refine al_K18 hx hb hw g_120 e_120 d_K_SF_part_120 ?_
        refine sk_callSi (As := [.int x120]) (rest := []) ⟨hx, hb, hml, hown, hts⟩ hw hnw hok (c_K_SF_wordOf hok rfl) (cw_SF_212 hts hnw (by decide)) rfl hl.1 rfl (Nat.le_of_ble_eq_true rfl) d_K_SF_part_121 (fun H locs hw => ?_)
        exact hret _ _ _ _ _ _ (sk_p1 h) (sk_p2 h) (vp_nar_int _) hw d_K_SF_part_124
      have h := (if_neg c_30_3).symm.trans h
      rcases Classical.em (v2 = 4) with c_30_4 | c_30_4
      · have h := (if_pos c_30_4).symm.trans h
        refine sk_tin (k := 4) (tgt := 125) hx hb d_K_SF_part_30 c_30_4 (by decide) (by decide) rfl (by decide) ?_
        refine lv_aload_n hx hb d_K_SF_part_125 rfl (lv_at hl 0 rfl) ?_
        refine gf_SF_21 hx hb hts hnw hown hw d_K_SF_part_126 ?_
        refine gf_SF_205 hx hb hts hnw hown hw d_K_SF_part_129 ?_
        refine lv_iload_n hx hb d_K_SF_part_132 rfl (lv_at hl 1 rfl) ?_
        obtain ⟨x133, g_133, e_133, h⟩ := sk_rI_some h
        refine al_K18 hx hb hw g_133 e_133 d_K_SF_part_133 ?_
        refine sk_callSi (As := [.int x133]) (rest := []) ⟨hx, hb, hml, hown, hts⟩ hw hnw hok (c_K_SF_shapeOf hok rfl) (cw_SF_215 hts hnw (by decide)) rfl hl.1 rfl (Nat.le_of_ble_eq_true rfl) d_K_SF_part_134 (fun H locs hw => ?_)
        exact hret _ _ _ _ _ _ (sk_p1 h) (sk_p2 h) (vp_nar_int _) hw d_K_SF_part_137
      have h := (if_neg c_30_4).symm.trans h
      refine lv_tableOut (tgt := 138) hx hb d_K_SF_part_30 (sk_tout5 c_30_0 c_30_1 c_30_2 c_30_3 c_30_4) (by decide) ?_
      refine lv_aload_n hx hb d_K_SF_part_138 rfl (lv_at hl 0 rfl) ?_
      refine gf_SF_21 hx hb hts hnw hown hw d_K_SF_part_139 ?_
      refine gf_SF_218 hx hb hts hnw hown hw d_K_SF_part_142 ?_
      refine lv_iload_n hx hb d_K_SF_part_145 rfl (lv_at hl 1 rfl) ?_
      obtain ⟨x146, g_146, e_146, h⟩ := sk_rI_some h
      refine al_K19 hx hb hw g_146 e_146 d_K_SF_part_146 ?_
      exact hret _ _ _ _ _ _ (sk_p1 h) (sk_p2 h) (vp_nar_int _) hw d_K_SF_part_147
    · have h := (if_pos c_19).symm.trans h
      refine lv_bipush (v := -2) hx hb d_K_SF_part_22 (by decide) ?_
      exact hret _ _ _ _ _ _ (sk_p1 h) (sk_p2 h) (vp_nar_int _) hw d_K_SF_part_24
  · have h := (if_pos c_6).symm.trans h
    refine lv_iconst (v := -1) hx hb d_K_SF_part_9 (by decide) ?_
    exact hret _ _ _ _ _ _ (sk_p1 h) (sk_p2 h) (vp_nar_int _) hw d_K_SF_part_10
set_option maxHeartbeats 4000000 in
set_option maxRecDepth 100000 in
theorem c_K_SF_found {l : Launch} {D : va_G} {A : Nat → Prop} {a : Nat → Nat} {cI cJ cC : ClassId} {adK adV : Nat → Nat} {N : Nat} {st : sk_M} {v1 : Int32} {v2 : Int32} {v3 : Int32} {v4 : Int32} {v5 : Int32} {res : Int32 × sk_M} (hok : sk_ok A (nwK A adK adV)) (h : K_SF_found N st v1 v2 v3 v4 v5 = some res) : sk_Ci l y_K_SF_found w_K_SF_found rm_K_SF_found D (tyK cI cJ cC) A (ceK a cI cJ cC) (nwK A adK adV) [.ref (a 0), .int v1, .int v2, .int v3, .int v4, .int v5] st res.1 res.2 := by
  refine sk_headi .int (by decide) rfl (Nat.le_of_ble_eq_true rfl) ?_
  intro p e s m args below meth c Q hx hb hml hown hts0 hnw hret ls hl hw
  have hts : ∀ w ∈ TB, w.before args s = true := fun w h => hts0 w (List.mem_cons_of_mem _ h)
  have hown : s.vm.findClass R_SF = some m.cls := hown
  have hl : lv_has ls 8 [(0, .ref (a 0)), (1, .int v1), (2, .int v2), (3, .int v3), (4, .int v4), (5, .int v5)] := hl
  unfold K_SF_found at h
  refine lv_iload_n hx hb d_K_SF_found_0 rfl (lv_at hl 1 rfl) ?_
  refine lv_iconst (v := 2) hx hb d_K_SF_found_1 (by decide) ?_
  refine lv_iconst (v := 5) hx hb d_K_SF_found_2 (by decide) ?_
  refine sk_callSi (As := [.int v1, .int (2 : Int32), .int (5 : Int32)]) (rest := []) ⟨hx, hb, hml, hown, hts⟩ hw hnw hok (c_K_SF_within hok rfl) (cw_SF_87 hts hnw (by decide)) rfl hl.1 rfl (Nat.le_of_ble_eq_true rfl) d_K_SF_found_3 (fun H locs hw => ?_)
  refine lv_if_eq (tgt := 19) hx hb d_K_SF_found_6 (by decide) (fun c_6 => ?_) (fun c_6 => ?_)
  · have h := (if_pos c_6).symm.trans h
    refine lv_iconst (v := -1) hx hb d_K_SF_found_19 (by decide) ?_
    exact hret _ _ _ _ _ _ (sk_p1 h) (sk_p2 h) (vp_nar_int _) hw d_K_SF_found_20
  · have h := (if_neg c_6).symm.trans h
    refine lv_iload_n hx hb d_K_SF_found_9 rfl (lv_at hl 2 rfl) ?_
    refine lv_iload_n hx hb d_K_SF_found_10 rfl (lv_at hl 3 rfl) ?_
    refine lv_iload hx hb d_K_SF_found_11 (lv_at hl 4 rfl) ?_
    refine sk_callSi (As := [.int v2, .int v3, .int v4]) (rest := []) ⟨hx, hb, hml, hown, hts⟩ hw hnw hok (c_K_SF_isWanted hok rfl) (cw_SF_131 hts hnw (by decide)) rfl hl.1 rfl (Nat.le_of_ble_eq_true rfl) d_K_SF_found_13 (fun H locs hw => ?_)
    refine lv_if_ne (tgt := 21) hx hb d_K_SF_found_16 (by decide) (fun c_16 => ?_) (fun c_16 => ?_)
    · have h := (if_neg c_16).symm.trans h
      refine lv_aload_n hx hb d_K_SF_found_21 rfl (lv_at hl 0 rfl) ?_
      obtain ⟨st22, q_22, h⟩ := sk_oR_some h
      refine sk_callVv (As := []) (rest := []) ⟨hx, hb, hml, hown, hts⟩ hw hnw hok (c_K_SF_settle hok q_22) (cw_SF_162 hts hnw (by decide)) (rc_K0 hw) rfl hl.1 rfl (Nat.le_of_ble_eq_true rfl) d_K_SF_found_22 (fun H locs hw => ?_)
      refine lv_iload hx hb d_K_SF_found_25 (lv_at hl 5 rfl) ?_
      have hJ47 : ∀ (st : sk_M) (v1 : Int32) (v2 : Int32) (v3 : Int32) (v4 : Int32) (s0 : Int64) (H : Heap) (locs : List Loc) (ls : Array Slot), K_SF_found_J47 N st v1 v2 v3 v4 s0 = some res → sk_w D (tyK cI cJ cC) A (ceK a cI cJ cC) s st H locs → lv_has ls 8 [(0, .ref (a 0)), (1, .int v1), (2, .int v2), (3, .int v3), (4, .int v4)] → W p l e rm_K_SF_found s m args below meth c H locs 0 0 Q (F0 m 47 ls [.long s0]) := by
        intro st v1 v2 v3 v4 s0 H locs ls h hw hl
        unfold K_SF_found_J47 at h
        refine lv_lstore (lv' := [(6, .long s0), (0, .ref (a 0)), (1, .int v1), (2, .int v2), (3, .int v3), (4, .int v4)]) hx hb d_K_SF_found_47 hl (by decide) rfl (fun ls hl => ?_)
        refine lv_aload_n hx hb d_K_SF_found_49 rfl (lv_at hl 1 rfl) ?_
        refine gf_SF_21 hx hb hts hnw hown hw d_K_SF_found_50 ?_
        refine lv_iload_n hx hb d_K_SF_found_53 rfl (lv_at hl 3 rfl) ?_
        refine lv_iload_n hx hb d_K_SF_found_54 rfl (lv_at hl 2 rfl) ?_
        refine lv_iconst (v := 2) hx hb d_K_SF_found_55 (by decide) ?_
        have hJ64 : ∀ (st : sk_M) (v3 : Int32) (v4 : Int32) (v6 : Int64) (s1 : Int32) (s2 : Int32) (H : Heap) (locs : List Loc) (ls : Array Slot), K_SF_found_J64 N st v3 v4 v6 s1 s2 = some res → sk_w D (tyK cI cJ cC) A (ceK a cI cJ cC) s st H locs → lv_has ls 8 [(3, .int v3), (4, .int v4), (6, .long v6)] → W p l e rm_K_SF_found s m args below meth c H locs 0 0 Q (F0 m 64 ls [.int s2, .int s1, .ref (a 2)]) := by
          intro st v3 v4 v6 s1 s2 H locs ls h hw hl
          unfold K_SF_found_J64 at h
          refine lv_iload_n hx hb d_K_SF_found_64 rfl (lv_at hl 0 rfl) ?_
          refine lv_iload hx hb d_K_SF_found_65 (lv_at hl 1 rfl) ?_
          refine sk_callSi (As := [.int s2, .int v3, .int v4]) (rest := [.int s1, .ref (a 2)]) ⟨hx, hb, hml, hown, hts⟩ hw hnw hok (c_K_SF_signature hok rfl) (cw_SF_109 hts hnw (by decide)) rfl hl.1 rfl (Nat.le_of_ble_eq_true rfl) d_K_SF_found_67 (fun H locs hw => ?_)
          refine lv_lload hx hb d_K_SF_found_70 (lv_at hl 2 rfl) ?_
          obtain ⟨x72, q_72, h⟩ := sk_oR_some h
          refine sk_callVi (As := [.int s1, .int (K_SF_signature s2 v3 v4), .long v6]) (rest := []) ⟨hx, hb, hml, hown, hts⟩ hw hnw hok (c_K_Members_find hok q_72) (cw_SF_224 hts hnw (by decide)) (rc_K2 hw) rfl hl.1 rfl (Nat.le_of_ble_eq_true rfl) d_K_SF_found_72 (fun H locs hw => ?_)
          exact hret _ _ _ _ _ _ (sk_p1 h) (sk_p2 h) (vp_nar_int _) hw d_K_SF_found_75
        refine lv_icmp_eq (tgt := 63) hx hb d_K_SF_found_56 (by decide) (fun c_56 => ?_) (fun c_56 => ?_)
        · have h := (if_pos c_56).symm.trans h
          refine lv_iconst (v := 0) hx hb d_K_SF_found_63 (by decide) ?_
          exact hJ64 _ _ _ _ _ _ _ _ _ h hw (lv_sub hl [4, 5, 0] rfl)
        · have h := (if_neg c_56).symm.trans h
          refine lv_iconst (v := 1) hx hb d_K_SF_found_59 (by decide) ?_
          refine lv_goto (tgt := 64) hx hb d_K_SF_found_60 (by decide) ?_
          exact hJ64 _ _ _ _ _ _ _ _ _ h hw (lv_sub hl [4, 5, 0] rfl)
      refine lv_if_eq (tgt := 40) hx hb d_K_SF_found_27 (by decide) (fun c_27 => ?_) (fun c_27 => ?_)
      · have h := (if_pos c_27).symm.trans h
        refine lv_aload_n hx hb d_K_SF_found_40 rfl (lv_at hl 0 rfl) ?_
        refine gf_SF_21 hx hb hts hnw hown hw d_K_SF_found_41 ?_
        refine gf_SF_221 hx hb hts hnw hown hw d_K_SF_found_44 ?_
        exact hJ47 _ _ _ _ _ _ _ _ _ h hw (lv_sub hl [0, 1, 2, 3, 4] rfl)
      · have h := (if_neg c_27).symm.trans h
        refine lv_aload_n hx hb d_K_SF_found_30 rfl (lv_at hl 0 rfl) ?_
        refine gf_SF_62 hx hb hts hnw hown hw d_K_SF_found_31 ?_
        refine gf_SF_200 hx hb hts hnw hown hw d_K_SF_found_34 ?_
        refine lv_goto (tgt := 47) hx hb d_K_SF_found_37 (by decide) ?_
        exact hJ47 _ _ _ _ _ _ _ _ _ h hw (lv_sub hl [0, 1, 2, 3, 4] rfl)
    · have h := (if_pos c_16).symm.trans h
      refine lv_iconst (v := -1) hx hb d_K_SF_found_19 (by decide) ?_
      exact hret _ _ _ _ _ _ (sk_p1 h) (sk_p2 h) (vp_nar_int _) hw d_K_SF_found_20
set_option maxHeartbeats 4000000 in
set_option maxRecDepth 100000 in
theorem c_K_SF_selected {l : Launch} {D : va_G} {A : Nat → Prop} {a : Nat → Nat} {cI cJ cC : ClassId} {adK adV : Nat → Nat} {N : Nat} {st : sk_M} {v1 : Int32} {v2 : Int32} {v3 : Int32} {v4 : Int32} {res : Int32 × sk_M} (hok : sk_ok A (nwK A adK adV)) (h : K_SF_selected N st v1 v2 v3 v4 = some res) : sk_Ci l y_K_SF_selected w_K_SF_selected rm_K_SF_selected D (tyK cI cJ cC) A (ceK a cI cJ cC) (nwK A adK adV) [.ref (a 0), .int v1, .int v2, .int v3, .int v4] st res.1 res.2 := by
  refine sk_headi .int (by decide) rfl (Nat.le_of_ble_eq_true rfl) ?_
  intro p e s m args below meth c Q hx hb hml hown hts0 hnw hret ls hl hw
  have hts : ∀ w ∈ TB, w.before args s = true := fun w h => hts0 w (List.mem_cons_of_mem _ h)
  have hown : s.vm.findClass R_SF = some m.cls := hown
  have hl : lv_has ls 7 [(0, .ref (a 0)), (1, .int v1), (2, .int v2), (3, .int v3), (4, .int v4)] := hl
  unfold K_SF_selected at h
  refine lv_iload_n hx hb d_K_SF_selected_0 rfl (lv_at hl 1 rfl) ?_
  refine lv_iload_n hx hb d_K_SF_selected_1 rfl (lv_at hl 2 rfl) ?_
  refine lv_iload_n hx hb d_K_SF_selected_2 rfl (lv_at hl 3 rfl) ?_
  refine sk_callSi (As := [.int v1, .int v2, .int v3]) (rest := []) ⟨hx, hb, hml, hown, hts⟩ hw hnw hok (c_K_SF_isWanted hok rfl) (cw_SF_131 hts hnw (by decide)) rfl hl.1 rfl (Nat.le_of_ble_eq_true rfl) d_K_SF_selected_3 (fun H locs hw => ?_)
  refine lv_if_ne (tgt := 11) hx hb d_K_SF_selected_6 (by decide) (fun c_6 => ?_) (fun c_6 => ?_)
  · have h := (if_neg c_6).symm.trans h
    refine lv_aload_n hx hb d_K_SF_selected_11 rfl (lv_at hl 0 rfl) ?_
    obtain ⟨st12, q_12, h⟩ := sk_oR_some h
    refine sk_callVv (As := []) (rest := []) ⟨hx, hb, hml, hown, hts⟩ hw hnw hok (c_K_SF_settle hok q_12) (cw_SF_162 hts hnw (by decide)) (rc_K0 hw) rfl hl.1 rfl (Nat.le_of_ble_eq_true rfl) d_K_SF_selected_12 (fun H locs hw => ?_)
    refine lv_iload hx hb d_K_SF_selected_15 (lv_at hl 4 rfl) ?_
    have hJ37 : ∀ (st : sk_M) (v1 : Int32) (v2 : Int32) (v3 : Int32) (s0 : Int64) (H : Heap) (locs : List Loc) (ls : Array Slot), K_SF_selected_J37 N st v1 v2 v3 s0 = some res → sk_w D (tyK cI cJ cC) A (ceK a cI cJ cC) s st H locs → lv_has ls 7 [(0, .ref (a 0)), (1, .int v1), (2, .int v2), (3, .int v3)] → W p l e rm_K_SF_selected s m args below meth c H locs 0 0 Q (F0 m 37 ls [.long s0]) := by
      intro st v1 v2 v3 s0 H locs ls h hw hl
      unfold K_SF_selected_J37 at h
      refine lv_lstore (lv' := [(5, .long s0), (0, .ref (a 0)), (1, .int v1), (2, .int v2), (3, .int v3)]) hx hb d_K_SF_selected_37 hl (by decide) rfl (fun ls hl => ?_)
      refine lv_aload_n hx hb d_K_SF_selected_39 rfl (lv_at hl 1 rfl) ?_
      refine gf_SF_21 hx hb hts hnw hown hw d_K_SF_selected_40 ?_
      refine lv_iload_n hx hb d_K_SF_selected_43 rfl (lv_at hl 2 rfl) ?_
      refine lv_iconst (v := 1) hx hb d_K_SF_selected_44 (by decide) ?_
      refine lv_iload_n hx hb d_K_SF_selected_45 rfl (lv_at hl 3 rfl) ?_
      refine lv_iload_n hx hb d_K_SF_selected_46 rfl (lv_at hl 4 rfl) ?_
      refine sk_callSi (As := [.int (1 : Int32), .int v2, .int v3]) (rest := [.int v1, .ref (a 2)]) ⟨hx, hb, hml, hown, hts⟩ hw hnw hok (c_K_SF_signature hok rfl) (cw_SF_109 hts hnw (by decide)) rfl hl.1 rfl (Nat.le_of_ble_eq_true rfl) d_K_SF_selected_47 (fun H locs hw => ?_)
      refine lv_lload hx hb d_K_SF_selected_50 (lv_at hl 0 rfl) ?_
      refine lv_aload_n hx hb d_K_SF_selected_52 rfl (lv_at hl 1 rfl) ?_
      refine gf_SF_21 hx hb hts hnw hown hw d_K_SF_selected_53 ?_
      refine gf_SF_228 hx hb hts hnw hown hw d_K_SF_selected_56 ?_
      refine lv_land hx hb d_K_SF_selected_59 ?_
      obtain ⟨x60, q_60, h⟩ := sk_oR_some h
      refine sk_callVi (As := [.int v1, .int (K_SF_signature (1 : Int32) v2 v3), .long (s0 &&& (st.2 0 1))]) (rest := []) ⟨hx, hb, hml, hown, hts⟩ hw hnw hok (c_K_Members_find hok q_60) (cw_SF_224 hts hnw (by decide)) (rc_K2 hw) rfl hl.1 rfl (Nat.le_of_ble_eq_true rfl) d_K_SF_selected_60 (fun H locs hw => ?_)
      exact hret _ _ _ _ _ _ (sk_p1 h) (sk_p2 h) (vp_nar_int _) hw d_K_SF_selected_63
    refine lv_if_eq (tgt := 30) hx hb d_K_SF_selected_17 (by decide) (fun c_17 => ?_) (fun c_17 => ?_)
    · have h := (if_pos c_17).symm.trans h
      refine lv_aload_n hx hb d_K_SF_selected_30 rfl (lv_at hl 0 rfl) ?_
      refine gf_SF_21 hx hb hts hnw hown hw d_K_SF_selected_31 ?_
      refine gf_SF_221 hx hb hts hnw hown hw d_K_SF_selected_34 ?_
      exact hJ37 _ _ _ _ _ _ _ _ h hw (lv_sub hl [0, 1, 2, 3] rfl)
    · have h := (if_neg c_17).symm.trans h
      refine lv_aload_n hx hb d_K_SF_selected_20 rfl (lv_at hl 0 rfl) ?_
      refine gf_SF_62 hx hb hts hnw hown hw d_K_SF_selected_21 ?_
      refine gf_SF_200 hx hb hts hnw hown hw d_K_SF_selected_24 ?_
      refine lv_goto (tgt := 37) hx hb d_K_SF_selected_27 (by decide) ?_
      exact hJ37 _ _ _ _ _ _ _ _ h hw (lv_sub hl [0, 1, 2, 3] rfl)
  · have h := (if_pos c_6).symm.trans h
    refine lv_iconst (v := -1) hx hb d_K_SF_selected_9 (by decide) ?_
    exact hret _ _ _ _ _ _ (sk_p1 h) (sk_p2 h) (vp_nar_int _) hw d_K_SF_selected_10
set_option maxHeartbeats 4000000 in
set_option maxRecDepth 100000 in
theorem c_K_SF_name {l : Launch} {D : va_G} {A : Nat → Prop} {a : Nat → Nat} {cI cJ cC : ClassId} {adK adV : Nat → Nat} {N : Nat} {st : sk_M} {v1 : Int32} {v2 : Int32} {v3 : Int32} {res : Int32 × sk_M} (hok : sk_ok A (nwK A adK adV)) (h : K_SF_name N st v1 v2 v3 = some res) : sk_Ci l y_K_SF_name w_K_SF_name rm_K_SF_name D (tyK cI cJ cC) A (ceK a cI cJ cC) (nwK A adK adV) [.ref (a 0), .int v1, .int v2, .int v3] st res.1 res.2 := by
  refine sk_headi .int (by decide) rfl (Nat.le_of_ble_eq_true rfl) ?_
  intro p e s m args below meth c Q hx hb hml hown hts0 hnw hret ls hl hw
  have hts : ∀ w ∈ TB, w.before args s = true := fun w h => hts0 w (List.mem_cons_of_mem _ h)
  have hown : s.vm.findClass R_SF = some m.cls := hown
  have hl : lv_has ls 4 [(0, .ref (a 0)), (1, .int v1), (2, .int v2), (3, .int v3)] := hl
  unfold K_SF_name at h
  refine lv_aload_n hx hb d_K_SF_name_0 rfl (lv_at hl 0 rfl) ?_
  obtain ⟨st1, q_1, h⟩ := sk_oR_some h
  refine sk_callVv (As := []) (rest := []) ⟨hx, hb, hml, hown, hts⟩ hw hnw hok (c_K_SF_settle hok q_1) (cw_SF_162 hts hnw (by decide)) (rc_K0 hw) rfl hl.1 rfl (Nat.le_of_ble_eq_true rfl) d_K_SF_name_1 (fun H locs hw => ?_)
  refine lv_iload_n hx hb d_K_SF_name_4 rfl (lv_at hl 1 rfl) ?_
  have hJ25 : ∀ (st : sk_M) (v1 : Int32) (v2 : Int32) (v3 : Int32) (s0 : Int64) (H : Heap) (locs : List Loc) (ls : Array Slot), K_SF_name_J25 N st v1 v2 v3 s0 = some res → sk_w D (tyK cI cJ cC) A (ceK a cI cJ cC) s st H locs → lv_has ls 4 [(0, .ref (a 0)), (1, .int v1), (2, .int v2), (3, .int v3)] → W p l e rm_K_SF_name s m args below meth c H locs 0 0 Q (F0 m 25 ls [.long s0]) := by
    intro st v1 v2 v3 s0 H locs ls h hw hl
    unfold K_SF_name_J25 at h
    refine lv_iload_n hx hb d_K_SF_name_25 rfl (lv_at hl 2 rfl) ?_
    refine sk_callSi (As := [.long s0, .int v2]) (rest := []) ⟨hx, hb, hml, hown, hts⟩ hw hnw hok (c_K_SF_has hok rfl) (cw_SF_169 hts hnw (by decide)) rfl hl.1 rfl (Nat.le_of_ble_eq_true rfl) d_K_SF_name_26 (fun H locs hw => ?_)
    refine lv_if_ne (tgt := 35) hx hb d_K_SF_name_29 (by decide) (fun c_29 => ?_) (fun c_29 => ?_)
    · have h := (if_neg c_29).symm.trans h
      refine lv_aload_n hx hb d_K_SF_name_35 rfl (lv_at hl 0 rfl) ?_
      refine gf_SF_84 hx hb hts hnw hown hw d_K_SF_name_36 ?_
      obtain ⟨st39, q_39, h⟩ := sk_oR_some h
      refine sk_callVv (As := []) (rest := []) ⟨hx, hb, hml, hown, hts⟩ hw hnw hok (c_K_Text_wipe hok (by decide) q_39) (cw_SF_148 hts hnw (by decide)) (rc_T (i := 1) hw (by decide)) rfl hl.1 rfl (Nat.le_of_ble_eq_true rfl) d_K_SF_name_39 (fun H locs hw => ?_)
      refine lv_iload_n hx hb d_K_SF_name_42 rfl (lv_at hl 1 rfl) ?_
      have hJ81 : ∀ (st : sk_M) (v3 : Int32) (H : Heap) (locs : List Loc) (ls : Array Slot), K_SF_name_J81 N st v3 = some res → sk_w D (tyK cI cJ cC) A (ceK a cI cJ cC) s st H locs → lv_has ls 4 [(0, .ref (a 0)), (3, .int v3)] → W p l e rm_K_SF_name s m args below meth c H locs 0 0 Q (F0 m 81 ls []) := by
        intro st v3 H locs ls h hw hl
        unfold K_SF_name_J81 at h
        refine lv_aload_n hx hb d_K_SF_name_81 rfl (lv_at hl 0 rfl) ?_
        refine gf_SF_84 hx hb hts hnw hown hw d_K_SF_name_82 ?_
        refine lv_iload_n hx hb d_K_SF_name_85 rfl (lv_at hl 1 rfl) ?_
        obtain ⟨x86, q_86, h⟩ := sk_oR_some h
        refine sk_callVi (As := [.int v3]) (rest := []) ⟨hx, hb, hml, hown, hts⟩ hw hnw hok (c_K_Text_answer hok (by decide) q_86) (cw_SF_238 hts hnw (by decide)) (rc_T (i := 1) hw (by decide)) rfl hl.1 rfl (Nat.le_of_ble_eq_true rfl) d_K_SF_name_86 (fun H locs hw => ?_)
        exact hret _ _ _ _ _ _ (sk_p1 h) (sk_p2 h) (vp_nar_int _) hw d_K_SF_name_89
      refine lv_if_eq (tgt := 69) hx hb d_K_SF_name_43 (by decide) (fun c_43 => ?_) (fun c_43 => ?_)
      · have h := (if_pos c_43).symm.trans h
        refine lv_aload_n hx hb d_K_SF_name_69 rfl (lv_at hl 0 rfl) ?_
        refine gf_SF_71 hx hb hts hnw hown hw d_K_SF_name_70 ?_
        refine lv_aload_n hx hb d_K_SF_name_73 rfl (lv_at hl 0 rfl) ?_
        refine gf_SF_84 hx hb hts hnw hown hw d_K_SF_name_74 ?_
        refine lv_iload_n hx hb d_K_SF_name_77 rfl (lv_at hl 2 rfl) ?_
        obtain ⟨st78, q_78, h⟩ := sk_oR_some h
        refine sk_callVv (As := [.ref (a 5), .int v2]) (rest := []) ⟨hx, hb, hml, hown, hts⟩ hw hnw hok (c_K_Names_tellName hok (by decide) q_78) (cw_SF_235 hts hnw (by decide)) (rc_K11 hw) rfl hl.1 rfl (Nat.le_of_ble_eq_true rfl) d_K_SF_name_78 (fun H locs hw => ?_)
        exact hJ81 _ _ _ _ _ h hw (lv_sub hl [0, 3] rfl)
      · have h := (if_neg c_43).symm.trans h
        refine lv_aload_n hx hb d_K_SF_name_46 rfl (lv_at hl 0 rfl) ?_
        refine gf_SF_71 hx hb hts hnw hown hw d_K_SF_name_47 ?_
        refine lv_aload_n hx hb d_K_SF_name_50 rfl (lv_at hl 0 rfl) ?_
        refine gf_SF_84 hx hb hts hnw hown hw d_K_SF_name_51 ?_
        refine lv_aload_n hx hb d_K_SF_name_54 rfl (lv_at hl 0 rfl) ?_
        refine gf_SF_21 hx hb hts hnw hown hw d_K_SF_name_55 ?_
        refine gf_SF_205 hx hb hts hnw hown hw d_K_SF_name_58 ?_
        refine lv_iload_n hx hb d_K_SF_name_61 rfl (lv_at hl 2 rfl) ?_
        obtain ⟨x62, g_62, e_62, h⟩ := sk_rI_some h
        refine al_K18 hx hb hw g_62 e_62 d_K_SF_name_62 ?_
        obtain ⟨st63, q_63, h⟩ := sk_oR_some h
        refine sk_callVv (As := [.ref (a 5), .int x62]) (rest := []) ⟨hx, hb, hml, hown, hts⟩ hw hnw hok (c_K_Names_tellText hok (by decide) q_63) (cw_SF_231 hts hnw (by decide)) (rc_K11 hw) rfl hl.1 rfl (Nat.le_of_ble_eq_true rfl) d_K_SF_name_63 (fun H locs hw => ?_)
        refine lv_goto (tgt := 81) hx hb d_K_SF_name_66 (by decide) ?_
        exact hJ81 _ _ _ _ _ h hw (lv_sub hl [0, 3] rfl)
    · have h := (if_pos c_29).symm.trans h
      refine lv_bipush (v := -2) hx hb d_K_SF_name_32 (by decide) ?_
      exact hret _ _ _ _ _ _ (sk_p1 h) (sk_p2 h) (vp_nar_int _) hw d_K_SF_name_34
  refine lv_if_eq (tgt := 18) hx hb d_K_SF_name_5 (by decide) (fun c_5 => ?_) (fun c_5 => ?_)
  · have h := (if_pos c_5).symm.trans h
    refine lv_aload_n hx hb d_K_SF_name_18 rfl (lv_at hl 0 rfl) ?_
    refine gf_SF_62 hx hb hts hnw hown hw d_K_SF_name_19 ?_
    refine gf_SF_165 hx hb hts hnw hown hw d_K_SF_name_22 ?_
    exact hJ25 _ _ _ _ _ _ _ _ h hw (lv_sub hl [0, 1, 2, 3] rfl)
  · have h := (if_neg c_5).symm.trans h
    refine lv_aload_n hx hb d_K_SF_name_8 rfl (lv_at hl 0 rfl) ?_
    refine gf_SF_62 hx hb hts hnw hown hw d_K_SF_name_9 ?_
    refine gf_SF_200 hx hb hts hnw hown hw d_K_SF_name_12 ?_
    refine lv_goto (tgt := 25) hx hb d_K_SF_name_15 (by decide) ?_
    exact hJ25 _ _ _ _ _ _ _ _ h hw (lv_sub hl [0, 1, 2, 3] rfl)
set_option maxHeartbeats 4000000 in
set_option maxRecDepth 100000 in
theorem c_K_SF_mapping {l : Launch} {D : va_G} {A : Nat → Prop} {a : Nat → Nat} {cI cJ cC : ClassId} {adK adV : Nat → Nat} {N : Nat} {st : sk_M} {v1 : Int32} {res : Int32 × sk_M} (hok : sk_ok A (nwK A adK adV)) (h : K_SF_mapping N st v1 = some res) : sk_Ci l y_K_SF_mapping w_K_SF_mapping rm_K_SF_mapping D (tyK cI cJ cC) A (ceK a cI cJ cC) (nwK A adK adV) [.ref (a 0), .int v1] st res.1 res.2 := by
  refine sk_headi .int (by decide) rfl (Nat.le_of_ble_eq_true rfl) ?_
  intro p e s m args below meth c Q hx hb hml hown hts0 hnw hret ls hl hw
  have hts : ∀ w ∈ TB, w.before args s = true := fun w h => hts0 w (List.mem_cons_of_mem _ h)
  have hown : s.vm.findClass R_SF = some m.cls := hown
  have hl : lv_has ls 2 [(0, .ref (a 0)), (1, .int v1)] := hl
  unfold K_SF_mapping at h
  refine lv_aload_n hx hb d_K_SF_mapping_0 rfl (lv_at hl 0 rfl) ?_
  obtain ⟨st1, q_1, h⟩ := sk_oR_some h
  refine sk_callVv (As := []) (rest := []) ⟨hx, hb, hml, hown, hts⟩ hw hnw hok (c_K_SF_settle hok q_1) (cw_SF_162 hts hnw (by decide)) (rc_K0 hw) rfl hl.1 rfl (Nat.le_of_ble_eq_true rfl) d_K_SF_mapping_1 (fun H locs hw => ?_)
  refine lv_aload_n hx hb d_K_SF_mapping_4 rfl (lv_at hl 0 rfl) ?_
  refine gf_SF_80 hx hb hts hnw hown hw d_K_SF_mapping_5 ?_
  obtain ⟨st8, q_8, h⟩ := sk_oR_some h
  refine sk_callVv (As := []) (rest := []) ⟨hx, hb, hml, hown, hts⟩ hw hnw hok (c_K_Mapping_write hok q_8) (cw_SF_241 hts hnw (by decide)) (rc_K12 hw) rfl hl.1 rfl (Nat.le_of_ble_eq_true rfl) d_K_SF_mapping_8 (fun H locs hw => ?_)
  refine lv_aload_n hx hb d_K_SF_mapping_11 rfl (lv_at hl 0 rfl) ?_
  refine gf_SF_80 hx hb hts hnw hown hw d_K_SF_mapping_12 ?_
  refine gf_SF_244 hx hb hts hnw hown hw d_K_SF_mapping_15 ?_
  refine lv_iload_n hx hb d_K_SF_mapping_18 rfl (lv_at hl 1 rfl) ?_
  obtain ⟨x19, q_19, h⟩ := sk_oR_some h
  refine sk_callVi (As := [.int v1]) (rest := []) ⟨hx, hb, hml, hown, hts⟩ hw hnw hok (c_K_Text_answer hok (by decide) q_19) (cw_SF_238 hts hnw (by decide)) (rc_T (i := 3) hw (by decide)) rfl hl.1 rfl (Nat.le_of_ble_eq_true rfl) d_K_SF_mapping_19 (fun H locs hw => ?_)
  exact hret _ _ _ _ _ _ (sk_p1 h) (sk_p2 h) (vp_nar_int _) hw d_K_SF_mapping_22
set_option maxHeartbeats 4000000 in
set_option maxRecDepth 100000 in
theorem c_K_SF_classNamedByDraft {l : Launch} {D : va_G} {A : Nat → Prop} {a : Nat → Nat} {cI cJ cC : ClassId} {adK adV : Nat → Nat} {N : Nat} {st : sk_M} {res : Int32 × sk_M} (hok : sk_ok A (nwK A adK adV)) (h : K_SF_classNamedByDraft N st = some res) : sk_Ci l y_K_SF_classNamedByDraft w_K_SF_classNamedByDraft rm_K_SF_classNamedByDraft D (tyK cI cJ cC) A (ceK a cI cJ cC) (nwK A adK adV) [.ref (a 0)] st res.1 res.2 := by
  refine sk_headi .int (by decide) rfl (Nat.le_of_ble_eq_true rfl) ?_
  intro p e s m args below meth c Q hx hb hml hown hts0 hnw hret ls hl hw
  have hts : ∀ w ∈ TB, w.before args s = true := fun w h => hts0 w (List.mem_cons_of_mem _ h)
  have hown : s.vm.findClass R_SF = some m.cls := hown
  have hl : lv_has ls 2 [(0, .ref (a 0))] := hl
  unfold K_SF_classNamedByDraft at h
  refine lv_iconst (v := 0) hx hb d_K_SF_classNamedByDraft_0 (by decide) ?_
  refine lv_istore_n (lv' := [(1, .int (0 : Int32)), (0, .ref (a 0))]) hx hb d_K_SF_classNamedByDraft_1 rfl hl (by decide) rfl (fun ls hl => ?_)
  refine sk_lp_run (G := fun (z : sk_M × Int32) => ∀ (H : Heap) (locs : List Loc) (ls : Array Slot), sk_w D (tyK cI cJ cC) A (ceK a cI cJ cC) s z.1 H locs → lv_has ls 2 [(0, .ref (a 0)), (1, .int z.2)] → W p l e rm_K_SF_classNamedByDraft s m args below meth c H locs 0 0 Q (F0 m 2 ls [])) ?_ N _ h _ _ _ hw (lv_sub hl [1, 0] rfl)
  rintro self2 ⟨st, v1⟩ hself2 h H locs ls hw hl
  unfold K_SF_classNamedByDraft_L2 at h
  refine lv_iload_n hx hb d_K_SF_classNamedByDraft_2 rfl (lv_at hl 1 rfl) ?_
  refine lv_bipush (v := 10) hx hb d_K_SF_classNamedByDraft_3 (by decide) ?_
  refine lv_icmp_ge (tgt := 63) hx hb d_K_SF_classNamedByDraft_5 (by decide) (fun c_5 => ?_) (fun c_5 => ?_)
  · have h := (if_pos c_5).symm.trans h
    refine lv_bipush (v := -2) hx hb d_K_SF_classNamedByDraft_63 (by decide) ?_
    exact hret _ _ _ _ _ _ (sk_p1 h) (sk_p2 h) (vp_nar_int _) hw d_K_SF_classNamedByDraft_65
  · have h := (if_neg c_5).symm.trans h
    refine lv_aload_n hx hb d_K_SF_classNamedByDraft_8 rfl (lv_at hl 0 rfl) ?_
    refine gf_SF_62 hx hb hts hnw hown hw d_K_SF_classNamedByDraft_9 ?_
    refine gf_SF_165 hx hb hts hnw hown hw d_K_SF_classNamedByDraft_12 ?_
    refine lv_iload_n hx hb d_K_SF_classNamedByDraft_15 rfl (lv_at hl 1 rfl) ?_
    refine sk_callSi (As := [.long (st.2 0 4), .int v1]) (rest := []) ⟨hx, hb, hml, hown, hts⟩ hw hnw hok (c_K_SF_has hok rfl) (cw_SF_169 hts hnw (by decide)) rfl hl.1 rfl (Nat.le_of_ble_eq_true rfl) d_K_SF_classNamedByDraft_16 (fun H locs hw => ?_)
    refine lv_if_eq (tgt := 57) hx hb d_K_SF_classNamedByDraft_19 (by decide) (fun c_19 => ?_) (fun c_19 => ?_)
    · have h := (if_pos c_19).symm.trans h
      refine lv_iinc (v := v1 + 1) (lv' := [(1, .int (v1 + 1)), (0, .ref (a 0))]) hx hb d_K_SF_classNamedByDraft_57 hl (k := 1) rfl rfl (by decide) rfl (fun ls hl => ?_)
      refine lv_goto (tgt := 2) hx hb d_K_SF_classNamedByDraft_60 (by decide) ?_
      exact hself2 (st, (v1 + 1)) h _ _ _ hw (lv_sub hl [1, 0] rfl)
    · have h := (if_neg c_19).symm.trans h
      refine lv_aload_n hx hb d_K_SF_classNamedByDraft_22 rfl (lv_at hl 0 rfl) ?_
      refine gf_SF_84 hx hb hts hnw hown hw d_K_SF_classNamedByDraft_23 ?_
      obtain ⟨st26, q_26, h⟩ := sk_oR_some h
      refine sk_callVv (As := []) (rest := []) ⟨hx, hb, hml, hown, hts⟩ hw hnw hok (c_K_Text_wipe hok (by decide) q_26) (cw_SF_148 hts hnw (by decide)) (rc_T (i := 1) hw (by decide)) rfl hl.1 rfl (Nat.le_of_ble_eq_true rfl) d_K_SF_classNamedByDraft_26 (fun H locs hw => ?_)
      refine lv_aload_n hx hb d_K_SF_classNamedByDraft_29 rfl (lv_at hl 0 rfl) ?_
      refine gf_SF_71 hx hb hts hnw hown hw d_K_SF_classNamedByDraft_30 ?_
      refine lv_aload_n hx hb d_K_SF_classNamedByDraft_33 rfl (lv_at hl 0 rfl) ?_
      refine gf_SF_84 hx hb hts hnw hown hw d_K_SF_classNamedByDraft_34 ?_
      refine lv_iload_n hx hb d_K_SF_classNamedByDraft_37 rfl (lv_at hl 1 rfl) ?_
      obtain ⟨st38, q_38, h⟩ := sk_oR_some h
      refine sk_callVv (As := [.ref (a 5), .int v1]) (rest := []) ⟨hx, hb, hml, hown, hts⟩ hw hnw hok (c_K_Names_tellName hok (by decide) q_38) (cw_SF_235 hts hnw (by decide)) (rc_K11 hw) rfl hl.1 rfl (Nat.le_of_ble_eq_true rfl) d_K_SF_classNamedByDraft_38 (fun H locs hw => ?_)
      refine lv_aload_n hx hb d_K_SF_classNamedByDraft_41 rfl (lv_at hl 0 rfl) ?_
      refine gf_SF_84 hx hb hts hnw hown hw d_K_SF_classNamedByDraft_42 ?_
      refine lv_aload_n hx hb d_K_SF_classNamedByDraft_45 rfl (lv_at hl 0 rfl) ?_
      refine gf_SF_37 hx hb hts hnw hown hw d_K_SF_classNamedByDraft_46 ?_
      obtain ⟨x49, q_49, h⟩ := sk_oR_some h
      refine sk_callVi (As := [.ref (a 4)]) (rest := []) ⟨hx, hb, hml, hown, hts⟩ hw hnw hok (c_K_Text_isSame hok (by decide) (by decide) q_49) (cw_SF_274 hts hnw (by decide)) (rc_T (i := 1) hw (by decide)) rfl hl.1 rfl (Nat.le_of_ble_eq_true rfl) d_K_SF_classNamedByDraft_49 (fun H locs hw => ?_)
      refine lv_if_eq (tgt := 57) hx hb d_K_SF_classNamedByDraft_52 (by decide) (fun c_52 => ?_) (fun c_52 => ?_)
      · have h := (if_pos c_52).symm.trans h
        refine lv_iinc (v := v1 + 1) (lv' := [(1, .int (v1 + 1)), (0, .ref (a 0))]) hx hb d_K_SF_classNamedByDraft_57 hl (k := 1) rfl rfl (by decide) rfl (fun ls hl => ?_)
        refine lv_goto (tgt := 2) hx hb d_K_SF_classNamedByDraft_60 (by decide) ?_
        exact hself2 (st38, (v1 + 1)) h _ _ _ hw (lv_sub hl [1, 0] rfl)
      · have h := (if_neg c_52).symm.trans h
        refine lv_iload_n hx hb d_K_SF_classNamedByDraft_55 rfl (lv_at hl 1 rfl) ?_
        exact hret _ _ _ _ _ _ (sk_p1 h) (sk_p2 h) (vp_nar_int _) hw d_K_SF_classNamedByDraft_56
set_option maxHeartbeats 4000000 in
set_option maxRecDepth 100000 in
theorem c_K_SF_memberWithText {l : Launch} {D : va_G} {A : Nat → Prop} {a : Nat → Nat} {cI cJ cC : ClassId} {adK adV : Nat → Nat} {N : Nat} {st : sk_M} {v1 : Int32} {v2 : Int32} {v3 : Int32} {v4 : Int32} {res : Int32 × sk_M} (hok : sk_ok A (nwK A adK adV)) (h : K_SF_memberWithText N st v1 v2 v3 v4 = some res) : sk_Ci l y_K_SF_memberWithText w_K_SF_memberWithText rm_K_SF_memberWithText D (tyK cI cJ cC) A (ceK a cI cJ cC) (nwK A adK adV) [.ref (a 0), .int v1, .int v2, .int v3, .int v4] st res.1 res.2 := by
  refine sk_headi .int (by decide) rfl (Nat.le_of_ble_eq_true rfl) ?_
  intro p e s m args below meth c Q hx hb hml hown hts0 hnw hret ls hl hw
  have hts : ∀ w ∈ TB, w.before args s = true := fun w h => hts0 w (List.mem_cons_of_mem _ h)
  have hown : s.vm.findClass R_SF = some m.cls := hown
  have hl : lv_has ls 8 [(0, .ref (a 0)), (1, .int v1), (2, .int v2), (3, .int v3), (4, .int v4)] := hl
  unfold K_SF_memberWithText at h
  refine lv_iconst (v := 0) hx hb d_K_SF_memberWithText_0 (by decide) ?_
  refine lv_istore (lv' := [(5, .int (0 : Int32)), (0, .ref (a 0)), (1, .int v1), (2, .int v2), (3, .int v3), (4, .int v4)]) hx hb d_K_SF_memberWithText_1 hl (by decide) rfl (fun ls hl => ?_)
  refine sk_lp_run (G := fun (z : sk_M × Int32 × Int32 × Int32 × Int32 × Int32) => ∀ (H : Heap) (locs : List Loc) (ls : Array Slot), sk_w D (tyK cI cJ cC) A (ceK a cI cJ cC) s z.1 H locs → lv_has ls 8 [(0, .ref (a 0)), (1, .int z.2.1), (2, .int z.2.2.1), (3, .int z.2.2.2.1), (4, .int z.2.2.2.2.1), (5, .int z.2.2.2.2.2)] → W p l e rm_K_SF_memberWithText s m args below meth c H locs 0 0 Q (F0 m 3 ls [])) ?_ N _ h _ _ _ hw (lv_sub hl [1, 2, 3, 4, 5, 0] rfl)
  rintro self3 ⟨st, v1, v2, v3, v4, v5⟩ hself3 h H locs ls hw hl
  unfold K_SF_memberWithText_L3 at h
  refine lv_iload hx hb d_K_SF_memberWithText_3 (lv_at hl 5 rfl) ?_
  refine lv_bipush (v := 8) hx hb d_K_SF_memberWithText_5 (by decide) ?_
  refine lv_icmp_ge (tgt := 88) hx hb d_K_SF_memberWithText_7 (by decide) (fun c_7 => ?_) (fun c_7 => ?_)
  · have h := (if_pos c_7).symm.trans h
    refine lv_bipush (v := -2) hx hb d_K_SF_memberWithText_88 (by decide) ?_
    exact hret _ _ _ _ _ _ (sk_p1 h) (sk_p2 h) (vp_nar_int _) hw d_K_SF_memberWithText_90
  · have h := (if_neg c_7).symm.trans h
    refine lv_iload hx hb d_K_SF_memberWithText_10 (lv_at hl 4 rfl) ?_
    refine lv_iload hx hb d_K_SF_memberWithText_12 (lv_at hl 5 rfl) ?_
    refine lv_iload_n hx hb d_K_SF_memberWithText_14 rfl (lv_at hl 3 rfl) ?_
    refine sk_callSi (As := [.int v4, .int v5, .int v3]) (rest := []) ⟨hx, hb, hml, hown, hts⟩ hw hnw hok (c_K_SF_signature hok rfl) (cw_SF_109 hts hnw (by decide)) rfl hl.1 rfl (Nat.le_of_ble_eq_true rfl) d_K_SF_memberWithText_15 (fun H locs hw => ?_)
    refine lv_istore (lv' := [(6, .int (K_SF_signature v4 v5 v3)), (0, .ref (a 0)), (1, .int v1), (2, .int v2), (3, .int v3), (4, .int v4), (5, .int v5)]) hx hb d_K_SF_memberWithText_18 hl (by decide) rfl (fun ls hl => ?_)
    refine lv_aload_n hx hb d_K_SF_memberWithText_20 rfl (lv_at hl 1 rfl) ?_
    refine gf_SF_21 hx hb hts hnw hown hw d_K_SF_memberWithText_21 ?_
    refine lv_iload_n hx hb d_K_SF_memberWithText_24 rfl (lv_at hl 2 rfl) ?_
    refine lv_iload hx hb d_K_SF_memberWithText_25 (lv_at hl 0 rfl) ?_
    obtain ⟨x27, q_27, h⟩ := sk_oR_some h
    refine sk_callVi (As := [.int v1, .int (K_SF_signature v4 v5 v3)]) (rest := []) ⟨hx, hb, hml, hown, hts⟩ hw hnw hok (c_K_Members_at hok q_27) (cw_SF_113 hts hnw (by decide)) (rc_K2 hw) rfl hl.1 rfl (Nat.le_of_ble_eq_true rfl) d_K_SF_memberWithText_27 (fun H locs hw => ?_)
    refine lv_istore (lv' := [(7, .int x27), (6, .int (K_SF_signature v4 v5 v3)), (0, .ref (a 0)), (1, .int v1), (2, .int v2), (3, .int v3), (4, .int v4), (5, .int v5)]) hx hb d_K_SF_memberWithText_30 hl (by decide) rfl (fun ls hl => ?_)
    refine lv_aload_n hx hb d_K_SF_memberWithText_32 rfl (lv_at hl 2 rfl) ?_
    refine gf_SF_62 hx hb hts hnw hown hw d_K_SF_memberWithText_33 ?_
    refine gf_SF_200 hx hb hts hnw hown hw d_K_SF_memberWithText_36 ?_
    refine lv_iload hx hb d_K_SF_memberWithText_39 (lv_at hl 0 rfl) ?_
    refine sk_callSi (As := [.long (st.2 0 7), .int x27]) (rest := []) ⟨hx, hb, hml, hown, hts⟩ hw hnw hok (c_K_SF_has hok rfl) (cw_SF_169 hts hnw (by decide)) rfl hl.1 rfl (Nat.le_of_ble_eq_true rfl) d_K_SF_memberWithText_41 (fun H locs hw => ?_)
    refine lv_if_eq (tgt := 82) hx hb d_K_SF_memberWithText_44 (by decide) (fun c_44 => ?_) (fun c_44 => ?_)
    · have h := (if_pos c_44).symm.trans h
      refine lv_iinc (v := v5 + 1) (lv' := [(5, .int (v5 + 1)), (7, .int x27), (6, .int (K_SF_signature v4 v5 v3)), (0, .ref (a 0)), (1, .int v1), (2, .int v2), (3, .int v3), (4, .int v4)]) hx hb d_K_SF_memberWithText_82 hl (k := 7) rfl rfl (by decide) rfl (fun ls hl => ?_)
      refine lv_goto (tgt := 3) hx hb d_K_SF_memberWithText_85 (by decide) ?_
      exact hself3 (st, v1, v2, v3, v4, (v5 + 1)) h _ _ _ hw (lv_sub hl [3, 4, 5, 6, 7, 0] rfl)
    · have h := (if_neg c_44).symm.trans h
      refine lv_aload_n hx hb d_K_SF_memberWithText_47 rfl (lv_at hl 2 rfl) ?_
      refine gf_SF_84 hx hb hts hnw hown hw d_K_SF_memberWithText_48 ?_
      obtain ⟨st51, q_51, h⟩ := sk_oR_some h
      refine sk_callVv (As := []) (rest := []) ⟨hx, hb, hml, hown, hts⟩ hw hnw hok (c_K_Text_wipe hok (by decide) q_51) (cw_SF_148 hts hnw (by decide)) (rc_T (i := 1) hw (by decide)) rfl hl.1 rfl (Nat.le_of_ble_eq_true rfl) d_K_SF_memberWithText_51 (fun H locs hw => ?_)
      refine lv_aload_n hx hb d_K_SF_memberWithText_54 rfl (lv_at hl 2 rfl) ?_
      refine gf_SF_71 hx hb hts hnw hown hw d_K_SF_memberWithText_55 ?_
      refine lv_aload_n hx hb d_K_SF_memberWithText_58 rfl (lv_at hl 2 rfl) ?_
      refine gf_SF_84 hx hb hts hnw hown hw d_K_SF_memberWithText_59 ?_
      refine lv_iload hx hb d_K_SF_memberWithText_62 (lv_at hl 1 rfl) ?_
      obtain ⟨st64, q_64, h⟩ := sk_oR_some h
      refine sk_callVv (As := [.ref (a 5), .int (K_SF_signature v4 v5 v3)]) (rest := []) ⟨hx, hb, hml, hown, hts⟩ hw hnw hok (c_K_Names_tellText hok (by decide) q_64) (cw_SF_231 hts hnw (by decide)) (rc_K11 hw) rfl hl.1 rfl (Nat.le_of_ble_eq_true rfl) d_K_SF_memberWithText_64 (fun H locs hw => ?_)
      refine lv_aload_n hx hb d_K_SF_memberWithText_67 rfl (lv_at hl 2 rfl) ?_
      refine gf_SF_84 hx hb hts hnw hown hw d_K_SF_memberWithText_68 ?_
      refine lv_iconst (v := 0) hx hb d_K_SF_memberWithText_71 (by decide) ?_
      obtain ⟨x72, q_72, h⟩ := sk_oR_some h
      refine sk_callVi (As := [.int (0 : Int32)]) (rest := []) ⟨hx, hb, hml, hown, hts⟩ hw hnw hok (c_K_Text_answer hok (by decide) q_72) (cw_SF_238 hts hnw (by decide)) (rc_T (i := 1) hw (by decide)) rfl hl.1 rfl (Nat.le_of_ble_eq_true rfl) d_K_SF_memberWithText_72 (fun H locs hw => ?_)
      refine lv_iload_n hx hb d_K_SF_memberWithText_75 rfl (lv_at hl 4 rfl) ?_
      refine lv_icmp_ne (tgt := 82) hx hb d_K_SF_memberWithText_76 (by decide) (fun c_76 => ?_) (fun c_76 => ?_)
      · have h := (if_neg c_76).symm.trans h
        refine lv_iinc (v := v5 + 1) (lv' := [(5, .int (v5 + 1)), (7, .int x27), (6, .int (K_SF_signature v4 v5 v3)), (0, .ref (a 0)), (1, .int v1), (2, .int v2), (3, .int v3), (4, .int v4)]) hx hb d_K_SF_memberWithText_82 hl (k := 7) rfl rfl (by decide) rfl (fun ls hl => ?_)
        refine lv_goto (tgt := 3) hx hb d_K_SF_memberWithText_85 (by decide) ?_
        exact hself3 (st64, v1, v2, v3, v4, (v5 + 1)) h _ _ _ hw (lv_sub hl [3, 4, 5, 6, 7, 0] rfl)
      · have h := (if_pos c_76).symm.trans h
        refine lv_iload hx hb d_K_SF_memberWithText_79 (lv_at hl 0 rfl) ?_
        exact hret _ _ _ _ _ _ (sk_p1 h) (sk_p2 h) (vp_nar_int _) hw d_K_SF_memberWithText_81
set_option maxHeartbeats 4000000 in
set_option maxRecDepth 100000 in
theorem c_K_SF_trace {l : Launch} {D : va_G} {A : Nat → Prop} {a : Nat → Nat} {cI cJ cC : ClassId} {adK adV : Nat → Nat} {N : Nat} {st : sk_M} {v1 : Int32} {v2 : Int32} {v3 : Int32} {res : Int32 × sk_M} (hok : sk_ok A (nwK A adK adV)) (h : K_SF_trace N st v1 v2 v3 = some res) : sk_Ci l y_K_SF_trace w_K_SF_trace rm_K_SF_trace D (tyK cI cJ cC) A (ceK a cI cJ cC) (nwK A adK adV) [.ref (a 0), .int v1, .int v2, .int v3] st res.1 res.2 := by
  refine sk_headi .int (by decide) rfl (Nat.le_of_ble_eq_true rfl) ?_
  intro p e s m args below meth c Q hx hb hml hown hts0 hnw hret ls hl hw
  have hts : ∀ w ∈ TB, w.before args s = true := fun w h => hts0 w (List.mem_cons_of_mem _ h)
  have hown : s.vm.findClass R_SF = some m.cls := hown
  have hl : lv_has ls 5 [(0, .ref (a 0)), (1, .int v1), (2, .int v2), (3, .int v3)] := hl
  unfold K_SF_trace at h
  refine lv_iload_n hx hb d_K_SF_trace_0 rfl (lv_at hl 1 rfl) ?_
  have hJ15 : ∀ (st : sk_M) (v1 : Int32) (v2 : Int32) (v3 : Int32) (H : Heap) (locs : List Loc) (ls : Array Slot), K_SF_trace_J15 N st v1 v2 v3 = some res → sk_w D (tyK cI cJ cC) A (ceK a cI cJ cC) s st H locs → lv_has ls 5 [(0, .ref (a 0)), (1, .int v1), (2, .int v2), (3, .int v3)] → W p l e rm_K_SF_trace s m args below meth c H locs 0 0 Q (F0 m 15 ls []) := by
    intro st v1 v2 v3 H locs ls h hw hl
    unfold K_SF_trace_J15 at h
    refine lv_iload_n hx hb d_K_SF_trace_15 rfl (lv_at hl 2 rfl) ?_
    refine lv_iconst (v := 0) hx hb d_K_SF_trace_16 (by decide) ?_
    refine lv_iconst (v := 1) hx hb d_K_SF_trace_17 (by decide) ?_
    refine sk_callSi (As := [.int v2, .int (0 : Int32), .int (1 : Int32)]) (rest := []) ⟨hx, hb, hml, hown, hts⟩ hw hnw hok (c_K_SF_within hok rfl) (cw_SF_87 hts hnw (by decide)) rfl hl.1 rfl (Nat.le_of_ble_eq_true rfl) d_K_SF_trace_18 (fun H locs hw => ?_)
    refine lv_if_ne (tgt := 26) hx hb d_K_SF_trace_21 (by decide) (fun c_21 => ?_) (fun c_21 => ?_)
    · have h := (if_neg c_21).symm.trans h
      refine lv_aload_n hx hb d_K_SF_trace_26 rfl (lv_at hl 0 rfl) ?_
      obtain ⟨st27, q_27, h⟩ := sk_oR_some h
      refine sk_callVv (As := []) (rest := []) ⟨hx, hb, hml, hown, hts⟩ hw hnw hok (c_K_SF_settle hok q_27) (cw_SF_162 hts hnw (by decide)) (rc_K0 hw) rfl hl.1 rfl (Nat.le_of_ble_eq_true rfl) d_K_SF_trace_27 (fun H locs hw => ?_)
      refine lv_aload_n hx hb d_K_SF_trace_30 rfl (lv_at hl 0 rfl) ?_
      obtain ⟨x31, st31, q_31, h⟩ := sk_oW_some h
      refine sk_callVi (As := []) (rest := []) ⟨hx, hb, hml, hown, hts⟩ hw hnw hok (c_K_SF_classNamedByDraft hok q_31) (cw_SF_247 hts hnw (by decide)) (rc_K0 hw) rfl hl.1 rfl (Nat.le_of_ble_eq_true rfl) d_K_SF_trace_31 (fun H locs hw => ?_)
      refine lv_istore (lv' := [(4, .int x31), (0, .ref (a 0)), (1, .int v1), (2, .int v2), (3, .int v3)]) hx hb d_K_SF_trace_34 hl (by decide) rfl (fun ls hl => ?_)
      refine lv_iload hx hb d_K_SF_trace_36 (lv_at hl 0 rfl) ?_
      refine lv_bipush (v := -2) hx hb d_K_SF_trace_38 (by decide) ?_
      refine lv_icmp_eq (tgt := 47) hx hb d_K_SF_trace_40 (by decide) (fun c_40 => ?_) (fun c_40 => ?_)
      · have h := (if_pos c_40).symm.trans h
        refine lv_iload hx hb d_K_SF_trace_47 (lv_at hl 0 rfl) ?_
        exact hret _ _ _ _ _ _ (sk_p1 h) (sk_p2 h) (vp_nar_int _) hw d_K_SF_trace_49
      · have h := (if_neg c_40).symm.trans h
        refine lv_iload_n hx hb d_K_SF_trace_43 rfl (lv_at hl 2 rfl) ?_
        refine lv_if_ne (tgt := 50) hx hb d_K_SF_trace_44 (by decide) (fun c_44 => ?_) (fun c_44 => ?_)
        · have h := (if_neg c_44).symm.trans h
          refine lv_aload_n hx hb d_K_SF_trace_50 rfl (lv_at hl 1 rfl) ?_
          refine lv_iload hx hb d_K_SF_trace_51 (lv_at hl 0 rfl) ?_
          refine lv_iload_n hx hb d_K_SF_trace_53 rfl (lv_at hl 2 rfl) ?_
          refine lv_iload_n hx hb d_K_SF_trace_54 rfl (lv_at hl 3 rfl) ?_
          refine lv_iload_n hx hb d_K_SF_trace_55 rfl (lv_at hl 4 rfl) ?_
          obtain ⟨x56, st56, q_56, h⟩ := sk_oW_some h
          refine sk_callVi (As := [.int x31, .int v1, .int v2, .int v3]) (rest := []) ⟨hx, hb, hml, hown, hts⟩ hw hnw hok (c_K_SF_memberWithText hok q_56) (cw_SF_250 hts hnw (by decide)) (rc_K0 hw) rfl hl.1 rfl (Nat.le_of_ble_eq_true rfl) d_K_SF_trace_56 (fun H locs hw => ?_)
          exact hret _ _ _ _ _ _ (sk_p1 h) (sk_p2 h) (vp_nar_int _) hw d_K_SF_trace_59
        · have h := (if_pos c_44).symm.trans h
          refine lv_iload hx hb d_K_SF_trace_47 (lv_at hl 0 rfl) ?_
          exact hret _ _ _ _ _ _ (sk_p1 h) (sk_p2 h) (vp_nar_int _) hw d_K_SF_trace_49
    · have h := (if_pos c_21).symm.trans h
      refine lv_iconst (v := -1) hx hb d_K_SF_trace_24 (by decide) ?_
      exact hret _ _ _ _ _ _ (sk_p1 h) (sk_p2 h) (vp_nar_int _) hw d_K_SF_trace_25
  refine lv_if_eq (tgt := 15) hx hb d_K_SF_trace_1 (by decide) (fun c_1 => ?_) (fun c_1 => ?_)
  · have h := (if_pos c_1).symm.trans h
    exact hJ15 _ _ _ _ _ _ _ h hw (lv_sub hl [0, 1, 2, 3] rfl)
  · have h := (if_neg c_1).symm.trans h
    refine lv_iload_n hx hb d_K_SF_trace_4 rfl (lv_at hl 1 rfl) ?_
    refine lv_bipush (v := 97) hx hb d_K_SF_trace_5 (by decide) ?_
    refine lv_bipush (v := 122) hx hb d_K_SF_trace_7 (by decide) ?_
    refine sk_callSi (As := [.int v1, .int (97 : Int32), .int (122 : Int32)]) (rest := []) ⟨hx, hb, hml, hown, hts⟩ hw hnw hok (c_K_SF_within hok rfl) (cw_SF_87 hts hnw (by decide)) rfl hl.1 rfl (Nat.le_of_ble_eq_true rfl) d_K_SF_trace_9 (fun H locs hw => ?_)
    refine lv_if_eq (tgt := 24) hx hb d_K_SF_trace_12 (by decide) (fun c_12 => ?_) (fun c_12 => ?_)
    · have h := (if_pos c_12).symm.trans h
      refine lv_iconst (v := -1) hx hb d_K_SF_trace_24 (by decide) ?_
      exact hret _ _ _ _ _ _ (sk_p1 h) (sk_p2 h) (vp_nar_int _) hw d_K_SF_trace_25
    · have h := (if_neg c_12).symm.trans h
      exact hJ15 _ _ _ _ _ _ _ h hw (lv_sub hl [0, 1, 2, 3] rfl)
set_option maxHeartbeats 4000000 in
set_option maxRecDepth 100000 in
theorem c_K_SF_count {l : Launch} {D : va_G} {A : Nat → Prop} {a : Nat → Nat} {cI cJ cC : ClassId} {adK adV : Nat → Nat} {N : Nat} {st : sk_M} {v1 : Int32} {res : Int32 × sk_M} (hok : sk_ok A (nwK A adK adV)) (h : K_SF_count N st v1 = some res) : sk_Ci l y_K_SF_count w_K_SF_count rm_K_SF_count D (tyK cI cJ cC) A (ceK a cI cJ cC) (nwK A adK adV) [.ref (a 0), .int v1] st res.1 res.2 := by
  refine sk_headi .int (by decide) rfl (Nat.le_of_ble_eq_true rfl) ?_
  intro p e s m args below meth c Q hx hb hml hown hts0 hnw hret ls hl hw
  have hts : ∀ w ∈ TB, w.before args s = true := fun w h => hts0 w (List.mem_cons_of_mem _ h)
  have hown : s.vm.findClass R_SF = some m.cls := hown
  have hl : lv_has ls 2 [(0, .ref (a 0)), (1, .int v1)] := hl
  unfold K_SF_count at h
  refine lv_iload_n hx hb d_K_SF_count_0 rfl (lv_at hl 1 rfl) ?_
  refine lv_iconst (v := 0) hx hb d_K_SF_count_1 (by decide) ?_
  refine lv_bipush (v := 9) hx hb d_K_SF_count_2 (by decide) ?_
  refine sk_callSi (As := [.int v1, .int (0 : Int32), .int (9 : Int32)]) (rest := []) ⟨hx, hb, hml, hown, hts⟩ hw hnw hok (c_K_SF_within hok rfl) (cw_SF_87 hts hnw (by decide)) rfl hl.1 rfl (Nat.le_of_ble_eq_true rfl) d_K_SF_count_4 (fun H locs hw => ?_)
  refine lv_if_ne (tgt := 12) hx hb d_K_SF_count_7 (by decide) (fun c_7 => ?_) (fun c_7 => ?_)
  · have h := (if_neg c_7).symm.trans h
    refine lv_aload_n hx hb d_K_SF_count_12 rfl (lv_at hl 0 rfl) ?_
    obtain ⟨st13, q_13, h⟩ := sk_oR_some h
    refine sk_callVv (As := []) (rest := []) ⟨hx, hb, hml, hown, hts⟩ hw hnw hok (c_K_SF_settle hok q_13) (cw_SF_162 hts hnw (by decide)) (rc_K0 hw) rfl hl.1 rfl (Nat.le_of_ble_eq_true rfl) d_K_SF_count_13 (fun H locs hw => ?_)
    refine lv_iload_n hx hb d_K_SF_count_16 rfl (lv_at hl 1 rfl) ?_
    rcases Classical.em (v1 = 0) with c_17_0 | c_17_0
    · have h := (if_pos c_17_0).symm.trans h
      refine sk_tin (k := 0) (tgt := 68) hx hb d_K_SF_count_17 c_17_0 (by decide) (by decide) rfl (by decide) ?_
      refine lv_aload_n hx hb d_K_SF_count_68 rfl (lv_at hl 0 rfl) ?_
      refine gf_SF_12 hx hb hts hnw hown hw d_K_SF_count_69 ?_
      refine gf_SF_254 hx hb hts hnw hown hw d_K_SF_count_72 ?_
      refine sk_callSi (As := [.long (st13.2 0 11)]) (rest := []) ⟨hx, hb, hml, hown, hts⟩ hw hnw hok (c_J_bitCount hok rfl) (cw_SF_190 hts hnw (by decide)) rfl hl.1 rfl (Nat.le_of_ble_eq_true rfl) d_K_SF_count_75 (fun H locs hw => ?_)
      exact hret _ _ _ _ _ _ (sk_p1 h) (sk_p2 h) (vp_nar_int _) hw d_K_SF_count_78
    have h := (if_neg c_17_0).symm.trans h
    rcases Classical.em (v1 = 1) with c_17_1 | c_17_1
    · have h := (if_pos c_17_1).symm.trans h
      refine sk_tin (k := 1) (tgt := 79) hx hb d_K_SF_count_17 c_17_1 (by decide) (by decide) rfl (by decide) ?_
      refine lv_aload_n hx hb d_K_SF_count_79 rfl (lv_at hl 0 rfl) ?_
      refine gf_SF_21 hx hb hts hnw hown hw d_K_SF_count_80 ?_
      refine gf_SF_221 hx hb hts hnw hown hw d_K_SF_count_83 ?_
      refine sk_callSi (As := [.long (st13.2 0 0)]) (rest := []) ⟨hx, hb, hml, hown, hts⟩ hw hnw hok (c_J_bitCount hok rfl) (cw_SF_190 hts hnw (by decide)) rfl hl.1 rfl (Nat.le_of_ble_eq_true rfl) d_K_SF_count_86 (fun H locs hw => ?_)
      exact hret _ _ _ _ _ _ (sk_p1 h) (sk_p2 h) (vp_nar_int _) hw d_K_SF_count_89
    have h := (if_neg c_17_1).symm.trans h
    rcases Classical.em (v1 = 2) with c_17_2 | c_17_2
    · have h := (if_pos c_17_2).symm.trans h
      refine sk_tin (k := 2) (tgt := 90) hx hb d_K_SF_count_17 c_17_2 (by decide) (by decide) rfl (by decide) ?_
      refine lv_aload_n hx hb d_K_SF_count_90 rfl (lv_at hl 0 rfl) ?_
      refine gf_SF_28 hx hb hts hnw hown hw d_K_SF_count_91 ?_
      refine gf_SF_161 hx hb hts hnw hown hw d_K_SF_count_94 ?_
      exact hret _ _ _ _ _ _ (sk_p1 h) (sk_p2 h) (vp_nar_int _) hw d_K_SF_count_97
    have h := (if_neg c_17_2).symm.trans h
    rcases Classical.em (v1 = 3) with c_17_3 | c_17_3
    · have h := (if_pos c_17_3).symm.trans h
      refine sk_tin (k := 3) (tgt := 98) hx hb d_K_SF_count_17 c_17_3 (by decide) (by decide) rfl (by decide) ?_
      refine lv_aload_n hx hb d_K_SF_count_98 rfl (lv_at hl 0 rfl) ?_
      refine gf_SF_53 hx hb hts hnw hown hw d_K_SF_count_99 ?_
      refine gf_SF_154 hx hb hts hnw hown hw d_K_SF_count_102 ?_
      exact hret _ _ _ _ _ _ (sk_p1 h) (sk_p2 h) (vp_nar_int _) hw d_K_SF_count_105
    have h := (if_neg c_17_3).symm.trans h
    rcases Classical.em (v1 = 4) with c_17_4 | c_17_4
    · have h := (if_pos c_17_4).symm.trans h
      refine sk_tin (k := 4) (tgt := 106) hx hb d_K_SF_count_17 c_17_4 (by decide) (by decide) rfl (by decide) ?_
      refine lv_aload_n hx hb d_K_SF_count_106 rfl (lv_at hl 0 rfl) ?_
      refine gf_SF_62 hx hb hts hnw hown hw d_K_SF_count_107 ?_
      refine gf_SF_165 hx hb hts hnw hown hw d_K_SF_count_110 ?_
      refine sk_callSi (As := [.long (st13.2 0 4)]) (rest := []) ⟨hx, hb, hml, hown, hts⟩ hw hnw hok (c_J_bitCount hok rfl) (cw_SF_190 hts hnw (by decide)) rfl hl.1 rfl (Nat.le_of_ble_eq_true rfl) d_K_SF_count_113 (fun H locs hw => ?_)
      exact hret _ _ _ _ _ _ (sk_p1 h) (sk_p2 h) (vp_nar_int _) hw d_K_SF_count_116
    have h := (if_neg c_17_4).symm.trans h
    rcases Classical.em (v1 = 5) with c_17_5 | c_17_5
    · have h := (if_pos c_17_5).symm.trans h
      refine sk_tin (k := 5) (tgt := 117) hx hb d_K_SF_count_17 c_17_5 (by decide) (by decide) rfl (by decide) ?_
      refine lv_aload_n hx hb d_K_SF_count_117 rfl (lv_at hl 0 rfl) ?_
      refine gf_SF_62 hx hb hts hnw hown hw d_K_SF_count_118 ?_
      refine gf_SF_177 hx hb hts hnw hown hw d_K_SF_count_121 ?_
      refine sk_callSi (As := [.long (st13.2 0 5)]) (rest := []) ⟨hx, hb, hml, hown, hts⟩ hw hnw hok (c_J_bitCount hok rfl) (cw_SF_190 hts hnw (by decide)) rfl hl.1 rfl (Nat.le_of_ble_eq_true rfl) d_K_SF_count_124 (fun H locs hw => ?_)
      exact hret _ _ _ _ _ _ (sk_p1 h) (sk_p2 h) (vp_nar_int _) hw d_K_SF_count_127
    have h := (if_neg c_17_5).symm.trans h
    rcases Classical.em (v1 = 6) with c_17_6 | c_17_6
    · have h := (if_pos c_17_6).symm.trans h
      refine sk_tin (k := 6) (tgt := 128) hx hb d_K_SF_count_17 c_17_6 (by decide) (by decide) rfl (by decide) ?_
      refine lv_aload_n hx hb d_K_SF_count_128 rfl (lv_at hl 0 rfl) ?_
      refine gf_SF_62 hx hb hts hnw hown hw d_K_SF_count_129 ?_
      refine gf_SF_180 hx hb hts hnw hown hw d_K_SF_count_132 ?_
      refine sk_callSi (As := [.long (st13.2 0 6)]) (rest := []) ⟨hx, hb, hml, hown, hts⟩ hw hnw hok (c_J_bitCount hok rfl) (cw_SF_190 hts hnw (by decide)) rfl hl.1 rfl (Nat.le_of_ble_eq_true rfl) d_K_SF_count_135 (fun H locs hw => ?_)
      exact hret _ _ _ _ _ _ (sk_p1 h) (sk_p2 h) (vp_nar_int _) hw d_K_SF_count_138
    have h := (if_neg c_17_6).symm.trans h
    rcases Classical.em (v1 = 7) with c_17_7 | c_17_7
    · have h := (if_pos c_17_7).symm.trans h
      refine sk_tin (k := 7) (tgt := 139) hx hb d_K_SF_count_17 c_17_7 (by decide) (by decide) rfl (by decide) ?_
      refine lv_aload_n hx hb d_K_SF_count_139 rfl (lv_at hl 0 rfl) ?_
      refine gf_SF_62 hx hb hts hnw hown hw d_K_SF_count_140 ?_
      refine gf_SF_200 hx hb hts hnw hown hw d_K_SF_count_143 ?_
      refine sk_callSi (As := [.long (st13.2 0 7)]) (rest := []) ⟨hx, hb, hml, hown, hts⟩ hw hnw hok (c_J_bitCount hok rfl) (cw_SF_190 hts hnw (by decide)) rfl hl.1 rfl (Nat.le_of_ble_eq_true rfl) d_K_SF_count_146 (fun H locs hw => ?_)
      exact hret _ _ _ _ _ _ (sk_p1 h) (sk_p2 h) (vp_nar_int _) hw d_K_SF_count_149
    have h := (if_neg c_17_7).symm.trans h
    rcases Classical.em (v1 = 8) with c_17_8 | c_17_8
    · have h := (if_pos c_17_8).symm.trans h
      refine sk_tin (k := 8) (tgt := 150) hx hb d_K_SF_count_17 c_17_8 (by decide) (by decide) rfl (by decide) ?_
      refine lv_aload_n hx hb d_K_SF_count_150 rfl (lv_at hl 0 rfl) ?_
      refine gf_SF_62 hx hb hts hnw hown hw d_K_SF_count_151 ?_
      obtain ⟨x154, q_154, h⟩ := sk_oR_some h
      refine sk_callVi (As := []) (rest := []) ⟨hx, hb, hml, hown, hts⟩ hw hnw hok (c_K_Needs_countReferences hok q_154) (cw_SF_257 hts hnw (by decide)) (rc_K10 hw) rfl hl.1 rfl (Nat.le_of_ble_eq_true rfl) d_K_SF_count_154 (fun H locs hw => ?_)
      exact hret _ _ _ _ _ _ (sk_p1 h) (sk_p2 h) (vp_nar_int _) hw d_K_SF_count_157
    have h := (if_neg c_17_8).symm.trans h
    refine lv_tableOut (tgt := 158) hx hb d_K_SF_count_17 (sk_tout9 c_17_0 c_17_1 c_17_2 c_17_3 c_17_4 c_17_5 c_17_6 c_17_7 c_17_8) (by decide) ?_
    refine lv_aload_n hx hb d_K_SF_count_158 rfl (lv_at hl 0 rfl) ?_
    refine gf_SF_62 hx hb hts hnw hown hw d_K_SF_count_159 ?_
    obtain ⟨x162, q_162, h⟩ := sk_oR_some h
    refine sk_callVi (As := []) (rest := []) ⟨hx, hb, hml, hown, hts⟩ hw hnw hok (c_K_Needs_countMisses hok q_162) (cw_SF_260 hts hnw (by decide)) (rc_K10 hw) rfl hl.1 rfl (Nat.le_of_ble_eq_true rfl) d_K_SF_count_162 (fun H locs hw => ?_)
    exact hret _ _ _ _ _ _ (sk_p1 h) (sk_p2 h) (vp_nar_int _) hw d_K_SF_count_165
  · have h := (if_pos c_7).symm.trans h
    refine lv_iconst (v := -1) hx hb d_K_SF_count_10 (by decide) ?_
    exact hret _ _ _ _ _ _ (sk_p1 h) (sk_p2 h) (vp_nar_int _) hw d_K_SF_count_11
