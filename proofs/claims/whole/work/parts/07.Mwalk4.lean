set_option maxHeartbeats 4000000 in
set_option maxRecDepth 100000 in
theorem c_M_mapping {l : Launch} {D : va_G} {A : Nat → Prop} {a : Nat → Nat} {cI cZ : ClassId} {nw : State → Prop} {N : Nat} {st : sk_M} {v1 : Int32} {res : Int32 × sk_M} (hok : sk_ok A nw) (h : M_mapping N st v1 = some res) : sk_Ci l y_M_mapping w_M_mapping rm_M_mapping D (tyM cI cZ) A (ceM a cI cZ) nw [.ref (a 0), .int v1] st res.1 res.2 := by
  refine sk_headi .int (by decide) rfl (Nat.le_of_ble_eq_true rfl) ?_
  intro p e s m args below meth c Q hx hb hml hown hts0 hnw hret ls hl hw
  have hts : ∀ w ∈ TB, w.before args s = true := fun w h => hts0 w (List.mem_cons_of_mem _ h)
  have hown : s.vm.findClass R_M = some m.cls := hown
  have hl : lv_has ls 2 [(0, .ref (a 0)), (1, .int v1)] := hl
  unfold M_mapping at h
  refine lv_aload_n hx hb d_M_mapping_0 rfl (lv_at hl 0 rfl) ?_
  obtain ⟨st1, q_1, h⟩ := sk_oR_some h
  refine sk_callVv (As := []) (rest := []) ⟨hx, hb, hml, hown, hts⟩ hw hnw hok (c_M_find hok q_1) (cw_M_277 hts hnw (by decide)) (rc_M hw) rfl hl.1 rfl (Nat.le_of_ble_eq_true rfl) d_M_mapping_1 (fun H locs hw => ?_)
  refine lv_aload_n hx hb d_M_mapping_4 rfl (lv_at hl 0 rfl) ?_
  obtain ⟨st5, q_5, h⟩ := sk_oR_some h
  refine sk_callVv (As := []) (rest := []) ⟨hx, hb, hml, hown, hts⟩ hw hnw hok (c_M_writeAll hok q_5) (cw_M_304 hts hnw (by decide)) (rc_M hw) rfl hl.1 rfl (Nat.le_of_ble_eq_true rfl) d_M_mapping_5 (fun H locs hw => ?_)
  refine lv_iload_n hx hb d_M_mapping_8 rfl (lv_at hl 1 rfl) ?_
  refine lv_iconst (v := -1) hx hb d_M_mapping_9 (by decide) ?_
  refine lv_icmp_ne (tgt := 20) hx hb d_M_mapping_10 (by decide) (fun c_10 => ?_) (fun c_10 => ?_)
  · have h := (if_neg c_10).symm.trans h
    refine lv_iload_n hx hb d_M_mapping_20 rfl (lv_at hl 1 rfl) ?_
    refine lv_iconst (v := 0) hx hb d_M_mapping_21 (by decide) ?_
    refine lv_aload_n hx hb d_M_mapping_22 rfl (lv_at hl 0 rfl) ?_
    refine gf_M_289 hx hb hts hnw hown hw d_M_mapping_23 ?_
    refine lv_iconst (v := 1) hx hb d_M_mapping_26 (by decide) ?_
    refine lv_isub hx hb d_M_mapping_27 ?_
    refine sk_callSi (As := [.int v1, .int (0 : Int32), .int ((st5.1 0 7) - (1 : Int32))]) (rest := []) ⟨hx, hb, hml, hown, hts⟩ hw hnw hok (c_M_in hok rfl) (cw_M_135 hts hnw (by decide)) rfl hl.1 rfl (Nat.le_of_ble_eq_true rfl) d_M_mapping_28 (fun H locs hw => ?_)
    refine lv_if_eq (tgt := 43) hx hb d_M_mapping_31 (by decide) (fun c_31 => ?_) (fun c_31 => ?_)
    · have h := (if_pos c_31).symm.trans h
      refine lv_bipush (v := -2) hx hb d_M_mapping_43 (by decide) ?_
      exact hret _ _ _ _ _ _ (sk_p1 h) (sk_p2 h) (vp_nar_int _) hw d_M_mapping_45
    · have h := (if_neg c_31).symm.trans h
      refine lv_aload_n hx hb d_M_mapping_34 rfl (lv_at hl 0 rfl) ?_
      refine gf_M_132 hx hb hts hnw hown hw d_M_mapping_35 ?_
      refine lv_iload_n hx hb d_M_mapping_38 rfl (lv_at hl 1 rfl) ?_
      obtain ⟨x39, g_39, e_39, h⟩ := sk_rI_some h
      refine al_M40 hx hb hw g_39 e_39 d_M_mapping_39 ?_
      refine lv_goto (tgt := 45) hx hb d_M_mapping_40 (by decide) ?_
      exact hret _ _ _ _ _ _ (sk_p1 h) (sk_p2 h) (vp_nar_int _) hw d_M_mapping_45
  · have h := (if_pos c_10).symm.trans h
    refine lv_aload_n hx hb d_M_mapping_13 rfl (lv_at hl 0 rfl) ?_
    refine gf_M_289 hx hb hts hnw hown hw d_M_mapping_14 ?_
    refine lv_goto (tgt := 45) hx hb d_M_mapping_17 (by decide) ?_
    exact hret _ _ _ _ _ _ (sk_p1 h) (sk_p2 h) (vp_nar_int _) hw d_M_mapping_45
set_option maxHeartbeats 4000000 in
set_option maxRecDepth 100000 in
theorem c_M_classNamed {l : Launch} {D : va_G} {A : Nat → Prop} {a : Nat → Nat} {cI cZ : ClassId} {nw : State → Prop} {N : Nat} {st : sk_M} {res : Int32 × sk_M} (hok : sk_ok A nw) (h : M_classNamed N st = some res) : sk_Ci l y_M_classNamed w_M_classNamed rm_M_classNamed D (tyM cI cZ) A (ceM a cI cZ) nw [.ref (a 0)] st res.1 res.2 := by
  refine sk_headi .int (by decide) rfl (Nat.le_of_ble_eq_true rfl) ?_
  intro p e s m args below meth c Q hx hb hml hown hts0 hnw hret ls hl hw
  have hts : ∀ w ∈ TB, w.before args s = true := fun w h => hts0 w (List.mem_cons_of_mem _ h)
  have hown : s.vm.findClass R_M = some m.cls := hown
  have hl : lv_has ls 4 [(0, .ref (a 0))] := hl
  unfold M_classNamed at h
  refine lv_iconst (v := 0) hx hb d_M_classNamed_0 (by decide) ?_
  refine lv_istore_n (lv' := [(1, .int (0 : Int32)), (0, .ref (a 0))]) hx hb d_M_classNamed_1 rfl hl (by decide) rfl (fun ls hl => ?_)
  refine sk_lp_run (G := fun (z : sk_M × Int32) => ∀ (H : Heap) (locs : List Loc) (ls : Array Slot), sk_w D (tyM cI cZ) A (ceM a cI cZ) s z.1 H locs → lv_has ls 4 [(0, .ref (a 0)), (1, .int z.2)] → W p l e rm_M_classNamed s m args below meth c H locs 0 0 Q (F0 m 2 ls [])) ?_ N _ h _ _ _ hw (lv_sub hl [1, 0] rfl)
  rintro self2 ⟨st, v1⟩ hself2 h H locs ls hw hl
  unfold M_classNamed_L2 at h
  refine lv_iload_n hx hb d_M_classNamed_2 rfl (lv_at hl 1 rfl) ?_
  refine lv_bipush (v := 10) hx hb d_M_classNamed_3 (by decide) ?_
  refine lv_icmp_ge (tgt := 104) hx hb d_M_classNamed_5 (by decide) (fun c_5 => ?_) (fun c_5 => ?_)
  · have h := (if_pos c_5).symm.trans h
    refine lv_bipush (v := -2) hx hb d_M_classNamed_104 (by decide) ?_
    exact hret _ _ _ _ _ _ (sk_p1 h) (sk_p2 h) (vp_nar_int _) hw d_M_classNamed_106
  · have h := (if_neg c_5).symm.trans h
    refine lv_aload_n hx hb d_M_classNamed_8 rfl (lv_at hl 0 rfl) ?_
    refine gf_M_7 hx hb hts hnw hown hw d_M_classNamed_9 ?_
    refine lv_iload_n hx hb d_M_classNamed_12 rfl (lv_at hl 1 rfl) ?_
    obtain ⟨x13, g_13, e_13, h⟩ := sk_rI_some h
    refine al_M1 hx hb hw g_13 e_13 d_M_classNamed_13 ?_
    refine lv_if_eq (tgt := 98) hx hb d_M_classNamed_14 (by decide) (fun c_14 => ?_) (fun c_14 => ?_)
    · have h := (if_pos c_14).symm.trans h
      refine lv_iinc (v := v1 + 1) (lv' := [(1, .int (v1 + 1)), (0, .ref (a 0))]) hx hb d_M_classNamed_98 hl (k := 1) rfl rfl (by decide) rfl (fun ls hl => ?_)
      refine lv_goto (tgt := 2) hx hb d_M_classNamed_101 (by decide) ?_
      exact hself2 (st, (v1 + 1)) h _ _ _ hw (lv_sub hl [1, 0] rfl)
    · have h := (if_neg c_14).symm.trans h
      refine lv_aload_n hx hb d_M_classNamed_17 rfl (lv_at hl 0 rfl) ?_
      refine gf_M_117 hx hb hts hnw hown hw d_M_classNamed_18 ?_
      refine lv_iload_n hx hb d_M_classNamed_21 rfl (lv_at hl 1 rfl) ?_
      obtain ⟨x22, g_22, e_22, h⟩ := sk_rI_some h
      refine al_M35 hx hb hw g_22 e_22 d_M_classNamed_22 ?_
      refine lv_if_ne (tgt := 29) hx hb d_M_classNamed_23 (by decide) (fun c_23 => ?_) (fun c_23 => ?_)
      · have h := (if_neg c_23).symm.trans h
        refine lv_aload_n hx hb d_M_classNamed_29 rfl (lv_at hl 0 rfl) ?_
        refine lv_iload_n hx hb d_M_classNamed_30 rfl (lv_at hl 1 rfl) ?_
        obtain ⟨st31, q_31, h⟩ := sk_oR_some h
        refine sk_callVv (As := [.int v1]) (rest := []) ⟨hx, hb, hml, hown, hts⟩ hw hnw hok (c_M_newName hok q_31) (cw_M_286 hts hnw (by decide)) (rc_M hw) rfl hl.1 rfl (Nat.le_of_ble_eq_true rfl) d_M_classNamed_31 (fun H locs hw => ?_)
        refine lv_aload_n hx hb d_M_classNamed_34 rfl (lv_at hl 0 rfl) ?_
        refine gf_M_195 hx hb hts hnw hown hw d_M_classNamed_35 ?_
        refine lv_aload_n hx hb d_M_classNamed_38 rfl (lv_at hl 0 rfl) ?_
        refine gf_M_146 hx hb hts hnw hown hw d_M_classNamed_39 ?_
        have hJ50 : ∀ (st : sk_M) (v1 : Int32) (s0 : Int32) (H : Heap) (locs : List Loc) (ls : Array Slot), M_classNamed_J50 N self2 st v1 s0 = some res → sk_w D (tyM cI cZ) A (ceM a cI cZ) s st H locs → lv_has ls 4 [(0, .ref (a 0)), (1, .int v1)] → W p l e rm_M_classNamed s m args below meth c H locs 0 0 Q (F0 m 50 ls [.int s0]) := by
          intro st v1 s0 H locs ls h hw hl
          unfold M_classNamed_J50 at h
          refine lv_istore_n (lv' := [(2, .int s0), (0, .ref (a 0)), (1, .int v1)]) hx hb d_M_classNamed_50 rfl hl (by decide) rfl (fun ls hl => ?_)
          refine lv_iconst (v := 0) hx hb d_M_classNamed_51 (by decide) ?_
          refine lv_istore_n (lv' := [(3, .int (0 : Int32)), (2, .int s0), (0, .ref (a 0)), (1, .int v1)]) hx hb d_M_classNamed_52 rfl hl (by decide) rfl (fun ls hl => ?_)
          have hJ92 : ∀ (st : sk_M) (v1 : Int32) (v2 : Int32) (H : Heap) (locs : List Loc) (ls : Array Slot), M_classNamed_J92 N self2 st v1 v2 = some res → sk_w D (tyM cI cZ) A (ceM a cI cZ) s st H locs → lv_has ls 4 [(0, .ref (a 0)), (1, .int v1), (2, .int v2)] → W p l e rm_M_classNamed s m args below meth c H locs 0 0 Q (F0 m 92 ls []) := by
            intro st v1 v2 H locs ls h hw hl
            unfold M_classNamed_J92 at h
            refine lv_iload_n hx hb d_M_classNamed_92 rfl (lv_at hl 2 rfl) ?_
            refine lv_if_eq (tgt := 98) hx hb d_M_classNamed_93 (by decide) (fun c_93 => ?_) (fun c_93 => ?_)
            · have h := (if_pos c_93).symm.trans h
              refine lv_iinc (v := v1 + 1) (lv' := [(1, .int (v1 + 1)), (0, .ref (a 0)), (2, .int v2)]) hx hb d_M_classNamed_98 hl (k := 1) rfl rfl (by decide) rfl (fun ls hl => ?_)
              refine lv_goto (tgt := 2) hx hb d_M_classNamed_101 (by decide) ?_
              exact hself2 (st, (v1 + 1)) h _ _ _ hw (lv_sub hl [1, 0] rfl)
            · have h := (if_neg c_93).symm.trans h
              refine lv_iload_n hx hb d_M_classNamed_96 rfl (lv_at hl 1 rfl) ?_
              exact hret _ _ _ _ _ _ (sk_p1 h) (sk_p2 h) (vp_nar_int _) hw d_M_classNamed_97
          refine sk_lp_run (G := fun (z : sk_M × Int32 × Int32 × Int32) => ∀ (H : Heap) (locs : List Loc) (ls : Array Slot), sk_w D (tyM cI cZ) A (ceM a cI cZ) s z.1 H locs → lv_has ls 4 [(0, .ref (a 0)), (1, .int z.2.1), (2, .int z.2.2.1), (3, .int z.2.2.2)] → W p l e rm_M_classNamed s m args below meth c H locs 0 0 Q (F0 m 53 ls [])) ?_ N _ h _ _ _ hw (lv_sub hl [2, 3, 1, 0] rfl)
          rintro self53 ⟨st, v1, v2, v3⟩ hself53 h H locs ls hw hl
          unfold M_classNamed_L53 at h
          refine lv_iload_n hx hb d_M_classNamed_53 rfl (lv_at hl 3 rfl) ?_
          refine lv_aload_n hx hb d_M_classNamed_54 rfl (lv_at hl 0 rfl) ?_
          refine gf_M_195 hx hb hts hnw hown hw d_M_classNamed_55 ?_
          refine lv_icmp_ge (tgt := 92) hx hb d_M_classNamed_58 (by decide) (fun c_58 => ?_) (fun c_58 => ?_)
          · have h := (if_pos c_58).symm.trans h
            exact hJ92 _ _ _ _ _ _ h hw (lv_sub hl [0, 1, 2] rfl)
          · have h := (if_neg c_58).symm.trans h
            refine lv_iload_n hx hb d_M_classNamed_61 rfl (lv_at hl 2 rfl) ?_
            refine lv_if_eq (tgt := 92) hx hb d_M_classNamed_62 (by decide) (fun c_62 => ?_) (fun c_62 => ?_)
            · have h := (if_pos c_62).symm.trans h
              exact hJ92 _ _ _ _ _ _ h hw (lv_sub hl [0, 1, 2] rfl)
            · have h := (if_neg c_62).symm.trans h
              refine lv_aload_n hx hb d_M_classNamed_65 rfl (lv_at hl 0 rfl) ?_
              refine gf_M_108 hx hb hts hnw hown hw d_M_classNamed_66 ?_
              refine lv_iload_n hx hb d_M_classNamed_69 rfl (lv_at hl 3 rfl) ?_
              obtain ⟨x70, g_70, e_70, h⟩ := sk_rI_some h
              refine al_M32 hx hb hw g_70 e_70 d_M_classNamed_70 ?_
              refine lv_aload_n hx hb d_M_classNamed_71 rfl (lv_at hl 0 rfl) ?_
              refine gf_M_66 hx hb hts hnw hown hw d_M_classNamed_72 ?_
              refine lv_iload_n hx hb d_M_classNamed_75 rfl (lv_at hl 3 rfl) ?_
              obtain ⟨x76, g_76, e_76, h⟩ := sk_rI_some h
              refine al_M18 hx hb hw g_76 e_76 d_M_classNamed_76 ?_
              refine lv_icmp_ne (tgt := 84) hx hb d_M_classNamed_77 (by decide) (fun c_77 => ?_) (fun c_77 => ?_)
              · have h := (if_neg c_77).symm.trans h
                refine lv_iconst (v := 0) hx hb d_M_classNamed_84 (by decide) ?_
                refine lv_istore_n (lv' := [(2, .int (0 : Int32)), (0, .ref (a 0)), (1, .int v1), (3, .int v3)]) hx hb d_M_classNamed_85 rfl hl (by decide) rfl (fun ls hl => ?_)
                refine lv_iinc (v := v3 + 1) (lv' := [(3, .int (v3 + 1)), (2, .int (0 : Int32)), (0, .ref (a 0)), (1, .int v1)]) hx hb d_M_classNamed_86 hl (k := 3) rfl rfl (by decide) rfl (fun ls hl => ?_)
                refine lv_goto (tgt := 53) hx hb d_M_classNamed_89 (by decide) ?_
                exact hself53 (st, v1, (0 : Int32), (v3 + 1)) h _ _ _ hw (lv_sub hl [2, 3, 1, 0] rfl)
              · have h := (if_pos c_77).symm.trans h
                refine lv_iconst (v := 1) hx hb d_M_classNamed_80 (by decide) ?_
                refine lv_goto (tgt := 85) hx hb d_M_classNamed_81 (by decide) ?_
                refine lv_istore_n (lv' := [(2, .int (1 : Int32)), (0, .ref (a 0)), (1, .int v1), (3, .int v3)]) hx hb d_M_classNamed_85 rfl hl (by decide) rfl (fun ls hl => ?_)
                refine lv_iinc (v := v3 + 1) (lv' := [(3, .int (v3 + 1)), (2, .int (1 : Int32)), (0, .ref (a 0)), (1, .int v1)]) hx hb d_M_classNamed_86 hl (k := 3) rfl rfl (by decide) rfl (fun ls hl => ?_)
                refine lv_goto (tgt := 53) hx hb d_M_classNamed_89 (by decide) ?_
                exact hself53 (st, v1, (1 : Int32), (v3 + 1)) h _ _ _ hw (lv_sub hl [2, 3, 1, 0] rfl)
        refine lv_icmp_ne (tgt := 49) hx hb d_M_classNamed_42 (by decide) (fun c_42 => ?_) (fun c_42 => ?_)
        · have h := (if_neg c_42).symm.trans h
          refine lv_iconst (v := 0) hx hb d_M_classNamed_49 (by decide) ?_
          exact hJ50 _ _ _ _ _ _ h hw (lv_sub hl [0, 1] rfl)
        · have h := (if_pos c_42).symm.trans h
          refine lv_iconst (v := 1) hx hb d_M_classNamed_45 (by decide) ?_
          refine lv_goto (tgt := 50) hx hb d_M_classNamed_46 (by decide) ?_
          exact hJ50 _ _ _ _ _ _ h hw (lv_sub hl [0, 1] rfl)
      · have h := (if_pos c_23).symm.trans h
        refine lv_goto (tgt := 98) hx hb d_M_classNamed_26 (by decide) ?_
        refine lv_iinc (v := v1 + 1) (lv' := [(1, .int (v1 + 1)), (0, .ref (a 0))]) hx hb d_M_classNamed_98 hl (k := 1) rfl rfl (by decide) rfl (fun ls hl => ?_)
        refine lv_goto (tgt := 2) hx hb d_M_classNamed_101 (by decide) ?_
        exact hself2 (st, (v1 + 1)) h _ _ _ hw (lv_sub hl [1, 0] rfl)
set_option maxHeartbeats 4000000 in
set_option maxRecDepth 100000 in
theorem c_M_trace {l : Launch} {D : va_G} {A : Nat → Prop} {a : Nat → Nat} {cI cZ : ClassId} {nw : State → Prop} {N : Nat} {st : sk_M} {v1 : Int32} {v2 : Int32} {v3 : Int32} {res : Int32 × sk_M} (hok : sk_ok A nw) (h : M_trace N st v1 v2 v3 = some res) : sk_Ci l y_M_trace w_M_trace rm_M_trace D (tyM cI cZ) A (ceM a cI cZ) nw [.ref (a 0), .int v1, .int v2, .int v3] st res.1 res.2 := by
  refine sk_headi .int (by decide) rfl (Nat.le_of_ble_eq_true rfl) ?_
  intro p e s m args below meth c Q hx hb hml hown hts0 hnw hret ls hl hw
  have hts : ∀ w ∈ TB, w.before args s = true := fun w h => hts0 w (List.mem_cons_of_mem _ h)
  have hown : s.vm.findClass R_M = some m.cls := hown
  have hl : lv_has ls 6 [(0, .ref (a 0)), (1, .int v1), (2, .int v2), (3, .int v3)] := hl
  unfold M_trace at h
  refine lv_iload_n hx hb d_M_trace_0 rfl (lv_at hl 1 rfl) ?_
  have hJ15 : ∀ (st : sk_M) (v1 : Int32) (v2 : Int32) (v3 : Int32) (H : Heap) (locs : List Loc) (ls : Array Slot), M_trace_J15 N st v1 v2 v3 = some res → sk_w D (tyM cI cZ) A (ceM a cI cZ) s st H locs → lv_has ls 6 [(0, .ref (a 0)), (1, .int v1), (2, .int v2), (3, .int v3)] → W p l e rm_M_trace s m args below meth c H locs 0 0 Q (F0 m 15 ls []) := by
    intro st v1 v2 v3 H locs ls h hw hl
    unfold M_trace_J15 at h
    refine lv_iload_n hx hb d_M_trace_15 rfl (lv_at hl 2 rfl) ?_
    refine lv_iconst (v := 0) hx hb d_M_trace_16 (by decide) ?_
    refine lv_iconst (v := 1) hx hb d_M_trace_17 (by decide) ?_
    refine sk_callSi (As := [.int v2, .int (0 : Int32), .int (1 : Int32)]) (rest := []) ⟨hx, hb, hml, hown, hts⟩ hw hnw hok (c_M_in hok rfl) (cw_M_135 hts hnw (by decide)) rfl hl.1 rfl (Nat.le_of_ble_eq_true rfl) d_M_trace_18 (fun H locs hw => ?_)
    refine lv_if_ne (tgt := 26) hx hb d_M_trace_21 (by decide) (fun c_21 => ?_) (fun c_21 => ?_)
    · have h := (if_neg c_21).symm.trans h
      refine lv_aload_n hx hb d_M_trace_26 rfl (lv_at hl 0 rfl) ?_
      obtain ⟨st27, q_27, h⟩ := sk_oR_some h
      refine sk_callVv (As := []) (rest := []) ⟨hx, hb, hml, hown, hts⟩ hw hnw hok (c_M_find hok q_27) (cw_M_277 hts hnw (by decide)) (rc_M hw) rfl hl.1 rfl (Nat.le_of_ble_eq_true rfl) d_M_trace_27 (fun H locs hw => ?_)
      refine lv_aload_n hx hb d_M_trace_30 rfl (lv_at hl 0 rfl) ?_
      obtain ⟨x31, st31, q_31, h⟩ := sk_oW_some h
      refine sk_callVi (As := []) (rest := []) ⟨hx, hb, hml, hown, hts⟩ hw hnw hok (c_M_classNamed hok q_31) (cw_M_307 hts hnw (by decide)) (rc_M hw) rfl hl.1 rfl (Nat.le_of_ble_eq_true rfl) d_M_trace_31 (fun H locs hw => ?_)
      refine lv_istore (lv' := [(4, .int x31), (0, .ref (a 0)), (1, .int v1), (2, .int v2), (3, .int v3)]) hx hb d_M_trace_34 hl (by decide) rfl (fun ls hl => ?_)
      refine lv_iload hx hb d_M_trace_36 (lv_at hl 0 rfl) ?_
      refine lv_if_lt (tgt := 45) hx hb d_M_trace_38 (by decide) (fun c_38 => ?_) (fun c_38 => ?_)
      · have h := (if_pos c_38).symm.trans h
        refine lv_iload hx hb d_M_trace_45 (lv_at hl 0 rfl) ?_
        exact hret _ _ _ _ _ _ (sk_p1 h) (sk_p2 h) (vp_nar_int _) hw d_M_trace_47
      · have h := (if_neg c_38).symm.trans h
        refine lv_iload_n hx hb d_M_trace_41 rfl (lv_at hl 2 rfl) ?_
        refine lv_if_ne (tgt := 48) hx hb d_M_trace_42 (by decide) (fun c_42 => ?_) (fun c_42 => ?_)
        · have h := (if_neg c_42).symm.trans h
          refine lv_iconst (v := 0) hx hb d_M_trace_48 (by decide) ?_
          refine lv_istore (lv' := [(5, .int (0 : Int32)), (4, .int x31), (0, .ref (a 0)), (1, .int v1), (2, .int v2), (3, .int v3)]) hx hb d_M_trace_49 hl (by decide) rfl (fun ls hl => ?_)
          refine sk_lp_run (G := fun (z : sk_M × Int32 × Int32 × Int32 × Int32 × Int32) => ∀ (H : Heap) (locs : List Loc) (ls : Array Slot), sk_w D (tyM cI cZ) A (ceM a cI cZ) s z.1 H locs → lv_has ls 6 [(0, .ref (a 0)), (1, .int z.2.1), (2, .int z.2.2.1), (3, .int z.2.2.2.1), (4, .int z.2.2.2.2.1), (5, .int z.2.2.2.2.2)] → W p l e rm_M_trace s m args below meth c H locs 0 0 Q (F0 m 51 ls [])) ?_ N _ h _ _ _ hw (lv_sub hl [2, 3, 4, 5, 1, 0] rfl)
          rintro self51 ⟨st, v1, v2, v3, v4, v5⟩ hself51 h H locs ls hw hl
          unfold M_trace_L51 at h
          refine lv_iload hx hb d_M_trace_51 (lv_at hl 5 rfl) ?_
          refine lv_aload_n hx hb d_M_trace_53 rfl (lv_at hl 0 rfl) ?_
          refine gf_M_47 hx hb hts hnw hown hw d_M_trace_54 ?_
          refine lv_icmp_ge (tgt := 153) hx hb d_M_trace_57 (by decide) (fun c_57 => ?_) (fun c_57 => ?_)
          · have h := (if_pos c_57).symm.trans h
            refine lv_bipush (v := -2) hx hb d_M_trace_153 (by decide) ?_
            exact hret _ _ _ _ _ _ (sk_p1 h) (sk_p2 h) (vp_nar_int _) hw d_M_trace_155
          · have h := (if_neg c_57).symm.trans h
            refine lv_aload_n hx hb d_M_trace_60 rfl (lv_at hl 0 rfl) ?_
            refine gf_M_44 hx hb hts hnw hown hw d_M_trace_61 ?_
            refine lv_iload hx hb d_M_trace_64 (lv_at hl 5 rfl) ?_
            obtain ⟨x66, g_66, e_66, h⟩ := sk_rI_some h
            refine al_M12 hx hb hw g_66 e_66 d_M_trace_66 ?_
            refine lv_if_ne (tgt := 147) hx hb d_M_trace_67 (by decide) (fun c_67 => ?_) (fun c_67 => ?_)
            · have h := (if_neg c_67).symm.trans h
              refine lv_iinc (v := v5 + 1) (lv' := [(5, .int (v5 + 1)), (0, .ref (a 0)), (1, .int v1), (2, .int v2), (3, .int v3), (4, .int v4)]) hx hb d_M_trace_147 hl (k := 5) rfl rfl (by decide) rfl (fun ls hl => ?_)
              refine lv_goto (tgt := 51) hx hb d_M_trace_150 (by decide) ?_
              exact hself51 (st, v1, v2, v3, v4, (v5 + 1)) h _ _ _ hw (lv_sub hl [1, 2, 3, 4, 5, 0] rfl)
            · have h := (if_pos c_67).symm.trans h
              refine lv_aload_n hx hb d_M_trace_70 rfl (lv_at hl 0 rfl) ?_
              refine gf_M_126 hx hb hts hnw hown hw d_M_trace_71 ?_
              refine lv_iload hx hb d_M_trace_74 (lv_at hl 5 rfl) ?_
              obtain ⟨x76, g_76, e_76, h⟩ := sk_rI_some h
              refine al_M38 hx hb hw g_76 e_76 d_M_trace_76 ?_
              refine lv_if_eq (tgt := 147) hx hb d_M_trace_77 (by decide) (fun c_77 => ?_) (fun c_77 => ?_)
              · have h := (if_pos c_77).symm.trans h
                refine lv_iinc (v := v5 + 1) (lv' := [(5, .int (v5 + 1)), (0, .ref (a 0)), (1, .int v1), (2, .int v2), (3, .int v3), (4, .int v4)]) hx hb d_M_trace_147 hl (k := 5) rfl rfl (by decide) rfl (fun ls hl => ?_)
                refine lv_goto (tgt := 51) hx hb d_M_trace_150 (by decide) ?_
                exact hself51 (st, v1, v2, v3, v4, (v5 + 1)) h _ _ _ hw (lv_sub hl [1, 2, 3, 4, 5, 0] rfl)
              · have h := (if_neg c_77).symm.trans h
                refine lv_aload_n hx hb d_M_trace_80 rfl (lv_at hl 0 rfl) ?_
                refine gf_M_32 hx hb hts hnw hown hw d_M_trace_81 ?_
                refine lv_iload hx hb d_M_trace_84 (lv_at hl 5 rfl) ?_
                obtain ⟨x86, g_86, e_86, h⟩ := sk_rI_some h
                refine al_M8 hx hb hw g_86 e_86 d_M_trace_86 ?_
                refine lv_iload hx hb d_M_trace_87 (lv_at hl 4 rfl) ?_
                refine lv_icmp_ne (tgt := 147) hx hb d_M_trace_89 (by decide) (fun c_89 => ?_) (fun c_89 => ?_)
                · have h := (if_neg c_89).symm.trans h
                  refine lv_iinc (v := v5 + 1) (lv' := [(5, .int (v5 + 1)), (0, .ref (a 0)), (1, .int v1), (2, .int v2), (3, .int v3), (4, .int v4)]) hx hb d_M_trace_147 hl (k := 5) rfl rfl (by decide) rfl (fun ls hl => ?_)
                  refine lv_goto (tgt := 51) hx hb d_M_trace_150 (by decide) ?_
                  exact hself51 (st, v1, v2, v3, v4, (v5 + 1)) h _ _ _ hw (lv_sub hl [1, 2, 3, 4, 5, 0] rfl)
                · have h := (if_pos c_89).symm.trans h
                  refine lv_aload_n hx hb d_M_trace_92 rfl (lv_at hl 0 rfl) ?_
                  refine gf_M_41 hx hb hts hnw hown hw d_M_trace_93 ?_
                  refine lv_iload hx hb d_M_trace_96 (lv_at hl 5 rfl) ?_
                  obtain ⟨x98, g_98, e_98, h⟩ := sk_rI_some h
                  refine al_M11 hx hb hw g_98 e_98 d_M_trace_98 ?_
                  refine lv_iconst (v := 1) hx hb d_M_trace_99 (by decide) ?_
                  refine lv_iand hx hb d_M_trace_100 ?_
                  refine lv_iconst (v := 1) hx hb d_M_trace_101 (by decide) ?_
                  have hJ110 : ∀ (st : sk_M) (v1 : Int32) (v2 : Int32) (v3 : Int32) (v4 : Int32) (v5 : Int32) (s0 : Int32) (H : Heap) (locs : List Loc) (ls : Array Slot), M_trace_J110 N self51 st v1 v2 v3 v4 v5 s0 = some res → sk_w D (tyM cI cZ) A (ceM a cI cZ) s st H locs → lv_has ls 6 [(0, .ref (a 0)), (1, .int v1), (2, .int v2), (3, .int v3), (4, .int v4), (5, .int v5)] → W p l e rm_M_trace s m args below meth c H locs 0 0 Q (F0 m 110 ls [.int s0]) := by
                    intro st v1 v2 v3 v4 v5 s0 H locs ls h hw hl
                    unfold M_trace_J110 at h
                    refine lv_iload_n hx hb d_M_trace_110 rfl (lv_at hl 3 rfl) ?_
                    refine lv_icmp_ne (tgt := 147) hx hb d_M_trace_111 (by decide) (fun c_111 => ?_) (fun c_111 => ?_)
                    · have h := (if_neg c_111).symm.trans h
                      refine lv_iinc (v := v5 + 1) (lv' := [(5, .int (v5 + 1)), (0, .ref (a 0)), (1, .int v1), (2, .int v2), (3, .int v3), (4, .int v4)]) hx hb d_M_trace_147 hl (k := 5) rfl rfl (by decide) rfl (fun ls hl => ?_)
                      refine lv_goto (tgt := 51) hx hb d_M_trace_150 (by decide) ?_
                      exact hself51 (st, v1, v2, v3, v4, (v5 + 1)) h _ _ _ hw (lv_sub hl [1, 2, 3, 4, 5, 0] rfl)
                    · have h := (if_pos c_111).symm.trans h
                      refine lv_aload_n hx hb d_M_trace_114 rfl (lv_at hl 0 rfl) ?_
                      refine gf_M_38 hx hb hts hnw hown hw d_M_trace_115 ?_
                      refine lv_iload hx hb d_M_trace_118 (lv_at hl 5 rfl) ?_
                      obtain ⟨x120, g_120, e_120, h⟩ := sk_rI_some h
                      refine al_M10 hx hb hw g_120 e_120 d_M_trace_120 ?_
                      refine lv_iload_n hx hb d_M_trace_121 rfl (lv_at hl 2 rfl) ?_
                      refine lv_icmp_eq (tgt := 128) hx hb d_M_trace_122 (by decide) (fun c_122 => ?_) (fun c_122 => ?_)
                      · have h := (if_pos c_122).symm.trans h
                        refine lv_aload_n hx hb d_M_trace_128 rfl (lv_at hl 0 rfl) ?_
                        refine lv_iload hx hb d_M_trace_129 (lv_at hl 5 rfl) ?_
                        obtain ⟨st131, q_131, h⟩ := sk_oR_some h
                        refine sk_callVv (As := [.int v5]) (rest := []) ⟨hx, hb, hml, hown, hts⟩ hw hnw hok (c_M_newText hok q_131) (cw_M_283 hts hnw (by decide)) (rc_M hw) rfl hl.1 rfl (Nat.le_of_ble_eq_true rfl) d_M_trace_131 (fun H locs hw => ?_)
                        refine lv_aload_n hx hb d_M_trace_134 rfl (lv_at hl 0 rfl) ?_
                        refine gf_M_108 hx hb hts hnw hown hw d_M_trace_135 ?_
                        refine lv_iconst (v := 0) hx hb d_M_trace_138 (by decide) ?_
                        obtain ⟨x139, g_139, e_139, h⟩ := sk_rI_some h
                        refine al_M32 hx hb hw g_139 e_139 d_M_trace_139 ?_
                        refine lv_iload_n hx hb d_M_trace_140 rfl (lv_at hl 1 rfl) ?_
                        refine lv_icmp_ne (tgt := 147) hx hb d_M_trace_141 (by decide) (fun c_141 => ?_) (fun c_141 => ?_)
                        · have h := (if_neg c_141).symm.trans h
                          refine lv_iinc (v := v5 + 1) (lv' := [(5, .int (v5 + 1)), (0, .ref (a 0)), (1, .int v1), (2, .int v2), (3, .int v3), (4, .int v4)]) hx hb d_M_trace_147 hl (k := 5) rfl rfl (by decide) rfl (fun ls hl => ?_)
                          refine lv_goto (tgt := 51) hx hb d_M_trace_150 (by decide) ?_
                          exact hself51 (st131, v1, v2, v3, v4, (v5 + 1)) h _ _ _ hw (lv_sub hl [1, 2, 3, 4, 5, 0] rfl)
                        · have h := (if_pos c_141).symm.trans h
                          refine lv_iload hx hb d_M_trace_144 (lv_at hl 5 rfl) ?_
                          exact hret _ _ _ _ _ _ (sk_p1 h) (sk_p2 h) (vp_nar_int _) hw d_M_trace_146
                      · have h := (if_neg c_122).symm.trans h
                        refine lv_goto (tgt := 147) hx hb d_M_trace_125 (by decide) ?_
                        refine lv_iinc (v := v5 + 1) (lv' := [(5, .int (v5 + 1)), (0, .ref (a 0)), (1, .int v1), (2, .int v2), (3, .int v3), (4, .int v4)]) hx hb d_M_trace_147 hl (k := 5) rfl rfl (by decide) rfl (fun ls hl => ?_)
                        refine lv_goto (tgt := 51) hx hb d_M_trace_150 (by decide) ?_
                        exact hself51 (st, v1, v2, v3, v4, (v5 + 1)) h _ _ _ hw (lv_sub hl [1, 2, 3, 4, 5, 0] rfl)
                  refine lv_icmp_ne (tgt := 109) hx hb d_M_trace_102 (by decide) (fun c_102 => ?_) (fun c_102 => ?_)
                  · have h := (if_neg c_102).symm.trans h
                    refine lv_iconst (v := 0) hx hb d_M_trace_109 (by decide) ?_
                    exact hJ110 _ _ _ _ _ _ _ _ _ _ h hw (lv_sub hl [0, 1, 2, 3, 4, 5] rfl)
                  · have h := (if_pos c_102).symm.trans h
                    refine lv_iconst (v := 1) hx hb d_M_trace_105 (by decide) ?_
                    refine lv_goto (tgt := 110) hx hb d_M_trace_106 (by decide) ?_
                    exact hJ110 _ _ _ _ _ _ _ _ _ _ h hw (lv_sub hl [0, 1, 2, 3, 4, 5] rfl)
        · have h := (if_pos c_42).symm.trans h
          refine lv_iload hx hb d_M_trace_45 (lv_at hl 0 rfl) ?_
          exact hret _ _ _ _ _ _ (sk_p1 h) (sk_p2 h) (vp_nar_int _) hw d_M_trace_47
    · have h := (if_pos c_21).symm.trans h
      refine lv_iconst (v := -1) hx hb d_M_trace_24 (by decide) ?_
      exact hret _ _ _ _ _ _ (sk_p1 h) (sk_p2 h) (vp_nar_int _) hw d_M_trace_25
  refine lv_if_eq (tgt := 15) hx hb d_M_trace_1 (by decide) (fun c_1 => ?_) (fun c_1 => ?_)
  · have h := (if_pos c_1).symm.trans h
    exact hJ15 _ _ _ _ _ _ _ h hw (lv_sub hl [0, 1, 2, 3] rfl)
  · have h := (if_neg c_1).symm.trans h
    refine lv_iload_n hx hb d_M_trace_4 rfl (lv_at hl 1 rfl) ?_
    refine lv_bipush (v := 97) hx hb d_M_trace_5 (by decide) ?_
    refine lv_bipush (v := 122) hx hb d_M_trace_7 (by decide) ?_
    refine sk_callSi (As := [.int v1, .int (97 : Int32), .int (122 : Int32)]) (rest := []) ⟨hx, hb, hml, hown, hts⟩ hw hnw hok (c_M_in hok rfl) (cw_M_135 hts hnw (by decide)) rfl hl.1 rfl (Nat.le_of_ble_eq_true rfl) d_M_trace_9 (fun H locs hw => ?_)
    refine lv_if_eq (tgt := 24) hx hb d_M_trace_12 (by decide) (fun c_12 => ?_) (fun c_12 => ?_)
    · have h := (if_pos c_12).symm.trans h
      refine lv_iconst (v := -1) hx hb d_M_trace_24 (by decide) ?_
      exact hret _ _ _ _ _ _ (sk_p1 h) (sk_p2 h) (vp_nar_int _) hw d_M_trace_25
    · have h := (if_neg c_12).symm.trans h
      exact hJ15 _ _ _ _ _ _ _ h hw (lv_sub hl [0, 1, 2, 3] rfl)
set_option maxHeartbeats 4000000 in
set_option maxRecDepth 100000 in
theorem c_M_active {l : Launch} {D : va_G} {A : Nat → Prop} {a : Nat → Nat} {cI cZ : ClassId} {nw : State → Prop} {N : Nat} {st : sk_M} {v1 : Int32} {res : Int32} (hok : sk_ok A nw) (h : M_active N st v1 = some res) : sk_Ci l y_M_active w_M_active rm_M_active D (tyM cI cZ) A (ceM a cI cZ) nw [.ref (a 0), .int v1] st res st := by
  refine sk_headi .int (by decide) rfl (Nat.le_of_ble_eq_true rfl) ?_
  intro p e s m args below meth c Q hx hb hml hown hts0 hnw hret ls hl hw
  have hts : ∀ w ∈ TB, w.before args s = true := fun w h => hts0 w (List.mem_cons_of_mem _ h)
  have hown : s.vm.findClass R_M = some m.cls := hown
  have hl : lv_has ls 5 [(0, .ref (a 0)), (1, .int v1)] := hl
  unfold M_active at h
  refine lv_iconst (v := 0) hx hb d_M_active_0 (by decide) ?_
  refine lv_istore_n (lv' := [(2, .int (0 : Int32)), (0, .ref (a 0)), (1, .int v1)]) hx hb d_M_active_1 rfl hl (by decide) rfl (fun ls hl => ?_)
  refine lv_iconst (v := 0) hx hb d_M_active_2 (by decide) ?_
  refine lv_istore_n (lv' := [(3, .int (0 : Int32)), (2, .int (0 : Int32)), (0, .ref (a 0)), (1, .int v1)]) hx hb d_M_active_3 rfl hl (by decide) rfl (fun ls hl => ?_)
  refine sk_lp_run (G := fun (z : Int32 × Int32 × Int32) => ∀ (H : Heap) (locs : List Loc) (ls : Array Slot), sk_w D (tyM cI cZ) A (ceM a cI cZ) s st H locs → lv_has ls 5 [(0, .ref (a 0)), (1, .int z.1), (2, .int z.2.1), (3, .int z.2.2)] → W p l e rm_M_active s m args below meth c H locs 0 0 Q (F0 m 4 ls [])) ?_ N _ h _ _ _ hw (lv_sub hl [2, 3, 1, 0] rfl)
  rintro self4 ⟨v1, v2, v3⟩ hself4 h H locs ls hw hl
  unfold M_active_L4 at h
  refine lv_iload_n hx hb d_M_active_4 rfl (lv_at hl 3 rfl) ?_
  refine lv_aload_n hx hb d_M_active_5 rfl (lv_at hl 0 rfl) ?_
  refine gf_M_143 hx hb hts hnw hown hw d_M_active_6 ?_
  refine lv_icmp_ge (tgt := 114) hx hb d_M_active_9 (by decide) (fun c_9 => ?_) (fun c_9 => ?_)
  · have h := (if_pos c_9).symm.trans h
    refine lv_iload_n hx hb d_M_active_114 rfl (lv_at hl 2 rfl) ?_
    exact hret _ _ _ _ _ _ (Option.some.inj h) rfl (vp_nar_int _) hw d_M_active_115
  · have h := (if_neg c_9).symm.trans h
    refine lv_aload_n hx hb d_M_active_12 rfl (lv_at hl 0 rfl) ?_
    refine lv_iload_n hx hb d_M_active_13 rfl (lv_at hl 3 rfl) ?_
    obtain ⟨x14, q_14, h⟩ := sk_oR_some h
    refine sk_callVi (As := [.int v3]) (rest := []) ⟨hx, hb, hml, hown, hts⟩ hw hnw hok (c_M_isActive hok q_14) (cw_M_259 hts hnw (by decide)) (rc_M hw) rfl hl.1 rfl (Nat.le_of_ble_eq_true rfl) d_M_active_14 (fun H locs hw => ?_)
    refine lv_if_ne (tgt := 23) hx hb d_M_active_17 (by decide) (fun c_17 => ?_) (fun c_17 => ?_)
    · have h := (if_neg c_17).symm.trans h
      refine lv_aload_n hx hb d_M_active_23 rfl (lv_at hl 0 rfl) ?_
      refine gf_M_7 hx hb hts hnw hown hw d_M_active_24 ?_
      refine lv_aload_n hx hb d_M_active_27 rfl (lv_at hl 0 rfl) ?_
      refine gf_M_57 hx hb hts hnw hown hw d_M_active_28 ?_
      refine lv_iload_n hx hb d_M_active_31 rfl (lv_at hl 3 rfl) ?_
      obtain ⟨x32, g_32, e_32, h⟩ := sk_rI_some h
      refine al_M15 hx hb hw g_32 e_32 d_M_active_32 ?_
      obtain ⟨x33, g_33, e_33, h⟩ := sk_rI_some h
      refine al_M1 hx hb hw g_33 e_33 d_M_active_33 ?_
      have hJ94 : ∀ (v1 : Int32) (v2 : Int32) (v3 : Int32) (s0 : Int32) (H : Heap) (locs : List Loc) (ls : Array Slot), M_active_J94 N st self4 v1 v2 v3 s0 = some res → sk_w D (tyM cI cZ) A (ceM a cI cZ) s st H locs → lv_has ls 5 [(0, .ref (a 0)), (1, .int v1), (2, .int v2), (3, .int v3)] → W p l e rm_M_active s m args below meth c H locs 0 0 Q (F0 m 94 ls [.int s0]) := by
        intro v1 v2 v3 s0 H locs ls h hw hl
        unfold M_active_J94 at h
        refine lv_istore (lv' := [(4, .int s0), (0, .ref (a 0)), (1, .int v1), (2, .int v2), (3, .int v3)]) hx hb d_M_active_94 hl (by decide) rfl (fun ls hl => ?_)
        refine lv_iload_n hx hb d_M_active_96 rfl (lv_at hl 2 rfl) ?_
        refine lv_if_eq (tgt := 105) hx hb d_M_active_97 (by decide) (fun c_97 => ?_) (fun c_97 => ?_)
        · have h := (if_pos c_97).symm.trans h
          refine lv_iinc (v := v2 + 1) (lv' := [(2, .int (v2 + 1)), (4, .int s0), (0, .ref (a 0)), (1, .int v1), (3, .int v3)]) hx hb d_M_active_105 hl (k := 3) rfl rfl (by decide) rfl (fun ls hl => ?_)
          refine lv_iinc (v := v3 + 1) (lv' := [(3, .int (v3 + 1)), (2, .int (v2 + 1)), (4, .int s0), (0, .ref (a 0)), (1, .int v1)]) hx hb d_M_active_108 hl (k := 4) rfl rfl (by decide) rfl (fun ls hl => ?_)
          refine lv_goto (tgt := 4) hx hb d_M_active_111 (by decide) ?_
          exact hself4 (v1, (v2 + 1), (v3 + 1)) h _ _ _ hw (lv_sub hl [3, 4, 1, 0] rfl)
        · have h := (if_neg c_97).symm.trans h
          refine lv_iload hx hb d_M_active_100 (lv_at hl 0 rfl) ?_
          refine lv_if_eq (tgt := 108) hx hb d_M_active_102 (by decide) (fun c_102 => ?_) (fun c_102 => ?_)
          · have h := (if_pos c_102).symm.trans h
            refine lv_iinc (v := v3 + 1) (lv' := [(3, .int (v3 + 1)), (4, .int s0), (0, .ref (a 0)), (1, .int v1), (2, .int v2)]) hx hb d_M_active_108 hl (k := 4) rfl rfl (by decide) rfl (fun ls hl => ?_)
            refine lv_goto (tgt := 4) hx hb d_M_active_111 (by decide) ?_
            exact hself4 (v1, v2, (v3 + 1)) h _ _ _ hw (lv_sub hl [2, 3, 4, 0] rfl)
          · have h := (if_neg c_102).symm.trans h
            refine lv_iinc (v := v2 + 1) (lv' := [(2, .int (v2 + 1)), (4, .int s0), (0, .ref (a 0)), (1, .int v1), (3, .int v3)]) hx hb d_M_active_105 hl (k := 3) rfl rfl (by decide) rfl (fun ls hl => ?_)
            refine lv_iinc (v := v3 + 1) (lv' := [(3, .int (v3 + 1)), (2, .int (v2 + 1)), (4, .int s0), (0, .ref (a 0)), (1, .int v1)]) hx hb d_M_active_108 hl (k := 4) rfl rfl (by decide) rfl (fun ls hl => ?_)
            refine lv_goto (tgt := 4) hx hb d_M_active_111 (by decide) ?_
            exact hself4 (v1, (v2 + 1), (v3 + 1)) h _ _ _ hw (lv_sub hl [3, 4, 1, 0] rfl)
      have hJ89 : ∀ (v1 : Int32) (v2 : Int32) (v3 : Int32) (H : Heap) (locs : List Loc) (ls : Array Slot), M_active_J89 N st self4 v1 v2 v3 = some res → sk_w D (tyM cI cZ) A (ceM a cI cZ) s st H locs → lv_has ls 5 [(0, .ref (a 0)), (1, .int v1), (2, .int v2), (3, .int v3)] → W p l e rm_M_active s m args below meth c H locs 0 0 Q (F0 m 89 ls []) := by
        intro v1 v2 v3 H locs ls h hw hl
        unfold M_active_J89 at h
        refine lv_iconst (v := 1) hx hb d_M_active_89 (by decide) ?_
        refine lv_goto (tgt := 94) hx hb d_M_active_90 (by decide) ?_
        exact hJ94 _ _ _ _ _ _ _ h hw (lv_sub hl [0, 1, 2, 3] rfl)
      refine lv_if_eq (tgt := 89) hx hb d_M_active_34 (by decide) (fun c_34 => ?_) (fun c_34 => ?_)
      · have h := (if_pos c_34).symm.trans h
        exact hJ89 _ _ _ _ _ _ h hw (lv_sub hl [0, 1, 2, 3] rfl)
      · have h := (if_neg c_34).symm.trans h
        refine lv_aload_n hx hb d_M_active_37 rfl (lv_at hl 0 rfl) ?_
        refine gf_M_54 hx hb hts hnw hown hw d_M_active_38 ?_
        refine lv_iload_n hx hb d_M_active_41 rfl (lv_at hl 3 rfl) ?_
        obtain ⟨x42, g_42, e_42, h⟩ := sk_rI_some h
        refine al_M14 hx hb hw g_42 e_42 d_M_active_42 ?_
        refine lv_iconst (v := 1) hx hb d_M_active_43 (by decide) ?_
        have hJ93 : ∀ (v1 : Int32) (v2 : Int32) (v3 : Int32) (H : Heap) (locs : List Loc) (ls : Array Slot), M_active_J93 N st self4 v1 v2 v3 = some res → sk_w D (tyM cI cZ) A (ceM a cI cZ) s st H locs → lv_has ls 5 [(0, .ref (a 0)), (1, .int v1), (2, .int v2), (3, .int v3)] → W p l e rm_M_active s m args below meth c H locs 0 0 Q (F0 m 93 ls []) := by
          intro v1 v2 v3 H locs ls h hw hl
          unfold M_active_J93 at h
          refine lv_iconst (v := 0) hx hb d_M_active_93 (by decide) ?_
          exact hJ94 _ _ _ _ _ _ _ h hw (lv_sub hl [0, 1, 2, 3] rfl)
        refine lv_icmp_le (tgt := 93) hx hb d_M_active_44 (by decide) (fun c_44 => ?_) (fun c_44 => ?_)
        · have h := (if_pos c_44).symm.trans h
          exact hJ93 _ _ _ _ _ _ h hw (lv_sub hl [0, 1, 2, 3] rfl)
        · have h := (if_neg c_44).symm.trans h
          refine lv_aload_n hx hb d_M_active_47 rfl (lv_at hl 0 rfl) ?_
          refine lv_aload_n hx hb d_M_active_48 rfl (lv_at hl 0 rfl) ?_
          refine gf_M_57 hx hb hts hnw hown hw d_M_active_49 ?_
          refine lv_iload_n hx hb d_M_active_52 rfl (lv_at hl 3 rfl) ?_
          obtain ⟨x53, g_53, e_53, h⟩ := sk_rI_some h
          refine al_M15 hx hb hw g_53 e_53 d_M_active_53 ?_
          refine lv_aload_n hx hb d_M_active_54 rfl (lv_at hl 0 rfl) ?_
          refine gf_M_54 hx hb hts hnw hown hw d_M_active_55 ?_
          refine lv_iload_n hx hb d_M_active_58 rfl (lv_at hl 3 rfl) ?_
          obtain ⟨x59, g_59, e_59, h⟩ := sk_rI_some h
          refine al_M14 hx hb hw g_59 e_59 d_M_active_59 ?_
          refine lv_iconst (v := 2) hx hb d_M_active_60 (by decide) ?_
          have hJ69 : ∀ (v1 : Int32) (v2 : Int32) (v3 : Int32) (s1 : Int32) (s2 : Int32) (H : Heap) (locs : List Loc) (ls : Array Slot), M_active_J69 N st self4 v1 v2 v3 s1 s2 = some res → sk_w D (tyM cI cZ) A (ceM a cI cZ) s st H locs → lv_has ls 5 [(0, .ref (a 0)), (1, .int v1), (2, .int v2), (3, .int v3)] → W p l e rm_M_active s m args below meth c H locs 0 0 Q (F0 m 69 ls [.int s2, .int s1, .ref (a 0)]) := by
            intro v1 v2 v3 s1 s2 H locs ls h hw hl
            unfold M_active_J69 at h
            refine lv_aload_n hx hb d_M_active_69 rfl (lv_at hl 0 rfl) ?_
            refine gf_M_60 hx hb hts hnw hown hw d_M_active_70 ?_
            refine lv_iload_n hx hb d_M_active_73 rfl (lv_at hl 3 rfl) ?_
            obtain ⟨x74, g_74, e_74, h⟩ := sk_rI_some h
            refine al_M16 hx hb hw g_74 e_74 d_M_active_74 ?_
            refine lv_aload_n hx hb d_M_active_75 rfl (lv_at hl 0 rfl) ?_
            refine gf_M_63 hx hb hts hnw hown hw d_M_active_76 ?_
            refine lv_iload_n hx hb d_M_active_79 rfl (lv_at hl 3 rfl) ?_
            obtain ⟨x80, g_80, e_80, h⟩ := sk_rI_some h
            refine al_M17 hx hb hw g_80 e_80 d_M_active_80 ?_
            refine lv_iconst (v := 0) hx hb d_M_active_81 (by decide) ?_
            refine lv_iconst (v := 0) hx hb d_M_active_82 (by decide) ?_
            obtain ⟨x83, q_83, h⟩ := sk_oR_some h
            refine sk_callVi (As := [.int s1, .int s2, .int x74, .int x80, .int (0 : Int32), .int (0 : Int32)]) (rest := []) ⟨hx, hb, hml, hown, hts⟩ hw hnw hok (c_M_look hok q_83) (cw_M_243 hts hnw (by decide)) (rc_M hw) rfl hl.1 rfl (Nat.le_of_ble_eq_true rfl) d_M_active_83 (fun H locs hw => ?_)
            refine lv_if_ge (tgt := 93) hx hb d_M_active_86 (by decide) (fun c_86 => ?_) (fun c_86 => ?_)
            · have h := (if_pos c_86).symm.trans h
              exact hJ93 _ _ _ _ _ _ h hw (lv_sub hl [0, 1, 2, 3] rfl)
            · have h := (if_neg c_86).symm.trans h
              exact hJ89 _ _ _ _ _ _ h hw (lv_sub hl [0, 1, 2, 3] rfl)
          refine lv_icmp_ne (tgt := 68) hx hb d_M_active_61 (by decide) (fun c_61 => ?_) (fun c_61 => ?_)
          · have h := (if_neg c_61).symm.trans h
            refine lv_iconst (v := 1) hx hb d_M_active_68 (by decide) ?_
            exact hJ69 _ _ _ _ _ _ _ _ h hw (lv_sub hl [0, 1, 2, 3] rfl)
          · have h := (if_pos c_61).symm.trans h
            refine lv_iconst (v := 0) hx hb d_M_active_64 (by decide) ?_
            refine lv_goto (tgt := 69) hx hb d_M_active_65 (by decide) ?_
            exact hJ69 _ _ _ _ _ _ _ _ h hw (lv_sub hl [0, 1, 2, 3] rfl)
    · have h := (if_pos c_17).symm.trans h
      refine lv_goto (tgt := 108) hx hb d_M_active_20 (by decide) ?_
      refine lv_iinc (v := v3 + 1) (lv' := [(3, .int (v3 + 1)), (0, .ref (a 0)), (1, .int v1), (2, .int v2)]) hx hb d_M_active_108 hl (k := 3) rfl rfl (by decide) rfl (fun ls hl => ?_)
      refine lv_goto (tgt := 4) hx hb d_M_active_111 (by decide) ?_
      exact hself4 (v1, v2, (v3 + 1)) h _ _ _ hw (lv_sub hl [1, 2, 3, 0] rfl)
set_option maxHeartbeats 4000000 in
set_option maxRecDepth 100000 in
theorem c_M_classes {l : Launch} {D : va_G} {A : Nat → Prop} {a : Nat → Nat} {cI cZ : ClassId} {nw : State → Prop} {N : Nat} {st : sk_M} {v1 : Int32} {res : Int32} (hok : sk_ok A nw) (h : M_classes N st v1 = some res) : sk_Ci l y_M_classes w_M_classes rm_M_classes D (tyM cI cZ) A (ceM a cI cZ) nw [.ref (a 0), .int v1] st res st := by
  refine sk_headi .int (by decide) rfl (Nat.le_of_ble_eq_true rfl) ?_
  intro p e s m args below meth c Q hx hb hml hown hts0 hnw hret ls hl hw
  have hts : ∀ w ∈ TB, w.before args s = true := fun w h => hts0 w (List.mem_cons_of_mem _ h)
  have hown : s.vm.findClass R_M = some m.cls := hown
  have hl : lv_has ls 4 [(0, .ref (a 0)), (1, .int v1)] := hl
  unfold M_classes at h
  refine lv_iconst (v := 0) hx hb d_M_classes_0 (by decide) ?_
  refine lv_istore_n (lv' := [(2, .int (0 : Int32)), (0, .ref (a 0)), (1, .int v1)]) hx hb d_M_classes_1 rfl hl (by decide) rfl (fun ls hl => ?_)
  refine lv_iconst (v := 0) hx hb d_M_classes_2 (by decide) ?_
  refine lv_istore_n (lv' := [(3, .int (0 : Int32)), (2, .int (0 : Int32)), (0, .ref (a 0)), (1, .int v1)]) hx hb d_M_classes_3 rfl hl (by decide) rfl (fun ls hl => ?_)
  refine sk_lp_run (G := fun (z : Int32 × Int32 × Int32) => ∀ (H : Heap) (locs : List Loc) (ls : Array Slot), sk_w D (tyM cI cZ) A (ceM a cI cZ) s st H locs → lv_has ls 4 [(0, .ref (a 0)), (1, .int z.1), (2, .int z.2.1), (3, .int z.2.2)] → W p l e rm_M_classes s m args below meth c H locs 0 0 Q (F0 m 4 ls [])) ?_ N _ h _ _ _ hw (lv_sub hl [2, 3, 1, 0] rfl)
  rintro self4 ⟨v1, v2, v3⟩ hself4 h H locs ls hw hl
  unfold M_classes_L4 at h
  refine lv_iload_n hx hb d_M_classes_4 rfl (lv_at hl 3 rfl) ?_
  refine lv_bipush (v := 10) hx hb d_M_classes_5 (by decide) ?_
  refine lv_icmp_ge (tgt := 75) hx hb d_M_classes_7 (by decide) (fun c_7 => ?_) (fun c_7 => ?_)
  · have h := (if_pos c_7).symm.trans h
    refine lv_iload_n hx hb d_M_classes_75 rfl (lv_at hl 2 rfl) ?_
    exact hret _ _ _ _ _ _ (Option.some.inj h) rfl (vp_nar_int _) hw d_M_classes_76
  · have h := (if_neg c_7).symm.trans h
    refine lv_aload_n hx hb d_M_classes_10 rfl (lv_at hl 0 rfl) ?_
    refine gf_M_7 hx hb hts hnw hown hw d_M_classes_11 ?_
    refine lv_iload_n hx hb d_M_classes_14 rfl (lv_at hl 3 rfl) ?_
    obtain ⟨x15, g_15, e_15, h⟩ := sk_rI_some h
    refine al_M1 hx hb hw g_15 e_15 d_M_classes_15 ?_
    refine lv_if_eq (tgt := 69) hx hb d_M_classes_16 (by decide) (fun c_16 => ?_) (fun c_16 => ?_)
    · have h := (if_pos c_16).symm.trans h
      refine lv_iinc (v := v3 + 1) (lv' := [(3, .int (v3 + 1)), (0, .ref (a 0)), (1, .int v1), (2, .int v2)]) hx hb d_M_classes_69 hl (k := 3) rfl rfl (by decide) rfl (fun ls hl => ?_)
      refine lv_goto (tgt := 4) hx hb d_M_classes_72 (by decide) ?_
      exact hself4 (v1, v2, (v3 + 1)) h _ _ _ hw (lv_sub hl [1, 2, 3, 0] rfl)
    · have h := (if_neg c_16).symm.trans h
      refine lv_iload_n hx hb d_M_classes_19 rfl (lv_at hl 1 rfl) ?_
      refine lv_if_eq (tgt := 66) hx hb d_M_classes_20 (by decide) (fun c_20 => ?_) (fun c_20 => ?_)
      · have h := (if_pos c_20).symm.trans h
        refine lv_iinc (v := v2 + 1) (lv' := [(2, .int (v2 + 1)), (0, .ref (a 0)), (1, .int v1), (3, .int v3)]) hx hb d_M_classes_66 hl (k := 2) rfl rfl (by decide) rfl (fun ls hl => ?_)
        refine lv_iinc (v := v3 + 1) (lv' := [(3, .int (v3 + 1)), (2, .int (v2 + 1)), (0, .ref (a 0)), (1, .int v1)]) hx hb d_M_classes_69 hl (k := 3) rfl rfl (by decide) rfl (fun ls hl => ?_)
        refine lv_goto (tgt := 4) hx hb d_M_classes_72 (by decide) ?_
        exact hself4 (v1, (v2 + 1), (v3 + 1)) h _ _ _ hw (lv_sub hl [2, 3, 1, 0] rfl)
      · have h := (if_neg c_20).symm.trans h
        refine lv_iload_n hx hb d_M_classes_23 rfl (lv_at hl 1 rfl) ?_
        refine lv_iconst (v := 4) hx hb d_M_classes_24 (by decide) ?_
        have hJ37 : ∀ (v1 : Int32) (v2 : Int32) (v3 : Int32) (H : Heap) (locs : List Loc) (ls : Array Slot), M_classes_J37 N st self4 v1 v2 v3 = some res → sk_w D (tyM cI cZ) A (ceM a cI cZ) s st H locs → lv_has ls 4 [(0, .ref (a 0)), (1, .int v1), (2, .int v2), (3, .int v3)] → W p l e rm_M_classes s m args below meth c H locs 0 0 Q (F0 m 37 ls []) := by
          intro v1 v2 v3 H locs ls h hw hl
          unfold M_classes_J37 at h
          refine lv_iload_n hx hb d_M_classes_37 rfl (lv_at hl 1 rfl) ?_
          refine lv_iconst (v := 5) hx hb d_M_classes_38 (by decide) ?_
          have hJ51 : ∀ (v1 : Int32) (v2 : Int32) (v3 : Int32) (H : Heap) (locs : List Loc) (ls : Array Slot), M_classes_J51 N st self4 v1 v2 v3 = some res → sk_w D (tyM cI cZ) A (ceM a cI cZ) s st H locs → lv_has ls 4 [(0, .ref (a 0)), (1, .int v1), (2, .int v2), (3, .int v3)] → W p l e rm_M_classes s m args below meth c H locs 0 0 Q (F0 m 51 ls []) := by
            intro v1 v2 v3 H locs ls h hw hl
            unfold M_classes_J51 at h
            refine lv_iload_n hx hb d_M_classes_51 rfl (lv_at hl 1 rfl) ?_
            refine lv_bipush (v := 6) hx hb d_M_classes_52 (by decide) ?_
            refine lv_icmp_ne (tgt := 69) hx hb d_M_classes_54 (by decide) (fun c_54 => ?_) (fun c_54 => ?_)
            · have h := (if_neg c_54).symm.trans h
              refine lv_iinc (v := v3 + 1) (lv' := [(3, .int (v3 + 1)), (0, .ref (a 0)), (1, .int v1), (2, .int v2)]) hx hb d_M_classes_69 hl (k := 3) rfl rfl (by decide) rfl (fun ls hl => ?_)
              refine lv_goto (tgt := 4) hx hb d_M_classes_72 (by decide) ?_
              exact hself4 (v1, v2, (v3 + 1)) h _ _ _ hw (lv_sub hl [1, 2, 3, 0] rfl)
            · have h := (if_pos c_54).symm.trans h
              refine lv_aload_n hx hb d_M_classes_57 rfl (lv_at hl 0 rfl) ?_
              refine gf_M_123 hx hb hts hnw hown hw d_M_classes_58 ?_
              refine lv_iload_n hx hb d_M_classes_61 rfl (lv_at hl 3 rfl) ?_
              obtain ⟨x62, g_62, e_62, h⟩ := sk_rI_some h
              refine al_M37 hx hb hw g_62 e_62 d_M_classes_62 ?_
              refine lv_if_eq (tgt := 69) hx hb d_M_classes_63 (by decide) (fun c_63 => ?_) (fun c_63 => ?_)
              · have h := (if_pos c_63).symm.trans h
                refine lv_iinc (v := v3 + 1) (lv' := [(3, .int (v3 + 1)), (0, .ref (a 0)), (1, .int v1), (2, .int v2)]) hx hb d_M_classes_69 hl (k := 3) rfl rfl (by decide) rfl (fun ls hl => ?_)
                refine lv_goto (tgt := 4) hx hb d_M_classes_72 (by decide) ?_
                exact hself4 (v1, v2, (v3 + 1)) h _ _ _ hw (lv_sub hl [1, 2, 3, 0] rfl)
              · have h := (if_neg c_63).symm.trans h
                refine lv_iinc (v := v2 + 1) (lv' := [(2, .int (v2 + 1)), (0, .ref (a 0)), (1, .int v1), (3, .int v3)]) hx hb d_M_classes_66 hl (k := 2) rfl rfl (by decide) rfl (fun ls hl => ?_)
                refine lv_iinc (v := v3 + 1) (lv' := [(3, .int (v3 + 1)), (2, .int (v2 + 1)), (0, .ref (a 0)), (1, .int v1)]) hx hb d_M_classes_69 hl (k := 3) rfl rfl (by decide) rfl (fun ls hl => ?_)
                refine lv_goto (tgt := 4) hx hb d_M_classes_72 (by decide) ?_
                exact hself4 (v1, (v2 + 1), (v3 + 1)) h _ _ _ hw (lv_sub hl [2, 3, 1, 0] rfl)
          refine lv_icmp_ne (tgt := 51) hx hb d_M_classes_39 (by decide) (fun c_39 => ?_) (fun c_39 => ?_)
          · have h := (if_neg c_39).symm.trans h
            exact hJ51 _ _ _ _ _ _ h hw (lv_sub hl [0, 1, 2, 3] rfl)
          · have h := (if_pos c_39).symm.trans h
            refine lv_aload_n hx hb d_M_classes_42 rfl (lv_at hl 0 rfl) ?_
            refine gf_M_120 hx hb hts hnw hown hw d_M_classes_43 ?_
            refine lv_iload_n hx hb d_M_classes_46 rfl (lv_at hl 3 rfl) ?_
            obtain ⟨x47, g_47, e_47, h⟩ := sk_rI_some h
            refine al_M36 hx hb hw g_47 e_47 d_M_classes_47 ?_
            refine lv_if_ne (tgt := 66) hx hb d_M_classes_48 (by decide) (fun c_48 => ?_) (fun c_48 => ?_)
            · have h := (if_neg c_48).symm.trans h
              refine lv_iinc (v := v2 + 1) (lv' := [(2, .int (v2 + 1)), (0, .ref (a 0)), (1, .int v1), (3, .int v3)]) hx hb d_M_classes_66 hl (k := 2) rfl rfl (by decide) rfl (fun ls hl => ?_)
              refine lv_iinc (v := v3 + 1) (lv' := [(3, .int (v3 + 1)), (2, .int (v2 + 1)), (0, .ref (a 0)), (1, .int v1)]) hx hb d_M_classes_69 hl (k := 3) rfl rfl (by decide) rfl (fun ls hl => ?_)
              refine lv_goto (tgt := 4) hx hb d_M_classes_72 (by decide) ?_
              exact hself4 (v1, (v2 + 1), (v3 + 1)) h _ _ _ hw (lv_sub hl [2, 3, 1, 0] rfl)
            · have h := (if_pos c_48).symm.trans h
              exact hJ51 _ _ _ _ _ _ h hw (lv_sub hl [0, 1, 2, 3] rfl)
        refine lv_icmp_ne (tgt := 37) hx hb d_M_classes_25 (by decide) (fun c_25 => ?_) (fun c_25 => ?_)
        · have h := (if_neg c_25).symm.trans h
          exact hJ37 _ _ _ _ _ _ h hw (lv_sub hl [0, 1, 2, 3] rfl)
        · have h := (if_pos c_25).symm.trans h
          refine lv_aload_n hx hb d_M_classes_28 rfl (lv_at hl 0 rfl) ?_
          refine gf_M_117 hx hb hts hnw hown hw d_M_classes_29 ?_
          refine lv_iload_n hx hb d_M_classes_32 rfl (lv_at hl 3 rfl) ?_
          obtain ⟨x33, g_33, e_33, h⟩ := sk_rI_some h
          refine al_M35 hx hb hw g_33 e_33 d_M_classes_33 ?_
          refine lv_if_ne (tgt := 66) hx hb d_M_classes_34 (by decide) (fun c_34 => ?_) (fun c_34 => ?_)
          · have h := (if_neg c_34).symm.trans h
            refine lv_iinc (v := v2 + 1) (lv' := [(2, .int (v2 + 1)), (0, .ref (a 0)), (1, .int v1), (3, .int v3)]) hx hb d_M_classes_66 hl (k := 2) rfl rfl (by decide) rfl (fun ls hl => ?_)
            refine lv_iinc (v := v3 + 1) (lv' := [(3, .int (v3 + 1)), (2, .int (v2 + 1)), (0, .ref (a 0)), (1, .int v1)]) hx hb d_M_classes_69 hl (k := 3) rfl rfl (by decide) rfl (fun ls hl => ?_)
            refine lv_goto (tgt := 4) hx hb d_M_classes_72 (by decide) ?_
            exact hself4 (v1, (v2 + 1), (v3 + 1)) h _ _ _ hw (lv_sub hl [2, 3, 1, 0] rfl)
          · have h := (if_pos c_34).symm.trans h
            exact hJ37 _ _ _ _ _ _ h hw (lv_sub hl [0, 1, 2, 3] rfl)
set_option maxHeartbeats 4000000 in
set_option maxRecDepth 100000 in
theorem c_M_parts {l : Launch} {D : va_G} {A : Nat → Prop} {a : Nat → Nat} {cI cZ : ClassId} {nw : State → Prop} {N : Nat} {st : sk_M} {v1 : Int32} {res : Int32} (hok : sk_ok A nw) (h : M_parts N st v1 = some res) : sk_Ci l y_M_parts w_M_parts rm_M_parts D (tyM cI cZ) A (ceM a cI cZ) nw [.ref (a 0), .int v1] st res st := by
  refine sk_headi .int (by decide) rfl (Nat.le_of_ble_eq_true rfl) ?_
  intro p e s m args below meth c Q hx hb hml hown hts0 hnw hret ls hl hw
  have hts : ∀ w ∈ TB, w.before args s = true := fun w h => hts0 w (List.mem_cons_of_mem _ h)
  have hown : s.vm.findClass R_M = some m.cls := hown
  have hl : lv_has ls 4 [(0, .ref (a 0)), (1, .int v1)] := hl
  unfold M_parts at h
  refine lv_iconst (v := 0) hx hb d_M_parts_0 (by decide) ?_
  refine lv_istore_n (lv' := [(2, .int (0 : Int32)), (0, .ref (a 0)), (1, .int v1)]) hx hb d_M_parts_1 rfl hl (by decide) rfl (fun ls hl => ?_)
  refine lv_iconst (v := 0) hx hb d_M_parts_2 (by decide) ?_
  refine lv_istore_n (lv' := [(3, .int (0 : Int32)), (2, .int (0 : Int32)), (0, .ref (a 0)), (1, .int v1)]) hx hb d_M_parts_3 rfl hl (by decide) rfl (fun ls hl => ?_)
  refine sk_lp_run (G := fun (z : Int32 × Int32 × Int32) => ∀ (H : Heap) (locs : List Loc) (ls : Array Slot), sk_w D (tyM cI cZ) A (ceM a cI cZ) s st H locs → lv_has ls 4 [(0, .ref (a 0)), (1, .int z.1), (2, .int z.2.1), (3, .int z.2.2)] → W p l e rm_M_parts s m args below meth c H locs 0 0 Q (F0 m 4 ls [])) ?_ N _ h _ _ _ hw (lv_sub hl [2, 3, 1, 0] rfl)
  rintro self4 ⟨v1, v2, v3⟩ hself4 h H locs ls hw hl
  unfold M_parts_L4 at h
  refine lv_iload_n hx hb d_M_parts_4 rfl (lv_at hl 3 rfl) ?_
  refine lv_aload_n hx hb d_M_parts_5 rfl (lv_at hl 0 rfl) ?_
  refine gf_M_47 hx hb hts hnw hown hw d_M_parts_6 ?_
  refine lv_icmp_ge (tgt := 43) hx hb d_M_parts_9 (by decide) (fun c_9 => ?_) (fun c_9 => ?_)
  · have h := (if_pos c_9).symm.trans h
    refine lv_iload_n hx hb d_M_parts_43 rfl (lv_at hl 2 rfl) ?_
    exact hret _ _ _ _ _ _ (Option.some.inj h) rfl (vp_nar_int _) hw d_M_parts_44
  · have h := (if_neg c_9).symm.trans h
    refine lv_aload_n hx hb d_M_parts_12 rfl (lv_at hl 0 rfl) ?_
    refine gf_M_44 hx hb hts hnw hown hw d_M_parts_13 ?_
    refine lv_iload_n hx hb d_M_parts_16 rfl (lv_at hl 3 rfl) ?_
    obtain ⟨x17, g_17, e_17, h⟩ := sk_rI_some h
    refine al_M12 hx hb hw g_17 e_17 d_M_parts_17 ?_
    refine lv_if_ne (tgt := 37) hx hb d_M_parts_18 (by decide) (fun c_18 => ?_) (fun c_18 => ?_)
    · have h := (if_neg c_18).symm.trans h
      refine lv_iinc (v := v3 + 1) (lv' := [(3, .int (v3 + 1)), (0, .ref (a 0)), (1, .int v1), (2, .int v2)]) hx hb d_M_parts_37 hl (k := 3) rfl rfl (by decide) rfl (fun ls hl => ?_)
      refine lv_goto (tgt := 4) hx hb d_M_parts_40 (by decide) ?_
      exact hself4 (v1, v2, (v3 + 1)) h _ _ _ hw (lv_sub hl [1, 2, 3, 0] rfl)
    · have h := (if_pos c_18).symm.trans h
      refine lv_iload_n hx hb d_M_parts_21 rfl (lv_at hl 1 rfl) ?_
      refine lv_if_eq (tgt := 34) hx hb d_M_parts_22 (by decide) (fun c_22 => ?_) (fun c_22 => ?_)
      · have h := (if_pos c_22).symm.trans h
        refine lv_iinc (v := v2 + 1) (lv' := [(2, .int (v2 + 1)), (0, .ref (a 0)), (1, .int v1), (3, .int v3)]) hx hb d_M_parts_34 hl (k := 2) rfl rfl (by decide) rfl (fun ls hl => ?_)
        refine lv_iinc (v := v3 + 1) (lv' := [(3, .int (v3 + 1)), (2, .int (v2 + 1)), (0, .ref (a 0)), (1, .int v1)]) hx hb d_M_parts_37 hl (k := 3) rfl rfl (by decide) rfl (fun ls hl => ?_)
        refine lv_goto (tgt := 4) hx hb d_M_parts_40 (by decide) ?_
        exact hself4 (v1, (v2 + 1), (v3 + 1)) h _ _ _ hw (lv_sub hl [2, 3, 1, 0] rfl)
      · have h := (if_neg c_22).symm.trans h
        refine lv_aload_n hx hb d_M_parts_25 rfl (lv_at hl 0 rfl) ?_
        refine gf_M_126 hx hb hts hnw hown hw d_M_parts_26 ?_
        refine lv_iload_n hx hb d_M_parts_29 rfl (lv_at hl 3 rfl) ?_
        obtain ⟨x30, g_30, e_30, h⟩ := sk_rI_some h
        refine al_M38 hx hb hw g_30 e_30 d_M_parts_30 ?_
        refine lv_if_eq (tgt := 37) hx hb d_M_parts_31 (by decide) (fun c_31 => ?_) (fun c_31 => ?_)
        · have h := (if_pos c_31).symm.trans h
          refine lv_iinc (v := v3 + 1) (lv' := [(3, .int (v3 + 1)), (0, .ref (a 0)), (1, .int v1), (2, .int v2)]) hx hb d_M_parts_37 hl (k := 3) rfl rfl (by decide) rfl (fun ls hl => ?_)
          refine lv_goto (tgt := 4) hx hb d_M_parts_40 (by decide) ?_
          exact hself4 (v1, v2, (v3 + 1)) h _ _ _ hw (lv_sub hl [1, 2, 3, 0] rfl)
        · have h := (if_neg c_31).symm.trans h
          refine lv_iinc (v := v2 + 1) (lv' := [(2, .int (v2 + 1)), (0, .ref (a 0)), (1, .int v1), (3, .int v3)]) hx hb d_M_parts_34 hl (k := 2) rfl rfl (by decide) rfl (fun ls hl => ?_)
          refine lv_iinc (v := v3 + 1) (lv' := [(3, .int (v3 + 1)), (2, .int (v2 + 1)), (0, .ref (a 0)), (1, .int v1)]) hx hb d_M_parts_37 hl (k := 3) rfl rfl (by decide) rfl (fun ls hl => ?_)
          refine lv_goto (tgt := 4) hx hb d_M_parts_40 (by decide) ?_
          exact hself4 (v1, (v2 + 1), (v3 + 1)) h _ _ _ hw (lv_sub hl [2, 3, 1, 0] rfl)
set_option maxHeartbeats 4000000 in
set_option maxRecDepth 100000 in
theorem c_M_count {l : Launch} {D : va_G} {A : Nat → Prop} {a : Nat → Nat} {cI cZ : ClassId} {nw : State → Prop} {N : Nat} {st : sk_M} {v1 : Int32} {res : Int32 × sk_M} (hok : sk_ok A nw) (h : M_count N st v1 = some res) : sk_Ci l y_M_count w_M_count rm_M_count D (tyM cI cZ) A (ceM a cI cZ) nw [.ref (a 0), .int v1] st res.1 res.2 := by
  refine sk_headi .int (by decide) rfl (Nat.le_of_ble_eq_true rfl) ?_
  intro p e s m args below meth c Q hx hb hml hown hts0 hnw hret ls hl hw
  have hts : ∀ w ∈ TB, w.before args s = true := fun w h => hts0 w (List.mem_cons_of_mem _ h)
  have hown : s.vm.findClass R_M = some m.cls := hown
  have hl : lv_has ls 2 [(0, .ref (a 0)), (1, .int v1)] := hl
  unfold M_count at h
  refine lv_aload_n hx hb d_M_count_0 rfl (lv_at hl 0 rfl) ?_
  obtain ⟨st1, q_1, h⟩ := sk_oR_some h
  refine sk_callVv (As := []) (rest := []) ⟨hx, hb, hml, hown, hts⟩ hw hnw hok (c_M_find hok q_1) (cw_M_277 hts hnw (by decide)) (rc_M hw) rfl hl.1 rfl (Nat.le_of_ble_eq_true rfl) d_M_count_1 (fun H locs hw => ?_)
  refine lv_iload_n hx hb d_M_count_4 rfl (lv_at hl 1 rfl) ?_
  rcases Classical.em (v1 = 0) with c_5_0 | c_5_0
  · have h := (if_pos c_5_0).symm.trans h
    refine sk_tin (k := 0) (tgt := 60) hx hb d_M_count_5 c_5_0 (by decide) (by decide) rfl (by decide) ?_
    refine lv_aload_n hx hb d_M_count_60 rfl (lv_at hl 0 rfl) ?_
    refine lv_iload_n hx hb d_M_count_61 rfl (lv_at hl 1 rfl) ?_
    obtain ⟨x62, q_62, h⟩ := sk_oR_some h
    refine sk_callVi (As := [.int v1]) (rest := []) ⟨hx, hb, hml, hown, hts⟩ hw hnw hok (c_M_classes hok q_62) (cw_M_310 hts hnw (by decide)) (rc_M hw) rfl hl.1 rfl (Nat.le_of_ble_eq_true rfl) d_M_count_62 (fun H locs hw => ?_)
    exact hret _ _ _ _ _ _ (sk_p1 h) (sk_p2 h) (vp_nar_int _) hw d_M_count_65
  have h := (if_neg c_5_0).symm.trans h
  rcases Classical.em (v1 = 1) with c_5_1 | c_5_1
  · have h := (if_pos c_5_1).symm.trans h
    refine sk_tin (k := 1) (tgt := 66) hx hb d_M_count_5 c_5_1 (by decide) (by decide) rfl (by decide) ?_
    refine lv_aload_n hx hb d_M_count_66 rfl (lv_at hl 0 rfl) ?_
    refine lv_iconst (v := 0) hx hb d_M_count_67 (by decide) ?_
    obtain ⟨x68, q_68, h⟩ := sk_oR_some h
    refine sk_callVi (As := [.int (0 : Int32)]) (rest := []) ⟨hx, hb, hml, hown, hts⟩ hw hnw hok (c_M_parts hok q_68) (cw_M_313 hts hnw (by decide)) (rc_M hw) rfl hl.1 rfl (Nat.le_of_ble_eq_true rfl) d_M_count_68 (fun H locs hw => ?_)
    exact hret _ _ _ _ _ _ (sk_p1 h) (sk_p2 h) (vp_nar_int _) hw d_M_count_71
  have h := (if_neg c_5_1).symm.trans h
  rcases Classical.em (v1 = 2) with c_5_2 | c_5_2
  · have h := (if_pos c_5_2).symm.trans h
    refine sk_tin (k := 2) (tgt := 72) hx hb d_M_count_5 c_5_2 (by decide) (by decide) rfl (by decide) ?_
    refine lv_aload_n hx hb d_M_count_72 rfl (lv_at hl 0 rfl) ?_
    refine gf_M_143 hx hb hts hnw hown hw d_M_count_73 ?_
    exact hret _ _ _ _ _ _ (sk_p1 h) (sk_p2 h) (vp_nar_int _) hw d_M_count_76
  have h := (if_neg c_5_2).symm.trans h
  rcases Classical.em (v1 = 3) with c_5_3 | c_5_3
  · have h := (if_pos c_5_3).symm.trans h
    refine sk_tin (k := 3) (tgt := 77) hx hb d_M_count_5 c_5_3 (by decide) (by decide) rfl (by decide) ?_
    refine lv_aload_n hx hb d_M_count_77 rfl (lv_at hl 0 rfl) ?_
    refine gf_M_185 hx hb hts hnw hown hw d_M_count_78 ?_
    exact hret _ _ _ _ _ _ (sk_p1 h) (sk_p2 h) (vp_nar_int _) hw d_M_count_81
  have h := (if_neg c_5_3).symm.trans h
  rcases Classical.em (v1 = 4) with c_5_4 | c_5_4
  · have h := (if_pos c_5_4).symm.trans h
    refine sk_tin (k := 4) (tgt := 60) hx hb d_M_count_5 c_5_4 (by decide) (by decide) rfl (by decide) ?_
    refine lv_aload_n hx hb d_M_count_60 rfl (lv_at hl 0 rfl) ?_
    refine lv_iload_n hx hb d_M_count_61 rfl (lv_at hl 1 rfl) ?_
    obtain ⟨x62, q_62, h⟩ := sk_oR_some h
    refine sk_callVi (As := [.int v1]) (rest := []) ⟨hx, hb, hml, hown, hts⟩ hw hnw hok (c_M_classes hok q_62) (cw_M_310 hts hnw (by decide)) (rc_M hw) rfl hl.1 rfl (Nat.le_of_ble_eq_true rfl) d_M_count_62 (fun H locs hw => ?_)
    exact hret _ _ _ _ _ _ (sk_p1 h) (sk_p2 h) (vp_nar_int _) hw d_M_count_65
  have h := (if_neg c_5_4).symm.trans h
  rcases Classical.em (v1 = 5) with c_5_5 | c_5_5
  · have h := (if_pos c_5_5).symm.trans h
    refine sk_tin (k := 5) (tgt := 60) hx hb d_M_count_5 c_5_5 (by decide) (by decide) rfl (by decide) ?_
    refine lv_aload_n hx hb d_M_count_60 rfl (lv_at hl 0 rfl) ?_
    refine lv_iload_n hx hb d_M_count_61 rfl (lv_at hl 1 rfl) ?_
    obtain ⟨x62, q_62, h⟩ := sk_oR_some h
    refine sk_callVi (As := [.int v1]) (rest := []) ⟨hx, hb, hml, hown, hts⟩ hw hnw hok (c_M_classes hok q_62) (cw_M_310 hts hnw (by decide)) (rc_M hw) rfl hl.1 rfl (Nat.le_of_ble_eq_true rfl) d_M_count_62 (fun H locs hw => ?_)
    exact hret _ _ _ _ _ _ (sk_p1 h) (sk_p2 h) (vp_nar_int _) hw d_M_count_65
  have h := (if_neg c_5_5).symm.trans h
  rcases Classical.em (v1 = 6) with c_5_6 | c_5_6
  · have h := (if_pos c_5_6).symm.trans h
    refine sk_tin (k := 6) (tgt := 60) hx hb d_M_count_5 c_5_6 (by decide) (by decide) rfl (by decide) ?_
    refine lv_aload_n hx hb d_M_count_60 rfl (lv_at hl 0 rfl) ?_
    refine lv_iload_n hx hb d_M_count_61 rfl (lv_at hl 1 rfl) ?_
    obtain ⟨x62, q_62, h⟩ := sk_oR_some h
    refine sk_callVi (As := [.int v1]) (rest := []) ⟨hx, hb, hml, hown, hts⟩ hw hnw hok (c_M_classes hok q_62) (cw_M_310 hts hnw (by decide)) (rc_M hw) rfl hl.1 rfl (Nat.le_of_ble_eq_true rfl) d_M_count_62 (fun H locs hw => ?_)
    exact hret _ _ _ _ _ _ (sk_p1 h) (sk_p2 h) (vp_nar_int _) hw d_M_count_65
  have h := (if_neg c_5_6).symm.trans h
  rcases Classical.em (v1 = 7) with c_5_7 | c_5_7
  · have h := (if_pos c_5_7).symm.trans h
    refine sk_tin (k := 7) (tgt := 82) hx hb d_M_count_5 c_5_7 (by decide) (by decide) rfl (by decide) ?_
    refine lv_aload_n hx hb d_M_count_82 rfl (lv_at hl 0 rfl) ?_
    refine lv_iconst (v := 1) hx hb d_M_count_83 (by decide) ?_
    obtain ⟨x84, q_84, h⟩ := sk_oR_some h
    refine sk_callVi (As := [.int (1 : Int32)]) (rest := []) ⟨hx, hb, hml, hown, hts⟩ hw hnw hok (c_M_parts hok q_84) (cw_M_313 hts hnw (by decide)) (rc_M hw) rfl hl.1 rfl (Nat.le_of_ble_eq_true rfl) d_M_count_84 (fun H locs hw => ?_)
    exact hret _ _ _ _ _ _ (sk_p1 h) (sk_p2 h) (vp_nar_int _) hw d_M_count_87
  have h := (if_neg c_5_7).symm.trans h
  rcases Classical.em (v1 = 8) with c_5_8 | c_5_8
  · have h := (if_pos c_5_8).symm.trans h
    refine sk_tin (k := 8) (tgt := 88) hx hb d_M_count_5 c_5_8 (by decide) (by decide) rfl (by decide) ?_
    refine lv_aload_n hx hb d_M_count_88 rfl (lv_at hl 0 rfl) ?_
    refine lv_iconst (v := 0) hx hb d_M_count_89 (by decide) ?_
    obtain ⟨x90, q_90, h⟩ := sk_oR_some h
    refine sk_callVi (As := [.int (0 : Int32)]) (rest := []) ⟨hx, hb, hml, hown, hts⟩ hw hnw hok (c_M_active hok q_90) (cw_M_317 hts hnw (by decide)) (rc_M hw) rfl hl.1 rfl (Nat.le_of_ble_eq_true rfl) d_M_count_90 (fun H locs hw => ?_)
    exact hret _ _ _ _ _ _ (sk_p1 h) (sk_p2 h) (vp_nar_int _) hw d_M_count_93
  have h := (if_neg c_5_8).symm.trans h
  rcases Classical.em (v1 = 9) with c_5_9 | c_5_9
  · have h := (if_pos c_5_9).symm.trans h
    refine sk_tin (k := 9) (tgt := 94) hx hb d_M_count_5 c_5_9 (by decide) (by decide) rfl (by decide) ?_
    refine lv_aload_n hx hb d_M_count_94 rfl (lv_at hl 0 rfl) ?_
    refine lv_iconst (v := 1) hx hb d_M_count_95 (by decide) ?_
    obtain ⟨x96, q_96, h⟩ := sk_oR_some h
    refine sk_callVi (As := [.int (1 : Int32)]) (rest := []) ⟨hx, hb, hml, hown, hts⟩ hw hnw hok (c_M_active hok q_96) (cw_M_317 hts hnw (by decide)) (rc_M hw) rfl hl.1 rfl (Nat.le_of_ble_eq_true rfl) d_M_count_96 (fun H locs hw => ?_)
    exact hret _ _ _ _ _ _ (sk_p1 h) (sk_p2 h) (vp_nar_int _) hw d_M_count_99
  have h := (if_neg c_5_9).symm.trans h
  refine lv_tableOut (tgt := 100) hx hb d_M_count_5 (sk_tout10 c_5_0 c_5_1 c_5_2 c_5_3 c_5_4 c_5_5 c_5_6 c_5_7 c_5_8 c_5_9) (by decide) ?_
  refine lv_iconst (v := -1) hx hb d_M_count_100 (by decide) ?_
  exact hret _ _ _ _ _ _ (sk_p1 h) (sk_p2 h) (vp_nar_int _) hw d_M_count_101
