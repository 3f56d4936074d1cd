set_option maxHeartbeats 4000000 in
set_option maxRecDepth 100000 in
theorem c_M_in {l : Launch} {D : va_G} {A : Nat → Prop} {a : Nat → Nat} {cI cZ : ClassId} {nw : State → Prop} {st : sk_M} {v0 : Int32} {v1 : Int32} {v2 : Int32} {res : Int32} (hok : sk_ok A nw) (h : M_in v0 v1 v2 = res) : sk_Ci l y_M_in w_M_in rm_M_in D (tyM cI cZ) A (ceM a cI cZ) nw [.int v0, .int v1, .int v2] st res st := by
  refine sk_headi .boolean (by decide) rfl (Nat.le_of_ble_eq_true rfl) ?_
  intro p e s m args below meth c Q hx hb hml hown hts0 hnw hret ls hl hw
  have hts : ∀ w ∈ TB, w.before args s = true := fun w h => hts0 w (List.mem_cons_of_mem _ h)
  have hown : s.vm.findClass R_M = some m.cls := hown
  have hl : lv_has ls 3 [(0, .int v0), (1, .int v1), (2, .int v2)] := hl
  unfold M_in at h
  refine lv_iload_n hx hb d_M_in_0 rfl (lv_at hl 0 rfl) ?_
  refine lv_iload_n hx hb d_M_in_1 rfl (lv_at hl 1 rfl) ?_
  refine lv_icmp_lt (tgt := 14) hx hb d_M_in_2 (by decide) (fun c_2 => ?_) (fun c_2 => ?_)
  · have h := (if_pos c_2).symm.trans h
    refine lv_iconst (v := 0) hx hb d_M_in_14 (by decide) ?_
    exact hret _ _ _ _ _ _ h rfl rfl hw d_M_in_15
  · have h := (if_neg c_2).symm.trans h
    refine lv_iload_n hx hb d_M_in_5 rfl (lv_at hl 0 rfl) ?_
    refine lv_iload_n hx hb d_M_in_6 rfl (lv_at hl 2 rfl) ?_
    refine lv_icmp_gt (tgt := 14) hx hb d_M_in_7 (by decide) (fun c_7 => ?_) (fun c_7 => ?_)
    · have h := (if_pos c_7).symm.trans h
      refine lv_iconst (v := 0) hx hb d_M_in_14 (by decide) ?_
      exact hret _ _ _ _ _ _ h rfl rfl hw d_M_in_15
    · have h := (if_neg c_7).symm.trans h
      refine lv_iconst (v := 1) hx hb d_M_in_10 (by decide) ?_
      refine lv_goto (tgt := 15) hx hb d_M_in_11 (by decide) ?_
      exact hret _ _ _ _ _ _ h rfl rfl hw d_M_in_15
set_option maxHeartbeats 4000000 in
set_option maxRecDepth 100000 in
theorem c_M_type {l : Launch} {D : va_G} {A : Nat → Prop} {a : Nat → Nat} {cI cZ : ClassId} {nw : State → Prop} {st : sk_M} {v1 : Int32} {v2 : Int32} {v3 : Int32} {v4 : Int32} {v5 : Int32} {res : Int32 × sk_M} (hok : sk_ok A nw) (h : M_type st v1 v2 v3 v4 v5 = some res) : sk_Ci l y_M_type w_M_type rm_M_type D (tyM cI cZ) A (ceM a cI cZ) nw [.ref (a 0), .int v1, .int v2, .int v3, .int v4, .int v5] st res.1 res.2 := by
  refine sk_headi .boolean (by decide) rfl (Nat.le_of_ble_eq_true rfl) ?_
  intro p e s m args below meth c Q hx hb hml hown hts0 hnw hret ls hl hw
  have hts : ∀ w ∈ TB, w.before args s = true := fun w h => hts0 w (List.mem_cons_of_mem _ h)
  have hown : s.vm.findClass R_M = some m.cls := hown
  have hl : lv_has ls 6 [(0, .ref (a 0)), (1, .int v1), (2, .int v2), (3, .int v3), (4, .int v4), (5, .int v5)] := hl
  unfold M_type at h
  refine lv_iload_n hx hb d_M_type_0 rfl (lv_at hl 1 rfl) ?_
  refine lv_iconst (v := 1) hx hb d_M_type_1 (by decide) ?_
  refine lv_bipush (v := 9) hx hb d_M_type_2 (by decide) ?_
  refine sk_callSi (As := [.int v1, .int (1 : Int32), .int (9 : Int32)]) (rest := []) ⟨hx, hb, hml, hown, hts⟩ hw hnw hok (c_M_in hok rfl) (cw_M_135 hts hnw (by decide)) rfl hl.1 rfl (Nat.le_of_ble_eq_true rfl) d_M_type_4 (fun H locs hw => ?_)
  refine lv_if_eq (tgt := 52) hx hb d_M_type_7 (by decide) (fun c_7 => ?_) (fun c_7 => ?_)
  · have h := (if_pos c_7).symm.trans h
    refine lv_iconst (v := 0) hx hb d_M_type_52 (by decide) ?_
    exact hret _ _ _ _ _ _ (sk_p1 h) (sk_p2 h) rfl hw d_M_type_53
  · have h := (if_neg c_7).symm.trans h
    refine lv_iload_n hx hb d_M_type_10 rfl (lv_at hl 2 rfl) ?_
    refine lv_iconst (v := 0) hx hb d_M_type_11 (by decide) ?_
    refine lv_iconst (v := 2) hx hb d_M_type_12 (by decide) ?_
    refine sk_callSi (As := [.int v2, .int (0 : Int32), .int (2 : Int32)]) (rest := []) ⟨hx, hb, hml, hown, hts⟩ hw hnw hok (c_M_in hok rfl) (cw_M_135 hts hnw (by decide)) rfl hl.1 rfl (Nat.le_of_ble_eq_true rfl) d_M_type_13 (fun H locs hw => ?_)
    refine lv_if_eq (tgt := 52) hx hb d_M_type_16 (by decide) (fun c_16 => ?_) (fun c_16 => ?_)
    · have h := (if_pos c_16).symm.trans h
      refine lv_iconst (v := 0) hx hb d_M_type_52 (by decide) ?_
      exact hret _ _ _ _ _ _ (sk_p1 h) (sk_p2 h) rfl hw d_M_type_53
    · have h := (if_neg c_16).symm.trans h
      refine lv_iload_n hx hb d_M_type_19 rfl (lv_at hl 3 rfl) ?_
      refine lv_iconst (v := 0) hx hb d_M_type_20 (by decide) ?_
      refine lv_iconst (v := 3) hx hb d_M_type_21 (by decide) ?_
      refine sk_callSi (As := [.int v3, .int (0 : Int32), .int (3 : Int32)]) (rest := []) ⟨hx, hb, hml, hown, hts⟩ hw hnw hok (c_M_in hok rfl) (cw_M_135 hts hnw (by decide)) rfl hl.1 rfl (Nat.le_of_ble_eq_true rfl) d_M_type_22 (fun H locs hw => ?_)
      refine lv_if_eq (tgt := 52) hx hb d_M_type_25 (by decide) (fun c_25 => ?_) (fun c_25 => ?_)
      · have h := (if_pos c_25).symm.trans h
        refine lv_iconst (v := 0) hx hb d_M_type_52 (by decide) ?_
        exact hret _ _ _ _ _ _ (sk_p1 h) (sk_p2 h) rfl hw d_M_type_53
      · have h := (if_neg c_25).symm.trans h
        refine lv_iload hx hb d_M_type_28 (lv_at hl 4 rfl) ?_
        refine lv_iconst (v := 0) hx hb d_M_type_30 (by decide) ?_
        refine lv_iload_n hx hb d_M_type_31 rfl (lv_at hl 1 rfl) ?_
        refine lv_iconst (v := 1) hx hb d_M_type_32 (by decide) ?_
        refine lv_isub hx hb d_M_type_33 ?_
        refine sk_callSi (As := [.int v4, .int (0 : Int32), .int (v1 - (1 : Int32))]) (rest := []) ⟨hx, hb, hml, hown, hts⟩ hw hnw hok (c_M_in hok rfl) (cw_M_135 hts hnw (by decide)) rfl hl.1 rfl (Nat.le_of_ble_eq_true rfl) d_M_type_34 (fun H locs hw => ?_)
        refine lv_if_eq (tgt := 52) hx hb d_M_type_37 (by decide) (fun c_37 => ?_) (fun c_37 => ?_)
        · have h := (if_pos c_37).symm.trans h
          refine lv_iconst (v := 0) hx hb d_M_type_52 (by decide) ?_
          exact hret _ _ _ _ _ _ (sk_p1 h) (sk_p2 h) rfl hw d_M_type_53
        · have h := (if_neg c_37).symm.trans h
          refine lv_iload hx hb d_M_type_40 (lv_at hl 5 rfl) ?_
          refine lv_iconst (v := 0) hx hb d_M_type_42 (by decide) ?_
          refine lv_sipush (v := 1023) hx hb d_M_type_43 (by decide) ?_
          refine sk_callSi (As := [.int v5, .int (0 : Int32), .int (1023 : Int32)]) (rest := []) ⟨hx, hb, hml, hown, hts⟩ hw hnw hok (c_M_in hok rfl) (cw_M_135 hts hnw (by decide)) rfl hl.1 rfl (Nat.le_of_ble_eq_true rfl) d_M_type_46 (fun H locs hw => ?_)
          refine lv_if_ne (tgt := 54) hx hb d_M_type_49 (by decide) (fun c_49 => ?_) (fun c_49 => ?_)
          · have h := (if_neg c_49).symm.trans h
            refine lv_aload_n hx hb d_M_type_54 rfl (lv_at hl 0 rfl) ?_
            refine gf_M_7 hx hb hts hnw hown hw d_M_type_55 ?_
            refine lv_iload_n hx hb d_M_type_58 rfl (lv_at hl 1 rfl) ?_
            refine lv_iconst (v := 1) hx hb d_M_type_59 (by decide) ?_
            obtain ⟨st60, g_60, e_60, h⟩ := sk_wI_some h
            refine as_M1 hx hb hw g_60 e_60 d_M_type_60 (fun H locs hw => ?_)
            refine lv_aload_n hx hb d_M_type_61 rfl (lv_at hl 0 rfl) ?_
            refine gf_M_19 hx hb hts hnw hown hw d_M_type_62 ?_
            refine lv_iload_n hx hb d_M_type_65 rfl (lv_at hl 1 rfl) ?_
            refine lv_iload_n hx hb d_M_type_66 rfl (lv_at hl 2 rfl) ?_
            obtain ⟨st67, g_67, e_67, h⟩ := sk_wI_some h
            refine as_M4 hx hb hw g_67 e_67 d_M_type_67 (fun H locs hw => ?_)
            refine lv_aload_n hx hb d_M_type_68 rfl (lv_at hl 0 rfl) ?_
            refine gf_M_13 hx hb hts hnw hown hw d_M_type_69 ?_
            refine lv_iload_n hx hb d_M_type_72 rfl (lv_at hl 1 rfl) ?_
            refine lv_iload_n hx hb d_M_type_73 rfl (lv_at hl 3 rfl) ?_
            refine lv_iconst (v := 1) hx hb d_M_type_74 (by decide) ?_
            refine lv_iand hx hb d_M_type_75 ?_
            refine lv_iconst (v := 1) hx hb d_M_type_76 (by decide) ?_
            have hJ85 : ∀ (st : sk_M) (v1 : Int32) (v3 : Int32) (v4 : Int32) (v5 : Int32) (s1 : Int32) (s2 : Int32) (H : Heap) (locs : List Loc) (ls : Array Slot), M_type_J85 st v1 v3 v4 v5 s1 s2 = some res → sk_w D (tyM cI cZ) A (ceM a cI cZ) s st H locs → lv_has ls 6 [(0, .ref (a 0)), (1, .int v1), (3, .int v3), (4, .int v4), (5, .int v5)] → W p l e rm_M_type s m args below meth c H locs 0 0 Q (F0 m 85 ls [.int s2, .int s1, .ref (a 2)]) := by
              intro st v1 v3 v4 v5 s1 s2 H locs ls h hw hl
              unfold M_type_J85 at h
              obtain ⟨st85, g_85, e_85, h⟩ := sk_wI_some h
              refine as_M2 hx hb hw g_85 e_85 d_M_type_85 (fun H locs hw => ?_)
              refine lv_aload_n hx hb d_M_type_86 rfl (lv_at hl 0 rfl) ?_
              refine gf_M_16 hx hb hts hnw hown hw d_M_type_87 ?_
              refine lv_iload_n hx hb d_M_type_90 rfl (lv_at hl 1 rfl) ?_
              refine lv_iload_n hx hb d_M_type_91 rfl (lv_at hl 2 rfl) ?_
              refine lv_iconst (v := 2) hx hb d_M_type_92 (by decide) ?_
              refine lv_iand hx hb d_M_type_93 ?_
              refine lv_iconst (v := 2) hx hb d_M_type_94 (by decide) ?_
              have hJ103 : ∀ (st : sk_M) (v1 : Int32) (v4 : Int32) (v5 : Int32) (s1 : Int32) (s2 : Int32) (H : Heap) (locs : List Loc) (ls : Array Slot), M_type_J103 st v1 v4 v5 s1 s2 = some res → sk_w D (tyM cI cZ) A (ceM a cI cZ) s st H locs → lv_has ls 6 [(0, .ref (a 0)), (1, .int v1), (4, .int v4), (5, .int v5)] → W p l e rm_M_type s m args below meth c H locs 0 0 Q (F0 m 103 ls [.int s2, .int s1, .ref (a 3)]) := by
                intro st v1 v4 v5 s1 s2 H locs ls h hw hl
                unfold M_type_J103 at h
                obtain ⟨st103, g_103, e_103, h⟩ := sk_wI_some h
                refine as_M3 hx hb hw g_103 e_103 d_M_type_103 (fun H locs hw => ?_)
                refine lv_aload_n hx hb d_M_type_104 rfl (lv_at hl 0 rfl) ?_
                refine gf_M_23 hx hb hts hnw hown hw d_M_type_105 ?_
                refine lv_iload_n hx hb d_M_type_108 rfl (lv_at hl 1 rfl) ?_
                refine lv_iload hx hb d_M_type_109 (lv_at hl 2 rfl) ?_
                obtain ⟨st111, g_111, e_111, h⟩ := sk_wI_some h
                refine as_M5 hx hb hw g_111 e_111 d_M_type_111 (fun H locs hw => ?_)
                refine lv_aload_n hx hb d_M_type_112 rfl (lv_at hl 0 rfl) ?_
                refine gf_M_26 hx hb hts hnw hown hw d_M_type_113 ?_
                refine lv_iload_n hx hb d_M_type_116 rfl (lv_at hl 1 rfl) ?_
                refine lv_iload hx hb d_M_type_117 (lv_at hl 3 rfl) ?_
                refine lv_iconst (v := 1) hx hb d_M_type_119 (by decide) ?_
                refine lv_iload_n hx hb d_M_type_120 rfl (lv_at hl 1 rfl) ?_
                refine lv_ishl hx hb d_M_type_121 ?_
                refine lv_iconst (v := 1) hx hb d_M_type_122 (by decide) ?_
                refine lv_isub hx hb d_M_type_123 ?_
                refine lv_iand hx hb d_M_type_124 ?_
                obtain ⟨st125, g_125, e_125, h⟩ := sk_wI_some h
                refine as_M6 hx hb hw g_125 e_125 d_M_type_125 (fun H locs hw => ?_)
                refine lv_iconst (v := 1) hx hb d_M_type_126 (by decide) ?_
                exact hret _ _ _ _ _ _ (sk_p1 h) (sk_p2 h) rfl hw d_M_type_127
              refine lv_icmp_ne (tgt := 102) hx hb d_M_type_95 (by decide) (fun c_95 => ?_) (fun c_95 => ?_)
              · have h := (if_neg c_95).symm.trans h
                refine lv_iconst (v := 0) hx hb d_M_type_102 (by decide) ?_
                exact hJ103 _ _ _ _ _ _ _ _ _ h hw (lv_sub hl [0, 1, 3, 4] rfl)
              · have h := (if_pos c_95).symm.trans h
                refine lv_iconst (v := 1) hx hb d_M_type_98 (by decide) ?_
                refine lv_goto (tgt := 103) hx hb d_M_type_99 (by decide) ?_
                exact hJ103 _ _ _ _ _ _ _ _ _ h hw (lv_sub hl [0, 1, 3, 4] rfl)
            refine lv_icmp_ne (tgt := 84) hx hb d_M_type_77 (by decide) (fun c_77 => ?_) (fun c_77 => ?_)
            · have h := (if_neg c_77).symm.trans h
              refine lv_iconst (v := 0) hx hb d_M_type_84 (by decide) ?_
              exact hJ85 _ _ _ _ _ _ _ _ _ _ h hw (lv_sub hl [0, 1, 3, 4, 5] rfl)
            · have h := (if_pos c_77).symm.trans h
              refine lv_iconst (v := 1) hx hb d_M_type_80 (by decide) ?_
              refine lv_goto (tgt := 85) hx hb d_M_type_81 (by decide) ?_
              exact hJ85 _ _ _ _ _ _ _ _ _ _ h hw (lv_sub hl [0, 1, 3, 4, 5] rfl)
          · have h := (if_pos c_49).symm.trans h
            refine lv_iconst (v := 0) hx hb d_M_type_52 (by decide) ?_
            exact hret _ _ _ _ _ _ (sk_p1 h) (sk_p2 h) rfl hw d_M_type_53
set_option maxHeartbeats 4000000 in
set_option maxRecDepth 100000 in
theorem c_M_drop {l : Launch} {D : va_G} {A : Nat → Prop} {a : Nat → Nat} {cI cZ : ClassId} {nw : State → Prop} {N : Nat} {st : sk_M} {v1 : Int32} {res : Int32 × sk_M} (hok : sk_ok A nw) (h : M_drop N st v1 = some res) : sk_Ci l y_M_drop w_M_drop rm_M_drop D (tyM cI cZ) A (ceM a cI cZ) nw [.ref (a 0), .int v1] st res.1 res.2 := by
  refine sk_headi .boolean (by decide) rfl (Nat.le_of_ble_eq_true rfl) ?_
  intro p e s m args below meth c Q hx hb hml hown hts0 hnw hret ls hl hw
  have hts : ∀ w ∈ TB, w.before args s = true := fun w h => hts0 w (List.mem_cons_of_mem _ h)
  have hown : s.vm.findClass R_M = some m.cls := hown
  have hl : lv_has ls 3 [(0, .ref (a 0)), (1, .int v1)] := hl
  unfold M_drop at h
  refine lv_iload_n hx hb d_M_drop_0 rfl (lv_at hl 1 rfl) ?_
  refine lv_iconst (v := 1) hx hb d_M_drop_1 (by decide) ?_
  refine lv_bipush (v := 9) hx hb d_M_drop_2 (by decide) ?_
  refine sk_callSi (As := [.int v1, .int (1 : Int32), .int (9 : Int32)]) (rest := []) ⟨hx, hb, hml, hown, hts⟩ hw hnw hok (c_M_in hok rfl) (cw_M_135 hts hnw (by decide)) rfl hl.1 rfl (Nat.le_of_ble_eq_true rfl) d_M_drop_4 (fun H locs hw => ?_)
  refine lv_if_eq (tgt := 19) hx hb d_M_drop_7 (by decide) (fun c_7 => ?_) (fun c_7 => ?_)
  · have h := (if_pos c_7).symm.trans h
    refine lv_iconst (v := 0) hx hb d_M_drop_19 (by decide) ?_
    exact hret _ _ _ _ _ _ (sk_p1 h) (sk_p2 h) rfl hw d_M_drop_20
  · have h := (if_neg c_7).symm.trans h
    refine lv_aload_n hx hb d_M_drop_10 rfl (lv_at hl 0 rfl) ?_
    refine gf_M_7 hx hb hts hnw hown hw d_M_drop_11 ?_
    refine lv_iload_n hx hb d_M_drop_14 rfl (lv_at hl 1 rfl) ?_
    obtain ⟨x15, g_15, e_15, h⟩ := sk_rI_some h
    refine al_M1 hx hb hw g_15 e_15 d_M_drop_15 ?_
    refine lv_if_ne (tgt := 21) hx hb d_M_drop_16 (by decide) (fun c_16 => ?_) (fun c_16 => ?_)
    · have h := (if_neg c_16).symm.trans h
      refine lv_aload_n hx hb d_M_drop_21 rfl (lv_at hl 0 rfl) ?_
      refine gf_M_7 hx hb hts hnw hown hw d_M_drop_22 ?_
      refine lv_iload_n hx hb d_M_drop_25 rfl (lv_at hl 1 rfl) ?_
      refine lv_iconst (v := 0) hx hb d_M_drop_26 (by decide) ?_
      obtain ⟨st27, g_27, e_27, h⟩ := sk_wI_some h
      refine as_M1 hx hb hw g_27 e_27 d_M_drop_27 (fun H locs hw => ?_)
      refine lv_iconst (v := 1) hx hb d_M_drop_28 (by decide) ?_
      refine lv_istore_n (lv' := [(2, .int (1 : Int32)), (0, .ref (a 0)), (1, .int v1)]) hx hb d_M_drop_29 rfl hl (by decide) rfl (fun ls hl => ?_)
      refine sk_lp_run (G := fun (z : sk_M × Int32 × Int32) => ∀ (H : Heap) (locs : List Loc) (ls : Array Slot), sk_w D (tyM cI cZ) A (ceM a cI cZ) s z.1 H locs → lv_has ls 3 [(0, .ref (a 0)), (1, .int z.2.1), (2, .int z.2.2)] → W p l e rm_M_drop s m args below meth c H locs 0 0 Q (F0 m 30 ls [])) ?_ N _ h _ _ _ hw (lv_sub hl [1, 2, 0] rfl)
      rintro self30 ⟨st, v1, v2⟩ hself30 h H locs ls hw hl
      unfold M_drop_L30 at h
      refine lv_iload_n hx hb d_M_drop_30 rfl (lv_at hl 2 rfl) ?_
      refine lv_aload_n hx hb d_M_drop_31 rfl (lv_at hl 0 rfl) ?_
      refine gf_M_47 hx hb hts hnw hown hw d_M_drop_32 ?_
      refine lv_icmp_ge (tgt := 61) hx hb d_M_drop_35 (by decide) (fun c_35 => ?_) (fun c_35 => ?_)
      · have h := (if_pos c_35).symm.trans h
        refine lv_iconst (v := 1) hx hb d_M_drop_61 (by decide) ?_
        exact hret _ _ _ _ _ _ (sk_p1 h) (sk_p2 h) rfl hw d_M_drop_62
      · have h := (if_neg c_35).symm.trans h
        refine lv_aload_n hx hb d_M_drop_38 rfl (lv_at hl 0 rfl) ?_
        refine gf_M_32 hx hb hts hnw hown hw d_M_drop_39 ?_
        refine lv_iload_n hx hb d_M_drop_42 rfl (lv_at hl 2 rfl) ?_
        obtain ⟨x43, g_43, e_43, h⟩ := sk_rI_some h
        refine al_M8 hx hb hw g_43 e_43 d_M_drop_43 ?_
        refine lv_iload_n hx hb d_M_drop_44 rfl (lv_at hl 1 rfl) ?_
        refine lv_icmp_ne (tgt := 55) hx hb d_M_drop_45 (by decide) (fun c_45 => ?_) (fun c_45 => ?_)
        · have h := (if_neg c_45).symm.trans h
          refine lv_iinc (v := v2 + 1) (lv' := [(2, .int (v2 + 1)), (0, .ref (a 0)), (1, .int v1)]) hx hb d_M_drop_55 hl (k := 2) rfl rfl (by decide) rfl (fun ls hl => ?_)
          refine lv_goto (tgt := 30) hx hb d_M_drop_58 (by decide) ?_
          exact hself30 (st, v1, (v2 + 1)) h _ _ _ hw (lv_sub hl [1, 2, 0] rfl)
        · have h := (if_pos c_45).symm.trans h
          refine lv_aload_n hx hb d_M_drop_48 rfl (lv_at hl 0 rfl) ?_
          refine gf_M_44 hx hb hts hnw hown hw d_M_drop_49 ?_
          refine lv_iload_n hx hb d_M_drop_52 rfl (lv_at hl 2 rfl) ?_
          refine lv_iconst (v := 1) hx hb d_M_drop_53 (by decide) ?_
          obtain ⟨st54, g_54, e_54, h⟩ := sk_wI_some h
          refine as_M12 hx hb hw g_54 e_54 d_M_drop_54 (fun H locs hw => ?_)
          refine lv_iinc (v := v2 + 1) (lv' := [(2, .int (v2 + 1)), (0, .ref (a 0)), (1, .int v1)]) hx hb d_M_drop_55 hl (k := 2) rfl rfl (by decide) rfl (fun ls hl => ?_)
          refine lv_goto (tgt := 30) hx hb d_M_drop_58 (by decide) ?_
          exact hself30 (st54, v1, (v2 + 1)) h _ _ _ hw (lv_sub hl [1, 2, 0] rfl)
    · have h := (if_pos c_16).symm.trans h
      refine lv_iconst (v := 0) hx hb d_M_drop_19 (by decide) ?_
      exact hret _ _ _ _ _ _ (sk_p1 h) (sk_p2 h) rfl hw d_M_drop_20
set_option maxHeartbeats 4000000 in
set_option maxRecDepth 100000 in
theorem c_M_own {l : Launch} {D : va_G} {A : Nat → Prop} {a : Nat → Nat} {cI cZ : ClassId} {nw : State → Prop} {N : Nat} {st : sk_M} {v1 : Int32} {v2 : Int32} {v3 : Int32} {v4 : Int32} {res : Int32} (hok : sk_ok A nw) (h : M_own N st v1 v2 v3 v4 = some res) : sk_Ci l y_M_own w_M_own rm_M_own D (tyM cI cZ) A (ceM a cI cZ) nw [.ref (a 0), .int v1, .int v2, .int v3, .int v4] st res st := by
  refine sk_headi .int (by decide) rfl (Nat.le_of_ble_eq_true rfl) ?_
  intro p e s m args below meth c Q hx hb hml hown hts0 hnw hret ls hl hw
  have hts : ∀ w ∈ TB, w.before args s = true := fun w h => hts0 w (List.mem_cons_of_mem _ h)
  have hown : s.vm.findClass R_M = some m.cls := hown
  have hl : lv_has ls 6 [(0, .ref (a 0)), (1, .int v1), (2, .int v2), (3, .int v3), (4, .int v4)] := hl
  unfold M_own at h
  refine lv_iconst (v := 0) hx hb d_M_own_0 (by decide) ?_
  refine lv_istore (lv' := [(5, .int (0 : Int32)), (0, .ref (a 0)), (1, .int v1), (2, .int v2), (3, .int v3), (4, .int v4)]) hx hb d_M_own_1 hl (by decide) rfl (fun ls hl => ?_)
  refine sk_lp_run (G := fun (z : Int32 × Int32 × Int32 × Int32 × Int32) => ∀ (H : Heap) (locs : List Loc) (ls : Array Slot), sk_w D (tyM cI cZ) A (ceM a cI cZ) s st H locs → lv_has ls 6 [(0, .ref (a 0)), (1, .int z.1), (2, .int z.2.1), (3, .int z.2.2.1), (4, .int z.2.2.2.1), (5, .int z.2.2.2.2)] → W p l e rm_M_own s m args below meth c H locs 0 0 Q (F0 m 3 ls [])) ?_ N _ h _ _ _ hw (lv_sub hl [1, 2, 3, 4, 5, 0] rfl)
  rintro self3 ⟨v1, v2, v3, v4, v5⟩ hself3 h H locs ls hw hl
  unfold M_own_L3 at h
  refine lv_iload hx hb d_M_own_3 (lv_at hl 5 rfl) ?_
  refine lv_aload_n hx hb d_M_own_5 rfl (lv_at hl 0 rfl) ?_
  refine gf_M_47 hx hb hts hnw hown hw d_M_own_6 ?_
  refine lv_icmp_ge (tgt := 78) hx hb d_M_own_9 (by decide) (fun c_9 => ?_) (fun c_9 => ?_)
  · have h := (if_pos c_9).symm.trans h
    refine lv_iconst (v := -1) hx hb d_M_own_78 (by decide) ?_
    exact hret _ _ _ _ _ _ (Option.some.inj h) rfl (vp_nar_int _) hw d_M_own_79
  · have h := (if_neg c_9).symm.trans h
    refine lv_aload_n hx hb d_M_own_12 rfl (lv_at hl 0 rfl) ?_
    refine gf_M_44 hx hb hts hnw hown hw d_M_own_13 ?_
    refine lv_iload hx hb d_M_own_16 (lv_at hl 5 rfl) ?_
    obtain ⟨x18, g_18, e_18, h⟩ := sk_rI_some h
    refine al_M12 hx hb hw g_18 e_18 d_M_own_18 ?_
    refine lv_if_ne (tgt := 72) hx hb d_M_own_19 (by decide) (fun c_19 => ?_) (fun c_19 => ?_)
    · have h := (if_neg c_19).symm.trans h
      refine lv_iinc (v := v5 + 1) (lv' := [(5, .int (v5 + 1)), (0, .ref (a 0)), (1, .int v1), (2, .int v2), (3, .int v3), (4, .int v4)]) hx hb d_M_own_72 hl (k := 5) rfl rfl (by decide) rfl (fun ls hl => ?_)
      refine lv_goto (tgt := 3) hx hb d_M_own_75 (by decide) ?_
      exact hself3 (v1, v2, v3, v4, (v5 + 1)) h _ _ _ hw (lv_sub hl [1, 2, 3, 4, 5, 0] rfl)
    · have h := (if_pos c_19).symm.trans h
      refine lv_aload_n hx hb d_M_own_22 rfl (lv_at hl 0 rfl) ?_
      refine gf_M_32 hx hb hts hnw hown hw d_M_own_23 ?_
      refine lv_iload hx hb d_M_own_26 (lv_at hl 5 rfl) ?_
      obtain ⟨x28, g_28, e_28, h⟩ := sk_rI_some h
      refine al_M8 hx hb hw g_28 e_28 d_M_own_28 ?_
      refine lv_iload_n hx hb d_M_own_29 rfl (lv_at hl 1 rfl) ?_
      refine lv_icmp_ne (tgt := 72) hx hb d_M_own_30 (by decide) (fun c_30 => ?_) (fun c_30 => ?_)
      · have h := (if_neg c_30).symm.trans h
        refine lv_iinc (v := v5 + 1) (lv' := [(5, .int (v5 + 1)), (0, .ref (a 0)), (1, .int v1), (2, .int v2), (3, .int v3), (4, .int v4)]) hx hb d_M_own_72 hl (k := 5) rfl rfl (by decide) rfl (fun ls hl => ?_)
        refine lv_goto (tgt := 3) hx hb d_M_own_75 (by decide) ?_
        exact hself3 (v1, v2, v3, v4, (v5 + 1)) h _ _ _ hw (lv_sub hl [1, 2, 3, 4, 5, 0] rfl)
      · have h := (if_pos c_30).symm.trans h
        refine lv_aload_n hx hb d_M_own_33 rfl (lv_at hl 0 rfl) ?_
        refine gf_M_41 hx hb hts hnw hown hw d_M_own_34 ?_
        refine lv_iload hx hb d_M_own_37 (lv_at hl 5 rfl) ?_
        obtain ⟨x39, g_39, e_39, h⟩ := sk_rI_some h
        refine al_M11 hx hb hw g_39 e_39 d_M_own_39 ?_
        refine lv_iconst (v := 1) hx hb d_M_own_40 (by decide) ?_
        refine lv_iand hx hb d_M_own_41 ?_
        refine lv_iload_n hx hb d_M_own_42 rfl (lv_at hl 2 rfl) ?_
        refine lv_icmp_ne (tgt := 72) hx hb d_M_own_43 (by decide) (fun c_43 => ?_) (fun c_43 => ?_)
        · have h := (if_neg c_43).symm.trans h
          refine lv_iinc (v := v5 + 1) (lv' := [(5, .int (v5 + 1)), (0, .ref (a 0)), (1, .int v1), (2, .int v2), (3, .int v3), (4, .int v4)]) hx hb d_M_own_72 hl (k := 5) rfl rfl (by decide) rfl (fun ls hl => ?_)
          refine lv_goto (tgt := 3) hx hb d_M_own_75 (by decide) ?_
          exact hself3 (v1, v2, v3, v4, (v5 + 1)) h _ _ _ hw (lv_sub hl [1, 2, 3, 4, 5, 0] rfl)
        · have h := (if_pos c_43).symm.trans h
          refine lv_aload_n hx hb d_M_own_46 rfl (lv_at hl 0 rfl) ?_
          refine gf_M_35 hx hb hts hnw hown hw d_M_own_47 ?_
          refine lv_iload hx hb d_M_own_50 (lv_at hl 5 rfl) ?_
          obtain ⟨x52, g_52, e_52, h⟩ := sk_rI_some h
          refine al_M9 hx hb hw g_52 e_52 d_M_own_52 ?_
          refine lv_iload_n hx hb d_M_own_53 rfl (lv_at hl 3 rfl) ?_
          refine lv_icmp_ne (tgt := 72) hx hb d_M_own_54 (by decide) (fun c_54 => ?_) (fun c_54 => ?_)
          · have h := (if_neg c_54).symm.trans h
            refine lv_iinc (v := v5 + 1) (lv' := [(5, .int (v5 + 1)), (0, .ref (a 0)), (1, .int v1), (2, .int v2), (3, .int v3), (4, .int v4)]) hx hb d_M_own_72 hl (k := 5) rfl rfl (by decide) rfl (fun ls hl => ?_)
            refine lv_goto (tgt := 3) hx hb d_M_own_75 (by decide) ?_
            exact hself3 (v1, v2, v3, v4, (v5 + 1)) h _ _ _ hw (lv_sub hl [1, 2, 3, 4, 5, 0] rfl)
          · have h := (if_pos c_54).symm.trans h
            refine lv_aload_n hx hb d_M_own_57 rfl (lv_at hl 0 rfl) ?_
            refine gf_M_38 hx hb hts hnw hown hw d_M_own_58 ?_
            refine lv_iload hx hb d_M_own_61 (lv_at hl 5 rfl) ?_
            obtain ⟨x63, g_63, e_63, h⟩ := sk_rI_some h
            refine al_M10 hx hb hw g_63 e_63 d_M_own_63 ?_
            refine lv_iload hx hb d_M_own_64 (lv_at hl 4 rfl) ?_
            refine lv_icmp_ne (tgt := 72) hx hb d_M_own_66 (by decide) (fun c_66 => ?_) (fun c_66 => ?_)
            · have h := (if_neg c_66).symm.trans h
              refine lv_iinc (v := v5 + 1) (lv' := [(5, .int (v5 + 1)), (0, .ref (a 0)), (1, .int v1), (2, .int v2), (3, .int v3), (4, .int v4)]) hx hb d_M_own_72 hl (k := 5) rfl rfl (by decide) rfl (fun ls hl => ?_)
              refine lv_goto (tgt := 3) hx hb d_M_own_75 (by decide) ?_
              exact hself3 (v1, v2, v3, v4, (v5 + 1)) h _ _ _ hw (lv_sub hl [1, 2, 3, 4, 5, 0] rfl)
            · have h := (if_pos c_66).symm.trans h
              refine lv_iload hx hb d_M_own_69 (lv_at hl 5 rfl) ?_
              exact hret _ _ _ _ _ _ (Option.some.inj h) rfl (vp_nar_int _) hw d_M_own_71
set_option maxHeartbeats 4000000 in
set_option maxRecDepth 100000 in
theorem c_M_member {l : Launch} {D : va_G} {A : Nat → Prop} {a : Nat → Nat} {cI cZ : ClassId} {nw : State → Prop} {N : Nat} {st : sk_M} {v1 : Int32} {v2 : Int32} {v3 : Int32} {v4 : Int32} {res : Int32 × sk_M} (hok : sk_ok A nw) (h : M_member N st v1 v2 v3 v4 = some res) : sk_Ci l y_M_member w_M_member rm_M_member D (tyM cI cZ) A (ceM a cI cZ) nw [.ref (a 0), .int v1, .int v2, .int v3, .int v4] st res.1 res.2 := by
  refine sk_headi .int (by decide) rfl (Nat.le_of_ble_eq_true rfl) ?_
  intro p e s m args below meth c Q hx hb hml hown hts0 hnw hret ls hl hw
  have hts : ∀ w ∈ TB, w.before args s = true := fun w h => hts0 w (List.mem_cons_of_mem _ h)
  have hown : s.vm.findClass R_M = some m.cls := hown
  have hl : lv_has ls 5 [(0, .ref (a 0)), (1, .int v1), (2, .int v2), (3, .int v3), (4, .int v4)] := hl
  unfold M_member at h
  refine lv_iload_n hx hb d_M_member_0 rfl (lv_at hl 1 rfl) ?_
  refine lv_iconst (v := 1) hx hb d_M_member_1 (by decide) ?_
  refine lv_bipush (v := 9) hx hb d_M_member_2 (by decide) ?_
  refine sk_callSi (As := [.int v1, .int (1 : Int32), .int (9 : Int32)]) (rest := []) ⟨hx, hb, hml, hown, hts⟩ hw hnw hok (c_M_in hok rfl) (cw_M_135 hts hnw (by decide)) rfl hl.1 rfl (Nat.le_of_ble_eq_true rfl) d_M_member_4 (fun H locs hw => ?_)
  refine lv_if_eq (tgt := 75) hx hb d_M_member_7 (by decide) (fun c_7 => ?_) (fun c_7 => ?_)
  · have h := (if_pos c_7).symm.trans h
    refine lv_iconst (v := -1) hx hb d_M_member_75 (by decide) ?_
    exact hret _ _ _ _ _ _ (sk_p1 h) (sk_p2 h) (vp_nar_int _) hw d_M_member_76
  · have h := (if_neg c_7).symm.trans h
    refine lv_aload_n hx hb d_M_member_10 rfl (lv_at hl 0 rfl) ?_
    refine gf_M_7 hx hb hts hnw hown hw d_M_member_11 ?_
    refine lv_iload_n hx hb d_M_member_14 rfl (lv_at hl 1 rfl) ?_
    obtain ⟨x15, g_15, e_15, h⟩ := sk_rI_some h
    refine al_M1 hx hb hw g_15 e_15 d_M_member_15 ?_
    refine lv_if_eq (tgt := 75) hx hb d_M_member_16 (by decide) (fun c_16 => ?_) (fun c_16 => ?_)
    · have h := (if_pos c_16).symm.trans h
      refine lv_iconst (v := -1) hx hb d_M_member_75 (by decide) ?_
      exact hret _ _ _ _ _ _ (sk_p1 h) (sk_p2 h) (vp_nar_int _) hw d_M_member_76
    · have h := (if_neg c_16).symm.trans h
      refine lv_iload hx hb d_M_member_19 (lv_at hl 4 rfl) ?_
      refine lv_iconst (v := 0) hx hb d_M_member_21 (by decide) ?_
      refine lv_bipush (v := 7) hx hb d_M_member_22 (by decide) ?_
      refine sk_callSi (As := [.int v4, .int (0 : Int32), .int (7 : Int32)]) (rest := []) ⟨hx, hb, hml, hown, hts⟩ hw hnw hok (c_M_in hok rfl) (cw_M_135 hts hnw (by decide)) rfl hl.1 rfl (Nat.le_of_ble_eq_true rfl) d_M_member_24 (fun H locs hw => ?_)
      refine lv_if_eq (tgt := 75) hx hb d_M_member_27 (by decide) (fun c_27 => ?_) (fun c_27 => ?_)
      · have h := (if_pos c_27).symm.trans h
        refine lv_iconst (v := -1) hx hb d_M_member_75 (by decide) ?_
        exact hret _ _ _ _ _ _ (sk_p1 h) (sk_p2 h) (vp_nar_int _) hw d_M_member_76
      · have h := (if_neg c_27).symm.trans h
        refine lv_iload_n hx hb d_M_member_30 rfl (lv_at hl 2 rfl) ?_
        refine lv_iconst (v := 0) hx hb d_M_member_31 (by decide) ?_
        refine lv_iload hx hb d_M_member_32 (lv_at hl 4 rfl) ?_
        refine lv_iconst (v := 1) hx hb d_M_member_34 (by decide) ?_
        refine lv_iand hx hb d_M_member_35 ?_
        refine lv_iconst (v := 1) hx hb d_M_member_36 (by decide) ?_
        have hJ46 : ∀ (st : sk_M) (v1 : Int32) (v2 : Int32) (v3 : Int32) (v4 : Int32) (s0 : Int32) (s1 : Int32) (s2 : Int32) (H : Heap) (locs : List Loc) (ls : Array Slot), M_member_J46 N st v1 v2 v3 v4 s0 s1 s2 = some res → sk_w D (tyM cI cZ) A (ceM a cI cZ) s st H locs → lv_has ls 5 [(0, .ref (a 0)), (1, .int v1), (2, .int v2), (3, .int v3), (4, .int v4)] → W p l e rm_M_member s m args below meth c H locs 0 0 Q (F0 m 46 ls [.int s2, .int s1, .int s0]) := by
          intro st v1 v2 v3 v4 s0 s1 s2 H locs ls h hw hl
          unfold M_member_J46 at h
          refine sk_callSi (As := [.int s0, .int s1, .int s2]) (rest := []) ⟨hx, hb, hml, hown, hts⟩ hw hnw hok (c_M_in hok rfl) (cw_M_135 hts hnw (by decide)) rfl hl.1 rfl (Nat.le_of_ble_eq_true rfl) d_M_member_46 (fun H locs hw => ?_)
          refine lv_if_eq (tgt := 75) hx hb d_M_member_49 (by decide) (fun c_49 => ?_) (fun c_49 => ?_)
          · have h := (if_pos c_49).symm.trans h
            refine lv_iconst (v := -1) hx hb d_M_member_75 (by decide) ?_
            exact hret _ _ _ _ _ _ (sk_p1 h) (sk_p2 h) (vp_nar_int _) hw d_M_member_76
          · have h := (if_neg c_49).symm.trans h
            refine lv_iload_n hx hb d_M_member_52 rfl (lv_at hl 3 rfl) ?_
            refine lv_iconst (v := 0) hx hb d_M_member_53 (by decide) ?_
            refine lv_iconst (v := 1) hx hb d_M_member_54 (by decide) ?_
            refine sk_callSi (As := [.int v3, .int (0 : Int32), .int (1 : Int32)]) (rest := []) ⟨hx, hb, hml, hown, hts⟩ hw hnw hok (c_M_in hok rfl) (cw_M_135 hts hnw (by decide)) rfl hl.1 rfl (Nat.le_of_ble_eq_true rfl) d_M_member_55 (fun H locs hw => ?_)
            refine lv_if_eq (tgt := 75) hx hb d_M_member_58 (by decide) (fun c_58 => ?_) (fun c_58 => ?_)
            · have h := (if_pos c_58).symm.trans h
              refine lv_iconst (v := -1) hx hb d_M_member_75 (by decide) ?_
              exact hret _ _ _ _ _ _ (sk_p1 h) (sk_p2 h) (vp_nar_int _) hw d_M_member_76
            · have h := (if_neg c_58).symm.trans h
              refine lv_aload_n hx hb d_M_member_61 rfl (lv_at hl 0 rfl) ?_
              refine lv_iload_n hx hb d_M_member_62 rfl (lv_at hl 1 rfl) ?_
              refine lv_iload hx hb d_M_member_63 (lv_at hl 4 rfl) ?_
              refine lv_iconst (v := 1) hx hb d_M_member_65 (by decide) ?_
              refine lv_iand hx hb d_M_member_66 ?_
              refine lv_iload_n hx hb d_M_member_67 rfl (lv_at hl 2 rfl) ?_
              refine lv_iload_n hx hb d_M_member_68 rfl (lv_at hl 3 rfl) ?_
              obtain ⟨x69, q_69, h⟩ := sk_oR_some h
              refine sk_callVi (As := [.int v1, .int (v4 &&& (1 : Int32)), .int v2, .int v3]) (rest := []) ⟨hx, hb, hml, hown, hts⟩ hw hnw hok (c_M_own hok q_69) (cw_M_139 hts hnw (by decide)) (rc_M hw) rfl hl.1 rfl (Nat.le_of_ble_eq_true rfl) d_M_member_69 (fun H locs hw => ?_)
              refine lv_if_lt (tgt := 77) hx hb d_M_member_72 (by decide) (fun c_72 => ?_) (fun c_72 => ?_)
              · have h := (if_pos c_72).symm.trans h
                refine lv_aload_n hx hb d_M_member_77 rfl (lv_at hl 0 rfl) ?_
                refine gf_M_47 hx hb hts hnw hown hw d_M_member_78 ?_
                refine lv_bipush (v := 40) hx hb d_M_member_81 (by decide) ?_
                refine lv_icmp_ne (tgt := 89) hx hb d_M_member_83 (by decide) (fun c_83 => ?_) (fun c_83 => ?_)
                · have h := (if_neg c_83).symm.trans h
                  refine lv_aload_n hx hb d_M_member_89 rfl (lv_at hl 0 rfl) ?_
                  refine gf_M_32 hx hb hts hnw hown hw d_M_member_90 ?_
                  refine lv_aload_n hx hb d_M_member_93 rfl (lv_at hl 0 rfl) ?_
                  refine gf_M_47 hx hb hts hnw hown hw d_M_member_94 ?_
                  refine lv_iload_n hx hb d_M_member_97 rfl (lv_at hl 1 rfl) ?_
                  obtain ⟨st98, g_98, e_98, h⟩ := sk_wI_some h
                  refine as_M8 hx hb hw g_98 e_98 d_M_member_98 (fun H locs hw => ?_)
                  refine lv_aload_n hx hb d_M_member_99 rfl (lv_at hl 0 rfl) ?_
                  refine gf_M_35 hx hb hts hnw hown hw d_M_member_100 ?_
                  refine lv_aload_n hx hb d_M_member_103 rfl (lv_at hl 0 rfl) ?_
                  refine gf_M_47 hx hb hts hnw hown hw d_M_member_104 ?_
                  refine lv_iload_n hx hb d_M_member_107 rfl (lv_at hl 2 rfl) ?_
                  obtain ⟨st108, g_108, e_108, h⟩ := sk_wI_some h
                  refine as_M9 hx hb hw g_108 e_108 d_M_member_108 (fun H locs hw => ?_)
                  refine lv_aload_n hx hb d_M_member_109 rfl (lv_at hl 0 rfl) ?_
                  refine gf_M_38 hx hb hts hnw hown hw d_M_member_110 ?_
                  refine lv_aload_n hx hb d_M_member_113 rfl (lv_at hl 0 rfl) ?_
                  refine gf_M_47 hx hb hts hnw hown hw d_M_member_114 ?_
                  refine lv_iload_n hx hb d_M_member_117 rfl (lv_at hl 3 rfl) ?_
                  obtain ⟨st118, g_118, e_118, h⟩ := sk_wI_some h
                  refine as_M10 hx hb hw g_118 e_118 d_M_member_118 (fun H locs hw => ?_)
                  refine lv_aload_n hx hb d_M_member_119 rfl (lv_at hl 0 rfl) ?_
                  refine gf_M_41 hx hb hts hnw hown hw d_M_member_120 ?_
                  refine lv_aload_n hx hb d_M_member_123 rfl (lv_at hl 0 rfl) ?_
                  refine gf_M_47 hx hb hts hnw hown hw d_M_member_124 ?_
                  refine lv_iload hx hb d_M_member_127 (lv_at hl 4 rfl) ?_
                  obtain ⟨st129, g_129, e_129, h⟩ := sk_wI_some h
                  refine as_M11 hx hb hw g_129 e_129 d_M_member_129 (fun H locs hw => ?_)
                  refine lv_aload_n hx hb d_M_member_130 rfl (lv_at hl 0 rfl) ?_
                  refine gf_M_44 hx hb hts hnw hown hw d_M_member_131 ?_
                  refine lv_aload_n hx hb d_M_member_134 rfl (lv_at hl 0 rfl) ?_
                  refine gf_M_47 hx hb hts hnw hown hw d_M_member_135 ?_
                  refine lv_iconst (v := 0) hx hb d_M_member_138 (by decide) ?_
                  obtain ⟨st139, g_139, e_139, h⟩ := sk_wI_some h
                  refine as_M12 hx hb hw g_139 e_139 d_M_member_139 (fun H locs hw => ?_)
                  refine lv_aload_n hx hb d_M_member_140 rfl (lv_at hl 0 rfl) ?_
                  refine lv_dup hx hb d_M_member_141 rfl ?_
                  refine gf_M_47 hx hb hts hnw hown hw d_M_member_142 ?_
                  refine lv_iconst (v := 1) hx hb d_M_member_145 (by decide) ?_
                  refine lv_iadd hx hb d_M_member_146 ?_
                  obtain ⟨st147, e_147, h⟩ := sk_fI_some h
                  refine pf_M_47 hx hb hts hnw hown hw e_147 d_M_member_147 (fun H locs hw => ?_)
                  refine lv_aload_n hx hb d_M_member_150 rfl (lv_at hl 0 rfl) ?_
                  refine gf_M_47 hx hb hts hnw hown hw d_M_member_151 ?_
                  refine lv_iconst (v := 1) hx hb d_M_member_154 (by decide) ?_
                  refine lv_isub hx hb d_M_member_155 ?_
                  exact hret _ _ _ _ _ _ (sk_p1 h) (sk_p2 h) (vp_nar_int _) hw d_M_member_156
                · have h := (if_pos c_83).symm.trans h
                  refine lv_bipush (v := -3) hx hb d_M_member_86 (by decide) ?_
                  exact hret _ _ _ _ _ _ (sk_p1 h) (sk_p2 h) (vp_nar_int _) hw d_M_member_88
              · have h := (if_neg c_72).symm.trans h
                refine lv_iconst (v := -1) hx hb d_M_member_75 (by decide) ?_
                exact hret _ _ _ _ _ _ (sk_p1 h) (sk_p2 h) (vp_nar_int _) hw d_M_member_76
        refine lv_icmp_ne (tgt := 45) hx hb d_M_member_37 (by decide) (fun c_37 => ?_) (fun c_37 => ?_)
        · have h := (if_neg c_37).symm.trans h
          refine lv_iconst (v := 5) hx hb d_M_member_45 (by decide) ?_
          exact hJ46 _ _ _ _ _ _ _ _ _ _ _ h hw (lv_sub hl [0, 1, 2, 3, 4] rfl)
        · have h := (if_pos c_37).symm.trans h
          refine lv_bipush (v := 7) hx hb d_M_member_40 (by decide) ?_
          refine lv_goto (tgt := 46) hx hb d_M_member_42 (by decide) ?_
          exact hJ46 _ _ _ _ _ _ _ _ _ _ _ h hw (lv_sub hl [0, 1, 2, 3, 4] rfl)
set_option maxHeartbeats 4000000 in
set_option maxRecDepth 100000 in
theorem c_M_remove {l : Launch} {D : va_G} {A : Nat → Prop} {a : Nat → Nat} {cI cZ : ClassId} {nw : State → Prop} {st : sk_M} {v1 : Int32} {res : Int32 × sk_M} (hok : sk_ok A nw) (h : M_remove st v1 = some res) : sk_Ci l y_M_remove w_M_remove rm_M_remove D (tyM cI cZ) A (ceM a cI cZ) nw [.ref (a 0), .int v1] st res.1 res.2 := by
  refine sk_headi .boolean (by decide) rfl (Nat.le_of_ble_eq_true rfl) ?_
  intro p e s m args below meth c Q hx hb hml hown hts0 hnw hret ls hl hw
  have hts : ∀ w ∈ TB, w.before args s = true := fun w h => hts0 w (List.mem_cons_of_mem _ h)
  have hown : s.vm.findClass R_M = some m.cls := hown
  have hl : lv_has ls 2 [(0, .ref (a 0)), (1, .int v1)] := hl
  unfold M_remove at h
  refine lv_iload_n hx hb d_M_remove_0 rfl (lv_at hl 1 rfl) ?_
  refine lv_iconst (v := 1) hx hb d_M_remove_1 (by decide) ?_
  refine lv_aload_n hx hb d_M_remove_2 rfl (lv_at hl 0 rfl) ?_
  refine gf_M_47 hx hb hts hnw hown hw d_M_remove_3 ?_
  refine lv_iconst (v := 1) hx hb d_M_remove_6 (by decide) ?_
  refine lv_isub hx hb d_M_remove_7 ?_
  refine sk_callSi (As := [.int v1, .int (1 : Int32), .int ((st.1 0 0) - (1 : Int32))]) (rest := []) ⟨hx, hb, hml, hown, hts⟩ hw hnw hok (c_M_in hok rfl) (cw_M_135 hts hnw (by decide)) rfl hl.1 rfl (Nat.le_of_ble_eq_true rfl) d_M_remove_8 (fun H locs hw => ?_)
  refine lv_if_eq (tgt := 23) hx hb d_M_remove_11 (by decide) (fun c_11 => ?_) (fun c_11 => ?_)
  · have h := (if_pos c_11).symm.trans h
    refine lv_iconst (v := 0) hx hb d_M_remove_23 (by decide) ?_
    exact hret _ _ _ _ _ _ (sk_p1 h) (sk_p2 h) rfl hw d_M_remove_24
  · have h := (if_neg c_11).symm.trans h
    refine lv_aload_n hx hb d_M_remove_14 rfl (lv_at hl 0 rfl) ?_
    refine gf_M_44 hx hb hts hnw hown hw d_M_remove_15 ?_
    refine lv_iload_n hx hb d_M_remove_18 rfl (lv_at hl 1 rfl) ?_
    obtain ⟨x19, g_19, e_19, h⟩ := sk_rI_some h
    refine al_M12 hx hb hw g_19 e_19 d_M_remove_19 ?_
    refine lv_if_eq (tgt := 25) hx hb d_M_remove_20 (by decide) (fun c_20 => ?_) (fun c_20 => ?_)
    · have h := (if_pos c_20).symm.trans h
      refine lv_aload_n hx hb d_M_remove_25 rfl (lv_at hl 0 rfl) ?_
      refine gf_M_44 hx hb hts hnw hown hw d_M_remove_26 ?_
      refine lv_iload_n hx hb d_M_remove_29 rfl (lv_at hl 1 rfl) ?_
      refine lv_iconst (v := 1) hx hb d_M_remove_30 (by decide) ?_
      obtain ⟨st31, g_31, e_31, h⟩ := sk_wI_some h
      refine as_M12 hx hb hw g_31 e_31 d_M_remove_31 (fun H locs hw => ?_)
      refine lv_iconst (v := 1) hx hb d_M_remove_32 (by decide) ?_
      exact hret _ _ _ _ _ _ (sk_p1 h) (sk_p2 h) rfl hw d_M_remove_33
    · have h := (if_neg c_20).symm.trans h
      refine lv_iconst (v := 0) hx hb d_M_remove_23 (by decide) ?_
      exact hret _ _ _ _ _ _ (sk_p1 h) (sk_p2 h) rfl hw d_M_remove_24
set_option maxHeartbeats 4000000 in
set_option maxRecDepth 100000 in
theorem c_M_refer {l : Launch} {D : va_G} {A : Nat → Prop} {a : Nat → Nat} {cI cZ : ClassId} {nw : State → Prop} {st : sk_M} {v1 : Int32} {v2 : Int32} {v3 : Int32} {v4 : Int32} {v5 : Int32} {res : Int32 × sk_M} (hok : sk_ok A nw) (h : M_refer st v1 v2 v3 v4 v5 = some res) : sk_Ci l y_M_refer w_M_refer rm_M_refer D (tyM cI cZ) A (ceM a cI cZ) nw [.ref (a 0), .int v1, .int v2, .int v3, .int v4, .int v5] st res.1 res.2 := by
  refine sk_headi .int (by decide) rfl (Nat.le_of_ble_eq_true rfl) ?_
  intro p e s m args below meth c Q hx hb hml hown hts0 hnw hret ls hl hw
  have hts : ∀ w ∈ TB, w.before args s = true := fun w h => hts0 w (List.mem_cons_of_mem _ h)
  have hown : s.vm.findClass R_M = some m.cls := hown
  have hl : lv_has ls 6 [(0, .ref (a 0)), (1, .int v1), (2, .int v2), (3, .int v3), (4, .int v4), (5, .int v5)] := hl
  unfold M_refer at h
  refine lv_iload_n hx hb d_M_refer_0 rfl (lv_at hl 1 rfl) ?_
  refine lv_iconst (v := 1) hx hb d_M_refer_1 (by decide) ?_
  refine lv_aload_n hx hb d_M_refer_2 rfl (lv_at hl 0 rfl) ?_
  refine gf_M_47 hx hb hts hnw hown hw d_M_refer_3 ?_
  refine lv_iconst (v := 1) hx hb d_M_refer_6 (by decide) ?_
  refine lv_isub hx hb d_M_refer_7 ?_
  refine sk_callSi (As := [.int v1, .int (1 : Int32), .int ((st.1 0 0) - (1 : Int32))]) (rest := []) ⟨hx, hb, hml, hown, hts⟩ hw hnw hok (c_M_in hok rfl) (cw_M_135 hts hnw (by decide)) rfl hl.1 rfl (Nat.le_of_ble_eq_true rfl) d_M_refer_8 (fun H locs hw => ?_)
  refine lv_if_eq (tgt := 74) hx hb d_M_refer_11 (by decide) (fun c_11 => ?_) (fun c_11 => ?_)
  · have h := (if_pos c_11).symm.trans h
    refine lv_iconst (v := -1) hx hb d_M_refer_74 (by decide) ?_
    exact hret _ _ _ _ _ _ (sk_p1 h) (sk_p2 h) (vp_nar_int _) hw d_M_refer_75
  · have h := (if_neg c_11).symm.trans h
    refine lv_aload_n hx hb d_M_refer_14 rfl (lv_at hl 0 rfl) ?_
    refine gf_M_44 hx hb hts hnw hown hw d_M_refer_15 ?_
    refine lv_iload_n hx hb d_M_refer_18 rfl (lv_at hl 1 rfl) ?_
    obtain ⟨x19, g_19, e_19, h⟩ := sk_rI_some h
    refine al_M12 hx hb hw g_19 e_19 d_M_refer_19 ?_
    refine lv_if_ne (tgt := 74) hx hb d_M_refer_20 (by decide) (fun c_20 => ?_) (fun c_20 => ?_)
    · have h := (if_neg c_20).symm.trans h
      refine lv_iconst (v := -1) hx hb d_M_refer_74 (by decide) ?_
      exact hret _ _ _ _ _ _ (sk_p1 h) (sk_p2 h) (vp_nar_int _) hw d_M_refer_75
    · have h := (if_pos c_20).symm.trans h
      refine lv_aload_n hx hb d_M_refer_23 rfl (lv_at hl 0 rfl) ?_
      refine gf_M_41 hx hb hts hnw hown hw d_M_refer_24 ?_
      refine lv_iload_n hx hb d_M_refer_27 rfl (lv_at hl 1 rfl) ?_
      obtain ⟨x28, g_28, e_28, h⟩ := sk_rI_some h
      refine al_M11 hx hb hw g_28 e_28 d_M_refer_28 ?_
      refine lv_iconst (v := 1) hx hb d_M_refer_29 (by decide) ?_
      refine lv_iand hx hb d_M_refer_30 ?_
      refine lv_if_eq (tgt := 74) hx hb d_M_refer_31 (by decide) (fun c_31 => ?_) (fun c_31 => ?_)
      · have h := (if_pos c_31).symm.trans h
        refine lv_iconst (v := -1) hx hb d_M_refer_74 (by decide) ?_
        exact hret _ _ _ _ _ _ (sk_p1 h) (sk_p2 h) (vp_nar_int _) hw d_M_refer_75
      · have h := (if_neg c_31).symm.trans h
        refine lv_iload_n hx hb d_M_refer_34 rfl (lv_at hl 2 rfl) ?_
        refine lv_iconst (v := 0) hx hb d_M_refer_35 (by decide) ?_
        refine lv_iconst (v := 5) hx hb d_M_refer_36 (by decide) ?_
        refine sk_callSi (As := [.int v2, .int (0 : Int32), .int (5 : Int32)]) (rest := []) ⟨hx, hb, hml, hown, hts⟩ hw hnw hok (c_M_in hok rfl) (cw_M_135 hts hnw (by decide)) rfl hl.1 rfl (Nat.le_of_ble_eq_true rfl) d_M_refer_37 (fun H locs hw => ?_)
        refine lv_if_eq (tgt := 74) hx hb d_M_refer_40 (by decide) (fun c_40 => ?_) (fun c_40 => ?_)
        · have h := (if_pos c_40).symm.trans h
          refine lv_iconst (v := -1) hx hb d_M_refer_74 (by decide) ?_
          exact hret _ _ _ _ _ _ (sk_p1 h) (sk_p2 h) (vp_nar_int _) hw d_M_refer_75
        · have h := (if_neg c_40).symm.trans h
          refine lv_iload_n hx hb d_M_refer_43 rfl (lv_at hl 3 rfl) ?_
          refine lv_iconst (v := 0) hx hb d_M_refer_44 (by decide) ?_
          refine lv_bipush (v := 9) hx hb d_M_refer_45 (by decide) ?_
          refine sk_callSi (As := [.int v3, .int (0 : Int32), .int (9 : Int32)]) (rest := []) ⟨hx, hb, hml, hown, hts⟩ hw hnw hok (c_M_in hok rfl) (cw_M_135 hts hnw (by decide)) rfl hl.1 rfl (Nat.le_of_ble_eq_true rfl) d_M_refer_47 (fun H locs hw => ?_)
          refine lv_if_eq (tgt := 74) hx hb d_M_refer_50 (by decide) (fun c_50 => ?_) (fun c_50 => ?_)
          · have h := (if_pos c_50).symm.trans h
            refine lv_iconst (v := -1) hx hb d_M_refer_74 (by decide) ?_
            exact hret _ _ _ _ _ _ (sk_p1 h) (sk_p2 h) (vp_nar_int _) hw d_M_refer_75
          · have h := (if_neg c_50).symm.trans h
            refine lv_iload hx hb d_M_refer_53 (lv_at hl 4 rfl) ?_
            refine lv_iconst (v := 0) hx hb d_M_refer_55 (by decide) ?_
            refine lv_bipush (v := 7) hx hb d_M_refer_56 (by decide) ?_
            refine sk_callSi (As := [.int v4, .int (0 : Int32), .int (7 : Int32)]) (rest := []) ⟨hx, hb, hml, hown, hts⟩ hw hnw hok (c_M_in hok rfl) (cw_M_135 hts hnw (by decide)) rfl hl.1 rfl (Nat.le_of_ble_eq_true rfl) d_M_refer_58 (fun H locs hw => ?_)
            refine lv_if_eq (tgt := 74) hx hb d_M_refer_61 (by decide) (fun c_61 => ?_) (fun c_61 => ?_)
            · have h := (if_pos c_61).symm.trans h
              refine lv_iconst (v := -1) hx hb d_M_refer_74 (by decide) ?_
              exact hret _ _ _ _ _ _ (sk_p1 h) (sk_p2 h) (vp_nar_int _) hw d_M_refer_75
            · have h := (if_neg c_61).symm.trans h
              refine lv_iload hx hb d_M_refer_64 (lv_at hl 5 rfl) ?_
              refine lv_iconst (v := 0) hx hb d_M_refer_66 (by decide) ?_
              refine lv_iconst (v := 1) hx hb d_M_refer_67 (by decide) ?_
              refine sk_callSi (As := [.int v5, .int (0 : Int32), .int (1 : Int32)]) (rest := []) ⟨hx, hb, hml, hown, hts⟩ hw hnw hok (c_M_in hok rfl) (cw_M_135 hts hnw (by decide)) rfl hl.1 rfl (Nat.le_of_ble_eq_true rfl) d_M_refer_68 (fun H locs hw => ?_)
              refine lv_if_ne (tgt := 76) hx hb d_M_refer_71 (by decide) (fun c_71 => ?_) (fun c_71 => ?_)
              · have h := (if_neg c_71).symm.trans h
                refine lv_aload_n hx hb d_M_refer_76 rfl (lv_at hl 0 rfl) ?_
                refine gf_M_143 hx hb hts hnw hown hw d_M_refer_77 ?_
                refine lv_bipush (v := 60) hx hb d_M_refer_80 (by decide) ?_
                refine lv_icmp_ne (tgt := 88) hx hb d_M_refer_82 (by decide) (fun c_82 => ?_) (fun c_82 => ?_)
                · have h := (if_neg c_82).symm.trans h
                  refine lv_aload_n hx hb d_M_refer_88 rfl (lv_at hl 0 rfl) ?_
                  refine gf_M_51 hx hb hts hnw hown hw d_M_refer_89 ?_
                  refine lv_aload_n hx hb d_M_refer_92 rfl (lv_at hl 0 rfl) ?_
                  refine gf_M_143 hx hb hts hnw hown hw d_M_refer_93 ?_
                  refine lv_iload_n hx hb d_M_refer_96 rfl (lv_at hl 1 rfl) ?_
                  obtain ⟨st97, g_97, e_97, h⟩ := sk_wI_some h
                  refine as_M13 hx hb hw g_97 e_97 d_M_refer_97 (fun H locs hw => ?_)
                  refine lv_aload_n hx hb d_M_refer_98 rfl (lv_at hl 0 rfl) ?_
                  refine gf_M_54 hx hb hts hnw hown hw d_M_refer_99 ?_
                  refine lv_aload_n hx hb d_M_refer_102 rfl (lv_at hl 0 rfl) ?_
                  refine gf_M_143 hx hb hts hnw hown hw d_M_refer_103 ?_
                  refine lv_iload_n hx hb d_M_refer_106 rfl (lv_at hl 2 rfl) ?_
                  obtain ⟨st107, g_107, e_107, h⟩ := sk_wI_some h
                  refine as_M14 hx hb hw g_107 e_107 d_M_refer_107 (fun H locs hw => ?_)
                  refine lv_aload_n hx hb d_M_refer_108 rfl (lv_at hl 0 rfl) ?_
                  refine gf_M_57 hx hb hts hnw hown hw d_M_refer_109 ?_
                  refine lv_aload_n hx hb d_M_refer_112 rfl (lv_at hl 0 rfl) ?_
                  refine gf_M_143 hx hb hts hnw hown hw d_M_refer_113 ?_
                  refine lv_iload_n hx hb d_M_refer_116 rfl (lv_at hl 3 rfl) ?_
                  obtain ⟨st117, g_117, e_117, h⟩ := sk_wI_some h
                  refine as_M15 hx hb hw g_117 e_117 d_M_refer_117 (fun H locs hw => ?_)
                  refine lv_aload_n hx hb d_M_refer_118 rfl (lv_at hl 0 rfl) ?_
                  refine gf_M_60 hx hb hts hnw hown hw d_M_refer_119 ?_
                  refine lv_aload_n hx hb d_M_refer_122 rfl (lv_at hl 0 rfl) ?_
                  refine gf_M_143 hx hb hts hnw hown hw d_M_refer_123 ?_
                  refine lv_iload hx hb d_M_refer_126 (lv_at hl 4 rfl) ?_
                  obtain ⟨st128, g_128, e_128, h⟩ := sk_wI_some h
                  refine as_M16 hx hb hw g_128 e_128 d_M_refer_128 (fun H locs hw => ?_)
                  refine lv_aload_n hx hb d_M_refer_129 rfl (lv_at hl 0 rfl) ?_
                  refine gf_M_63 hx hb hts hnw hown hw d_M_refer_130 ?_
                  refine lv_aload_n hx hb d_M_refer_133 rfl (lv_at hl 0 rfl) ?_
                  refine gf_M_143 hx hb hts hnw hown hw d_M_refer_134 ?_
                  refine lv_iload hx hb d_M_refer_137 (lv_at hl 5 rfl) ?_
                  obtain ⟨st139, g_139, e_139, h⟩ := sk_wI_some h
                  refine as_M17 hx hb hw g_139 e_139 d_M_refer_139 (fun H locs hw => ?_)
                  refine lv_aload_n hx hb d_M_refer_140 rfl (lv_at hl 0 rfl) ?_
                  refine lv_dup hx hb d_M_refer_141 rfl ?_
                  refine gf_M_143 hx hb hts hnw hown hw d_M_refer_142 ?_
                  refine lv_iconst (v := 1) hx hb d_M_refer_145 (by decide) ?_
                  refine lv_iadd hx hb d_M_refer_146 ?_
                  obtain ⟨st147, e_147, h⟩ := sk_fI_some h
                  refine pf_M_143 hx hb hts hnw hown hw e_147 d_M_refer_147 (fun H locs hw => ?_)
                  refine lv_aload_n hx hb d_M_refer_150 rfl (lv_at hl 0 rfl) ?_
                  refine gf_M_143 hx hb hts hnw hown hw d_M_refer_151 ?_
                  exact hret _ _ _ _ _ _ (sk_p1 h) (sk_p2 h) (vp_nar_int _) hw d_M_refer_154
                · have h := (if_pos c_82).symm.trans h
                  refine lv_bipush (v := -3) hx hb d_M_refer_85 (by decide) ?_
                  exact hret _ _ _ _ _ _ (sk_p1 h) (sk_p2 h) (vp_nar_int _) hw d_M_refer_87
              · have h := (if_pos c_71).symm.trans h
                refine lv_iconst (v := -1) hx hb d_M_refer_74 (by decide) ?_
                exact hret _ _ _ _ _ _ (sk_p1 h) (sk_p2 h) (vp_nar_int _) hw d_M_refer_75
set_option maxHeartbeats 4000000 in
set_option maxRecDepth 100000 in
theorem c_M_letter {l : Launch} {D : va_G} {A : Nat → Prop} {a : Nat → Nat} {cI cZ : ClassId} {nw : State → Prop} {st : sk_M} {v1 : Int32} {res : Int32 × sk_M} (hok : sk_ok A nw) (h : M_letter st v1 = some res) : sk_Ci l y_M_letter w_M_letter rm_M_letter D (tyM cI cZ) A (ceM a cI cZ) nw [.ref (a 0), .int v1] st res.1 res.2 := by
  refine sk_headi .int (by decide) rfl (Nat.le_of_ble_eq_true rfl) ?_
  intro p e s m args below meth c Q hx hb hml hown hts0 hnw hret ls hl hw
  have hts : ∀ w ∈ TB, w.before args s = true := fun w h => hts0 w (List.mem_cons_of_mem _ h)
  have hown : s.vm.findClass R_M = some m.cls := hown
  have hl : lv_has ls 2 [(0, .ref (a 0)), (1, .int v1)] := hl
  unfold M_letter at h
  refine lv_iload_n hx hb d_M_letter_0 rfl (lv_at hl 1 rfl) ?_
  refine lv_bipush (v := 32) hx hb d_M_letter_1 (by decide) ?_
  refine lv_bipush (v := 126) hx hb d_M_letter_3 (by decide) ?_
  refine sk_callSi (As := [.int v1, .int (32 : Int32), .int (126 : Int32)]) (rest := []) ⟨hx, hb, hml, hown, hts⟩ hw hnw hok (c_M_in hok rfl) (cw_M_135 hts hnw (by decide)) rfl hl.1 rfl (Nat.le_of_ble_eq_true rfl) d_M_letter_5 (fun H locs hw => ?_)
  refine lv_if_ne (tgt := 13) hx hb d_M_letter_8 (by decide) (fun c_8 => ?_) (fun c_8 => ?_)
  · have h := (if_neg c_8).symm.trans h
    refine lv_aload_n hx hb d_M_letter_13 rfl (lv_at hl 0 rfl) ?_
    refine gf_M_146 hx hb hts hnw hown hw d_M_letter_14 ?_
    refine lv_bipush (v := 60) hx hb d_M_letter_17 (by decide) ?_
    refine lv_icmp_ne (tgt := 25) hx hb d_M_letter_19 (by decide) (fun c_19 => ?_) (fun c_19 => ?_)
    · have h := (if_neg c_19).symm.trans h
      refine lv_aload_n hx hb d_M_letter_25 rfl (lv_at hl 0 rfl) ?_
      refine gf_M_66 hx hb hts hnw hown hw d_M_letter_26 ?_
      refine lv_aload_n hx hb d_M_letter_29 rfl (lv_at hl 0 rfl) ?_
      refine gf_M_146 hx hb hts hnw hown hw d_M_letter_30 ?_
      refine lv_iload_n hx hb d_M_letter_33 rfl (lv_at hl 1 rfl) ?_
      obtain ⟨st34, g_34, e_34, h⟩ := sk_wI_some h
      refine as_M18 hx hb hw g_34 e_34 d_M_letter_34 (fun H locs hw => ?_)
      refine lv_aload_n hx hb d_M_letter_35 rfl (lv_at hl 0 rfl) ?_
      refine lv_dup hx hb d_M_letter_36 rfl ?_
      refine gf_M_146 hx hb hts hnw hown hw d_M_letter_37 ?_
      refine lv_iconst (v := 1) hx hb d_M_letter_40 (by decide) ?_
      refine lv_iadd hx hb d_M_letter_41 ?_
      obtain ⟨st42, e_42, h⟩ := sk_fI_some h
      refine pf_M_146 hx hb hts hnw hown hw e_42 d_M_letter_42 (fun H locs hw => ?_)
      refine lv_aload_n hx hb d_M_letter_45 rfl (lv_at hl 0 rfl) ?_
      refine gf_M_146 hx hb hts hnw hown hw d_M_letter_46 ?_
      exact hret _ _ _ _ _ _ (sk_p1 h) (sk_p2 h) (vp_nar_int _) hw d_M_letter_49
    · have h := (if_pos c_19).symm.trans h
      refine lv_bipush (v := -3) hx hb d_M_letter_22 (by decide) ?_
      exact hret _ _ _ _ _ _ (sk_p1 h) (sk_p2 h) (vp_nar_int _) hw d_M_letter_24
  · have h := (if_pos c_8).symm.trans h
    refine lv_iconst (v := -1) hx hb d_M_letter_11 (by decide) ?_
    exact hret _ _ _ _ _ _ (sk_p1 h) (sk_p2 h) (vp_nar_int _) hw d_M_letter_12
set_option maxHeartbeats 4000000 in
set_option maxRecDepth 100000 in
theorem c_M_partW {l : Launch} {D : va_G} {A : Nat → Prop} {a : Nat → Nat} {cI cZ : ClassId} {nw : State → Prop} {N : Nat} {st : sk_M} {res : sk_M} (hok : sk_ok A nw) (h : M_partW N st = some res) : sk_Cv l y_M_partW w_M_partW rm_M_partW D (tyM cI cZ) A (ceM a cI cZ) nw [.ref (a 0)] st res := by
  refine sk_headv (by decide) rfl (Nat.le_of_ble_eq_true rfl) ?_
  intro p e s m args below meth c Q hx hb hml hown hts0 hnw hret ls hl hw
  have hts : ∀ w ∈ TB, w.before args s = true := fun w h => hts0 w (List.mem_cons_of_mem _ h)
  have hown : s.vm.findClass R_M = some m.cls := hown
  have hl : lv_has ls 3 [(0, .ref (a 0))] := hl
  unfold M_partW at h
  refine lv_aload_n hx hb d_M_partW_0 rfl (lv_at hl 0 rfl) ?_
  refine lv_iconst (v := 0) hx hb d_M_partW_1 (by decide) ?_
  obtain ⟨st2, e_2, h⟩ := sk_fI_some h
  refine pf_M_149 hx hb hts hnw hown hw e_2 d_M_partW_2 (fun H locs hw => ?_)
  refine lv_iconst (v := 0) hx hb d_M_partW_5 (by decide) ?_
  refine lv_istore_n (lv' := [(1, .int (0 : Int32)), (0, .ref (a 0))]) hx hb d_M_partW_6 rfl hl (by decide) rfl (fun ls hl => ?_)
  refine lv_iconst (v := 0) hx hb d_M_partW_7 (by decide) ?_
  refine lv_istore_n (lv' := [(2, .int (0 : Int32)), (1, .int (0 : Int32)), (0, .ref (a 0))]) hx hb d_M_partW_8 rfl hl (by decide) rfl (fun ls hl => ?_)
  refine sk_lp_run (G := fun (z : sk_M × Int32 × Int32) => ∀ (H : Heap) (locs : List Loc) (ls : Array Slot), sk_w D (tyM cI cZ) A (ceM a cI cZ) s z.1 H locs → lv_has ls 3 [(0, .ref (a 0)), (1, .int z.2.1), (2, .int z.2.2)] → W p l e rm_M_partW s m args below meth c H locs 0 0 Q (F0 m 9 ls [])) ?_ N _ h _ _ _ hw (lv_sub hl [2, 1, 0] rfl)
  rintro self9 ⟨st, v1, v2⟩ hself9 h H locs ls hw hl
  unfold M_partW_L9 at h
  refine lv_iload_n hx hb d_M_partW_9 rfl (lv_at hl 2 rfl) ?_
  refine lv_aload_n hx hb d_M_partW_10 rfl (lv_at hl 0 rfl) ?_
  refine gf_M_146 hx hb hts hnw hown hw d_M_partW_11 ?_
  refine lv_icmp_gt (tgt := 79) hx hb d_M_partW_14 (by decide) (fun c_14 => ?_) (fun c_14 => ?_)
  · have h := (if_pos c_14).symm.trans h
    exact hret _ _ _ _ _ (Option.some.inj h) hw d_M_partW_79
  · have h := (if_neg c_14).symm.trans h
    refine lv_iload_n hx hb d_M_partW_17 rfl (lv_at hl 2 rfl) ?_
    refine lv_aload_n hx hb d_M_partW_18 rfl (lv_at hl 0 rfl) ?_
    refine gf_M_146 hx hb hts hnw hown hw d_M_partW_19 ?_
    have hJ39 : ∀ (st : sk_M) (v1 : Int32) (v2 : Int32) (H : Heap) (locs : List Loc) (ls : Array Slot), M_partW_J39 N self9 st v1 v2 = some res → sk_w D (tyM cI cZ) A (ceM a cI cZ) s st H locs → lv_has ls 3 [(0, .ref (a 0)), (1, .int v1), (2, .int v2)] → W p l e rm_M_partW s m args below meth c H locs 0 0 Q (F0 m 39 ls []) := by
      intro st v1 v2 H locs ls h hw hl
      unfold M_partW_J39 at h
      refine lv_aload_n hx hb d_M_partW_39 rfl (lv_at hl 0 rfl) ?_
      refine gf_M_102 hx hb hts hnw hown hw d_M_partW_40 ?_
      refine lv_aload_n hx hb d_M_partW_43 rfl (lv_at hl 0 rfl) ?_
      refine gf_M_149 hx hb hts hnw hown hw d_M_partW_44 ?_
      refine lv_iload_n hx hb d_M_partW_47 rfl (lv_at hl 1 rfl) ?_
      obtain ⟨st48, g_48, e_48, h⟩ := sk_wI_some h
      refine as_M30 hx hb hw g_48 e_48 d_M_partW_48 (fun H locs hw => ?_)
      refine lv_aload_n hx hb d_M_partW_49 rfl (lv_at hl 0 rfl) ?_
      refine gf_M_105 hx hb hts hnw hown hw d_M_partW_50 ?_
      refine lv_aload_n hx hb d_M_partW_53 rfl (lv_at hl 0 rfl) ?_
      refine gf_M_149 hx hb hts hnw hown hw d_M_partW_54 ?_
      refine lv_iload_n hx hb d_M_partW_57 rfl (lv_at hl 2 rfl) ?_
      obtain ⟨st58, g_58, e_58, h⟩ := sk_wI_some h
      refine as_M31 hx hb hw g_58 e_58 d_M_partW_58 (fun H locs hw => ?_)
      refine lv_aload_n hx hb d_M_partW_59 rfl (lv_at hl 0 rfl) ?_
      refine lv_dup hx hb d_M_partW_60 rfl ?_
      refine gf_M_149 hx hb hts hnw hown hw d_M_partW_61 ?_
      refine lv_iconst (v := 1) hx hb d_M_partW_64 (by decide) ?_
      refine lv_iadd hx hb d_M_partW_65 ?_
      obtain ⟨st66, e_66, h⟩ := sk_fI_some h
      refine pf_M_149 hx hb hts hnw hown hw e_66 d_M_partW_66 (fun H locs hw => ?_)
      refine lv_iload_n hx hb d_M_partW_69 rfl (lv_at hl 2 rfl) ?_
      refine lv_iconst (v := 1) hx hb d_M_partW_70 (by decide) ?_
      refine lv_iadd hx hb d_M_partW_71 ?_
      refine lv_istore_n (lv' := [(1, .int (v2 + (1 : Int32))), (0, .ref (a 0)), (2, .int v2)]) hx hb d_M_partW_72 rfl hl (by decide) rfl (fun ls hl => ?_)
      refine lv_iinc (v := v2 + 1) (lv' := [(2, .int (v2 + 1)), (1, .int (v2 + (1 : Int32))), (0, .ref (a 0))]) hx hb d_M_partW_73 hl (k := 2) rfl rfl (by decide) rfl (fun ls hl => ?_)
      refine lv_goto (tgt := 9) hx hb d_M_partW_76 (by decide) ?_
      exact hself9 (st66, (v2 + (1 : Int32)), (v2 + 1)) h _ _ _ hw (lv_sub hl [2, 1, 0] rfl)
    refine lv_icmp_ge (tgt := 39) hx hb d_M_partW_22 (by decide) (fun c_22 => ?_) (fun c_22 => ?_)
    · have h := (if_pos c_22).symm.trans h
      exact hJ39 _ _ _ _ _ _ h hw (lv_sub hl [0, 1, 2] rfl)
    · have h := (if_neg c_22).symm.trans h
      refine lv_aload_n hx hb d_M_partW_25 rfl (lv_at hl 0 rfl) ?_
      refine gf_M_66 hx hb hts hnw hown hw d_M_partW_26 ?_
      refine lv_iload_n hx hb d_M_partW_29 rfl (lv_at hl 2 rfl) ?_
      obtain ⟨x30, g_30, e_30, h⟩ := sk_rI_some h
      refine al_M18 hx hb hw g_30 e_30 d_M_partW_30 ?_
      refine lv_bipush (v := 32) hx hb d_M_partW_31 (by decide) ?_
      refine lv_icmp_eq (tgt := 39) hx hb d_M_partW_33 (by decide) (fun c_33 => ?_) (fun c_33 => ?_)
      · have h := (if_pos c_33).symm.trans h
        exact hJ39 _ _ _ _ _ _ h hw (lv_sub hl [0, 1, 2] rfl)
      · have h := (if_neg c_33).symm.trans h
        refine lv_goto (tgt := 73) hx hb d_M_partW_36 (by decide) ?_
        refine lv_iinc (v := v2 + 1) (lv' := [(2, .int (v2 + 1)), (0, .ref (a 0)), (1, .int v1)]) hx hb d_M_partW_73 hl (k := 2) rfl rfl (by decide) rfl (fun ls hl => ?_)
        refine lv_goto (tgt := 9) hx hb d_M_partW_76 (by decide) ?_
        exact hself9 (st, v1, (v2 + 1)) h _ _ _ hw (lv_sub hl [1, 2, 0] rfl)
set_option maxHeartbeats 4000000 in
set_option maxRecDepth 100000 in
theorem c_M_isWord {l : Launch} {D : va_G} {A : Nat → Prop} {a : Nat → Nat} {cI cZ : ClassId} {nw : State → Prop} {N : Nat} {st : sk_M} {v1 : Int32} {v2 : Int64} {res : Int32} (hok : sk_ok A nw) (h : M_isWord N st v1 v2 = some res) : sk_Ci l y_M_isWord w_M_isWord rm_M_isWord D (tyM cI cZ) A (ceM a cI cZ) nw [.ref (a 0), .int v1, .long v2] st res st := by
  refine sk_headi .boolean (by decide) rfl (Nat.le_of_ble_eq_true rfl) ?_
  intro p e s m args below meth c Q hx hb hml hown hts0 hnw hret ls hl hw
  have hts : ∀ w ∈ TB, w.before args s = true := fun w h => hts0 w (List.mem_cons_of_mem _ h)
  have hown : s.vm.findClass R_M = some m.cls := hown
  have hl : lv_has ls 7 [(0, .ref (a 0)), (1, .int v1), (2, .long v2)] := hl
  unfold M_isWord at h
  refine lv_lload_n hx hb d_M_isWord_0 rfl (lv_at hl 2 rfl) ?_
  refine lv_lstore (lv' := [(4, .long v2), (0, .ref (a 0)), (1, .int v1), (2, .long v2)]) hx hb d_M_isWord_1 hl (by decide) rfl (fun ls hl => ?_)
  refine lv_iload_n hx hb d_M_isWord_3 rfl (lv_at hl 2 rfl) ?_
  refine lv_aload_n hx hb d_M_isWord_4 rfl (lv_at hl 1 rfl) ?_
  refine gf_M_149 hx hb hts hnw hown hw d_M_isWord_5 ?_
  refine lv_icmp_lt (tgt := 13) hx hb d_M_isWord_8 (by decide) (fun c_8 => ?_) (fun c_8 => ?_)
  · have h := (if_pos c_8).symm.trans h
    refine lv_aload_n hx hb d_M_isWord_13 rfl (lv_at hl 1 rfl) ?_
    refine gf_M_105 hx hb hts hnw hown hw d_M_isWord_14 ?_
    refine lv_iload_n hx hb d_M_isWord_17 rfl (lv_at hl 2 rfl) ?_
    obtain ⟨x18, g_18, e_18, h⟩ := sk_rI_some h
    refine al_M31 hx hb hw g_18 e_18 d_M_isWord_18 ?_
    refine lv_iconst (v := 1) hx hb d_M_isWord_19 (by decide) ?_
    refine lv_isub hx hb d_M_isWord_20 ?_
    refine lv_istore (lv' := [(6, .int (x18 - (1 : Int32))), (4, .long v2), (0, .ref (a 0)), (1, .int v1), (2, .long v2)]) hx hb d_M_isWord_21 hl (by decide) rfl (fun ls hl => ?_)
    have hJ68 : ∀ (v1 : Int32) (v4 : Int64) (H : Heap) (locs : List Loc) (ls : Array Slot), M_isWord_J68 N st v1 v4 = some res → sk_w D (tyM cI cZ) A (ceM a cI cZ) s st H locs → lv_has ls 7 [(0, .ref (a 0)), (1, .int v1), (4, .long v4)] → W p l e rm_M_isWord s m args below meth c H locs 0 0 Q (F0 m 68 ls []) := by
      intro v1 v4 H locs ls h hw hl
      unfold M_isWord_J68 at h
      refine lv_lload hx hb d_M_isWord_68 (lv_at hl 2 rfl) ?_
      refine lv_lconst (v := 0) hx hb d_M_isWord_70 (by decide) ?_
      refine W.lcmp hx hb d_M_isWord_71 ?_
      refine lv_if_ne (tgt := 94) hx hb d_M_isWord_72 (by decide) (fun c_72 => ?_) (fun c_72 => ?_)
      · have h := (if_neg c_72).symm.trans h
        refine lv_iconst (v := 0) hx hb d_M_isWord_94 (by decide) ?_
        exact hret _ _ _ _ _ _ (Option.some.inj h) rfl rfl hw d_M_isWord_95
      · have h := (if_pos c_72).symm.trans h
        refine lv_aload_n hx hb d_M_isWord_75 rfl (lv_at hl 0 rfl) ?_
        refine gf_M_105 hx hb hts hnw hown hw d_M_isWord_76 ?_
        refine lv_iload_n hx hb d_M_isWord_79 rfl (lv_at hl 1 rfl) ?_
        obtain ⟨x80, g_80, e_80, h⟩ := sk_rI_some h
        refine al_M31 hx hb hw g_80 e_80 d_M_isWord_80 ?_
        refine lv_aload_n hx hb d_M_isWord_81 rfl (lv_at hl 0 rfl) ?_
        refine gf_M_102 hx hb hts hnw hown hw d_M_isWord_82 ?_
        refine lv_iload_n hx hb d_M_isWord_85 rfl (lv_at hl 1 rfl) ?_
        obtain ⟨x86, g_86, e_86, h⟩ := sk_rI_some h
        refine al_M30 hx hb hw g_86 e_86 d_M_isWord_86 ?_
        refine lv_icmp_le (tgt := 94) hx hb d_M_isWord_87 (by decide) (fun c_87 => ?_) (fun c_87 => ?_)
        · have h := (if_pos c_87).symm.trans h
          refine lv_iconst (v := 0) hx hb d_M_isWord_94 (by decide) ?_
          exact hret _ _ _ _ _ _ (Option.some.inj h) rfl rfl hw d_M_isWord_95
        · have h := (if_neg c_87).symm.trans h
          refine lv_iconst (v := 1) hx hb d_M_isWord_90 (by decide) ?_
          refine lv_goto (tgt := 95) hx hb d_M_isWord_91 (by decide) ?_
          exact hret _ _ _ _ _ _ (Option.some.inj h) rfl rfl hw d_M_isWord_95
    refine sk_lp_run (G := fun (z : Int32 × Int64 × Int32) => ∀ (H : Heap) (locs : List Loc) (ls : Array Slot), sk_w D (tyM cI cZ) A (ceM a cI cZ) s st H locs → lv_has ls 7 [(0, .ref (a 0)), (1, .int z.1), (4, .long z.2.1), (6, .int z.2.2)] → W p l e rm_M_isWord s m args below meth c H locs 0 0 Q (F0 m 23 ls [])) ?_ N _ h _ _ _ hw (lv_sub hl [2, 3, 1, 0] rfl)
    rintro self23 ⟨v1, v4, v6⟩ hself23 h H locs ls hw hl
    unfold M_isWord_L23 at h
    refine lv_iload hx hb d_M_isWord_23 (lv_at hl 3 rfl) ?_
    refine lv_aload_n hx hb d_M_isWord_25 rfl (lv_at hl 0 rfl) ?_
    refine gf_M_102 hx hb hts hnw hown hw d_M_isWord_26 ?_
    refine lv_iload_n hx hb d_M_isWord_29 rfl (lv_at hl 1 rfl) ?_
    obtain ⟨x30, g_30, e_30, h⟩ := sk_rI_some h
    refine al_M30 hx hb hw g_30 e_30 d_M_isWord_30 ?_
    refine lv_icmp_lt (tgt := 68) hx hb d_M_isWord_31 (by decide) (fun c_31 => ?_) (fun c_31 => ?_)
    · have h := (if_pos c_31).symm.trans h
      exact hJ68 _ _ _ _ _ h hw (lv_sub hl [0, 1, 2] rfl)
    · have h := (if_neg c_31).symm.trans h
      refine lv_aload_n hx hb d_M_isWord_34 rfl (lv_at hl 0 rfl) ?_
      refine gf_M_66 hx hb hts hnw hown hw d_M_isWord_35 ?_
      refine lv_iload hx hb d_M_isWord_38 (lv_at hl 3 rfl) ?_
      obtain ⟨x40, g_40, e_40, h⟩ := sk_rI_some h
      refine al_M18 hx hb hw g_40 e_40 d_M_isWord_40 ?_
      refine lv_i2l hx hb d_M_isWord_41 rfl ?_
      refine lv_lload hx hb d_M_isWord_42 (lv_at hl 2 rfl) ?_
      refine lv_ldc2 (v := 128) hx hb hown (hts _ kl_M_152) d_M_isWord_44 ?_
      refine lv_lrem hx hb d_M_isWord_47 (by decide) ?_
      refine W.lcmp hx hb d_M_isWord_48 ?_
      refine lv_if_eq (tgt := 54) hx hb d_M_isWord_49 (by decide) (fun c_49 => ?_) (fun c_49 => ?_)
      · have h := (if_pos c_49).symm.trans h
        refine lv_lload hx hb d_M_isWord_54 (lv_at hl 2 rfl) ?_
        refine lv_ldc2 (v := 128) hx hb hown (hts _ kl_M_152) d_M_isWord_56 ?_
        refine lv_ldiv hx hb d_M_isWord_59 (by decide) ?_
        refine lv_lstore (lv' := [(4, .long (v4 / (128 : Int64))), (0, .ref (a 0)), (1, .int v1), (6, .int v6)]) hx hb d_M_isWord_60 hl (by decide) rfl (fun ls hl => ?_)
        refine lv_iinc (v := v6 + (-1)) (lv' := [(6, .int (v6 + (-1))), (4, .long (v4 / (128 : Int64))), (0, .ref (a 0)), (1, .int v1)]) hx hb d_M_isWord_62 hl (k := 3) rfl rfl (by decide) rfl (fun ls hl => ?_)
        refine lv_goto (tgt := 23) hx hb d_M_isWord_65 (by decide) ?_
        exact hself23 (v1, (v4 / (128 : Int64)), (v6 + (-1))) h _ _ _ hw (lv_sub hl [2, 3, 1, 0] rfl)
      · have h := (if_neg c_49).symm.trans h
        refine lv_iconst (v := 0) hx hb d_M_isWord_52 (by decide) ?_
        exact hret _ _ _ _ _ _ (Option.some.inj h) rfl rfl hw d_M_isWord_53
  · have h := (if_neg c_8).symm.trans h
    refine lv_iconst (v := 0) hx hb d_M_isWord_11 (by decide) ?_
    exact hret _ _ _ _ _ _ (Option.some.inj h) rfl rfl hw d_M_isWord_12
set_option maxHeartbeats 4000000 in
set_option maxRecDepth 100000 in
theorem c_M_isPattern {l : Launch} {D : va_G} {A : Nat → Prop} {a : Nat → Nat} {cI cZ : ClassId} {nw : State → Prop} {N : Nat} {st : sk_M} {v1 : Int32} {v2 : Int32} {res : Int32} (hok : sk_ok A nw) (h : M_isPattern N st v1 v2 = some res) : sk_Ci l y_M_isPattern w_M_isPattern rm_M_isPattern D (tyM cI cZ) A (ceM a cI cZ) nw [.ref (a 0), .int v1, .int v2] st res st := by
  refine sk_headi .boolean (by decide) rfl (Nat.le_of_ble_eq_true rfl) ?_
  intro p e s m args below meth c Q hx hb hml hown hts0 hnw hret ls hl hw
  have hts : ∀ w ∈ TB, w.before args s = true := fun w h => hts0 w (List.mem_cons_of_mem _ h)
  have hown : s.vm.findClass R_M = some m.cls := hown
  have hl : lv_has ls 4 [(0, .ref (a 0)), (1, .int v1), (2, .int v2)] := hl
  unfold M_isPattern at h
  refine lv_iload_n hx hb d_M_isPattern_0 rfl (lv_at hl 1 rfl) ?_
  refine lv_aload_n hx hb d_M_isPattern_1 rfl (lv_at hl 0 rfl) ?_
  refine gf_M_149 hx hb hts hnw hown hw d_M_isPattern_2 ?_
  refine lv_icmp_ge (tgt := 25) hx hb d_M_isPattern_5 (by decide) (fun c_5 => ?_) (fun c_5 => ?_)
  · have h := (if_pos c_5).symm.trans h
    refine lv_iconst (v := 0) hx hb d_M_isPattern_25 (by decide) ?_
    exact hret _ _ _ _ _ _ (Option.some.inj h) rfl rfl hw d_M_isPattern_26
  · have h := (if_neg c_5).symm.trans h
    refine lv_aload_n hx hb d_M_isPattern_8 rfl (lv_at hl 0 rfl) ?_
    refine gf_M_105 hx hb hts hnw hown hw d_M_isPattern_9 ?_
    refine lv_iload_n hx hb d_M_isPattern_12 rfl (lv_at hl 1 rfl) ?_
    obtain ⟨x13, g_13, e_13, h⟩ := sk_rI_some h
    refine al_M31 hx hb hw g_13 e_13 d_M_isPattern_13 ?_
    refine lv_iload_n hx hb d_M_isPattern_14 rfl (lv_at hl 2 rfl) ?_
    refine lv_isub hx hb d_M_isPattern_15 ?_
    refine lv_aload_n hx hb d_M_isPattern_16 rfl (lv_at hl 0 rfl) ?_
    refine gf_M_102 hx hb hts hnw hown hw d_M_isPattern_17 ?_
    refine lv_iload_n hx hb d_M_isPattern_20 rfl (lv_at hl 1 rfl) ?_
    obtain ⟨x21, g_21, e_21, h⟩ := sk_rI_some h
    refine al_M30 hx hb hw g_21 e_21 d_M_isPattern_21 ?_
    refine lv_icmp_gt (tgt := 27) hx hb d_M_isPattern_22 (by decide) (fun c_22 => ?_) (fun c_22 => ?_)
    · have h := (if_pos c_22).symm.trans h
      refine lv_aload_n hx hb d_M_isPattern_27 rfl (lv_at hl 0 rfl) ?_
      refine gf_M_102 hx hb hts hnw hown hw d_M_isPattern_28 ?_
      refine lv_iload_n hx hb d_M_isPattern_31 rfl (lv_at hl 1 rfl) ?_
      obtain ⟨x32, g_32, e_32, h⟩ := sk_rI_some h
      refine al_M30 hx hb hw g_32 e_32 d_M_isPattern_32 ?_
      refine lv_istore_n (lv' := [(3, .int x32), (0, .ref (a 0)), (1, .int v1), (2, .int v2)]) hx hb d_M_isPattern_33 rfl hl (by decide) rfl (fun ls hl => ?_)
      refine sk_lp_run (G := fun (z : Int32 × Int32 × Int32) => ∀ (H : Heap) (locs : List Loc) (ls : Array Slot), sk_w D (tyM cI cZ) A (ceM a cI cZ) s st H locs → lv_has ls 4 [(0, .ref (a 0)), (1, .int z.1), (2, .int z.2.1), (3, .int z.2.2)] → W p l e rm_M_isPattern s m args below meth c H locs 0 0 Q (F0 m 34 ls [])) ?_ N _ h _ _ _ hw (lv_sub hl [1, 2, 3, 0] rfl)
      rintro self34 ⟨v1, v2, v3⟩ hself34 h H locs ls hw hl
      unfold M_isPattern_L34 at h
      refine lv_iload_n hx hb d_M_isPattern_34 rfl (lv_at hl 3 rfl) ?_
      refine lv_aload_n hx hb d_M_isPattern_35 rfl (lv_at hl 0 rfl) ?_
      refine gf_M_105 hx hb hts hnw hown hw d_M_isPattern_36 ?_
      refine lv_iload_n hx hb d_M_isPattern_39 rfl (lv_at hl 1 rfl) ?_
      obtain ⟨x40, g_40, e_40, h⟩ := sk_rI_some h
      refine al_M31 hx hb hw g_40 e_40 d_M_isPattern_40 ?_
      refine lv_iload_n hx hb d_M_isPattern_41 rfl (lv_at hl 2 rfl) ?_
      refine lv_isub hx hb d_M_isPattern_42 ?_
      refine lv_icmp_ge (tgt := 87) hx hb d_M_isPattern_43 (by decide) (fun c_43 => ?_) (fun c_43 => ?_)
      · have h := (if_pos c_43).symm.trans h
        refine lv_iconst (v := 1) hx hb d_M_isPattern_87 (by decide) ?_
        exact hret _ _ _ _ _ _ (Option.some.inj h) rfl rfl hw d_M_isPattern_88
      · have h := (if_neg c_43).symm.trans h
        refine lv_aload_n hx hb d_M_isPattern_46 rfl (lv_at hl 0 rfl) ?_
        refine gf_M_66 hx hb hts hnw hown hw d_M_isPattern_47 ?_
        refine lv_iload_n hx hb d_M_isPattern_50 rfl (lv_at hl 3 rfl) ?_
        obtain ⟨x51, g_51, e_51, h⟩ := sk_rI_some h
        refine al_M18 hx hb hw g_51 e_51 d_M_isPattern_51 ?_
        refine lv_bipush (v := 59) hx hb d_M_isPattern_52 (by decide) ?_
        refine lv_icmp_eq (tgt := 79) hx hb d_M_isPattern_54 (by decide) (fun c_54 => ?_) (fun c_54 => ?_)
        · have h := (if_pos c_54).symm.trans h
          refine lv_iconst (v := 0) hx hb d_M_isPattern_79 (by decide) ?_
          exact hret _ _ _ _ _ _ (Option.some.inj h) rfl rfl hw d_M_isPattern_80
        · have h := (if_neg c_54).symm.trans h
          refine lv_aload_n hx hb d_M_isPattern_57 rfl (lv_at hl 0 rfl) ?_
          refine gf_M_66 hx hb hts hnw hown hw d_M_isPattern_58 ?_
          refine lv_iload_n hx hb d_M_isPattern_61 rfl (lv_at hl 3 rfl) ?_
          obtain ⟨x62, g_62, e_62, h⟩ := sk_rI_some h
          refine al_M18 hx hb hw g_62 e_62 d_M_isPattern_62 ?_
          refine lv_bipush (v := 123) hx hb d_M_isPattern_63 (by decide) ?_
          refine lv_icmp_eq (tgt := 79) hx hb d_M_isPattern_65 (by decide) (fun c_65 => ?_) (fun c_65 => ?_)
          · have h := (if_pos c_65).symm.trans h
            refine lv_iconst (v := 0) hx hb d_M_isPattern_79 (by decide) ?_
            exact hret _ _ _ _ _ _ (Option.some.inj h) rfl rfl hw d_M_isPattern_80
          · have h := (if_neg c_65).symm.trans h
            refine lv_aload_n hx hb d_M_isPattern_68 rfl (lv_at hl 0 rfl) ?_
            refine gf_M_66 hx hb hts hnw hown hw d_M_isPattern_69 ?_
            refine lv_iload_n hx hb d_M_isPattern_72 rfl (lv_at hl 3 rfl) ?_
            obtain ⟨x73, g_73, e_73, h⟩ := sk_rI_some h
            refine al_M18 hx hb hw g_73 e_73 d_M_isPattern_73 ?_
            refine lv_bipush (v := 125) hx hb d_M_isPattern_74 (by decide) ?_
            refine lv_icmp_ne (tgt := 81) hx hb d_M_isPattern_76 (by decide) (fun c_76 => ?_) (fun c_76 => ?_)
            · have h := (if_neg c_76).symm.trans h
              refine lv_iinc (v := v3 + 1) (lv' := [(3, .int (v3 + 1)), (0, .ref (a 0)), (1, .int v1), (2, .int v2)]) hx hb d_M_isPattern_81 hl (k := 3) rfl rfl (by decide) rfl (fun ls hl => ?_)
              refine lv_goto (tgt := 34) hx hb d_M_isPattern_84 (by decide) ?_
              exact hself34 (v1, v2, (v3 + 1)) h _ _ _ hw (lv_sub hl [1, 2, 3, 0] rfl)
            · have h := (if_pos c_76).symm.trans h
              refine lv_iconst (v := 0) hx hb d_M_isPattern_79 (by decide) ?_
              exact hret _ _ _ _ _ _ (Option.some.inj h) rfl rfl hw d_M_isPattern_80
    · have h := (if_neg c_22).symm.trans h
      refine lv_iconst (v := 0) hx hb d_M_isPattern_25 (by decide) ?_
      exact hret _ _ _ _ _ _ (Option.some.inj h) rfl rfl hw d_M_isPattern_26
set_option maxHeartbeats 4000000 in
set_option maxRecDepth 100000 in
theorem c_M_code {l : Launch} {D : va_G} {A : Nat → Prop} {a : Nat → Nat} {cI cZ : ClassId} {nw : State → Prop} {st : sk_M} {v0 : Int64} {v2 : Int32} {res : Int64} (hok : sk_ok A nw) (h : M_code v0 v2 = res) : sk_Cl l y_M_code w_M_code rm_M_code D (tyM cI cZ) A (ceM a cI cZ) nw [.long v0, .int v2] st res st := by
  refine sk_headl (by decide) rfl (Nat.le_of_ble_eq_true rfl) ?_
  intro p e s m args below meth c Q hx hb hml hown hts0 hnw hret ls hl hw
  have hts : ∀ w ∈ TB, w.before args s = true := fun w h => hts0 w (List.mem_cons_of_mem _ h)
  have hown : s.vm.findClass R_M = some m.cls := hown
  have hl : lv_has ls 3 [(0, .long v0), (2, .int v2)] := hl
  unfold M_code at h
  refine lv_lload_n hx hb d_M_code_0 rfl (lv_at hl 0 rfl) ?_
  refine lv_ldc2 (v := 128) hx hb hown (hts _ kl_M_152) d_M_code_1 ?_
  refine lv_lmul hx hb d_M_code_4 ?_
  refine lv_iload_n hx hb d_M_code_5 rfl (lv_at hl 1 rfl) ?_
  refine lv_i2l hx hb d_M_code_6 rfl ?_
  refine lv_ladd hx hb d_M_code_7 ?_
  exact hret _ _ _ _ _ _ h rfl hw d_M_code_8
set_option maxHeartbeats 4000000 in
set_option maxRecDepth 100000 in
theorem c_M_fourOf {l : Launch} {D : va_G} {A : Nat → Prop} {a : Nat → Nat} {cI cZ : ClassId} {nw : State → Prop} {st : sk_M} {v0 : Int32} {v1 : Int32} {v2 : Int32} {v3 : Int32} {res : Int64} (hok : sk_ok A nw) (h : M_fourOf v0 v1 v2 v3 = res) : sk_Cl l y_M_fourOf w_M_fourOf rm_M_fourOf D (tyM cI cZ) A (ceM a cI cZ) nw [.int v0, .int v1, .int v2, .int v3] st res st := by
  refine sk_headl (by decide) rfl (Nat.le_of_ble_eq_true rfl) ?_
  intro p e s m args below meth c Q hx hb hml hown hts0 hnw hret ls hl hw
  have hts : ∀ w ∈ TB, w.before args s = true := fun w h => hts0 w (List.mem_cons_of_mem _ h)
  have hown : s.vm.findClass R_M = some m.cls := hown
  have hl : lv_has ls 4 [(0, .int v0), (1, .int v1), (2, .int v2), (3, .int v3)] := hl
  unfold M_fourOf at h
  refine lv_iload_n hx hb d_M_fourOf_0 rfl (lv_at hl 0 rfl) ?_
  refine lv_i2l hx hb d_M_fourOf_1 rfl ?_
  refine lv_iload_n hx hb d_M_fourOf_2 rfl (lv_at hl 1 rfl) ?_
  refine sk_callSl (As := [.long v0.toInt64, .int v1]) (rest := []) ⟨hx, hb, hml, hown, hts⟩ hw hnw hok (c_M_code hok rfl) (cw_M_154 hts hnw (by decide)) rfl hl.1 rfl (Nat.le_of_ble_eq_true rfl) d_M_fourOf_3 (fun H locs hw => ?_)
  refine lv_iload_n hx hb d_M_fourOf_6 rfl (lv_at hl 2 rfl) ?_
  refine sk_callSl (As := [.long (M_code v0.toInt64 v1), .int v2]) (rest := []) ⟨hx, hb, hml, hown, hts⟩ hw hnw hok (c_M_code hok rfl) (cw_M_154 hts hnw (by decide)) rfl hl.1 rfl (Nat.le_of_ble_eq_true rfl) d_M_fourOf_7 (fun H locs hw => ?_)
  refine lv_iload_n hx hb d_M_fourOf_10 rfl (lv_at hl 3 rfl) ?_
  refine sk_callSl (As := [.long (M_code (M_code v0.toInt64 v1) v2), .int v3]) (rest := []) ⟨hx, hb, hml, hown, hts⟩ hw hnw hok (c_M_code hok rfl) (cw_M_154 hts hnw (by decide)) rfl hl.1 rfl (Nat.le_of_ble_eq_true rfl) d_M_fourOf_11 (fun H locs hw => ?_)
  exact hret _ _ _ _ _ _ h rfl hw d_M_fourOf_14
set_option maxHeartbeats 4000000 in
set_option maxRecDepth 100000 in
theorem c_M_isMembers {l : Launch} {D : va_G} {A : Nat → Prop} {a : Nat → Nat} {cI cZ : ClassId} {nw : State → Prop} {st : sk_M} {v1 : Int32} {res : Int32} (hok : sk_ok A nw) (h : M_isMembers st v1 = some res) : sk_Ci l y_M_isMembers w_M_isMembers rm_M_isMembers D (tyM cI cZ) A (ceM a cI cZ) nw [.ref (a 0), .int v1] st res st := by
  refine sk_headi .boolean (by decide) rfl (Nat.le_of_ble_eq_true rfl) ?_
  intro p e s m args below meth c Q hx hb hml hown hts0 hnw hret ls hl hw
  have hts : ∀ w ∈ TB, w.before args s = true := fun w h => hts0 w (List.mem_cons_of_mem _ h)
  have hown : s.vm.findClass R_M = some m.cls := hown
  have hl : lv_has ls 2 [(0, .ref (a 0)), (1, .int v1)] := hl
  unfold M_isMembers at h
  refine lv_aload_n hx hb d_M_isMembers_0 rfl (lv_at hl 0 rfl) ?_
  refine gf_M_66 hx hb hts hnw hown hw d_M_isMembers_1 ?_
  refine lv_iload_n hx hb d_M_isMembers_4 rfl (lv_at hl 1 rfl) ?_
  obtain ⟨x5, g_5, e_5, h⟩ := sk_rI_some h
  refine al_M18 hx hb hw g_5 e_5 d_M_isMembers_5 ?_
  refine lv_bipush (v := 109) hx hb d_M_isMembers_6 (by decide) ?_
  refine lv_icmp_ne (tgt := 94) hx hb d_M_isMembers_8 (by decide) (fun c_8 => ?_) (fun c_8 => ?_)
  · have h := (if_neg c_8).symm.trans h
    refine lv_iconst (v := 0) hx hb d_M_isMembers_94 (by decide) ?_
    exact hret _ _ _ _ _ _ (Option.some.inj h) rfl rfl hw d_M_isMembers_95
  · have h := (if_pos c_8).symm.trans h
    refine lv_aload_n hx hb d_M_isMembers_11 rfl (lv_at hl 0 rfl) ?_
    refine gf_M_66 hx hb hts hnw hown hw d_M_isMembers_12 ?_
    refine lv_iload_n hx hb d_M_isMembers_15 rfl (lv_at hl 1 rfl) ?_
    refine lv_iconst (v := 1) hx hb d_M_isMembers_16 (by decide) ?_
    refine lv_iadd hx hb d_M_isMembers_17 ?_
    obtain ⟨x18, g_18, e_18, h⟩ := sk_rI_some h
    refine al_M18 hx hb hw g_18 e_18 d_M_isMembers_18 ?_
    refine lv_bipush (v := 101) hx hb d_M_isMembers_19 (by decide) ?_
    refine lv_icmp_ne (tgt := 94) hx hb d_M_isMembers_21 (by decide) (fun c_21 => ?_) (fun c_21 => ?_)
    · have h := (if_neg c_21).symm.trans h
      refine lv_iconst (v := 0) hx hb d_M_isMembers_94 (by decide) ?_
      exact hret _ _ _ _ _ _ (Option.some.inj h) rfl rfl hw d_M_isMembers_95
    · have h := (if_pos c_21).symm.trans h
      refine lv_aload_n hx hb d_M_isMembers_24 rfl (lv_at hl 0 rfl) ?_
      refine gf_M_66 hx hb hts hnw hown hw d_M_isMembers_25 ?_
      refine lv_iload_n hx hb d_M_isMembers_28 rfl (lv_at hl 1 rfl) ?_
      refine lv_iconst (v := 2) hx hb d_M_isMembers_29 (by decide) ?_
      refine lv_iadd hx hb d_M_isMembers_30 ?_
      obtain ⟨x31, g_31, e_31, h⟩ := sk_rI_some h
      refine al_M18 hx hb hw g_31 e_31 d_M_isMembers_31 ?_
      refine lv_bipush (v := 109) hx hb d_M_isMembers_32 (by decide) ?_
      refine lv_icmp_ne (tgt := 94) hx hb d_M_isMembers_34 (by decide) (fun c_34 => ?_) (fun c_34 => ?_)
      · have h := (if_neg c_34).symm.trans h
        refine lv_iconst (v := 0) hx hb d_M_isMembers_94 (by decide) ?_
        exact hret _ _ _ _ _ _ (Option.some.inj h) rfl rfl hw d_M_isMembers_95
      · have h := (if_pos c_34).symm.trans h
        refine lv_aload_n hx hb d_M_isMembers_37 rfl (lv_at hl 0 rfl) ?_
        refine gf_M_66 hx hb hts hnw hown hw d_M_isMembers_38 ?_
        refine lv_iload_n hx hb d_M_isMembers_41 rfl (lv_at hl 1 rfl) ?_
        refine lv_iconst (v := 3) hx hb d_M_isMembers_42 (by decide) ?_
        refine lv_iadd hx hb d_M_isMembers_43 ?_
        obtain ⟨x44, g_44, e_44, h⟩ := sk_rI_some h
        refine al_M18 hx hb hw g_44 e_44 d_M_isMembers_44 ?_
        refine lv_bipush (v := 98) hx hb d_M_isMembers_45 (by decide) ?_
        refine lv_icmp_ne (tgt := 94) hx hb d_M_isMembers_47 (by decide) (fun c_47 => ?_) (fun c_47 => ?_)
        · have h := (if_neg c_47).symm.trans h
          refine lv_iconst (v := 0) hx hb d_M_isMembers_94 (by decide) ?_
          exact hret _ _ _ _ _ _ (Option.some.inj h) rfl rfl hw d_M_isMembers_95
        · have h := (if_pos c_47).symm.trans h
          refine lv_aload_n hx hb d_M_isMembers_50 rfl (lv_at hl 0 rfl) ?_
          refine gf_M_66 hx hb hts hnw hown hw d_M_isMembers_51 ?_
          refine lv_iload_n hx hb d_M_isMembers_54 rfl (lv_at hl 1 rfl) ?_
          refine lv_iconst (v := 4) hx hb d_M_isMembers_55 (by decide) ?_
          refine lv_iadd hx hb d_M_isMembers_56 ?_
          obtain ⟨x57, g_57, e_57, h⟩ := sk_rI_some h
          refine al_M18 hx hb hw g_57 e_57 d_M_isMembers_57 ?_
          refine lv_bipush (v := 101) hx hb d_M_isMembers_58 (by decide) ?_
          refine lv_icmp_ne (tgt := 94) hx hb d_M_isMembers_60 (by decide) (fun c_60 => ?_) (fun c_60 => ?_)
          · have h := (if_neg c_60).symm.trans h
            refine lv_iconst (v := 0) hx hb d_M_isMembers_94 (by decide) ?_
            exact hret _ _ _ _ _ _ (Option.some.inj h) rfl rfl hw d_M_isMembers_95
          · have h := (if_pos c_60).symm.trans h
            refine lv_aload_n hx hb d_M_isMembers_63 rfl (lv_at hl 0 rfl) ?_
            refine gf_M_66 hx hb hts hnw hown hw d_M_isMembers_64 ?_
            refine lv_iload_n hx hb d_M_isMembers_67 rfl (lv_at hl 1 rfl) ?_
            refine lv_iconst (v := 5) hx hb d_M_isMembers_68 (by decide) ?_
            refine lv_iadd hx hb d_M_isMembers_69 ?_
            obtain ⟨x70, g_70, e_70, h⟩ := sk_rI_some h
            refine al_M18 hx hb hw g_70 e_70 d_M_isMembers_70 ?_
            refine lv_bipush (v := 114) hx hb d_M_isMembers_71 (by decide) ?_
            refine lv_icmp_ne (tgt := 94) hx hb d_M_isMembers_73 (by decide) (fun c_73 => ?_) (fun c_73 => ?_)
            · have h := (if_neg c_73).symm.trans h
              refine lv_iconst (v := 0) hx hb d_M_isMembers_94 (by decide) ?_
              exact hret _ _ _ _ _ _ (Option.some.inj h) rfl rfl hw d_M_isMembers_95
            · have h := (if_pos c_73).symm.trans h
              refine lv_aload_n hx hb d_M_isMembers_76 rfl (lv_at hl 0 rfl) ?_
              refine gf_M_66 hx hb hts hnw hown hw d_M_isMembers_77 ?_
              refine lv_iload_n hx hb d_M_isMembers_80 rfl (lv_at hl 1 rfl) ?_
              refine lv_bipush (v := 6) hx hb d_M_isMembers_81 (by decide) ?_
              refine lv_iadd hx hb d_M_isMembers_83 ?_
              obtain ⟨x84, g_84, e_84, h⟩ := sk_rI_some h
              refine al_M18 hx hb hw g_84 e_84 d_M_isMembers_84 ?_
              refine lv_bipush (v := 115) hx hb d_M_isMembers_85 (by decide) ?_
              refine lv_icmp_ne (tgt := 94) hx hb d_M_isMembers_87 (by decide) (fun c_87 => ?_) (fun c_87 => ?_)
              · have h := (if_neg c_87).symm.trans h
                refine lv_iconst (v := 0) hx hb d_M_isMembers_94 (by decide) ?_
                exact hret _ _ _ _ _ _ (Option.some.inj h) rfl rfl hw d_M_isMembers_95
              · have h := (if_pos c_87).symm.trans h
                refine lv_iconst (v := 1) hx hb d_M_isMembers_90 (by decide) ?_
                refine lv_goto (tgt := 95) hx hb d_M_isMembers_91 (by decide) ?_
                exact hret _ _ _ _ _ _ (Option.some.inj h) rfl rfl hw d_M_isMembers_95
set_option maxHeartbeats 4000000 in
set_option maxRecDepth 100000 in
theorem c_M_sortOf {l : Launch} {D : va_G} {A : Nat → Prop} {a : Nat → Nat} {cI cZ : ClassId} {nw : State → Prop} {N : Nat} {st : sk_M} {res : Int32 × sk_M} (hok : sk_ok A nw) (h : M_sortOf N st = some res) : sk_Ci l y_M_sortOf w_M_sortOf rm_M_sortOf D (tyM cI cZ) A (ceM a cI cZ) nw [.ref (a 0)] st res.1 res.2 := by
  refine sk_headi .int (by decide) rfl (Nat.le_of_ble_eq_true rfl) ?_
  intro p e s m args below meth c Q hx hb hml hown hts0 hnw hret ls hl hw
  have hts : ∀ w ∈ TB, w.before args s = true := fun w h => hts0 w (List.mem_cons_of_mem _ h)
  have hown : s.vm.findClass R_M = some m.cls := hown
  have hl : lv_has ls 11 [(0, .ref (a 0))] := hl
  unfold M_sortOf at h
  refine lv_bipush (v := 107) hx hb d_M_sortOf_0 (by decide) ?_
  refine lv_bipush (v := 101) hx hb d_M_sortOf_2 (by decide) ?_
  refine lv_bipush (v := 101) hx hb d_M_sortOf_4 (by decide) ?_
  refine lv_bipush (v := 112) hx hb d_M_sortOf_6 (by decide) ?_
  refine sk_callSl (As := [.int (107 : Int32), .int (101 : Int32), .int (101 : Int32), .int (112 : Int32)]) (rest := []) ⟨hx, hb, hml, hown, hts⟩ hw hnw hok (c_M_fourOf hok rfl) (cw_M_158 hts hnw (by decide)) rfl hl.1 rfl (Nat.le_of_ble_eq_true rfl) d_M_sortOf_8 (fun H locs hw => ?_)
  refine lv_lstore_n (lv' := [(1, .long (M_fourOf (107 : Int32) (101 : Int32) (101 : Int32) (112 : Int32))), (0, .ref (a 0))]) hx hb d_M_sortOf_11 rfl hl (by decide) rfl (fun ls hl => ?_)
  refine lv_bipush (v := 110) hx hb d_M_sortOf_12 (by decide) ?_
  refine lv_bipush (v := 97) hx hb d_M_sortOf_14 (by decide) ?_
  refine lv_bipush (v := 109) hx hb d_M_sortOf_16 (by decide) ?_
  refine lv_bipush (v := 101) hx hb d_M_sortOf_18 (by decide) ?_
  refine sk_callSl (As := [.int (110 : Int32), .int (97 : Int32), .int (109 : Int32), .int (101 : Int32)]) (rest := []) ⟨hx, hb, hml, hown, hts⟩ hw hnw hok (c_M_fourOf hok rfl) (cw_M_158 hts hnw (by decide)) rfl hl.1 rfl (Nat.le_of_ble_eq_true rfl) d_M_sortOf_20 (fun H locs hw => ?_)
  refine lv_bipush (v := 115) hx hb d_M_sortOf_23 (by decide) ?_
  refine sk_callSl (As := [.long (M_fourOf (110 : Int32) (97 : Int32) (109 : Int32) (101 : Int32)), .int (115 : Int32)]) (rest := []) ⟨hx, hb, hml, hown, hts⟩ hw hnw hok (c_M_code hok rfl) (cw_M_154 hts hnw (by decide)) rfl hl.1 rfl (Nat.le_of_ble_eq_true rfl) d_M_sortOf_25 (fun H locs hw => ?_)
  refine lv_lstore_n (lv' := [(3, .long (M_code (M_fourOf (110 : Int32) (97 : Int32) (109 : Int32) (101 : Int32)) (115 : Int32))), (1, .long (M_fourOf (107 : Int32) (101 : Int32) (101 : Int32) (112 : Int32))), (0, .ref (a 0))]) hx hb d_M_sortOf_28 rfl hl (by decide) rfl (fun ls hl => ?_)
  refine lv_lload_n hx hb d_M_sortOf_29 rfl (lv_at hl 1 rfl) ?_
  refine lv_lstore (lv' := [(5, .long (M_fourOf (107 : Int32) (101 : Int32) (101 : Int32) (112 : Int32))), (3, .long (M_code (M_fourOf (110 : Int32) (97 : Int32) (109 : Int32) (101 : Int32)) (115 : Int32))), (1, .long (M_fourOf (107 : Int32) (101 : Int32) (101 : Int32) (112 : Int32))), (0, .ref (a 0))]) hx hb d_M_sortOf_30 hl (by decide) rfl (fun ls hl => ?_)
  refine lv_aload_n hx hb d_M_sortOf_32 rfl (lv_at hl 3 rfl) ?_
  refine lv_iconst (v := 0) hx hb d_M_sortOf_33 (by decide) ?_
  refine lv_lload_n hx hb d_M_sortOf_34 rfl (lv_at hl 2 rfl) ?_
  obtain ⟨x35, q_35, h⟩ := sk_oR_some h
  refine sk_callVi (As := [.int (0 : Int32), .long (M_fourOf (107 : Int32) (101 : Int32) (101 : Int32) (112 : Int32))]) (rest := []) ⟨hx, hb, hml, hown, hts⟩ hw hnw hok (c_M_isWord hok q_35) (cw_M_162 hts hnw (by decide)) (rc_M hw) rfl hl.1 rfl (Nat.le_of_ble_eq_true rfl) d_M_sortOf_35 (fun H locs hw => ?_)
  refine lv_if_eq (tgt := 43) hx hb d_M_sortOf_38 (by decide) (fun c_38 => ?_) (fun c_38 => ?_)
  · have h := (if_pos c_38).symm.trans h
    refine lv_aload_n hx hb d_M_sortOf_43 rfl (lv_at hl 3 rfl) ?_
    refine gf_M_149 hx hb hts hnw hown hw d_M_sortOf_44 ?_
    refine lv_if_eq (tgt := 68) hx hb d_M_sortOf_47 (by decide) (fun c_47 => ?_) (fun c_47 => ?_)
    · have h := (if_pos c_47).symm.trans h
      refine lv_iconst (v := -1) hx hb d_M_sortOf_68 (by decide) ?_
      exact hret _ _ _ _ _ _ (sk_p1 h) (sk_p2 h) (vp_nar_int _) hw d_M_sortOf_69
    · have h := (if_neg c_47).symm.trans h
      refine lv_aload_n hx hb d_M_sortOf_50 rfl (lv_at hl 3 rfl) ?_
      refine gf_M_105 hx hb hts hnw hown hw d_M_sortOf_51 ?_
      refine lv_iconst (v := 0) hx hb d_M_sortOf_54 (by decide) ?_
      obtain ⟨x55, g_55, e_55, h⟩ := sk_rI_some h
      refine al_M31 hx hb hw g_55 e_55 d_M_sortOf_55 ?_
      refine lv_aload_n hx hb d_M_sortOf_56 rfl (lv_at hl 3 rfl) ?_
      refine gf_M_102 hx hb hts hnw hown hw d_M_sortOf_57 ?_
      refine lv_iconst (v := 0) hx hb d_M_sortOf_60 (by decide) ?_
      obtain ⟨x61, g_61, e_61, h⟩ := sk_rI_some h
      refine al_M30 hx hb hw g_61 e_61 d_M_sortOf_61 ?_
      refine lv_isub hx hb d_M_sortOf_62 ?_
      refine lv_bipush (v := 9) hx hb d_M_sortOf_63 (by decide) ?_
      refine lv_icmp_ge (tgt := 70) hx hb d_M_sortOf_65 (by decide) (fun c_65 => ?_) (fun c_65 => ?_)
      · have h := (if_pos c_65).symm.trans h
        refine lv_aload_n hx hb d_M_sortOf_70 rfl (lv_at hl 3 rfl) ?_
        refine gf_M_102 hx hb hts hnw hown hw d_M_sortOf_71 ?_
        refine lv_iconst (v := 0) hx hb d_M_sortOf_74 (by decide) ?_
        obtain ⟨x75, g_75, e_75, h⟩ := sk_rI_some h
        refine al_M30 hx hb hw g_75 e_75 d_M_sortOf_75 ?_
        refine lv_istore (lv' := [(7, .int x75), (5, .long (M_fourOf (107 : Int32) (101 : Int32) (101 : Int32) (112 : Int32))), (3, .long (M_code (M_fourOf (110 : Int32) (97 : Int32) (109 : Int32) (101 : Int32)) (115 : Int32))), (1, .long (M_fourOf (107 : Int32) (101 : Int32) (101 : Int32) (112 : Int32))), (0, .ref (a 0))]) hx hb d_M_sortOf_76 hl (by decide) rfl (fun ls hl => ?_)
        refine lv_aload_n hx hb d_M_sortOf_78 rfl (lv_at hl 4 rfl) ?_
        refine gf_M_105 hx hb hts hnw hown hw d_M_sortOf_79 ?_
        refine lv_iconst (v := 0) hx hb d_M_sortOf_82 (by decide) ?_
        obtain ⟨x83, g_83, e_83, h⟩ := sk_rI_some h
        refine al_M31 hx hb hw g_83 e_83 d_M_sortOf_83 ?_
        refine lv_istore (lv' := [(8, .int x83), (7, .int x75), (5, .long (M_fourOf (107 : Int32) (101 : Int32) (101 : Int32) (112 : Int32))), (3, .long (M_code (M_fourOf (110 : Int32) (97 : Int32) (109 : Int32) (101 : Int32)) (115 : Int32))), (1, .long (M_fourOf (107 : Int32) (101 : Int32) (101 : Int32) (112 : Int32))), (0, .ref (a 0))]) hx hb d_M_sortOf_84 hl (by decide) rfl (fun ls hl => ?_)
        refine lv_iconst (v := 3) hx hb d_M_sortOf_86 (by decide) ?_
        refine lv_istore (lv' := [(9, .int (3 : Int32)), (8, .int x83), (7, .int x75), (5, .long (M_fourOf (107 : Int32) (101 : Int32) (101 : Int32) (112 : Int32))), (3, .long (M_code (M_fourOf (110 : Int32) (97 : Int32) (109 : Int32) (101 : Int32)) (115 : Int32))), (1, .long (M_fourOf (107 : Int32) (101 : Int32) (101 : Int32) (112 : Int32))), (0, .ref (a 0))]) hx hb d_M_sortOf_87 hl (by decide) rfl (fun ls hl => ?_)
        have hJ131 : ∀ (st : sk_M) (v3 : Int64) (v7 : Int32) (v8 : Int32) (H : Heap) (locs : List Loc) (ls : Array Slot), M_sortOf_J131 N st v3 v7 v8 = some res → sk_w D (tyM cI cZ) A (ceM a cI cZ) s st H locs → lv_has ls 11 [(0, .ref (a 0)), (3, .long v3), (7, .int v7), (8, .int v8)] → W p l e rm_M_sortOf s m args below meth c H locs 0 0 Q (F0 m 131 ls []) := by
          intro st v3 v7 v8 H locs ls h hw hl
          unfold M_sortOf_J131 at h
          refine lv_aload_n hx hb d_M_sortOf_131 rfl (lv_at hl 0 rfl) ?_
          refine gf_M_102 hx hb hts hnw hown hw d_M_sortOf_132 ?_
          refine lv_iconst (v := 0) hx hb d_M_sortOf_135 (by decide) ?_
          refine lv_iload hx hb d_M_sortOf_136 (lv_at hl 2 rfl) ?_
          refine lv_iconst (v := 4) hx hb d_M_sortOf_138 (by decide) ?_
          refine lv_iadd hx hb d_M_sortOf_139 ?_
          obtain ⟨st140, g_140, e_140, h⟩ := sk_wI_some h
          refine as_M30 hx hb hw g_140 e_140 d_M_sortOf_140 (fun H locs hw => ?_)
          refine lv_aload_n hx hb d_M_sortOf_141 rfl (lv_at hl 0 rfl) ?_
          refine lv_iconst (v := 0) hx hb d_M_sortOf_142 (by decide) ?_
          refine lv_lload_n hx hb d_M_sortOf_143 rfl (lv_at hl 1 rfl) ?_
          obtain ⟨x144, q_144, h⟩ := sk_oR_some h
          refine sk_callVi (As := [.int (0 : Int32), .long v3]) (rest := []) ⟨hx, hb, hml, hown, hts⟩ hw hnw hok (c_M_isWord hok q_144) (cw_M_162 hts hnw (by decide)) (rc_M hw) rfl hl.1 rfl (Nat.le_of_ble_eq_true rfl) d_M_sortOf_144 (fun H locs hw => ?_)
          refine lv_istore (lv' := [(9, .int x144), (0, .ref (a 0)), (3, .long v3), (7, .int v7), (8, .int v8)]) hx hb d_M_sortOf_147 hl (by decide) rfl (fun ls hl => ?_)
          refine lv_iload hx hb d_M_sortOf_149 (lv_at hl 4 rfl) ?_
          refine lv_iload hx hb d_M_sortOf_151 (lv_at hl 3 rfl) ?_
          refine lv_isub hx hb d_M_sortOf_153 ?_
          refine lv_bipush (v := 11) hx hb d_M_sortOf_154 (by decide) ?_
          have hJ175 : ∀ (st : sk_M) (v7 : Int32) (v9 : Int32) (s0 : Int32) (H : Heap) (locs : List Loc) (ls : Array Slot), M_sortOf_J175 N st v7 v9 s0 = some res → sk_w D (tyM cI cZ) A (ceM a cI cZ) s st H locs → lv_has ls 11 [(0, .ref (a 0)), (7, .int v7), (9, .int v9)] → W p l e rm_M_sortOf s m args below meth c H locs 0 0 Q (F0 m 175 ls [.int s0]) := by
            intro st v7 v9 s0 H locs ls h hw hl
            unfold M_sortOf_J175 at h
            refine lv_istore (lv' := [(10, .int s0), (0, .ref (a 0)), (7, .int v7), (9, .int v9)]) hx hb d_M_sortOf_175 hl (by decide) rfl (fun ls hl => ?_)
            refine lv_aload_n hx hb d_M_sortOf_177 rfl (lv_at hl 1 rfl) ?_
            refine gf_M_102 hx hb hts hnw hown hw d_M_sortOf_178 ?_
            refine lv_iconst (v := 0) hx hb d_M_sortOf_181 (by decide) ?_
            refine lv_iload hx hb d_M_sortOf_182 (lv_at hl 2 rfl) ?_
            obtain ⟨st184, g_184, e_184, h⟩ := sk_wI_some h
            refine as_M30 hx hb hw g_184 e_184 d_M_sortOf_184 (fun H locs hw => ?_)
            refine lv_iload hx hb d_M_sortOf_185 (lv_at hl 3 rfl) ?_
            refine lv_if_eq (tgt := 194) hx hb d_M_sortOf_187 (by decide) (fun c_187 => ?_) (fun c_187 => ?_)
            · have h := (if_pos c_187).symm.trans h
              refine lv_iload hx hb d_M_sortOf_194 (lv_at hl 0 rfl) ?_
              refine lv_if_eq (tgt := 203) hx hb d_M_sortOf_196 (by decide) (fun c_196 => ?_) (fun c_196 => ?_)
              · have h := (if_pos c_196).symm.trans h
                refine lv_iconst (v := -1) hx hb d_M_sortOf_203 (by decide) ?_
                exact hret _ _ _ _ _ _ (sk_p1 h) (sk_p2 h) (vp_nar_int _) hw d_M_sortOf_204
              · have h := (if_neg c_196).symm.trans h
                refine lv_iconst (v := 2) hx hb d_M_sortOf_199 (by decide) ?_
                refine lv_goto (tgt := 204) hx hb d_M_sortOf_200 (by decide) ?_
                exact hret _ _ _ _ _ _ (sk_p1 h) (sk_p2 h) (vp_nar_int _) hw d_M_sortOf_204
            · have h := (if_neg c_187).symm.trans h
              refine lv_iconst (v := 1) hx hb d_M_sortOf_190 (by decide) ?_
              refine lv_goto (tgt := 204) hx hb d_M_sortOf_191 (by decide) ?_
              exact hret _ _ _ _ _ _ (sk_p1 h) (sk_p2 h) (vp_nar_int _) hw d_M_sortOf_204
          have hJ174 : ∀ (st : sk_M) (v7 : Int32) (v9 : Int32) (H : Heap) (locs : List Loc) (ls : Array Slot), M_sortOf_J174 N st v7 v9 = some res → sk_w D (tyM cI cZ) A (ceM a cI cZ) s st H locs → lv_has ls 11 [(0, .ref (a 0)), (7, .int v7), (9, .int v9)] → W p l e rm_M_sortOf s m args below meth c H locs 0 0 Q (F0 m 174 ls []) := by
            intro st v7 v9 H locs ls h hw hl
            unfold M_sortOf_J174 at h
            refine lv_iconst (v := 0) hx hb d_M_sortOf_174 (by decide) ?_
            exact hJ175 _ _ _ _ _ _ _ h hw (lv_sub hl [0, 1, 2] rfl)
          refine lv_icmp_ne (tgt := 174) hx hb d_M_sortOf_156 (by decide) (fun c_156 => ?_) (fun c_156 => ?_)
          · have h := (if_neg c_156).symm.trans h
            exact hJ174 _ _ _ _ _ _ h hw (lv_sub hl [1, 3, 0] rfl)
          · have h := (if_pos c_156).symm.trans h
            refine lv_aload_n hx hb d_M_sortOf_159 rfl (lv_at hl 1 rfl) ?_
            refine lv_iload hx hb d_M_sortOf_160 (lv_at hl 3 rfl) ?_
            refine lv_iconst (v := 4) hx hb d_M_sortOf_162 (by decide) ?_
            refine lv_iadd hx hb d_M_sortOf_163 ?_
            obtain ⟨x164, q_164, h⟩ := sk_oR_some h
            refine sk_callVi (As := [.int (v7 + (4 : Int32))]) (rest := []) ⟨hx, hb, hml, hown, hts⟩ hw hnw hok (c_M_isMembers hok q_164) (cw_M_166 hts hnw (by decide)) (rc_M hw) rfl hl.1 rfl (Nat.le_of_ble_eq_true rfl) d_M_sortOf_164 (fun H locs hw => ?_)
            refine lv_if_eq (tgt := 174) hx hb d_M_sortOf_167 (by decide) (fun c_167 => ?_) (fun c_167 => ?_)
            · have h := (if_pos c_167).symm.trans h
              exact hJ174 _ _ _ _ _ _ h hw (lv_sub hl [1, 3, 0] rfl)
            · have h := (if_neg c_167).symm.trans h
              refine lv_iconst (v := 1) hx hb d_M_sortOf_170 (by decide) ?_
              refine lv_goto (tgt := 175) hx hb d_M_sortOf_171 (by decide) ?_
              exact hJ175 _ _ _ _ _ _ _ h hw (lv_sub hl [1, 3, 0] rfl)
        refine sk_lp_run (G := fun (z : sk_M × Int64 × Int64 × Int32 × Int32 × Int32) => ∀ (H : Heap) (locs : List Loc) (ls : Array Slot), sk_w D (tyM cI cZ) A (ceM a cI cZ) s z.1 H locs → lv_has ls 11 [(0, .ref (a 0)), (3, .long z.2.1), (5, .long z.2.2.1), (7, .int z.2.2.2.1), (8, .int z.2.2.2.2.1), (9, .int z.2.2.2.2.2)] → W p l e rm_M_sortOf s m args below meth c H locs 0 0 Q (F0 m 89 ls [])) ?_ N _ h _ _ _ hw (lv_sub hl [6, 4, 3, 2, 1, 0] rfl)
        rintro self89 ⟨st, v3, v5, v7, v8, v9⟩ hself89 h H locs ls hw hl
        unfold M_sortOf_L89 at h
        refine lv_iload hx hb d_M_sortOf_89 (lv_at hl 5 rfl) ?_
        refine lv_if_lt (tgt := 131) hx hb d_M_sortOf_91 (by decide) (fun c_91 => ?_) (fun c_91 => ?_)
        · have h := (if_pos c_91).symm.trans h
          exact hJ131 _ _ _ _ _ _ _ h hw (lv_sub hl [0, 1, 3, 4] rfl)
        · have h := (if_neg c_91).symm.trans h
          refine lv_aload_n hx hb d_M_sortOf_94 rfl (lv_at hl 0 rfl) ?_
          refine gf_M_66 hx hb hts hnw hown hw d_M_sortOf_95 ?_
          refine lv_iload hx hb d_M_sortOf_98 (lv_at hl 3 rfl) ?_
          refine lv_iload hx hb d_M_sortOf_100 (lv_at hl 5 rfl) ?_
          refine lv_iadd hx hb d_M_sortOf_102 ?_
          obtain ⟨x103, g_103, e_103, h⟩ := sk_rI_some h
          refine al_M18 hx hb hw g_103 e_103 d_M_sortOf_103 ?_
          refine lv_i2l hx hb d_M_sortOf_104 rfl ?_
          refine lv_lload hx hb d_M_sortOf_105 (lv_at hl 2 rfl) ?_
          refine lv_ldc2 (v := 128) hx hb hown (hts _ kl_M_152) d_M_sortOf_107 ?_
          refine lv_lrem hx hb d_M_sortOf_110 (by decide) ?_
          refine W.lcmp hx hb d_M_sortOf_111 ?_
          refine lv_if_eq (tgt := 117) hx hb d_M_sortOf_112 (by decide) (fun c_112 => ?_) (fun c_112 => ?_)
          · have h := (if_pos c_112).symm.trans h
            refine lv_lload hx hb d_M_sortOf_117 (lv_at hl 2 rfl) ?_
            refine lv_ldc2 (v := 128) hx hb hown (hts _ kl_M_152) d_M_sortOf_119 ?_
            refine lv_ldiv hx hb d_M_sortOf_122 (by decide) ?_
            refine lv_lstore (lv' := [(5, .long (v5 / (128 : Int64))), (0, .ref (a 0)), (3, .long v3), (7, .int v7), (8, .int v8), (9, .int v9)]) hx hb d_M_sortOf_123 hl (by decide) rfl (fun ls hl => ?_)
            refine lv_iinc (v := v9 + (-1)) (lv' := [(9, .int (v9 + (-1))), (5, .long (v5 / (128 : Int64))), (0, .ref (a 0)), (3, .long v3), (7, .int v7), (8, .int v8)]) hx hb d_M_sortOf_125 hl (k := 5) rfl rfl (by decide) rfl (fun ls hl => ?_)
            refine lv_goto (tgt := 89) hx hb d_M_sortOf_128 (by decide) ?_
            exact hself89 (st, v3, (v5 / (128 : Int64)), v7, v8, (v9 + (-1))) h _ _ _ hw (lv_sub hl [2, 3, 1, 4, 5, 0] rfl)
          · have h := (if_neg c_112).symm.trans h
            refine lv_iconst (v := -1) hx hb d_M_sortOf_115 (by decide) ?_
            exact hret _ _ _ _ _ _ (sk_p1 h) (sk_p2 h) (vp_nar_int _) hw d_M_sortOf_116
      · have h := (if_neg c_65).symm.trans h
        refine lv_iconst (v := -1) hx hb d_M_sortOf_68 (by decide) ?_
        exact hret _ _ _ _ _ _ (sk_p1 h) (sk_p2 h) (vp_nar_int _) hw d_M_sortOf_69
  · have h := (if_neg c_38).symm.trans h
    refine lv_iconst (v := 0) hx hb d_M_sortOf_41 (by decide) ?_
    exact hret _ _ _ _ _ _ (sk_p1 h) (sk_p2 h) (vp_nar_int _) hw d_M_sortOf_42
set_option maxHeartbeats 4000000 in
set_option maxRecDepth 100000 in
theorem c_M_reads {l : Launch} {D : va_G} {A : Nat → Prop} {a : Nat → Nat} {cI cZ : ClassId} {nw : State → Prop} {N : Nat} {st : sk_M} {v1 : Int32} {res : Int32 × sk_M} (hok : sk_ok A nw) (h : M_reads N st v1 = some res) : sk_Ci l y_M_reads w_M_reads rm_M_reads D (tyM cI cZ) A (ceM a cI cZ) nw [.ref (a 0), .int v1] st res.1 res.2 := by
  refine sk_headi .int (by decide) rfl (Nat.le_of_ble_eq_true rfl) ?_
  intro p e s m args below meth c Q hx hb hml hown hts0 hnw hret ls hl hw
  have hts : ∀ w ∈ TB, w.before args s = true := fun w h => hts0 w (List.mem_cons_of_mem _ h)
  have hown : s.vm.findClass R_M = some m.cls := hown
  have hl : lv_has ls 7 [(0, .ref (a 0)), (1, .int v1)] := hl
  unfold M_reads at h
  refine lv_aload_n hx hb d_M_reads_0 rfl (lv_at hl 0 rfl) ?_
  obtain ⟨x1, st1, q_1, h⟩ := sk_oW_some h
  refine sk_callVi (As := []) (rest := []) ⟨hx, hb, hml, hown, hts⟩ hw hnw hok (c_M_sortOf hok q_1) (cw_M_170 hts hnw (by decide)) (rc_M hw) rfl hl.1 rfl (Nat.le_of_ble_eq_true rfl) d_M_reads_1 (fun H locs hw => ?_)
  refine lv_istore_n (lv' := [(2, .int x1), (0, .ref (a 0)), (1, .int v1)]) hx hb d_M_reads_4 rfl hl (by decide) rfl (fun ls hl => ?_)
  refine lv_iconst (v := 3) hx hb d_M_reads_5 (by decide) ?_
  refine lv_istore_n (lv' := [(3, .int (3 : Int32)), (2, .int x1), (0, .ref (a 0)), (1, .int v1)]) hx hb d_M_reads_6 rfl hl (by decide) rfl (fun ls hl => ?_)
  refine lv_iload_n hx hb d_M_reads_7 rfl (lv_at hl 1 rfl) ?_
  refine lv_if_ge (tgt := 13) hx hb d_M_reads_8 (by decide) (fun c_8 => ?_) (fun c_8 => ?_)
  · have h := (if_pos c_8).symm.trans h
    refine lv_aload_n hx hb d_M_reads_13 rfl (lv_at hl 2 rfl) ?_
    refine lv_iconst (v := 1) hx hb d_M_reads_14 (by decide) ?_
    refine lv_bipush (v := 99) hx hb d_M_reads_15 (by decide) ?_
    refine lv_bipush (v := 108) hx hb d_M_reads_17 (by decide) ?_
    refine lv_bipush (v := 97) hx hb d_M_reads_19 (by decide) ?_
    refine lv_bipush (v := 115) hx hb d_M_reads_21 (by decide) ?_
    refine sk_callSl (As := [.int (99 : Int32), .int (108 : Int32), .int (97 : Int32), .int (115 : Int32)]) (rest := [.int (1 : Int32), .ref (a 0)]) ⟨hx, hb, hml, hown, hts⟩ hw hnw hok (c_M_fourOf hok rfl) (cw_M_158 hts hnw (by decide)) rfl hl.1 rfl (Nat.le_of_ble_eq_true rfl) d_M_reads_23 (fun H locs hw => ?_)
    refine lv_bipush (v := 115) hx hb d_M_reads_26 (by decide) ?_
    refine sk_callSl (As := [.long (M_fourOf (99 : Int32) (108 : Int32) (97 : Int32) (115 : Int32)), .int (115 : Int32)]) (rest := [.int (1 : Int32), .ref (a 0)]) ⟨hx, hb, hml, hown, hts⟩ hw hnw hok (c_M_code hok rfl) (cw_M_154 hts hnw (by decide)) rfl hl.1 rfl (Nat.le_of_ble_eq_true rfl) d_M_reads_28 (fun H locs hw => ?_)
    obtain ⟨x31, q_31, h⟩ := sk_oR_some h
    refine sk_callVi (As := [.int (1 : Int32), .long (M_code (M_fourOf (99 : Int32) (108 : Int32) (97 : Int32) (115 : Int32)) (115 : Int32))]) (rest := []) ⟨hx, hb, hml, hown, hts⟩ hw hnw hok (c_M_isWord hok q_31) (cw_M_162 hts hnw (by decide)) (rc_M hw) rfl hl.1 rfl (Nat.le_of_ble_eq_true rfl) d_M_reads_31 (fun H locs hw => ?_)
    refine lv_if_ne (tgt := 39) hx hb d_M_reads_34 (by decide) (fun c_34 => ?_) (fun c_34 => ?_)
    · have h := (if_neg c_34).symm.trans h
      refine lv_aload_n hx hb d_M_reads_39 rfl (lv_at hl 2 rfl) ?_
      refine lv_iconst (v := 2) hx hb d_M_reads_40 (by decide) ?_
      refine lv_iconst (v := 0) hx hb d_M_reads_41 (by decide) ?_
      obtain ⟨x42, q_42, h⟩ := sk_oR_some h
      refine sk_callVi (As := [.int (2 : Int32), .int (0 : Int32)]) (rest := []) ⟨hx, hb, hml, hown, hts⟩ hw hnw hok (c_M_isPattern hok q_42) (cw_M_174 hts hnw (by decide)) (rc_M hw) rfl hl.1 rfl (Nat.le_of_ble_eq_true rfl) d_M_reads_42 (fun H locs hw => ?_)
      refine lv_istore (lv' := [(4, .int x42), (3, .int (3 : Int32)), (2, .int x1), (0, .ref (a 0)), (1, .int v1)]) hx hb d_M_reads_45 hl (by decide) rfl (fun ls hl => ?_)
      refine lv_iload hx hb d_M_reads_47 (lv_at hl 0 rfl) ?_
      refine lv_if_ne (tgt := 54) hx hb d_M_reads_49 (by decide) (fun c_49 => ?_) (fun c_49 => ?_)
      · have h := (if_neg c_49).symm.trans h
        refine lv_aload_n hx hb d_M_reads_54 rfl (lv_at hl 3 rfl) ?_
        refine gf_M_72 hx hb hts hnw hown hw d_M_reads_55 ?_
        refine lv_iload_n hx hb d_M_reads_58 rfl (lv_at hl 4 rfl) ?_
        refine lv_iload_n hx hb d_M_reads_59 rfl (lv_at hl 2 rfl) ?_
        obtain ⟨st60, g_60, e_60, h⟩ := sk_wI_some h
        refine as_M20 hx hb hw g_60 e_60 d_M_reads_60 (fun H locs hw => ?_)
        refine lv_aload_n hx hb d_M_reads_61 rfl (lv_at hl 3 rfl) ?_
        refine gf_M_75 hx hb hts hnw hown hw d_M_reads_62 ?_
        refine lv_iload_n hx hb d_M_reads_65 rfl (lv_at hl 4 rfl) ?_
        refine lv_aload_n hx hb d_M_reads_66 rfl (lv_at hl 3 rfl) ?_
        refine gf_M_102 hx hb hts hnw hown hw d_M_reads_67 ?_
        refine lv_iconst (v := 2) hx hb d_M_reads_70 (by decide) ?_
        obtain ⟨x71, g_71, e_71, h⟩ := sk_rI_some h
        refine al_M30 hx hb hw g_71 e_71 d_M_reads_71 ?_
        obtain ⟨st72, g_72, e_72, h⟩ := sk_wI_some h
        refine as_M21 hx hb hw g_72 e_72 d_M_reads_72 (fun H locs hw => ?_)
        refine lv_aload_n hx hb d_M_reads_73 rfl (lv_at hl 3 rfl) ?_
        refine gf_M_78 hx hb hts hnw hown hw d_M_reads_74 ?_
        refine lv_iload_n hx hb d_M_reads_77 rfl (lv_at hl 4 rfl) ?_
        refine lv_aload_n hx hb d_M_reads_78 rfl (lv_at hl 3 rfl) ?_
        refine gf_M_105 hx hb hts hnw hown hw d_M_reads_79 ?_
        refine lv_iconst (v := 2) hx hb d_M_reads_82 (by decide) ?_
        obtain ⟨x83, g_83, e_83, h⟩ := sk_rI_some h
        refine al_M31 hx hb hw g_83 e_83 d_M_reads_83 ?_
        obtain ⟨st84, g_84, e_84, h⟩ := sk_wI_some h
        refine as_M22 hx hb hw g_84 e_84 d_M_reads_84 (fun H locs hw => ?_)
        refine lv_aload_n hx hb d_M_reads_85 rfl (lv_at hl 3 rfl) ?_
        refine gf_M_81 hx hb hts hnw hown hw d_M_reads_86 ?_
        refine lv_iload_n hx hb d_M_reads_89 rfl (lv_at hl 4 rfl) ?_
        refine lv_iconst (v := -1) hx hb d_M_reads_90 (by decide) ?_
        obtain ⟨st91, g_91, e_91, h⟩ := sk_wI_some h
        refine as_M23 hx hb hw g_91 e_91 d_M_reads_91 (fun H locs hw => ?_)
        refine lv_aload_n hx hb d_M_reads_92 rfl (lv_at hl 3 rfl) ?_
        refine gf_M_87 hx hb hts hnw hown hw d_M_reads_93 ?_
        refine lv_iload_n hx hb d_M_reads_96 rfl (lv_at hl 4 rfl) ?_
        refine lv_iconst (v := 0) hx hb d_M_reads_97 (by decide) ?_
        obtain ⟨st98, g_98, e_98, h⟩ := sk_wI_some h
        refine as_M25 hx hb hw g_98 e_98 d_M_reads_98 (fun H locs hw => ?_)
        refine lv_aload_n hx hb d_M_reads_99 rfl (lv_at hl 3 rfl) ?_
        refine lv_iconst (v := 3) hx hb d_M_reads_100 (by decide) ?_
        refine lv_bipush (v := 101) hx hb d_M_reads_101 (by decide) ?_
        refine lv_bipush (v := 120) hx hb d_M_reads_103 (by decide) ?_
        refine lv_bipush (v := 116) hx hb d_M_reads_105 (by decide) ?_
        refine lv_bipush (v := 101) hx hb d_M_reads_107 (by decide) ?_
        refine sk_callSl (As := [.int (101 : Int32), .int (120 : Int32), .int (116 : Int32), .int (101 : Int32)]) (rest := [.int (3 : Int32), .ref (a 0)]) ⟨hx, hb, hml, hown, hts⟩ hw hnw hok (c_M_fourOf hok rfl) (cw_M_158 hts hnw (by decide)) rfl hl.1 rfl (Nat.le_of_ble_eq_true rfl) d_M_reads_109 (fun H locs hw => ?_)
        refine lv_bipush (v := 110) hx hb d_M_reads_112 (by decide) ?_
        refine sk_callSl (As := [.long (M_fourOf (101 : Int32) (120 : Int32) (116 : Int32) (101 : Int32)), .int (110 : Int32)]) (rest := [.int (3 : Int32), .ref (a 0)]) ⟨hx, hb, hml, hown, hts⟩ hw hnw hok (c_M_code hok rfl) (cw_M_154 hts hnw (by decide)) rfl hl.1 rfl (Nat.le_of_ble_eq_true rfl) d_M_reads_114 (fun H locs hw => ?_)
        refine lv_bipush (v := 100) hx hb d_M_reads_117 (by decide) ?_
        refine sk_callSl (As := [.long (M_code (M_fourOf (101 : Int32) (120 : Int32) (116 : Int32) (101 : Int32)) (110 : Int32)), .int (100 : Int32)]) (rest := [.int (3 : Int32), .ref (a 0)]) ⟨hx, hb, hml, hown, hts⟩ hw hnw hok (c_M_code hok rfl) (cw_M_154 hts hnw (by decide)) rfl hl.1 rfl (Nat.le_of_ble_eq_true rfl) d_M_reads_119 (fun H locs hw => ?_)
        refine lv_bipush (v := 115) hx hb d_M_reads_122 (by decide) ?_
        refine sk_callSl (As := [.long (M_code (M_code (M_fourOf (101 : Int32) (120 : Int32) (116 : Int32) (101 : Int32)) (110 : Int32)) (100 : Int32)), .int (115 : Int32)]) (rest := [.int (3 : Int32), .ref (a 0)]) ⟨hx, hb, hml, hown, hts⟩ hw hnw hok (c_M_code hok rfl) (cw_M_154 hts hnw (by decide)) rfl hl.1 rfl (Nat.le_of_ble_eq_true rfl) d_M_reads_124 (fun H locs hw => ?_)
        obtain ⟨x127, q_127, h⟩ := sk_oR_some h
        refine sk_callVi (As := [.int (3 : Int32), .long (M_code (M_code (M_code (M_fourOf (101 : Int32) (120 : Int32) (116 : Int32) (101 : Int32)) (110 : Int32)) (100 : Int32)) (115 : Int32))]) (rest := []) ⟨hx, hb, hml, hown, hts⟩ hw hnw hok (c_M_isWord hok q_127) (cw_M_162 hts hnw (by decide)) (rc_M hw) rfl hl.1 rfl (Nat.le_of_ble_eq_true rfl) d_M_reads_127 (fun H locs hw => ?_)
        have hJ174 : ∀ (st : sk_M) (v1 : Int32) (v3 : Int32) (H : Heap) (locs : List Loc) (ls : Array Slot), M_reads_J174 N st v1 v3 = some res → sk_w D (tyM cI cZ) A (ceM a cI cZ) s st H locs → lv_has ls 7 [(0, .ref (a 0)), (1, .int v1), (3, .int v3)] → W p l e rm_M_reads s m args below meth c H locs 0 0 Q (F0 m 174 ls []) := by
          intro st v1 v3 H locs ls h hw hl
          unfold M_reads_J174 at h
          refine lv_iload_n hx hb d_M_reads_174 rfl (lv_at hl 2 rfl) ?_
          refine lv_aload_n hx hb d_M_reads_175 rfl (lv_at hl 0 rfl) ?_
          refine gf_M_149 hx hb hts hnw hown hw d_M_reads_176 ?_
          refine lv_icmp_ne (tgt := 184) hx hb d_M_reads_179 (by decide) (fun c_179 => ?_) (fun c_179 => ?_)
          · have h := (if_neg c_179).symm.trans h
            refine lv_aload_n hx hb d_M_reads_184 rfl (lv_at hl 0 rfl) ?_
            refine lv_iload_n hx hb d_M_reads_185 rfl (lv_at hl 2 rfl) ?_
            refine lv_ldc2 (v := 123) hx hb hown (hts _ kl_M_178) d_M_reads_186 ?_
            obtain ⟨x189, q_189, h⟩ := sk_oR_some h
            refine sk_callVi (As := [.int v3, .long (123 : Int64)]) (rest := []) ⟨hx, hb, hml, hown, hts⟩ hw hnw hok (c_M_isWord hok q_189) (cw_M_162 hts hnw (by decide)) (rc_M hw) rfl hl.1 rfl (Nat.le_of_ble_eq_true rfl) d_M_reads_189 (fun H locs hw => ?_)
            refine lv_if_ne (tgt := 199) hx hb d_M_reads_192 (by decide) (fun c_192 => ?_) (fun c_192 => ?_)
            · have h := (if_neg c_192).symm.trans h
              refine lv_iinc (v := v3 + 1) (lv' := [(3, .int (v3 + 1)), (0, .ref (a 0)), (1, .int v1)]) hx hb d_M_reads_199 hl (k := 2) rfl rfl (by decide) rfl (fun ls hl => ?_)
              have hJ406 : ∀ (st : sk_M) (v3 : Int32) (H : Heap) (locs : List Loc) (ls : Array Slot), M_reads_J406 N st v3 = some res → sk_w D (tyM cI cZ) A (ceM a cI cZ) s st H locs → lv_has ls 7 [(0, .ref (a 0)), (3, .int v3)] → W p l e rm_M_reads s m args below meth c H locs 0 0 Q (F0 m 406 ls []) := by
                intro st v3 H locs ls h hw hl
                unfold M_reads_J406 at h
                refine lv_iload_n hx hb d_M_reads_406 rfl (lv_at hl 1 rfl) ?_
                refine lv_iconst (v := 1) hx hb d_M_reads_407 (by decide) ?_
                refine lv_iadd hx hb d_M_reads_408 ?_
                refine lv_aload_n hx hb d_M_reads_409 rfl (lv_at hl 0 rfl) ?_
                refine gf_M_149 hx hb hts hnw hown hw d_M_reads_410 ?_
                refine lv_icmp_ne (tgt := 420) hx hb d_M_reads_413 (by decide) (fun c_413 => ?_) (fun c_413 => ?_)
                · have h := (if_neg c_413).symm.trans h
                  refine lv_iload_n hx hb d_M_reads_420 rfl (lv_at hl 1 rfl) ?_
                  refine lv_iconst (v := 2) hx hb d_M_reads_421 (by decide) ?_
                  refine lv_iadd hx hb d_M_reads_422 ?_
                  exact hret _ _ _ _ _ _ (sk_p1 h) (sk_p2 h) (vp_nar_int _) hw d_M_reads_423
                · have h := (if_pos c_413).symm.trans h
                  refine lv_iconst (v := 0) hx hb d_M_reads_416 (by decide) ?_
                  refine lv_goto (tgt := 423) hx hb d_M_reads_417 (by decide) ?_
                  exact hret _ _ _ _ _ _ (sk_p1 h) (sk_p2 h) (vp_nar_int _) hw d_M_reads_423
              refine sk_lp_run (G := fun (z : sk_M × Int32 × Int32) => ∀ (H : Heap) (locs : List Loc) (ls : Array Slot), sk_w D (tyM cI cZ) A (ceM a cI cZ) s z.1 H locs → lv_has ls 7 [(0, .ref (a 0)), (1, .int z.2.1), (3, .int z.2.2)] → W p l e rm_M_reads s m args below meth c H locs 0 0 Q (F0 m 202 ls [])) ?_ N _ h _ _ _ hw (lv_sub hl [1, 2, 0] rfl)
              rintro self202 ⟨st, v1, v3⟩ hself202 h H locs ls hw hl
              unfold M_reads_L202 at h
              refine lv_aload_n hx hb d_M_reads_202 rfl (lv_at hl 0 rfl) ?_
              refine gf_M_87 hx hb hts hnw hown hw d_M_reads_203 ?_
              refine lv_iload_n hx hb d_M_reads_206 rfl (lv_at hl 1 rfl) ?_
              obtain ⟨x207, g_207, e_207, h⟩ := sk_rI_some h
              refine al_M25 hx hb hw g_207 e_207 d_M_reads_207 ?_
              have hJ222 : ∀ (st : sk_M) (v1 : Int32) (v3 : Int32) (H : Heap) (locs : List Loc) (ls : Array Slot), M_reads_J222 N (fun st v3 => M_reads_J406 N st v3) self202 st v1 v3 = some res → sk_w D (tyM cI cZ) A (ceM a cI cZ) s st H locs → lv_has ls 7 [(0, .ref (a 0)), (1, .int v1), (3, .int v3)] → W p l e rm_M_reads s m args below meth c H locs 0 0 Q (F0 m 222 ls []) := by
                intro st v1 v3 H locs ls h hw hl
                unfold M_reads_J222 at h
                refine lv_bipush (v := 16) hx hb d_M_reads_222 (by decide) ?_
                refine lv_iload_n hx hb d_M_reads_224 rfl (lv_at hl 1 rfl) ?_
                refine lv_imul hx hb d_M_reads_225 ?_
                refine lv_aload_n hx hb d_M_reads_226 rfl (lv_at hl 0 rfl) ?_
                refine gf_M_87 hx hb hts hnw hown hw d_M_reads_227 ?_
                refine lv_iload_n hx hb d_M_reads_230 rfl (lv_at hl 1 rfl) ?_
                obtain ⟨x231, g_231, e_231, h⟩ := sk_rI_some h
                refine al_M25 hx hb hw g_231 e_231 d_M_reads_231 ?_
                refine lv_iadd hx hb d_M_reads_232 ?_
                refine lv_istore (lv' := [(5, .int (((16 : Int32) * v1) + x231)), (0, .ref (a 0)), (1, .int v1), (3, .int v3)]) hx hb d_M_reads_233 hl (by decide) rfl (fun ls hl => ?_)
                refine lv_iload_n hx hb d_M_reads_235 rfl (lv_at hl 3 rfl) ?_
                refine lv_aload_n hx hb d_M_reads_236 rfl (lv_at hl 1 rfl) ?_
                refine gf_M_149 hx hb hts hnw hown hw d_M_reads_237 ?_
                have hJ275 : ∀ (st : sk_M) (v1 : Int32) (v3 : Int32) (v5 : Int32) (s0 : Int32) (H : Heap) (locs : List Loc) (ls : Array Slot), M_reads_J275 N (fun st v3 => M_reads_J406 N st v3) self202 st v1 v3 v5 s0 = some res → sk_w D (tyM cI cZ) A (ceM a cI cZ) s st H locs → lv_has ls 7 [(0, .ref (a 0)), (1, .int v1), (3, .int v3), (5, .int v5)] → W p l e rm_M_reads s m args below meth c H locs 0 0 Q (F0 m 275 ls [.int s0]) := by
                  intro st v1 v3 v5 s0 H locs ls h hw hl
                  unfold M_reads_J275 at h
                  refine lv_istore (lv' := [(6, .int s0), (0, .ref (a 0)), (1, .int v1), (3, .int v3), (5, .int v5)]) hx hb d_M_reads_275 hl (by decide) rfl (fun ls hl => ?_)
                  refine lv_iload hx hb d_M_reads_277 (lv_at hl 0 rfl) ?_
                  refine lv_bipush (v := 102) hx hb d_M_reads_279 (by decide) ?_
                  have hJ302 : ∀ (st : sk_M) (v1 : Int32) (v3 : Int32) (v5 : Int32) (v6 : Int32) (H : Heap) (locs : List Loc) (ls : Array Slot), M_reads_J302 N (fun st v3 => M_reads_J406 N st v3) self202 st v1 v3 v5 v6 = some res → sk_w D (tyM cI cZ) A (ceM a cI cZ) s st H locs → lv_has ls 7 [(0, .ref (a 0)), (1, .int v1), (3, .int v3), (5, .int v5), (6, .int v6)] → W p l e rm_M_reads s m args below meth c H locs 0 0 Q (F0 m 302 ls []) := by
                    intro st v1 v3 v5 v6 H locs ls h hw hl
                    unfold M_reads_J302 at h
                    refine lv_aload_n hx hb d_M_reads_302 rfl (lv_at hl 0 rfl) ?_
                    refine lv_iload_n hx hb d_M_reads_303 rfl (lv_at hl 2 rfl) ?_
                    refine lv_iconst (v := 1) hx hb d_M_reads_304 (by decide) ?_
                    refine lv_iadd hx hb d_M_reads_305 ?_
                    refine lv_iconst (v := 1) hx hb d_M_reads_306 (by decide) ?_
                    obtain ⟨x307, q_307, h⟩ := sk_oR_some h
                    refine sk_callVi (As := [.int (v3 + (1 : Int32)), .int (1 : Int32)]) (rest := []) ⟨hx, hb, hml, hown, hts⟩ hw hnw hok (c_M_isPattern hok q_307) (cw_M_174 hts hnw (by decide)) (rc_M hw) rfl hl.1 rfl (Nat.le_of_ble_eq_true rfl) d_M_reads_307 (fun H locs hw => ?_)
                    have hJ338 : ∀ (st : sk_M) (v1 : Int32) (v3 : Int32) (v5 : Int32) (v6 : Int32) (s0 : Int32) (H : Heap) (locs : List Loc) (ls : Array Slot), M_reads_J338 N (fun st v3 => M_reads_J406 N st v3) self202 st v1 v3 v5 v6 s0 = some res → sk_w D (tyM cI cZ) A (ceM a cI cZ) s st H locs → lv_has ls 7 [(0, .ref (a 0)), (1, .int v1), (3, .int v3), (5, .int v5), (6, .int v6)] → W p l e rm_M_reads s m args below meth c H locs 0 0 Q (F0 m 338 ls [.int s0]) := by
                      intro st v1 v3 v5 v6 s0 H locs ls h hw hl
                      unfold M_reads_J338 at h
                      refine lv_istore (lv' := [(4, .int s0), (0, .ref (a 0)), (1, .int v1), (3, .int v3), (5, .int v5), (6, .int v6)]) hx hb d_M_reads_338 hl (by decide) rfl (fun ls hl => ?_)
                      refine lv_iload hx hb d_M_reads_340 (lv_at hl 0 rfl) ?_
                      refine lv_if_ne (tgt := 349) hx hb d_M_reads_342 (by decide) (fun c_342 => ?_) (fun c_342 => ?_)
                      · have h := (if_neg c_342).symm.trans h
                        refine lv_aload_n hx hb d_M_reads_349 rfl (lv_at hl 1 rfl) ?_
                        refine gf_M_90 hx hb hts hnw hown hw d_M_reads_350 ?_
                        refine lv_iload hx hb d_M_reads_353 (lv_at hl 4 rfl) ?_
                        refine lv_iload hx hb d_M_reads_355 (lv_at hl 5 rfl) ?_
                        obtain ⟨st357, g_357, e_357, h⟩ := sk_wI_some h
                        refine as_M26 hx hb hw g_357 e_357 d_M_reads_357 (fun H locs hw => ?_)
                        refine lv_aload_n hx hb d_M_reads_358 rfl (lv_at hl 1 rfl) ?_
                        refine gf_M_93 hx hb hts hnw hown hw d_M_reads_359 ?_
                        refine lv_iload hx hb d_M_reads_362 (lv_at hl 4 rfl) ?_
                        refine lv_aload_n hx hb d_M_reads_364 rfl (lv_at hl 1 rfl) ?_
                        refine gf_M_102 hx hb hts hnw hown hw d_M_reads_365 ?_
                        refine lv_iload_n hx hb d_M_reads_368 rfl (lv_at hl 3 rfl) ?_
                        refine lv_iconst (v := 1) hx hb d_M_reads_369 (by decide) ?_
                        refine lv_iadd hx hb d_M_reads_370 ?_
                        obtain ⟨x371, g_371, e_371, h⟩ := sk_rI_some h
                        refine al_M30 hx hb hw g_371 e_371 d_M_reads_371 ?_
                        obtain ⟨st372, g_372, e_372, h⟩ := sk_wI_some h
                        refine as_M27 hx hb hw g_372 e_372 d_M_reads_372 (fun H locs hw => ?_)
                        refine lv_aload_n hx hb d_M_reads_373 rfl (lv_at hl 1 rfl) ?_
                        refine gf_M_96 hx hb hts hnw hown hw d_M_reads_374 ?_
                        refine lv_iload hx hb d_M_reads_377 (lv_at hl 4 rfl) ?_
                        refine lv_aload_n hx hb d_M_reads_379 rfl (lv_at hl 1 rfl) ?_
                        refine gf_M_105 hx hb hts hnw hown hw d_M_reads_380 ?_
                        refine lv_iload_n hx hb d_M_reads_383 rfl (lv_at hl 3 rfl) ?_
                        refine lv_iconst (v := 1) hx hb d_M_reads_384 (by decide) ?_
                        refine lv_iadd hx hb d_M_reads_385 ?_
                        obtain ⟨x386, g_386, e_386, h⟩ := sk_rI_some h
                        refine al_M31 hx hb hw g_386 e_386 d_M_reads_386 ?_
                        refine lv_iconst (v := 1) hx hb d_M_reads_387 (by decide) ?_
                        refine lv_isub hx hb d_M_reads_388 ?_
                        obtain ⟨st389, g_389, e_389, h⟩ := sk_wI_some h
                        refine as_M28 hx hb hw g_389 e_389 d_M_reads_389 (fun H locs hw => ?_)
                        refine lv_aload_n hx hb d_M_reads_390 rfl (lv_at hl 1 rfl) ?_
                        refine gf_M_87 hx hb hts hnw hown hw d_M_reads_391 ?_
                        refine lv_iload_n hx hb d_M_reads_394 rfl (lv_at hl 2 rfl) ?_
                        refine lv_dup2_11 hx hb d_M_reads_395 rfl rfl ?_
                        obtain ⟨x396, g_396, e_396, h⟩ := sk_rI_some h
                        refine al_M25 hx hb hw g_396 e_396 d_M_reads_396 ?_
                        refine lv_iconst (v := 1) hx hb d_M_reads_397 (by decide) ?_
                        refine lv_iadd hx hb d_M_reads_398 ?_
                        obtain ⟨st399, g_399, e_399, h⟩ := sk_wI_some h
                        refine as_M25 hx hb hw g_399 e_399 d_M_reads_399 (fun H locs hw => ?_)
                        refine lv_iinc (v := v3 + 2) (lv' := [(3, .int (v3 + 2)), (4, .int s0), (0, .ref (a 0)), (1, .int v1), (5, .int v5), (6, .int v6)]) hx hb d_M_reads_400 hl (k := 3) rfl rfl (by decide) rfl (fun ls hl => ?_)
                        refine lv_goto (tgt := 202) hx hb d_M_reads_403 (by decide) ?_
                        exact hself202 (st399, v1, (v3 + 2)) h _ _ _ hw (lv_sub hl [2, 3, 0] rfl)
                      · have h := (if_pos c_342).symm.trans h
                        refine lv_iload_n hx hb d_M_reads_345 rfl (lv_at hl 3 rfl) ?_
                        refine lv_iconst (v := 2) hx hb d_M_reads_346 (by decide) ?_
                        refine lv_iadd hx hb d_M_reads_347 ?_
                        exact hret _ _ _ _ _ _ (sk_p1 h) (sk_p2 h) (vp_nar_int _) hw d_M_reads_348
                    have hJ337 : ∀ (st : sk_M) (v1 : Int32) (v3 : Int32) (v5 : Int32) (v6 : Int32) (H : Heap) (locs : List Loc) (ls : Array Slot), M_reads_J337 N (fun st v3 => M_reads_J406 N st v3) self202 st v1 v3 v5 v6 = some res → sk_w D (tyM cI cZ) A (ceM a cI cZ) s st H locs → lv_has ls 7 [(0, .ref (a 0)), (1, .int v1), (3, .int v3), (5, .int v5), (6, .int v6)] → W p l e rm_M_reads s m args below meth c H locs 0 0 Q (F0 m 337 ls []) := by
                      intro st v1 v3 v5 v6 H locs ls h hw hl
                      unfold M_reads_J337 at h
                      refine lv_iconst (v := 0) hx hb d_M_reads_337 (by decide) ?_
                      exact hJ338 _ _ _ _ _ _ _ _ _ h hw (lv_sub hl [0, 1, 2, 3, 4] rfl)
                    refine lv_if_eq (tgt := 337) hx hb d_M_reads_310 (by decide) (fun c_310 => ?_) (fun c_310 => ?_)
                    · have h := (if_pos c_310).symm.trans h
                      exact hJ337 _ _ _ _ _ _ _ _ h hw (lv_sub hl [0, 1, 2, 3, 4] rfl)
                    · have h := (if_neg c_310).symm.trans h
                      refine lv_aload_n hx hb d_M_reads_313 rfl (lv_at hl 0 rfl) ?_
                      refine gf_M_66 hx hb hts hnw hown hw d_M_reads_314 ?_
                      refine lv_aload_n hx hb d_M_reads_317 rfl (lv_at hl 0 rfl) ?_
                      refine gf_M_105 hx hb hts hnw hown hw d_M_reads_318 ?_
                      refine lv_iload_n hx hb d_M_reads_321 rfl (lv_at hl 2 rfl) ?_
                      refine lv_iconst (v := 1) hx hb d_M_reads_322 (by decide) ?_
                      refine lv_iadd hx hb d_M_reads_323 ?_
                      obtain ⟨x324, g_324, e_324, h⟩ := sk_rI_some h
                      refine al_M31 hx hb hw g_324 e_324 d_M_reads_324 ?_
                      refine lv_iconst (v := 1) hx hb d_M_reads_325 (by decide) ?_
                      refine lv_isub hx hb d_M_reads_326 ?_
                      obtain ⟨x327, g_327, e_327, h⟩ := sk_rI_some h
                      refine al_M18 hx hb hw g_327 e_327 d_M_reads_327 ?_
                      refine lv_bipush (v := 59) hx hb d_M_reads_328 (by decide) ?_
                      refine lv_icmp_ne (tgt := 337) hx hb d_M_reads_330 (by decide) (fun c_330 => ?_) (fun c_330 => ?_)
                      · have h := (if_neg c_330).symm.trans h
                        exact hJ337 _ _ _ _ _ _ _ _ h hw (lv_sub hl [0, 1, 2, 3, 4] rfl)
                      · have h := (if_pos c_330).symm.trans h
                        refine lv_iconst (v := 1) hx hb d_M_reads_333 (by decide) ?_
                        refine lv_goto (tgt := 338) hx hb d_M_reads_334 (by decide) ?_
                        exact hJ338 _ _ _ _ _ _ _ _ _ h hw (lv_sub hl [0, 1, 2, 3, 4] rfl)
                  refine lv_icmp_eq (tgt := 302) hx hb d_M_reads_281 (by decide) (fun c_281 => ?_) (fun c_281 => ?_)
                  · have h := (if_pos c_281).symm.trans h
                    exact hJ302 _ _ _ _ _ _ _ _ h hw (lv_sub hl [1, 2, 3, 4, 0] rfl)
                  · have h := (if_neg c_281).symm.trans h
                    refine lv_iload hx hb d_M_reads_284 (lv_at hl 0 rfl) ?_
                    refine lv_bipush (v := 109) hx hb d_M_reads_286 (by decide) ?_
                    refine lv_icmp_eq (tgt := 302) hx hb d_M_reads_288 (by decide) (fun c_288 => ?_) (fun c_288 => ?_)
                    · have h := (if_pos c_288).symm.trans h
                      exact hJ302 _ _ _ _ _ _ _ _ h hw (lv_sub hl [1, 2, 3, 4, 0] rfl)
                    · have h := (if_neg c_288).symm.trans h
                      refine lv_iload hx hb d_M_reads_291 (lv_at hl 0 rfl) ?_
                      refine lv_bipush (v := 120) hx hb d_M_reads_293 (by decide) ?_
                      refine lv_icmp_eq (tgt := 302) hx hb d_M_reads_295 (by decide) (fun c_295 => ?_) (fun c_295 => ?_)
                      · have h := (if_pos c_295).symm.trans h
                        exact hJ302 _ _ _ _ _ _ _ _ h hw (lv_sub hl [1, 2, 3, 4, 0] rfl)
                      · have h := (if_neg c_295).symm.trans h
                        refine lv_iload_n hx hb d_M_reads_298 rfl (lv_at hl 3 rfl) ?_
                        refine lv_iconst (v := 1) hx hb d_M_reads_299 (by decide) ?_
                        refine lv_iadd hx hb d_M_reads_300 ?_
                        exact hret _ _ _ _ _ _ (sk_p1 h) (sk_p2 h) (vp_nar_int _) hw d_M_reads_301
                have hJ274 : ∀ (st : sk_M) (v1 : Int32) (v3 : Int32) (v5 : Int32) (H : Heap) (locs : List Loc) (ls : Array Slot), M_reads_J274 N (fun st v3 => M_reads_J406 N st v3) self202 st v1 v3 v5 = some res → sk_w D (tyM cI cZ) A (ceM a cI cZ) s st H locs → lv_has ls 7 [(0, .ref (a 0)), (1, .int v1), (3, .int v3), (5, .int v5)] → W p l e rm_M_reads s m args below meth c H locs 0 0 Q (F0 m 274 ls []) := by
                  intro st v1 v3 v5 H locs ls h hw hl
                  unfold M_reads_J274 at h
                  refine lv_iconst (v := 0) hx hb d_M_reads_274 (by decide) ?_
                  exact hJ275 _ _ _ _ _ _ _ _ h hw (lv_sub hl [0, 1, 2, 3] rfl)
                refine lv_icmp_ge (tgt := 274) hx hb d_M_reads_240 (by decide) (fun c_240 => ?_) (fun c_240 => ?_)
                · have h := (if_pos c_240).symm.trans h
                  exact hJ274 _ _ _ _ _ _ _ h hw (lv_sub hl [1, 2, 3, 0] rfl)
                · have h := (if_neg c_240).symm.trans h
                  refine lv_aload_n hx hb d_M_reads_243 rfl (lv_at hl 1 rfl) ?_
                  refine gf_M_105 hx hb hts hnw hown hw d_M_reads_244 ?_
                  refine lv_iload_n hx hb d_M_reads_247 rfl (lv_at hl 3 rfl) ?_
                  obtain ⟨x248, g_248, e_248, h⟩ := sk_rI_some h
                  refine al_M31 hx hb hw g_248 e_248 d_M_reads_248 ?_
                  refine lv_aload_n hx hb d_M_reads_249 rfl (lv_at hl 1 rfl) ?_
                  refine gf_M_102 hx hb hts hnw hown hw d_M_reads_250 ?_
                  refine lv_iload_n hx hb d_M_reads_253 rfl (lv_at hl 3 rfl) ?_
                  obtain ⟨x254, g_254, e_254, h⟩ := sk_rI_some h
                  refine al_M30 hx hb hw g_254 e_254 d_M_reads_254 ?_
                  refine lv_isub hx hb d_M_reads_255 ?_
                  refine lv_iconst (v := 1) hx hb d_M_reads_256 (by decide) ?_
                  refine lv_icmp_ne (tgt := 274) hx hb d_M_reads_257 (by decide) (fun c_257 => ?_) (fun c_257 => ?_)
                  · have h := (if_neg c_257).symm.trans h
                    exact hJ274 _ _ _ _ _ _ _ h hw (lv_sub hl [1, 2, 3, 0] rfl)
                  · have h := (if_pos c_257).symm.trans h
                    refine lv_aload_n hx hb d_M_reads_260 rfl (lv_at hl 1 rfl) ?_
                    refine gf_M_66 hx hb hts hnw hown hw d_M_reads_261 ?_
                    refine lv_aload_n hx hb d_M_reads_264 rfl (lv_at hl 1 rfl) ?_
                    refine gf_M_102 hx hb hts hnw hown hw d_M_reads_265 ?_
                    refine lv_iload_n hx hb d_M_reads_268 rfl (lv_at hl 3 rfl) ?_
                    obtain ⟨x269, g_269, e_269, h⟩ := sk_rI_some h
                    refine al_M30 hx hb hw g_269 e_269 d_M_reads_269 ?_
                    obtain ⟨x270, g_270, e_270, h⟩ := sk_rI_some h
                    refine al_M18 hx hb hw g_270 e_270 d_M_reads_270 ?_
                    refine lv_goto (tgt := 275) hx hb d_M_reads_271 (by decide) ?_
                    exact hJ275 _ _ _ _ _ _ _ _ h hw (lv_sub hl [1, 2, 3, 0] rfl)
              refine lv_if_eq (tgt := 222) hx hb d_M_reads_208 (by decide) (fun c_208 => ?_) (fun c_208 => ?_)
              · have h := (if_pos c_208).symm.trans h
                exact hJ222 _ _ _ _ _ _ h hw (lv_sub hl [0, 1, 2] rfl)
              · have h := (if_neg c_208).symm.trans h
                refine lv_aload_n hx hb d_M_reads_211 rfl (lv_at hl 0 rfl) ?_
                refine lv_iload_n hx hb d_M_reads_212 rfl (lv_at hl 2 rfl) ?_
                refine lv_ldc2 (v := 125) hx hb hown (hts _ kl_M_180) d_M_reads_213 ?_
                obtain ⟨x216, q_216, h⟩ := sk_oR_some h
                refine sk_callVi (As := [.int v3, .long (125 : Int64)]) (rest := []) ⟨hx, hb, hml, hown, hts⟩ hw hnw hok (c_M_isWord hok q_216) (cw_M_162 hts hnw (by decide)) (rc_M hw) rfl hl.1 rfl (Nat.le_of_ble_eq_true rfl) d_M_reads_216 (fun H locs hw => ?_)
                refine lv_if_ne (tgt := 406) hx hb d_M_reads_219 (by decide) (fun c_219 => ?_) (fun c_219 => ?_)
                · have h := (if_neg c_219).symm.trans h
                  exact hJ406 _ _ _ _ _ h hw (lv_sub hl [0, 2] rfl)
                · have h := (if_pos c_219).symm.trans h
                  exact hJ222 _ _ _ _ _ _ h hw (lv_sub hl [0, 1, 2] rfl)
            · have h := (if_pos c_192).symm.trans h
              refine lv_iload_n hx hb d_M_reads_195 rfl (lv_at hl 2 rfl) ?_
              refine lv_iconst (v := 1) hx hb d_M_reads_196 (by decide) ?_
              refine lv_iadd hx hb d_M_reads_197 ?_
              exact hret _ _ _ _ _ _ (sk_p1 h) (sk_p2 h) (vp_nar_int _) hw d_M_reads_198
          · have h := (if_pos c_179).symm.trans h
            refine lv_iconst (v := 0) hx hb d_M_reads_182 (by decide) ?_
            exact hret _ _ _ _ _ _ (sk_p1 h) (sk_p2 h) (vp_nar_int _) hw d_M_reads_183
        refine lv_if_eq (tgt := 174) hx hb d_M_reads_130 (by decide) (fun c_130 => ?_) (fun c_130 => ?_)
        · have h := (if_pos c_130).symm.trans h
          exact hJ174 _ _ _ _ _ _ h hw (lv_sub hl [3, 4, 1] rfl)
        · have h := (if_neg c_130).symm.trans h
          refine lv_aload_n hx hb d_M_reads_133 rfl (lv_at hl 3 rfl) ?_
          refine lv_iconst (v := 4) hx hb d_M_reads_134 (by decide) ?_
          refine lv_iconst (v := 0) hx hb d_M_reads_135 (by decide) ?_
          obtain ⟨x136, q_136, h⟩ := sk_oR_some h
          refine sk_callVi (As := [.int (4 : Int32), .int (0 : Int32)]) (rest := []) ⟨hx, hb, hml, hown, hts⟩ hw hnw hok (c_M_isPattern hok q_136) (cw_M_174 hts hnw (by decide)) (rc_M hw) rfl hl.1 rfl (Nat.le_of_ble_eq_true rfl) d_M_reads_136 (fun H locs hw => ?_)
          refine lv_istore (lv' := [(4, .int x136), (3, .int (3 : Int32)), (2, .int x1), (0, .ref (a 0)), (1, .int v1)]) hx hb d_M_reads_139 hl (by decide) rfl (fun ls hl => ?_)
          refine lv_iload hx hb d_M_reads_141 (lv_at hl 0 rfl) ?_
          refine lv_if_ne (tgt := 148) hx hb d_M_reads_143 (by decide) (fun c_143 => ?_) (fun c_143 => ?_)
          · have h := (if_neg c_143).symm.trans h
            refine lv_aload_n hx hb d_M_reads_148 rfl (lv_at hl 3 rfl) ?_
            refine gf_M_81 hx hb hts hnw hown hw d_M_reads_149 ?_
            refine lv_iload_n hx hb d_M_reads_152 rfl (lv_at hl 4 rfl) ?_
            refine lv_aload_n hx hb d_M_reads_153 rfl (lv_at hl 3 rfl) ?_
            refine gf_M_102 hx hb hts hnw hown hw d_M_reads_154 ?_
            refine lv_iconst (v := 4) hx hb d_M_reads_157 (by decide) ?_
            obtain ⟨x158, g_158, e_158, h⟩ := sk_rI_some h
            refine al_M30 hx hb hw g_158 e_158 d_M_reads_158 ?_
            obtain ⟨st159, g_159, e_159, h⟩ := sk_wI_some h
            refine as_M23 hx hb hw g_159 e_159 d_M_reads_159 (fun H locs hw => ?_)
            refine lv_aload_n hx hb d_M_reads_160 rfl (lv_at hl 3 rfl) ?_
            refine gf_M_84 hx hb hts hnw hown hw d_M_reads_161 ?_
            refine lv_iload_n hx hb d_M_reads_164 rfl (lv_at hl 4 rfl) ?_
            refine lv_aload_n hx hb d_M_reads_165 rfl (lv_at hl 3 rfl) ?_
            refine gf_M_105 hx hb hts hnw hown hw d_M_reads_166 ?_
            refine lv_iconst (v := 4) hx hb d_M_reads_169 (by decide) ?_
            obtain ⟨x170, g_170, e_170, h⟩ := sk_rI_some h
            refine al_M31 hx hb hw g_170 e_170 d_M_reads_170 ?_
            obtain ⟨st171, g_171, e_171, h⟩ := sk_wI_some h
            refine as_M24 hx hb hw g_171 e_171 d_M_reads_171 (fun H locs hw => ?_)
            refine lv_iconst (v := 5) hx hb d_M_reads_172 (by decide) ?_
            refine lv_istore_n (lv' := [(3, .int (5 : Int32)), (4, .int x136), (2, .int x1), (0, .ref (a 0)), (1, .int v1)]) hx hb d_M_reads_173 rfl hl (by decide) rfl (fun ls hl => ?_)
            exact hJ174 _ _ _ _ _ _ h hw (lv_sub hl [3, 4, 0] rfl)
          · have h := (if_pos c_143).symm.trans h
            refine lv_iconst (v := 5) hx hb d_M_reads_146 (by decide) ?_
            exact hret _ _ _ _ _ _ (sk_p1 h) (sk_p2 h) (vp_nar_int _) hw d_M_reads_147
      · have h := (if_pos c_49).symm.trans h
        refine lv_iconst (v := 3) hx hb d_M_reads_52 (by decide) ?_
        exact hret _ _ _ _ _ _ (sk_p1 h) (sk_p2 h) (vp_nar_int _) hw d_M_reads_53
    · have h := (if_pos c_34).symm.trans h
      refine lv_iconst (v := 2) hx hb d_M_reads_37 (by decide) ?_
      exact hret _ _ _ _ _ _ (sk_p1 h) (sk_p2 h) (vp_nar_int _) hw d_M_reads_38
  · have h := (if_neg c_8).symm.trans h
    refine lv_iconst (v := 1) hx hb d_M_reads_11 (by decide) ?_
    exact hret _ _ _ _ _ _ (sk_p1 h) (sk_p2 h) (vp_nar_int _) hw d_M_reads_12
set_option maxHeartbeats 4000000 in
set_option maxRecDepth 100000 in
theorem c_M_readsFull {l : Launch} {D : va_G} {A : Nat → Prop} {a : Nat → Nat} {cI cZ : ClassId} {nw : State → Prop} {N : Nat} {st : sk_M} {res : Int32 × sk_M} (hok : sk_ok A nw) (h : M_readsFull N st = some res) : sk_Ci l y_M_readsFull w_M_readsFull rm_M_readsFull D (tyM cI cZ) A (ceM a cI cZ) nw [.ref (a 0)] st res.1 res.2 := by
  refine sk_headi .int (by decide) rfl (Nat.le_of_ble_eq_true rfl) ?_
  intro p e s m args below meth c Q hx hb hml hown hts0 hnw hret ls hl hw
  have hts : ∀ w ∈ TB, w.before args s = true := fun w h => hts0 w (List.mem_cons_of_mem _ h)
  have hown : s.vm.findClass R_M = some m.cls := hown
  have hl : lv_has ls 9 [(0, .ref (a 0))] := hl
  unfold M_readsFull at h
  refine lv_aload_n hx hb d_M_readsFull_0 rfl (lv_at hl 0 rfl) ?_
  refine gf_M_72 hx hb hts hnw hown hw d_M_readsFull_1 ?_
  refine lv_bipush (v := 7) hx hb d_M_readsFull_4 (by decide) ?_
  obtain ⟨x6, g_6, e_6, h⟩ := sk_rI_some h
  refine al_M20 hx hb hw g_6 e_6 d_M_readsFull_6 ?_
  refine lv_istore_n (lv' := [(1, .int x6), (0, .ref (a 0))]) hx hb d_M_readsFull_7 rfl hl (by decide) rfl (fun ls hl => ?_)
  refine lv_aload_n hx hb d_M_readsFull_8 rfl (lv_at hl 1 rfl) ?_
  refine gf_M_75 hx hb hts hnw hown hw d_M_readsFull_9 ?_
  refine lv_bipush (v := 7) hx hb d_M_readsFull_12 (by decide) ?_
  obtain ⟨x14, g_14, e_14, h⟩ := sk_rI_some h
  refine al_M21 hx hb hw g_14 e_14 d_M_readsFull_14 ?_
  refine lv_istore_n (lv' := [(2, .int x14), (1, .int x6), (0, .ref (a 0))]) hx hb d_M_readsFull_15 rfl hl (by decide) rfl (fun ls hl => ?_)
  refine lv_aload_n hx hb d_M_readsFull_16 rfl (lv_at hl 2 rfl) ?_
  refine gf_M_78 hx hb hts hnw hown hw d_M_readsFull_17 ?_
  refine lv_bipush (v := 7) hx hb d_M_readsFull_20 (by decide) ?_
  obtain ⟨x22, g_22, e_22, h⟩ := sk_rI_some h
  refine al_M22 hx hb hw g_22 e_22 d_M_readsFull_22 ?_
  refine lv_istore_n (lv' := [(3, .int x22), (2, .int x14), (1, .int x6), (0, .ref (a 0))]) hx hb d_M_readsFull_23 rfl hl (by decide) rfl (fun ls hl => ?_)
  refine lv_aload_n hx hb d_M_readsFull_24 rfl (lv_at hl 3 rfl) ?_
  refine gf_M_81 hx hb hts hnw hown hw d_M_readsFull_25 ?_
  refine lv_bipush (v := 7) hx hb d_M_readsFull_28 (by decide) ?_
  obtain ⟨x30, g_30, e_30, h⟩ := sk_rI_some h
  refine al_M23 hx hb hw g_30 e_30 d_M_readsFull_30 ?_
  refine lv_istore (lv' := [(4, .int x30), (3, .int x22), (2, .int x14), (1, .int x6), (0, .ref (a 0))]) hx hb d_M_readsFull_31 hl (by decide) rfl (fun ls hl => ?_)
  refine lv_aload_n hx hb d_M_readsFull_33 rfl (lv_at hl 4 rfl) ?_
  refine gf_M_84 hx hb hts hnw hown hw d_M_readsFull_34 ?_
  refine lv_bipush (v := 7) hx hb d_M_readsFull_37 (by decide) ?_
  obtain ⟨x39, g_39, e_39, h⟩ := sk_rI_some h
  refine al_M24 hx hb hw g_39 e_39 d_M_readsFull_39 ?_
  refine lv_istore (lv' := [(5, .int x39), (4, .int x30), (3, .int x22), (2, .int x14), (1, .int x6), (0, .ref (a 0))]) hx hb d_M_readsFull_40 hl (by decide) rfl (fun ls hl => ?_)
  refine lv_aload_n hx hb d_M_readsFull_42 rfl (lv_at hl 5 rfl) ?_
  refine gf_M_87 hx hb hts hnw hown hw d_M_readsFull_43 ?_
  refine lv_bipush (v := 7) hx hb d_M_readsFull_46 (by decide) ?_
  obtain ⟨x48, g_48, e_48, h⟩ := sk_rI_some h
  refine al_M25 hx hb hw g_48 e_48 d_M_readsFull_48 ?_
  refine lv_istore (lv' := [(6, .int x48), (5, .int x39), (4, .int x30), (3, .int x22), (2, .int x14), (1, .int x6), (0, .ref (a 0))]) hx hb d_M_readsFull_49 hl (by decide) rfl (fun ls hl => ?_)
  refine lv_iconst (v := 0) hx hb d_M_readsFull_51 (by decide) ?_
  refine lv_istore (lv' := [(7, .int (0 : Int32)), (6, .int x48), (5, .int x39), (4, .int x30), (3, .int x22), (2, .int x14), (1, .int x6), (0, .ref (a 0))]) hx hb d_M_readsFull_52 hl (by decide) rfl (fun ls hl => ?_)
  have hJ128 : ∀ (st : sk_M) (v1 : Int32) (v2 : Int32) (v3 : Int32) (v4 : Int32) (v5 : Int32) (v6 : Int32) (H : Heap) (locs : List Loc) (ls : Array Slot), M_readsFull_J128 N st v1 v2 v3 v4 v5 v6 = some res → sk_w D (tyM cI cZ) A (ceM a cI cZ) s st H locs → lv_has ls 9 [(0, .ref (a 0)), (1, .int v1), (2, .int v2), (3, .int v3), (4, .int v4), (5, .int v5), (6, .int v6)] → W p l e rm_M_readsFull s m args below meth c H locs 0 0 Q (F0 m 128 ls []) := by
    intro st v1 v2 v3 v4 v5 v6 H locs ls h hw hl
    unfold M_readsFull_J128 at h
    refine lv_aload_n hx hb d_M_readsFull_128 rfl (lv_at hl 0 rfl) ?_
    refine lv_bipush (v := 7) hx hb d_M_readsFull_129 (by decide) ?_
    obtain ⟨x131, st131, q_131, h⟩ := sk_oW_some h
    refine sk_callVi (As := [.int (7 : Int32)]) (rest := []) ⟨hx, hb, hml, hown, hts⟩ hw hnw hok (c_M_reads hok q_131) (cw_M_188 hts hnw (by decide)) (rc_M hw) rfl hl.1 rfl (Nat.le_of_ble_eq_true rfl) d_M_readsFull_131 (fun H locs hw => ?_)
    refine lv_istore (lv' := [(7, .int x131), (0, .ref (a 0)), (1, .int v1), (2, .int v2), (3, .int v3), (4, .int v4), (5, .int v5), (6, .int v6)]) hx hb d_M_readsFull_134 hl (by decide) rfl (fun ls hl => ?_)
    refine lv_aload_n hx hb d_M_readsFull_136 rfl (lv_at hl 1 rfl) ?_
    refine gf_M_72 hx hb hts hnw hown hw d_M_readsFull_137 ?_
    refine lv_bipush (v := 7) hx hb d_M_readsFull_140 (by decide) ?_
    refine lv_iload_n hx hb d_M_readsFull_142 rfl (lv_at hl 2 rfl) ?_
    obtain ⟨st143, g_143, e_143, h⟩ := sk_wI_some h
    refine as_M20 hx hb hw g_143 e_143 d_M_readsFull_143 (fun H locs hw => ?_)
    refine lv_aload_n hx hb d_M_readsFull_144 rfl (lv_at hl 1 rfl) ?_
    refine gf_M_75 hx hb hts hnw hown hw d_M_readsFull_145 ?_
    refine lv_bipush (v := 7) hx hb d_M_readsFull_148 (by decide) ?_
    refine lv_iload_n hx hb d_M_readsFull_150 rfl (lv_at hl 3 rfl) ?_
    obtain ⟨st151, g_151, e_151, h⟩ := sk_wI_some h
    refine as_M21 hx hb hw g_151 e_151 d_M_readsFull_151 (fun H locs hw => ?_)
    refine lv_aload_n hx hb d_M_readsFull_152 rfl (lv_at hl 1 rfl) ?_
    refine gf_M_78 hx hb hts hnw hown hw d_M_readsFull_153 ?_
    refine lv_bipush (v := 7) hx hb d_M_readsFull_156 (by decide) ?_
    refine lv_iload_n hx hb d_M_readsFull_158 rfl (lv_at hl 4 rfl) ?_
    obtain ⟨st159, g_159, e_159, h⟩ := sk_wI_some h
    refine as_M22 hx hb hw g_159 e_159 d_M_readsFull_159 (fun H locs hw => ?_)
    refine lv_aload_n hx hb d_M_readsFull_160 rfl (lv_at hl 1 rfl) ?_
    refine gf_M_81 hx hb hts hnw hown hw d_M_readsFull_161 ?_
    refine lv_bipush (v := 7) hx hb d_M_readsFull_164 (by decide) ?_
    refine lv_iload hx hb d_M_readsFull_166 (lv_at hl 5 rfl) ?_
    obtain ⟨st168, g_168, e_168, h⟩ := sk_wI_some h
    refine as_M23 hx hb hw g_168 e_168 d_M_readsFull_168 (fun H locs hw => ?_)
    refine lv_aload_n hx hb d_M_readsFull_169 rfl (lv_at hl 1 rfl) ?_
    refine gf_M_84 hx hb hts hnw hown hw d_M_readsFull_170 ?_
    refine lv_bipush (v := 7) hx hb d_M_readsFull_173 (by decide) ?_
    refine lv_iload hx hb d_M_readsFull_175 (lv_at hl 6 rfl) ?_
    obtain ⟨st177, g_177, e_177, h⟩ := sk_wI_some h
    refine as_M24 hx hb hw g_177 e_177 d_M_readsFull_177 (fun H locs hw => ?_)
    refine lv_aload_n hx hb d_M_readsFull_178 rfl (lv_at hl 1 rfl) ?_
    refine gf_M_87 hx hb hts hnw hown hw d_M_readsFull_179 ?_
    refine lv_bipush (v := 7) hx hb d_M_readsFull_182 (by decide) ?_
    refine lv_iload hx hb d_M_readsFull_184 (lv_at hl 7 rfl) ?_
    obtain ⟨st186, g_186, e_186, h⟩ := sk_wI_some h
    refine as_M25 hx hb hw g_186 e_186 d_M_readsFull_186 (fun H locs hw => ?_)
    refine lv_iconst (v := 0) hx hb d_M_readsFull_187 (by decide) ?_
    refine lv_istore (lv' := [(8, .int (0 : Int32)), (7, .int x131), (0, .ref (a 0)), (1, .int v1), (2, .int v2), (3, .int v3), (4, .int v4), (5, .int v5), (6, .int v6)]) hx hb d_M_readsFull_188 hl (by decide) rfl (fun ls hl => ?_)
    refine sk_lp_run (G := fun (z : sk_M × Int32 × Int32) => ∀ (H : Heap) (locs : List Loc) (ls : Array Slot), sk_w D (tyM cI cZ) A (ceM a cI cZ) s z.1 H locs → lv_has ls 9 [(0, .ref (a 0)), (7, .int z.2.1), (8, .int z.2.2)] → W p l e rm_M_readsFull s m args below meth c H locs 0 0 Q (F0 m 190 ls [])) ?_ N _ h _ _ _ hw (lv_sub hl [2, 1, 0] rfl)
    rintro self190 ⟨st, v7, v8⟩ hself190 h H locs ls hw hl
    unfold M_readsFull_L190 at h
    refine lv_iload hx hb d_M_readsFull_190 (lv_at hl 2 rfl) ?_
    refine lv_bipush (v := 16) hx hb d_M_readsFull_192 (by decide) ?_
    refine lv_icmp_ge (tgt := 264) hx hb d_M_readsFull_194 (by decide) (fun c_194 => ?_) (fun c_194 => ?_)
    · have h := (if_pos c_194).symm.trans h
      refine lv_iload hx hb d_M_readsFull_264 (lv_at hl 1 rfl) ?_
      exact hret _ _ _ _ _ _ (sk_p1 h) (sk_p2 h) (vp_nar_int _) hw d_M_readsFull_266
    · have h := (if_neg c_194).symm.trans h
      refine lv_aload_n hx hb d_M_readsFull_197 rfl (lv_at hl 0 rfl) ?_
      refine gf_M_90 hx hb hts hnw hown hw d_M_readsFull_198 ?_
      refine lv_bipush (v := 112) hx hb d_M_readsFull_201 (by decide) ?_
      refine lv_iload hx hb d_M_readsFull_203 (lv_at hl 2 rfl) ?_
      refine lv_iadd hx hb d_M_readsFull_205 ?_
      refine lv_aload_n hx hb d_M_readsFull_206 rfl (lv_at hl 0 rfl) ?_
      refine gf_M_99 hx hb hts hnw hown hw d_M_readsFull_207 ?_
      refine lv_iconst (v := 3) hx hb d_M_readsFull_210 (by decide) ?_
      refine lv_iload hx hb d_M_readsFull_211 (lv_at hl 2 rfl) ?_
      refine lv_imul hx hb d_M_readsFull_213 ?_
      obtain ⟨x214, g_214, e_214, h⟩ := sk_rI_some h
      refine al_M29 hx hb hw g_214 e_214 d_M_readsFull_214 ?_
      obtain ⟨st215, g_215, e_215, h⟩ := sk_wI_some h
      refine as_M26 hx hb hw g_215 e_215 d_M_readsFull_215 (fun H locs hw => ?_)
      refine lv_aload_n hx hb d_M_readsFull_216 rfl (lv_at hl 0 rfl) ?_
      refine gf_M_93 hx hb hts hnw hown hw d_M_readsFull_217 ?_
      refine lv_bipush (v := 112) hx hb d_M_readsFull_220 (by decide) ?_
      refine lv_iload hx hb d_M_readsFull_222 (lv_at hl 2 rfl) ?_
      refine lv_iadd hx hb d_M_readsFull_224 ?_
      refine lv_aload_n hx hb d_M_readsFull_225 rfl (lv_at hl 0 rfl) ?_
      refine gf_M_99 hx hb hts hnw hown hw d_M_readsFull_226 ?_
      refine lv_iconst (v := 3) hx hb d_M_readsFull_229 (by decide) ?_
      refine lv_iload hx hb d_M_readsFull_230 (lv_at hl 2 rfl) ?_
      refine lv_imul hx hb d_M_readsFull_232 ?_
      refine lv_iconst (v := 1) hx hb d_M_readsFull_233 (by decide) ?_
      refine lv_iadd hx hb d_M_readsFull_234 ?_
      obtain ⟨x235, g_235, e_235, h⟩ := sk_rI_some h
      refine al_M29 hx hb hw g_235 e_235 d_M_readsFull_235 ?_
      obtain ⟨st236, g_236, e_236, h⟩ := sk_wI_some h
      refine as_M27 hx hb hw g_236 e_236 d_M_readsFull_236 (fun H locs hw => ?_)
      refine lv_aload_n hx hb d_M_readsFull_237 rfl (lv_at hl 0 rfl) ?_
      refine gf_M_96 hx hb hts hnw hown hw d_M_readsFull_238 ?_
      refine lv_bipush (v := 112) hx hb d_M_readsFull_241 (by decide) ?_
      refine lv_iload hx hb d_M_readsFull_243 (lv_at hl 2 rfl) ?_
      refine lv_iadd hx hb d_M_readsFull_245 ?_
      refine lv_aload_n hx hb d_M_readsFull_246 rfl (lv_at hl 0 rfl) ?_
      refine gf_M_99 hx hb hts hnw hown hw d_M_readsFull_247 ?_
      refine lv_iconst (v := 3) hx hb d_M_readsFull_250 (by decide) ?_
      refine lv_iload hx hb d_M_readsFull_251 (lv_at hl 2 rfl) ?_
      refine lv_imul hx hb d_M_readsFull_253 ?_
      refine lv_iconst (v := 2) hx hb d_M_readsFull_254 (by decide) ?_
      refine lv_iadd hx hb d_M_readsFull_255 ?_
      obtain ⟨x256, g_256, e_256, h⟩ := sk_rI_some h
      refine al_M29 hx hb hw g_256 e_256 d_M_readsFull_256 ?_
      obtain ⟨st257, g_257, e_257, h⟩ := sk_wI_some h
      refine as_M28 hx hb hw g_257 e_257 d_M_readsFull_257 (fun H locs hw => ?_)
      refine lv_iinc (v := v8 + 1) (lv' := [(8, .int (v8 + 1)), (0, .ref (a 0)), (7, .int v7)]) hx hb d_M_readsFull_258 hl (k := 2) rfl rfl (by decide) rfl (fun ls hl => ?_)
      refine lv_goto (tgt := 190) hx hb d_M_readsFull_261 (by decide) ?_
      exact hself190 (st257, v7, (v8 + 1)) h _ _ _ hw (lv_sub hl [1, 2, 0] rfl)
  refine sk_lp_run (G := fun (z : sk_M × Int32 × Int32 × Int32 × Int32 × Int32 × Int32 × Int32) => ∀ (H : Heap) (locs : List Loc) (ls : Array Slot), sk_w D (tyM cI cZ) A (ceM a cI cZ) s z.1 H locs → lv_has ls 9 [(0, .ref (a 0)), (1, .int z.2.1), (2, .int z.2.2.1), (3, .int z.2.2.2.1), (4, .int z.2.2.2.2.1), (5, .int z.2.2.2.2.2.1), (6, .int z.2.2.2.2.2.2.1), (7, .int z.2.2.2.2.2.2.2)] → W p l e rm_M_readsFull s m args below meth c H locs 0 0 Q (F0 m 54 ls [])) ?_ N _ h _ _ _ hw (lv_sub hl [7, 6, 5, 4, 3, 2, 1, 0] rfl)
  rintro self54 ⟨st, v1, v2, v3, v4, v5, v6, v7⟩ hself54 h H locs ls hw hl
  unfold M_readsFull_L54 at h
  refine lv_iload hx hb d_M_readsFull_54 (lv_at hl 7 rfl) ?_
  refine lv_bipush (v := 16) hx hb d_M_readsFull_56 (by decide) ?_
  refine lv_icmp_ge (tgt := 128) hx hb d_M_readsFull_58 (by decide) (fun c_58 => ?_) (fun c_58 => ?_)
  · have h := (if_pos c_58).symm.trans h
    exact hJ128 _ _ _ _ _ _ _ _ _ _ h hw (lv_sub hl [0, 1, 2, 3, 4, 5, 6] rfl)
  · have h := (if_neg c_58).symm.trans h
    refine lv_aload_n hx hb d_M_readsFull_61 rfl (lv_at hl 0 rfl) ?_
    refine gf_M_99 hx hb hts hnw hown hw d_M_readsFull_62 ?_
    refine lv_iconst (v := 3) hx hb d_M_readsFull_65 (by decide) ?_
    refine lv_iload hx hb d_M_readsFull_66 (lv_at hl 7 rfl) ?_
    refine lv_imul hx hb d_M_readsFull_68 ?_
    refine lv_aload_n hx hb d_M_readsFull_69 rfl (lv_at hl 0 rfl) ?_
    refine gf_M_90 hx hb hts hnw hown hw d_M_readsFull_70 ?_
    refine lv_bipush (v := 112) hx hb d_M_readsFull_73 (by decide) ?_
    refine lv_iload hx hb d_M_readsFull_75 (lv_at hl 7 rfl) ?_
    refine lv_iadd hx hb d_M_readsFull_77 ?_
    obtain ⟨x78, g_78, e_78, h⟩ := sk_rI_some h
    refine al_M26 hx hb hw g_78 e_78 d_M_readsFull_78 ?_
    obtain ⟨st79, g_79, e_79, h⟩ := sk_wI_some h
    refine as_M29 hx hb hw g_79 e_79 d_M_readsFull_79 (fun H locs hw => ?_)
    refine lv_aload_n hx hb d_M_readsFull_80 rfl (lv_at hl 0 rfl) ?_
    refine gf_M_99 hx hb hts hnw hown hw d_M_readsFull_81 ?_
    refine lv_iconst (v := 3) hx hb d_M_readsFull_84 (by decide) ?_
    refine lv_iload hx hb d_M_readsFull_85 (lv_at hl 7 rfl) ?_
    refine lv_imul hx hb d_M_readsFull_87 ?_
    refine lv_iconst (v := 1) hx hb d_M_readsFull_88 (by decide) ?_
    refine lv_iadd hx hb d_M_readsFull_89 ?_
    refine lv_aload_n hx hb d_M_readsFull_90 rfl (lv_at hl 0 rfl) ?_
    refine gf_M_93 hx hb hts hnw hown hw d_M_readsFull_91 ?_
    refine lv_bipush (v := 112) hx hb d_M_readsFull_94 (by decide) ?_
    refine lv_iload hx hb d_M_readsFull_96 (lv_at hl 7 rfl) ?_
    refine lv_iadd hx hb d_M_readsFull_98 ?_
    obtain ⟨x99, g_99, e_99, h⟩ := sk_rI_some h
    refine al_M27 hx hb hw g_99 e_99 d_M_readsFull_99 ?_
    obtain ⟨st100, g_100, e_100, h⟩ := sk_wI_some h
    refine as_M29 hx hb hw g_100 e_100 d_M_readsFull_100 (fun H locs hw => ?_)
    refine lv_aload_n hx hb d_M_readsFull_101 rfl (lv_at hl 0 rfl) ?_
    refine gf_M_99 hx hb hts hnw hown hw d_M_readsFull_102 ?_
    refine lv_iconst (v := 3) hx hb d_M_readsFull_105 (by decide) ?_
    refine lv_iload hx hb d_M_readsFull_106 (lv_at hl 7 rfl) ?_
    refine lv_imul hx hb d_M_readsFull_108 ?_
    refine lv_iconst (v := 2) hx hb d_M_readsFull_109 (by decide) ?_
    refine lv_iadd hx hb d_M_readsFull_110 ?_
    refine lv_aload_n hx hb d_M_readsFull_111 rfl (lv_at hl 0 rfl) ?_
    refine gf_M_96 hx hb hts hnw hown hw d_M_readsFull_112 ?_
    refine lv_bipush (v := 112) hx hb d_M_readsFull_115 (by decide) ?_
    refine lv_iload hx hb d_M_readsFull_117 (lv_at hl 7 rfl) ?_
    refine lv_iadd hx hb d_M_readsFull_119 ?_
    obtain ⟨x120, g_120, e_120, h⟩ := sk_rI_some h
    refine al_M28 hx hb hw g_120 e_120 d_M_readsFull_120 ?_
    obtain ⟨st121, g_121, e_121, h⟩ := sk_wI_some h
    refine as_M29 hx hb hw g_121 e_121 d_M_readsFull_121 (fun H locs hw => ?_)
    refine lv_iinc (v := v7 + 1) (lv' := [(7, .int (v7 + 1)), (0, .ref (a 0)), (1, .int v1), (2, .int v2), (3, .int v3), (4, .int v4), (5, .int v5), (6, .int v6)]) hx hb d_M_readsFull_122 hl (k := 7) rfl rfl (by decide) rfl (fun ls hl => ?_)
    refine lv_goto (tgt := 54) hx hb d_M_readsFull_125 (by decide) ?_
    exact hself54 (st121, v1, v2, v3, v4, v5, v6, (v7 + 1)) h _ _ _ hw (lv_sub hl [1, 2, 3, 4, 5, 6, 7, 0] rfl)
set_option maxHeartbeats 4000000 in
set_option maxRecDepth 100000 in
theorem c_M_rule {l : Launch} {D : va_G} {A : Nat → Prop} {a : Nat → Nat} {cI cZ : ClassId} {nw : State → Prop} {N : Nat} {st : sk_M} {res : Int32 × sk_M} (hok : sk_ok A nw) (h : M_rule N st = some res) : sk_Ci l y_M_rule w_M_rule rm_M_rule D (tyM cI cZ) A (ceM a cI cZ) nw [.ref (a 0)] st res.1 res.2 := by
  refine sk_headi .int (by decide) rfl (Nat.le_of_ble_eq_true rfl) ?_
  intro p e s m args below meth c Q hx hb hml hown hts0 hnw hret ls hl hw
  have hts : ∀ w ∈ TB, w.before args s = true := fun w h => hts0 w (List.mem_cons_of_mem _ h)
  have hown : s.vm.findClass R_M = some m.cls := hown
  have hl : lv_has ls 5 [(0, .ref (a 0))] := hl
  unfold M_rule at h
  refine lv_aload_n hx hb d_M_rule_0 rfl (lv_at hl 0 rfl) ?_
  obtain ⟨st1, q_1, h⟩ := sk_oR_some h
  refine sk_callVv (As := []) (rest := []) ⟨hx, hb, hml, hown, hts⟩ hw hnw hok (c_M_partW hok q_1) (cw_M_182 hts hnw (by decide)) (rc_M hw) rfl hl.1 rfl (Nat.le_of_ble_eq_true rfl) d_M_rule_1 (fun H locs hw => ?_)
  refine lv_aload_n hx hb d_M_rule_4 rfl (lv_at hl 0 rfl) ?_
  refine gf_M_185 hx hb hts hnw hown hw d_M_rule_5 ?_
  refine lv_bipush (v := 8) hx hb d_M_rule_8 (by decide) ?_
  have hJ22 : ∀ (st : sk_M) (s0 : Int32) (H : Heap) (locs : List Loc) (ls : Array Slot), M_rule_J22 N st s0 = some res → sk_w D (tyM cI cZ) A (ceM a cI cZ) s st H locs → lv_has ls 5 [(0, .ref (a 0))] → W p l e rm_M_rule s m args below meth c H locs 0 0 Q (F0 m 22 ls [.int s0]) := by
    intro st s0 H locs ls h hw hl
    unfold M_rule_J22 at h
    refine lv_istore_n (lv' := [(1, .int s0), (0, .ref (a 0))]) hx hb d_M_rule_22 rfl hl (by decide) rfl (fun ls hl => ?_)
    refine lv_aload_n hx hb d_M_rule_23 rfl (lv_at hl 1 rfl) ?_
    refine gf_M_185 hx hb hts hnw hown hw d_M_rule_24 ?_
    refine lv_bipush (v := 8) hx hb d_M_rule_27 (by decide) ?_
    have hJ44 : ∀ (st : sk_M) (v1 : Int32) (s0 : Int32) (H : Heap) (locs : List Loc) (ls : Array Slot), M_rule_J44 N st v1 s0 = some res → sk_w D (tyM cI cZ) A (ceM a cI cZ) s st H locs → lv_has ls 5 [(0, .ref (a 0)), (1, .int v1)] → W p l e rm_M_rule s m args below meth c H locs 0 0 Q (F0 m 44 ls [.int s0]) := by
      intro st v1 s0 H locs ls h hw hl
      unfold M_rule_J44 at h
      refine lv_istore_n (lv' := [(2, .int s0), (0, .ref (a 0)), (1, .int v1)]) hx hb d_M_rule_44 rfl hl (by decide) rfl (fun ls hl => ?_)
      refine lv_aload_n hx hb d_M_rule_45 rfl (lv_at hl 1 rfl) ?_
      refine gf_M_146 hx hb hts hnw hown hw d_M_rule_46 ?_
      refine lv_istore_n (lv' := [(3, .int (st.1 0 2)), (2, .int s0), (0, .ref (a 0)), (1, .int v1)]) hx hb d_M_rule_49 rfl hl (by decide) rfl (fun ls hl => ?_)
      refine lv_aload_n hx hb d_M_rule_50 rfl (lv_at hl 2 rfl) ?_
      refine lv_iconst (v := 0) hx hb d_M_rule_51 (by decide) ?_
      obtain ⟨st52, e_52, h⟩ := sk_fI_some h
      refine pf_M_146 hx hb hts hnw hown hw e_52 d_M_rule_52 (fun H locs hw => ?_)
      refine lv_iload_n hx hb d_M_rule_55 rfl (lv_at hl 1 rfl) ?_
      refine lv_if_le (tgt := 64) hx hb d_M_rule_56 (by decide) (fun c_56 => ?_) (fun c_56 => ?_)
      · have h := (if_pos c_56).symm.trans h
        refine lv_aload_n hx hb d_M_rule_64 rfl (lv_at hl 2 rfl) ?_
        refine gf_M_185 hx hb hts hnw hown hw d_M_rule_65 ?_
        refine lv_bipush (v := 8) hx hb d_M_rule_68 (by decide) ?_
        refine lv_icmp_ne (tgt := 76) hx hb d_M_rule_70 (by decide) (fun c_70 => ?_) (fun c_70 => ?_)
        · have h := (if_neg c_70).symm.trans h
          refine lv_iconst (v := 0) hx hb d_M_rule_76 (by decide) ?_
          refine lv_istore (lv' := [(4, .int (0 : Int32)), (3, .int (st.1 0 2)), (2, .int s0), (0, .ref (a 0)), (1, .int v1)]) hx hb d_M_rule_77 hl (by decide) rfl (fun ls hl => ?_)
          have hJ110 : ∀ (st : sk_M) (H : Heap) (locs : List Loc) (ls : Array Slot), M_rule_J110 N st = some res → sk_w D (tyM cI cZ) A (ceM a cI cZ) s st H locs → lv_has ls 5 [(0, .ref (a 0))] → W p l e rm_M_rule s m args below meth c H locs 0 0 Q (F0 m 110 ls []) := by
            intro st H locs ls h hw hl
            unfold M_rule_J110 at h
            refine lv_aload_n hx hb d_M_rule_110 rfl (lv_at hl 0 rfl) ?_
            refine lv_dup hx hb d_M_rule_111 rfl ?_
            refine gf_M_185 hx hb hts hnw hown hw d_M_rule_112 ?_
            refine lv_iconst (v := 1) hx hb d_M_rule_115 (by decide) ?_
            refine lv_iadd hx hb d_M_rule_116 ?_
            obtain ⟨st117, e_117, h⟩ := sk_fI_some h
            refine pf_M_185 hx hb hts hnw hown hw e_117 d_M_rule_117 (fun H locs hw => ?_)
            refine lv_aload_n hx hb d_M_rule_120 rfl (lv_at hl 0 rfl) ?_
            refine gf_M_185 hx hb hts hnw hown hw d_M_rule_121 ?_
            exact hret _ _ _ _ _ _ (sk_p1 h) (sk_p2 h) (vp_nar_int _) hw d_M_rule_124
          refine sk_lp_run (G := fun (z : sk_M × Int32 × Int32 × Int32) => ∀ (H : Heap) (locs : List Loc) (ls : Array Slot), sk_w D (tyM cI cZ) A (ceM a cI cZ) s z.1 H locs → lv_has ls 5 [(0, .ref (a 0)), (1, .int z.2.1), (3, .int z.2.2.1), (4, .int z.2.2.2)] → W p l e rm_M_rule s m args below meth c H locs 0 0 Q (F0 m 79 ls [])) ?_ N _ h _ _ _ hw (lv_sub hl [3, 4, 1, 0] rfl)
          rintro self79 ⟨st, v1, v3, v4⟩ hself79 h H locs ls hw hl
          unfold M_rule_L79 at h
          refine lv_iload hx hb d_M_rule_79 (lv_at hl 3 rfl) ?_
          refine lv_iload_n hx hb d_M_rule_81 rfl (lv_at hl 2 rfl) ?_
          refine lv_icmp_ge (tgt := 110) hx hb d_M_rule_82 (by decide) (fun c_82 => ?_) (fun c_82 => ?_)
          · have h := (if_pos c_82).symm.trans h
            exact hJ110 _ _ _ _ h hw (lv_sub hl [0] rfl)
          · have h := (if_neg c_82).symm.trans h
            refine lv_aload_n hx hb d_M_rule_85 rfl (lv_at hl 0 rfl) ?_
            refine gf_M_69 hx hb hts hnw hown hw d_M_rule_86 ?_
            refine lv_bipush (v := 60) hx hb d_M_rule_89 (by decide) ?_
            refine lv_iload_n hx hb d_M_rule_91 rfl (lv_at hl 1 rfl) ?_
            refine lv_imul hx hb d_M_rule_92 ?_
            refine lv_iload hx hb d_M_rule_93 (lv_at hl 3 rfl) ?_
            refine lv_iadd hx hb d_M_rule_95 ?_
            refine lv_aload_n hx hb d_M_rule_96 rfl (lv_at hl 0 rfl) ?_
            refine gf_M_66 hx hb hts hnw hown hw d_M_rule_97 ?_
            refine lv_iload hx hb d_M_rule_100 (lv_at hl 3 rfl) ?_
            obtain ⟨x102, g_102, e_102, h⟩ := sk_rI_some h
            refine al_M18 hx hb hw g_102 e_102 d_M_rule_102 ?_
            obtain ⟨st103, g_103, e_103, h⟩ := sk_wI_some h
            refine as_M19 hx hb hw g_103 e_103 d_M_rule_103 (fun H locs hw => ?_)
            refine lv_iinc (v := v4 + 1) (lv' := [(4, .int (v4 + 1)), (0, .ref (a 0)), (1, .int v1), (3, .int v3)]) hx hb d_M_rule_104 hl (k := 3) rfl rfl (by decide) rfl (fun ls hl => ?_)
            refine lv_goto (tgt := 79) hx hb d_M_rule_107 (by decide) ?_
            exact hself79 (st103, v1, v3, (v4 + 1)) h _ _ _ hw (lv_sub hl [1, 2, 3, 0] rfl)
        · have h := (if_pos c_70).symm.trans h
          refine lv_bipush (v := -3) hx hb d_M_rule_73 (by decide) ?_
          exact hret _ _ _ _ _ _ (sk_p1 h) (sk_p2 h) (vp_nar_int _) hw d_M_rule_75
      · have h := (if_neg c_56).symm.trans h
        refine lv_bipush (v := -10) hx hb d_M_rule_59 (by decide) ?_
        refine lv_iload_n hx hb d_M_rule_61 rfl (lv_at hl 1 rfl) ?_
        refine lv_isub hx hb d_M_rule_62 ?_
        exact hret _ _ _ _ _ _ (sk_p1 h) (sk_p2 h) (vp_nar_int _) hw d_M_rule_63
    refine lv_icmp_ge (tgt := 40) hx hb d_M_rule_29 (by decide) (fun c_29 => ?_) (fun c_29 => ?_)
    · have h := (if_pos c_29).symm.trans h
      refine lv_aload_n hx hb d_M_rule_40 rfl (lv_at hl 1 rfl) ?_
      obtain ⟨x41, st41, q_41, h⟩ := sk_oW_some h
      refine sk_callVi (As := []) (rest := []) ⟨hx, hb, hml, hown, hts⟩ hw hnw hok (c_M_readsFull hok q_41) (cw_M_192 hts hnw (by decide)) (rc_M hw) rfl hl.1 rfl (Nat.le_of_ble_eq_true rfl) d_M_rule_41 (fun H locs hw => ?_)
      exact hJ44 _ _ _ _ _ _ h hw (lv_sub hl [1, 0] rfl)
    · have h := (if_neg c_29).symm.trans h
      refine lv_aload_n hx hb d_M_rule_32 rfl (lv_at hl 1 rfl) ?_
      refine lv_iload_n hx hb d_M_rule_33 rfl (lv_at hl 0 rfl) ?_
      obtain ⟨x34, st34, q_34, h⟩ := sk_oW_some h
      refine sk_callVi (As := [.int s0]) (rest := []) ⟨hx, hb, hml, hown, hts⟩ hw hnw hok (c_M_reads hok q_34) (cw_M_188 hts hnw (by decide)) (rc_M hw) rfl hl.1 rfl (Nat.le_of_ble_eq_true rfl) d_M_rule_34 (fun H locs hw => ?_)
      refine lv_goto (tgt := 44) hx hb d_M_rule_37 (by decide) ?_
      exact hJ44 _ _ _ _ _ _ h hw (lv_sub hl [1, 0] rfl)
  refine lv_icmp_ge (tgt := 20) hx hb d_M_rule_10 (by decide) (fun c_10 => ?_) (fun c_10 => ?_)
  · have h := (if_pos c_10).symm.trans h
    refine lv_bipush (v := 7) hx hb d_M_rule_20 (by decide) ?_
    exact hJ22 _ _ _ _ _ h hw (lv_sub hl [0] rfl)
  · have h := (if_neg c_10).symm.trans h
    refine lv_aload_n hx hb d_M_rule_13 rfl (lv_at hl 0 rfl) ?_
    refine gf_M_185 hx hb hts hnw hown hw d_M_rule_14 ?_
    refine lv_goto (tgt := 22) hx hb d_M_rule_17 (by decide) ?_
    exact hJ22 _ _ _ _ _ h hw (lv_sub hl [0] rfl)
