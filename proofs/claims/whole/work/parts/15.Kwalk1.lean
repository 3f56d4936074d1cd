set_option maxHeartbeats 4000000 in
set_option maxRecDepth 100000 in
theorem c_K_Text_wipe {l : Launch} {D : va_G} {A : Nat → Prop} {a : Nat → Nat} {cI cJ cC : ClassId} {adK adV : Nat → Nat} {i0 : Nat} {st : sk_M} {res : sk_M} (hok : sk_ok A (nwK A adK adV)) (hi0 : i0 < 4) (h : K_Text_wipe i0 st = some res) : sk_Cv l y_K_Text_wipe w_K_Text_wipe rm_K_Text_wipe D (tyK cI cJ cC) A (ceK a cI cJ cC) (nwK A adK adV) [.ref (a (4 + i0))] st res := by
  refine sk_headv (by decide) rfl (Nat.le_of_ble_eq_true rfl) ?_
  intro p e s m args below meth c Q hx hb hml hown hts0 hnw hret ls hl hw
  have hts : ∀ w ∈ TB, w.before args s = true := fun w h => hts0 w (List.mem_cons_of_mem _ h)
  have hown : s.vm.findClass R_Text = some m.cls := hown
  have hl : lv_has ls 1 [(0, .ref (a (4 + i0)))] := hl
  unfold K_Text_wipe at h
  refine lv_aload_n hx hb d_K_Text_wipe_0 rfl (lv_at hl 0 rfl) ?_
  refine lv_iconst (v := 0) hx hb d_K_Text_wipe_1 (by decide) ?_
  obtain ⟨st2, e_2, h⟩ := sk_fI_some h
  refine pf_Text_15 (i := i0) hx hb hts hnw hown hw hi0 e_2 d_K_Text_wipe_2 (fun H locs hw => ?_)
  exact hret _ _ _ _ _ (Option.some.inj h) hw d_K_Text_wipe_5
set_option maxHeartbeats 4000000 in
set_option maxRecDepth 100000 in
theorem c_K_SF_has {l : Launch} {D : va_G} {A : Nat → Prop} {a : Nat → Nat} {cI cJ cC : ClassId} {adK adV : Nat → Nat} {st : sk_M} {v0 : Int64} {v2 : Int32} {res : Int32} (hok : sk_ok A (nwK A adK adV)) (h : K_SF_has v0 v2 = res) : sk_Ci l y_K_SF_has w_K_SF_has rm_K_SF_has D (tyK cI cJ cC) A (ceK a cI cJ cC) (nwK A adK adV) [.long v0, .int v2] st res st := by
  refine sk_headi .boolean (by decide) rfl (Nat.le_of_ble_eq_true rfl) ?_
  intro p e s m args below meth c Q hx hb hml hown hts0 hnw hret ls hl hw
  have hts : ∀ w ∈ TB, w.before args s = true := fun w h => hts0 w (List.mem_cons_of_mem _ h)
  have hown : s.vm.findClass R_SF = some m.cls := hown
  have hl : lv_has ls 3 [(0, .long v0), (2, .int v2)] := hl
  unfold K_SF_has at h
  refine lv_iload_n hx hb d_K_SF_has_0 rfl (lv_at hl 1 rfl) ?_
  refine lv_if_lt (tgt := 24) hx hb d_K_SF_has_1 (by decide) (fun c_1 => ?_) (fun c_1 => ?_)
  · have h := (if_pos c_1).symm.trans h
    refine lv_iconst (v := 0) hx hb d_K_SF_has_24 (by decide) ?_
    exact hret _ _ _ _ _ _ h rfl rfl hw d_K_SF_has_25
  · have h := (if_neg c_1).symm.trans h
    refine lv_iload_n hx hb d_K_SF_has_4 rfl (lv_at hl 1 rfl) ?_
    refine lv_bipush (v := 64) hx hb d_K_SF_has_5 (by decide) ?_
    refine lv_icmp_ge (tgt := 24) hx hb d_K_SF_has_7 (by decide) (fun c_7 => ?_) (fun c_7 => ?_)
    · have h := (if_pos c_7).symm.trans h
      refine lv_iconst (v := 0) hx hb d_K_SF_has_24 (by decide) ?_
      exact hret _ _ _ _ _ _ h rfl rfl hw d_K_SF_has_25
    · have h := (if_neg c_7).symm.trans h
      refine lv_lload_n hx hb d_K_SF_has_10 rfl (lv_at hl 0 rfl) ?_
      refine lv_iload_n hx hb d_K_SF_has_11 rfl (lv_at hl 1 rfl) ?_
      refine lv_lushr hx hb d_K_SF_has_12 rfl ?_
      refine lv_lconst (v := 1) hx hb d_K_SF_has_13 (by decide) ?_
      refine lv_land hx hb d_K_SF_has_14 ?_
      refine lv_lconst (v := 0) hx hb d_K_SF_has_15 (by decide) ?_
      refine W.lcmp hx hb d_K_SF_has_16 ?_
      refine lv_if_eq (tgt := 24) hx hb d_K_SF_has_17 (by decide) (fun c_17 => ?_) (fun c_17 => ?_)
      · have h := (if_pos c_17).symm.trans h
        refine lv_iconst (v := 0) hx hb d_K_SF_has_24 (by decide) ?_
        exact hret _ _ _ _ _ _ h rfl rfl hw d_K_SF_has_25
      · have h := (if_neg c_17).symm.trans h
        refine lv_iconst (v := 1) hx hb d_K_SF_has_20 (by decide) ?_
        refine lv_goto (tgt := 25) hx hb d_K_SF_has_21 (by decide) ?_
        exact hret _ _ _ _ _ _ h rfl rfl hw d_K_SF_has_25
set_option maxHeartbeats 4000000 in
set_option maxRecDepth 100000 in
theorem c_K_Text_put {l : Launch} {D : va_G} {A : Nat → Prop} {a : Nat → Nat} {cI cJ cC : ClassId} {adK adV : Nat → Nat} {i0 : Nat} {st : sk_M} {v1 : Int32} {res : Int32 × sk_M} (hok : sk_ok A (nwK A adK adV)) (hi0 : i0 < 4) (h : K_Text_put i0 st v1 = some res) : sk_Ci l y_K_Text_put w_K_Text_put rm_K_Text_put D (tyK cI cJ cC) A (ceK a cI cJ cC) (nwK A adK adV) [.ref (a (4 + i0)), .int v1] st res.1 res.2 := by
  refine sk_headi .boolean (by decide) rfl (Nat.le_of_ble_eq_true rfl) ?_
  intro p e s m args below meth c Q hx hb hml hown hts0 hnw hret ls hl hw
  have hts : ∀ w ∈ TB, w.before args s = true := fun w h => hts0 w (List.mem_cons_of_mem _ h)
  have hown : s.vm.findClass R_Text = some m.cls := hown
  have hl : lv_has ls 2 [(0, .ref (a (4 + i0))), (1, .int v1)] := hl
  unfold K_Text_put at h
  refine lv_aload_n hx hb d_K_Text_put_0 rfl (lv_at hl 0 rfl) ?_
  refine gf_Text_15 (i := i0) hx hb hts hnw hown hw hi0 d_K_Text_put_1 ?_
  refine lv_aload_n hx hb d_K_Text_put_4 rfl (lv_at hl 0 rfl) ?_
  refine gf_Text_9 (i := i0) hx hb hts hnw hown hw hi0 d_K_Text_put_5 ?_
  refine an_T (i := i0) hx hb hw hi0 d_K_Text_put_8 ?_
  refine lv_icmp_lt (tgt := 14) hx hb d_K_Text_put_9 (by decide) (fun c_9 => ?_) (fun c_9 => ?_)
  · have h := (if_pos c_9).symm.trans h
    refine lv_aload_n hx hb d_K_Text_put_14 rfl (lv_at hl 0 rfl) ?_
    refine gf_Text_9 (i := i0) hx hb hts hnw hown hw hi0 d_K_Text_put_15 ?_
    refine lv_aload_n hx hb d_K_Text_put_18 rfl (lv_at hl 0 rfl) ?_
    refine gf_Text_15 (i := i0) hx hb hts hnw hown hw hi0 d_K_Text_put_19 ?_
    refine lv_iload_n hx hb d_K_Text_put_22 rfl (lv_at hl 1 rfl) ?_
    refine lv_i2c hx hb d_K_Text_put_23 rfl ?_
    obtain ⟨st24, g_24, e_24, h⟩ := sk_wI_some h
    refine as_T (i := i0) hx hb hw hi0 g_24 e_24 d_K_Text_put_24 (fun H locs hw => ?_)
    refine lv_aload_n hx hb d_K_Text_put_25 rfl (lv_at hl 0 rfl) ?_
    refine lv_dup hx hb d_K_Text_put_26 rfl ?_
    refine gf_Text_15 (i := i0) hx hb hts hnw hown hw hi0 d_K_Text_put_27 ?_
    refine lv_iconst (v := 1) hx hb d_K_Text_put_30 (by decide) ?_
    refine lv_iadd hx hb d_K_Text_put_31 ?_
    obtain ⟨st32, e_32, h⟩ := sk_fI_some h
    refine pf_Text_15 (i := i0) hx hb hts hnw hown hw hi0 e_32 d_K_Text_put_32 (fun H locs hw => ?_)
    refine lv_iconst (v := 1) hx hb d_K_Text_put_35 (by decide) ?_
    exact hret _ _ _ _ _ _ (sk_p1 h) (sk_p2 h) rfl hw d_K_Text_put_36
  · have h := (if_neg c_9).symm.trans h
    refine lv_iconst (v := 0) hx hb d_K_Text_put_12 (by decide) ?_
    exact hret _ _ _ _ _ _ (sk_p1 h) (sk_p2 h) rfl hw d_K_Text_put_13
set_option maxHeartbeats 4000000 in
set_option maxRecDepth 100000 in
theorem c_K_Text_putOldName {l : Launch} {D : va_G} {A : Nat → Prop} {a : Nat → Nat} {cI cJ cC : ClassId} {adK adV : Nat → Nat} {i0 : Nat} {st : sk_M} {v1 : Int32} {v2 : Int32} {res : sk_M} (hok : sk_ok A (nwK A adK adV)) (hi0 : i0 < 4) (h : K_Text_putOldName i0 st v1 v2 = some res) : sk_Cv l y_K_Text_putOldName w_K_Text_putOldName rm_K_Text_putOldName D (tyK cI cJ cC) A (ceK a cI cJ cC) (nwK A adK adV) [.ref (a (4 + i0)), .int v1, .int v2] st res := by
  refine sk_headv (by decide) rfl (Nat.le_of_ble_eq_true rfl) ?_
  intro p e s m args below meth c Q hx hb hml hown hts0 hnw hret ls hl hw
  have hts : ∀ w ∈ TB, w.before args s = true := fun w h => hts0 w (List.mem_cons_of_mem _ h)
  have hown : s.vm.findClass R_Text = some m.cls := hown
  have hl : lv_has ls 3 [(0, .ref (a (4 + i0))), (1, .int v1), (2, .int v2)] := hl
  unfold K_Text_putOldName at h
  refine lv_aload_n hx hb d_K_Text_putOldName_0 rfl (lv_at hl 0 rfl) ?_
  refine lv_bipush (v := 111) hx hb d_K_Text_putOldName_1 (by decide) ?_
  refine lv_iload_n hx hb d_K_Text_putOldName_3 rfl (lv_at hl 1 rfl) ?_
  refine lv_iadd hx hb d_K_Text_putOldName_4 ?_
  obtain ⟨x5, st5, q_5, h⟩ := sk_oW_some h
  refine sk_callVi (As := [.int ((111 : Int32) + v1)]) (rest := []) ⟨hx, hb, hml, hown, hts⟩ hw hnw hok (c_K_Text_put hok hi0 q_5) (cw_Text_28 hts hnw (by decide)) (rc_T (i := i0) hw hi0) rfl hl.1 rfl (Nat.le_of_ble_eq_true rfl) d_K_Text_putOldName_5 (fun H locs hw => ?_)
  refine lv_pop hx hb d_K_Text_putOldName_8 rfl ?_
  refine lv_aload_n hx hb d_K_Text_putOldName_9 rfl (lv_at hl 0 rfl) ?_
  refine lv_bipush (v := 46) hx hb d_K_Text_putOldName_10 (by decide) ?_
  obtain ⟨x12, st12, q_12, h⟩ := sk_oW_some h
  refine sk_callVi (As := [.int (46 : Int32)]) (rest := []) ⟨hx, hb, hml, hown, hts⟩ hw hnw hok (c_K_Text_put hok hi0 q_12) (cw_Text_28 hts hnw (by decide)) (rc_T (i := i0) hw hi0) rfl hl.1 rfl (Nat.le_of_ble_eq_true rfl) d_K_Text_putOldName_12 (fun H locs hw => ?_)
  refine lv_pop hx hb d_K_Text_putOldName_15 rfl ?_
  refine lv_aload_n hx hb d_K_Text_putOldName_16 rfl (lv_at hl 0 rfl) ?_
  refine lv_bipush (v := 65) hx hb d_K_Text_putOldName_17 (by decide) ?_
  refine lv_iload_n hx hb d_K_Text_putOldName_19 rfl (lv_at hl 2 rfl) ?_
  refine lv_iadd hx hb d_K_Text_putOldName_20 ?_
  obtain ⟨x21, st21, q_21, h⟩ := sk_oW_some h
  refine sk_callVi (As := [.int ((65 : Int32) + v2)]) (rest := []) ⟨hx, hb, hml, hown, hts⟩ hw hnw hok (c_K_Text_put hok hi0 q_21) (cw_Text_28 hts hnw (by decide)) (rc_T (i := i0) hw hi0) rfl hl.1 rfl (Nat.le_of_ble_eq_true rfl) d_K_Text_putOldName_21 (fun H locs hw => ?_)
  refine lv_pop hx hb d_K_Text_putOldName_24 rfl ?_
  exact hret _ _ _ _ _ (Option.some.inj h) hw d_K_Text_putOldName_25
set_option maxHeartbeats 4000000 in
set_option maxRecDepth 100000 in
theorem c_J_coder {l : Launch} {D : va_G} {A : Nat → Prop} {a : Nat → Nat} {cI cJ cC : ClassId} {adK adV : Nat → Nat} {j0 : Nat} {st : sk_M} {res : Int32} (hok : sk_ok A (nwK A adK adV)) (hj0 : j0 < 14) (h : J_coder j0 = res) : sk_Ci l y_J_coder w_J_coder rm_J_coder D (tyK cI cJ cC) A (ceK a cI cJ cC) (nwK A adK adV) [.ref (adK j0)] st res st := by
  refine sk_headi .byte (by decide) rfl (Nat.le_of_ble_eq_true rfl) ?_
  intro p e s m args below meth c Q hx hb hml hown hts0 hnw hret ls hl hw
  have hts : ∀ w ∈ TB, w.before args s = true := fun w h => hts0 w (List.mem_cons_of_mem _ h)
  have hown : s.vm.findClass R_Str = some m.cls := hown
  have hl : lv_has ls 1 [(0, .ref (adK j0))] := hl
  unfold J_coder at h
  refine gs_compact hx hb hts hnw hown hw d_J_coder_0 ?_
  refine lv_if_eq (tgt := 13) hx hb d_J_coder_3 (by decide) (fun c_3 => ?_) (fun c_3 => ?_)
  · exact absurd c_3 (by decide)
  · refine lv_aload_n hx hb d_J_coder_6 rfl (lv_at hl 0 rfl) ?_
    refine gs_coder (j := j0) hx hb hts hnw hown hw hj0 d_J_coder_7 ?_
    refine lv_goto (tgt := 14) hx hb d_J_coder_10 (by decide) ?_
    exact hret _ _ _ _ _ _ h rfl rfl hw d_J_coder_14
set_option maxHeartbeats 4000000 in
set_option maxRecDepth 100000 in
theorem c_J_length {l : Launch} {D : va_G} {A : Nat → Prop} {a : Nat → Nat} {cI cJ cC : ClassId} {adK adV : Nat → Nat} {j0 : Nat} {st : sk_M} {res : Int32} (hok : sk_ok A (nwK A adK adV)) (hj0 : j0 < 14) (h : J_length j0 = res) : sk_Ci l y_J_length w_J_length rm_J_length D (tyK cI cJ cC) A (ceK a cI cJ cC) (nwK A adK adV) [.ref (adK j0)] st res st := by
  refine sk_headi .int (by decide) rfl (Nat.le_of_ble_eq_true rfl) ?_
  intro p e s m args below meth c Q hx hb hml hown hts0 hnw hret ls hl hw
  have hts : ∀ w ∈ TB, w.before args s = true := fun w h => hts0 w (List.mem_cons_of_mem _ h)
  have hown : s.vm.findClass R_Str = some m.cls := hown
  have hl : lv_has ls 1 [(0, .ref (adK j0))] := hl
  unfold J_length at h
  refine lv_aload_n hx hb d_J_length_0 rfl (lv_at hl 0 rfl) ?_
  refine gs_value (j := j0) hx hb hts hnw hown hw hj0 d_J_length_1 ?_
  refine an_S (j := j0) hx hb hnw hw hj0 d_J_length_4 ?_
  refine lv_aload_n hx hb d_J_length_5 rfl (lv_at hl 0 rfl) ?_
  refine sk_callVi (As := []) (rest := [.int (nI (lenJK.getD j0 0))]) ⟨hx, hb, hml, hown, hts⟩ hw hnw hok (c_J_coder hok hj0 (res := 0) rfl) (cw_Str_335 hts hnw (by decide)) (vk_recv hnw.2.2.1 hj0 hw.2.2.2) rfl hl.1 rfl (Nat.le_of_ble_eq_true rfl) d_J_length_6 (fun H locs hw => ?_)
  refine lv_ishr hx hb d_J_length_9 ?_
  exact hret _ _ _ _ _ _ h rfl (vp_nar_int _) hw d_J_length_10
set_option maxHeartbeats 4000000 in
set_option maxRecDepth 100000 in
theorem c_J_isLatin1 {l : Launch} {D : va_G} {A : Nat → Prop} {a : Nat → Nat} {cI cJ cC : ClassId} {adK adV : Nat → Nat} {j0 : Nat} {st : sk_M} {res : Int32} (hok : sk_ok A (nwK A adK adV)) (hj0 : j0 < 14) (h : J_isLatin1 j0 = res) : sk_Ci l y_J_isLatin1 w_J_isLatin1 rm_J_isLatin1 D (tyK cI cJ cC) A (ceK a cI cJ cC) (nwK A adK adV) [.ref (adK j0)] st res st := by
  refine sk_headi .boolean (by decide) rfl (Nat.le_of_ble_eq_true rfl) ?_
  intro p e s m args below meth c Q hx hb hml hown hts0 hnw hret ls hl hw
  have hts : ∀ w ∈ TB, w.before args s = true := fun w h => hts0 w (List.mem_cons_of_mem _ h)
  have hown : s.vm.findClass R_Str = some m.cls := hown
  have hl : lv_has ls 1 [(0, .ref (adK j0))] := hl
  unfold J_isLatin1 at h
  refine gs_compact hx hb hts hnw hown hw d_J_isLatin1_0 ?_
  refine lv_if_eq (tgt := 17) hx hb d_J_isLatin1_3 (by decide) (fun c_3 => ?_) (fun c_3 => ?_)
  · exact absurd c_3 (by decide)
  · refine lv_aload_n hx hb d_J_isLatin1_6 rfl (lv_at hl 0 rfl) ?_
    refine gs_coder (j := j0) hx hb hts hnw hown hw hj0 d_J_isLatin1_7 ?_
    refine lv_if_ne (tgt := 17) hx hb d_J_isLatin1_10 (by decide) (fun c_10 => ?_) (fun c_10 => ?_)
    · exact absurd c_10 (by decide)
    · refine lv_iconst (v := 1) hx hb d_J_isLatin1_13 (by decide) ?_
      refine lv_goto (tgt := 18) hx hb d_J_isLatin1_14 (by decide) ?_
      exact hret _ _ _ _ _ _ h rfl rfl hw d_J_isLatin1_18
set_option maxHeartbeats 4000000 in
set_option maxRecDepth 100000 in
theorem c_J_pci_n {l : Launch} {D : va_G} {A : Nat → Prop} {a : Nat → Nat} {cI cJ cC : ClassId} {adK adV : Nat → Nat} {st : sk_M} {v0 : Int32} {v1 : Int32} {res : Int32} (hok : sk_ok A (nwK A adK adV)) (h : J_pci v0 v1 = some res) : sk_Ci l y_J_pci w_J_pci rm_J_pci D (tyK cI cJ cC) A (ceK a cI cJ cC) (nwK A adK adV) [.int v0, .int v1, .null] st res st := by
  refine sk_headi .int (by decide) rfl (Nat.le_of_ble_eq_true rfl) ?_
  intro p e s m args below meth c Q hx hb hml hown hts0 hnw hret ls hl hw
  have hts : ∀ w ∈ TB, w.before args s = true := fun w h => hts0 w (List.mem_cons_of_mem _ h)
  have hown : s.vm.findClass R_Pre = some m.cls := hown
  have hl : lv_has ls 3 [(0, .int v0), (1, .int v1), (2, .null)] := hl
  unfold J_pci at h
  refine lv_iload_n hx hb d_J_pci_0 rfl (lv_at hl 0 rfl) ?_
  refine lv_if_lt (tgt := 9) hx hb d_J_pci_1 (by decide) (fun c_1 => ?_) (fun c_1 => ?_)
  · have h := (if_pos c_1).symm.trans h
    cases h
  · have h := (if_neg c_1).symm.trans h
    refine lv_iload_n hx hb d_J_pci_4 rfl (lv_at hl 0 rfl) ?_
    refine lv_iload_n hx hb d_J_pci_5 rfl (lv_at hl 1 rfl) ?_
    refine lv_icmp_lt (tgt := 16) hx hb d_J_pci_6 (by decide) (fun c_6 => ?_) (fun c_6 => ?_)
    · have h := (if_pos c_6).symm.trans h
      refine lv_iload_n hx hb d_J_pci_16 rfl (lv_at hl 0 rfl) ?_
      exact hret _ _ _ _ _ _ (Option.some.inj h) rfl (vp_nar_int _) hw d_J_pci_17
    · have h := (if_neg c_6).symm.trans h
      cases h
set_option maxHeartbeats 4000000 in
set_option maxRecDepth 100000 in
theorem c_J_pci_r {l : Launch} {D : va_G} {A : Nat → Prop} {a : Nat → Nat} {cI cJ cC : ClassId} {adK adV : Nat → Nat} {t2 : Nat} {st : sk_M} {v0 : Int32} {v1 : Int32} {res : Int32} (hok : sk_ok A (nwK A adK adV)) (h : J_pci v0 v1 = some res) : sk_Ci l y_J_pci w_J_pci rm_J_pci D (tyK cI cJ cC) A (ceK a cI cJ cC) (nwK A adK adV) [.int v0, .int v1, .ref t2] st res st := by
  refine sk_headi .int (by decide) rfl (Nat.le_of_ble_eq_true rfl) ?_
  intro p e s m args below meth c Q hx hb hml hown hts0 hnw hret ls hl hw
  have hts : ∀ w ∈ TB, w.before args s = true := fun w h => hts0 w (List.mem_cons_of_mem _ h)
  have hown : s.vm.findClass R_Pre = some m.cls := hown
  have hl : lv_has ls 3 [(0, .int v0), (1, .int v1), (2, .ref t2)] := hl
  unfold J_pci at h
  refine lv_iload_n hx hb d_J_pci_0 rfl (lv_at hl 0 rfl) ?_
  refine lv_if_lt (tgt := 9) hx hb d_J_pci_1 (by decide) (fun c_1 => ?_) (fun c_1 => ?_)
  · have h := (if_pos c_1).symm.trans h
    cases h
  · have h := (if_neg c_1).symm.trans h
    refine lv_iload_n hx hb d_J_pci_4 rfl (lv_at hl 0 rfl) ?_
    refine lv_iload_n hx hb d_J_pci_5 rfl (lv_at hl 1 rfl) ?_
    refine lv_icmp_lt (tgt := 16) hx hb d_J_pci_6 (by decide) (fun c_6 => ?_) (fun c_6 => ?_)
    · have h := (if_pos c_6).symm.trans h
      refine lv_iload_n hx hb d_J_pci_16 rfl (lv_at hl 0 rfl) ?_
      exact hret _ _ _ _ _ _ (Option.some.inj h) rfl (vp_nar_int _) hw d_J_pci_17
    · have h := (if_neg c_6).symm.trans h
      cases h
set_option maxHeartbeats 4000000 in
set_option maxRecDepth 100000 in
theorem c_J_checkIndex {l : Launch} {D : va_G} {A : Nat → Prop} {a : Nat → Nat} {cI cJ cC : ClassId} {adK adV : Nat → Nat} {st : sk_M} {v0 : Int32} {v1 : Int32} {res : Unit} (hok : sk_ok A (nwK A adK adV)) (h : J_checkIndex v0 v1 = some res) : sk_Cv l y_J_checkIndex w_J_checkIndex rm_J_checkIndex D (tyK cI cJ cC) A (ceK a cI cJ cC) (nwK A adK adV) [.int v0, .int v1] st st := by
  refine sk_headv (by decide) rfl (Nat.le_of_ble_eq_true rfl) ?_
  intro p e s m args below meth c Q hx hb hml hown hts0 hnw hret ls hl hw
  have hts : ∀ w ∈ TB, w.before args s = true := fun w h => hts0 w (List.mem_cons_of_mem _ h)
  have hown : s.vm.findClass R_Str = some m.cls := hown
  have hl : lv_has ls 2 [(0, .int v0), (1, .int v1)] := hl
  unfold J_checkIndex at h
  refine lv_iload_n hx hb d_J_checkIndex_0 rfl (lv_at hl 0 rfl) ?_
  refine lv_iload_n hx hb d_J_checkIndex_1 rfl (lv_at hl 1 rfl) ?_
  rcases hnw.2.2.2.2 with hZ | ⟨t_2, hZ⟩
  · refine gs_sioobe hx hb hts hZ hown hw d_J_checkIndex_2 ?_
    obtain ⟨x5, q_5, h⟩ := sk_oR_some h
    refine sk_callSi (As := [.int v0, .int v1, .null]) (rest := []) ⟨hx, hb, hml, hown, hts⟩ hw hnw hok (c_J_pci_n hok q_5) (cw_Str_1059 hts hnw (by decide)) rfl hl.1 rfl (Nat.le_of_ble_eq_true rfl) d_J_checkIndex_5 (fun H locs hw => ?_)
    refine lv_pop hx hb d_J_checkIndex_8 rfl ?_
    exact hret _ _ _ _ _ rfl hw d_J_checkIndex_9
  · refine gs_sioobe hx hb hts hZ hown hw d_J_checkIndex_2 ?_
    obtain ⟨x5, q_5, h⟩ := sk_oR_some h
    refine sk_callSi (As := [.int v0, .int v1, .ref t_2]) (rest := []) ⟨hx, hb, hml, hown, hts⟩ hw hnw hok (c_J_pci_r hok q_5) (cw_Str_1059 hts hnw (by decide)) rfl hl.1 rfl (Nat.le_of_ble_eq_true rfl) d_J_checkIndex_5 (fun H locs hw => ?_)
    refine lv_pop hx hb d_J_checkIndex_8 rfl ?_
    exact hret _ _ _ _ _ rfl hw d_J_checkIndex_9
set_option maxHeartbeats 4000000 in
set_option maxRecDepth 100000 in
theorem c_J_lcharAt {l : Launch} {D : va_G} {A : Nat → Prop} {a : Nat → Nat} {cI cJ cC : ClassId} {adK adV : Nat → Nat} {j0 : Nat} {st : sk_M} {v1 : Int32} {res : Int32} (hok : sk_ok A (nwK A adK adV)) (hj0 : j0 < 14) (h : J_lcharAt j0 v1 = some res) : sk_Ci l y_J_lcharAt w_J_lcharAt rm_J_lcharAt D (tyK cI cJ cC) A (ceK a cI cJ cC) (nwK A adK adV) [.ref (adV j0), .int v1] st res st := by
  refine sk_headi .char (by decide) rfl (Nat.le_of_ble_eq_true rfl) ?_
  intro p e s m args below meth c Q hx hb hml hown hts0 hnw hret ls hl hw
  have hts : ∀ w ∈ TB, w.before args s = true := fun w h => hts0 w (List.mem_cons_of_mem _ h)
  have hown : s.vm.findClass R_Lat = some m.cls := hown
  have hl : lv_has ls 2 [(0, .ref (adV j0)), (1, .int v1)] := hl
  unfold J_lcharAt at h
  refine lv_iload_n hx hb d_J_lcharAt_0 rfl (lv_at hl 1 rfl) ?_
  refine lv_aload_n hx hb d_J_lcharAt_1 rfl (lv_at hl 0 rfl) ?_
  refine an_S (j := j0) hx hb hnw hw hj0 d_J_lcharAt_2 ?_
  obtain ⟨u_3, q_3, h⟩ := sk_oR_some h
  refine sk_callSv (As := [.int v1, .int (nI (lenJK.getD j0 0))]) (rest := []) ⟨hx, hb, hml, hown, hts⟩ hw hnw hok (c_J_checkIndex hok q_3) (cw_Lat_9 hts hnw (by decide)) rfl hl.1 rfl (Nat.le_of_ble_eq_true rfl) d_J_lcharAt_3 (fun H locs hw => ?_)
  refine lv_aload_n hx hb d_J_lcharAt_6 rfl (lv_at hl 0 rfl) ?_
  refine lv_iload_n hx hb d_J_lcharAt_7 rfl (lv_at hl 1 rfl) ?_
  obtain ⟨x8, g_8, e_8, h⟩ := sk_rS_some h
  refine al_S (j := j0) hx hb hnw hw hj0 g_8 e_8 d_J_lcharAt_8 ?_
  refine lv_sipush (v := 255) hx hb d_J_lcharAt_9 (by decide) ?_
  refine lv_iand hx hb d_J_lcharAt_12 ?_
  refine lv_i2c hx hb d_J_lcharAt_13 rfl ?_
  exact hret _ _ _ _ _ _ (Option.some.inj h) rfl (pk_nc _) hw d_J_lcharAt_14
set_option maxHeartbeats 4000000 in
set_option maxRecDepth 100000 in
theorem c_J_charAt {l : Launch} {D : va_G} {A : Nat → Prop} {a : Nat → Nat} {cI cJ cC : ClassId} {adK adV : Nat → Nat} {j0 : Nat} {st : sk_M} {v1 : Int32} {res : Int32} (hok : sk_ok A (nwK A adK adV)) (hj0 : j0 < 14) (h : J_charAt j0 v1 = some res) : sk_Ci l y_J_charAt w_J_charAt rm_J_charAt D (tyK cI cJ cC) A (ceK a cI cJ cC) (nwK A adK adV) [.ref (adK j0), .int v1] st res st := by
  refine sk_headi .char (by decide) rfl (Nat.le_of_ble_eq_true rfl) ?_
  intro p e s m args below meth c Q hx hb hml hown hts0 hnw hret ls hl hw
  have hts : ∀ w ∈ TB, w.before args s = true := fun w h => hts0 w (List.mem_cons_of_mem _ h)
  have hown : s.vm.findClass R_Str = some m.cls := hown
  have hl : lv_has ls 2 [(0, .ref (adK j0)), (1, .int v1)] := hl
  unfold J_charAt at h
  refine lv_aload_n hx hb d_J_charAt_0 rfl (lv_at hl 0 rfl) ?_
  refine sk_callVi (As := []) (rest := []) ⟨hx, hb, hml, hown, hts⟩ hw hnw hok (c_J_isLatin1 hok hj0 (res := 1) rfl) (cw_Str_492 hts hnw (by decide)) (vk_recv hnw.2.2.1 hj0 hw.2.2.2) rfl hl.1 rfl (Nat.le_of_ble_eq_true rfl) d_J_charAt_1 (fun H locs hw => ?_)
  refine lv_if_eq (tgt := 16) hx hb d_J_charAt_4 (by decide) (fun c_4 => ?_) (fun c_4 => ?_)
  · exact absurd c_4 (by decide)
  · refine lv_aload_n hx hb d_J_charAt_7 rfl (lv_at hl 0 rfl) ?_
    refine gs_value (j := j0) hx hb hts hnw hown hw hj0 d_J_charAt_8 ?_
    refine lv_iload_n hx hb d_J_charAt_11 rfl (lv_at hl 1 rfl) ?_
    obtain ⟨x12, q_12, h⟩ := sk_oR_some h
    refine sk_callSi (As := [.ref (adV j0), .int v1]) (rest := []) ⟨hx, hb, hml, hown, hts⟩ hw hnw hok (c_J_lcharAt hok hj0 q_12) (cw_Str_495 hts hnw (by decide)) rfl hl.1 rfl (Nat.le_of_ble_eq_true rfl) d_J_charAt_12 (fun H locs hw => ?_)
    obtain ⟨hz, h⟩ := sk_ckc_some h
    exact hret _ _ _ _ _ _ (Option.some.inj h) rfl hz hw d_J_charAt_15
set_option maxHeartbeats 4000000 in
set_option maxRecDepth 100000 in
theorem c_K_Text_putAll {l : Launch} {D : va_G} {A : Nat → Prop} {a : Nat → Nat} {cI cJ cC : ClassId} {adK adV : Nat → Nat} {N : Nat} {i0 : Nat} {j1 : Nat} {st : sk_M} {res : sk_M} (hok : sk_ok A (nwK A adK adV)) (hi0 : i0 < 4) (hj1 : j1 < 14) (h : K_Text_putAll N i0 j1 st = some res) : sk_Cv l y_K_Text_putAll w_K_Text_putAll rm_K_Text_putAll D (tyK cI cJ cC) A (ceK a cI cJ cC) (nwK A adK adV) [.ref (a (4 + i0)), .ref (adK j1)] st res := by
  refine sk_headv (by decide) rfl (Nat.le_of_ble_eq_true rfl) ?_
  intro p e s m args below meth c Q hx hb hml hown hts0 hnw hret ls hl hw
  have hts : ∀ w ∈ TB, w.before args s = true := fun w h => hts0 w (List.mem_cons_of_mem _ h)
  have hown : s.vm.findClass R_Text = some m.cls := hown
  have hl : lv_has ls 3 [(0, .ref (a (4 + i0))), (1, .ref (adK j1))] := hl
  unfold K_Text_putAll at h
  refine lv_iconst (v := 0) hx hb d_K_Text_putAll_0 (by decide) ?_
  refine lv_istore_n (lv' := [(2, .int (0 : Int32)), (0, .ref (a (4 + i0))), (1, .ref (adK j1))]) hx hb d_K_Text_putAll_1 rfl hl (by decide) rfl (fun ls hl => ?_)
  refine sk_lp_run (G := fun (z : sk_M × Int32) => ∀ (H : Heap) (locs : List Loc) (ls : Array Slot), sk_w D (tyK cI cJ cC) A (ceK a cI cJ cC) s z.1 H locs → lv_has ls 3 [(0, .ref (a (4 + i0))), (1, .ref (adK j1)), (2, .int z.2)] → W p l e rm_K_Text_putAll s m args below meth c H locs 0 0 Q (F0 m 2 ls [])) ?_ N _ h _ _ _ hw (lv_sub hl [1, 2, 0] rfl)
  rintro self2 ⟨st, v2⟩ hself2 h H locs ls hw hl
  unfold K_Text_putAll_L2 at h
  refine lv_iload_n hx hb d_K_Text_putAll_2 rfl (lv_at hl 2 rfl) ?_
  refine lv_aload_n hx hb d_K_Text_putAll_3 rfl (lv_at hl 1 rfl) ?_
  refine sk_callVi (As := []) (rest := [.int v2]) ⟨hx, hb, hml, hown, hts⟩ hw hnw hok (c_J_length hok hj1 rfl) (cw_Text_19 hts hnw (by decide)) (vk_recv hnw.2.2.1 hj1 hw.2.2.2) rfl hl.1 rfl (Nat.le_of_ble_eq_true rfl) d_K_Text_putAll_4 (fun H locs hw => ?_)
  refine lv_icmp_ge (tgt := 26) hx hb d_K_Text_putAll_7 (by decide) (fun c_7 => ?_) (fun c_7 => ?_)
  · have h := (if_pos c_7).symm.trans h
    exact hret _ _ _ _ _ (Option.some.inj h) hw d_K_Text_putAll_26
  · have h := (if_neg c_7).symm.trans h
    refine lv_aload_n hx hb d_K_Text_putAll_10 rfl (lv_at hl 0 rfl) ?_
    refine lv_aload_n hx hb d_K_Text_putAll_11 rfl (lv_at hl 1 rfl) ?_
    refine lv_iload_n hx hb d_K_Text_putAll_12 rfl (lv_at hl 2 rfl) ?_
    obtain ⟨x13, q_13, h⟩ := sk_oR_some h
    refine sk_callVi (As := [.int v2]) (rest := [.ref (a (4 + i0))]) ⟨hx, hb, hml, hown, hts⟩ hw hnw hok (c_J_charAt hok hj1 q_13) (cw_Text_24 hts hnw (by decide)) (vk_recv hnw.2.2.1 hj1 hw.2.2.2) rfl hl.1 rfl (Nat.le_of_ble_eq_true rfl) d_K_Text_putAll_13 (fun H locs hw => ?_)
    obtain ⟨x16, st16, q_16, h⟩ := sk_oW_some h
    refine sk_callVi (As := [.int x13]) (rest := []) ⟨hx, hb, hml, hown, hts⟩ hw hnw hok (c_K_Text_put hok hi0 q_16) (cw_Text_28 hts hnw (by decide)) (rc_T (i := i0) hw hi0) rfl hl.1 rfl (Nat.le_of_ble_eq_true rfl) d_K_Text_putAll_16 (fun H locs hw => ?_)
    refine lv_pop hx hb d_K_Text_putAll_19 rfl ?_
    refine lv_iinc (v := v2 + 1) (lv' := [(2, .int (v2 + 1)), (0, .ref (a (4 + i0))), (1, .ref (adK j1))]) hx hb d_K_Text_putAll_20 hl (k := 2) rfl rfl (by decide) rfl (fun ls hl => ?_)
    refine lv_goto (tgt := 2) hx hb d_K_Text_putAll_23 (by decide) ?_
    exact hself2 (st16, (v2 + 1)) h _ _ _ hw (lv_sub hl [1, 2, 0] rfl)
set_option maxHeartbeats 4000000 in
set_option maxRecDepth 100000 in
theorem c_K_Names_tellName {l : Launch} {D : va_G} {A : Nat → Prop} {a : Nat → Nat} {cI cJ cC : ClassId} {adK adV : Nat → Nat} {i1 : Nat} {st : sk_M} {v2 : Int32} {res : sk_M} (hok : sk_ok A (nwK A adK adV)) (hi1 : i1 < 4) (h : K_Names_tellName i1 st v2 = some res) : sk_Cv l y_K_Names_tellName w_K_Names_tellName rm_K_Names_tellName D (tyK cI cJ cC) A (ceK a cI cJ cC) (nwK A adK adV) [.ref (a 11), .ref (a (4 + i1)), .int v2] st res := by
  refine sk_headv (by decide) rfl (Nat.le_of_ble_eq_true rfl) ?_
  intro p e s m args below meth c Q hx hb hml hown hts0 hnw hret ls hl hw
  have hts : ∀ w ∈ TB, w.before args s = true := fun w h => hts0 w (List.mem_cons_of_mem _ h)
  have hown : s.vm.findClass R_Names = some m.cls := hown
  have hl : lv_has ls 3 [(0, .ref (a 11)), (1, .ref (a (4 + i1))), (2, .int v2)] := hl
  unfold K_Names_tellName at h
  refine lv_aload_n hx hb d_K_Names_tellName_0 rfl (lv_at hl 0 rfl) ?_
  refine gf_Names_57 hx hb hts hnw hown hw d_K_Names_tellName_1 ?_
  refine lv_iload_n hx hb d_K_Names_tellName_4 rfl (lv_at hl 2 rfl) ?_
  refine sk_callSNi (As := [.long (st.2 0 2), .int v2]) (rest := []) ⟨hx, hb, hml, hown, hts⟩ hw hnw hok (c_K_SF_has hok rfl) (cw_Names_76 hts hnw (by decide)) rfl hl.1 rfl (Nat.le_of_ble_eq_true rfl) d_K_Names_tellName_5 (fun H locs hw => ?_)
  refine lv_if_eq (tgt := 28) hx hb d_K_Names_tellName_8 (by decide) (fun c_8 => ?_) (fun c_8 => ?_)
  · have h := (if_pos c_8).symm.trans h
    refine lv_aload_n hx hb d_K_Names_tellName_28 rfl (lv_at hl 1 rfl) ?_
    refine lv_aload_n hx hb d_K_Names_tellName_29 rfl (lv_at hl 0 rfl) ?_
    refine gf_Names_9 hx hb hts hnw hown hw d_K_Names_tellName_30 ?_
    refine lv_iload_n hx hb d_K_Names_tellName_33 rfl (lv_at hl 2 rfl) ?_
    obtain ⟨x34, g_34, e_34, h⟩ := sk_rI_some h
    refine al_K21 hx hb hw g_34 e_34 d_K_Names_tellName_34 ?_
    obtain ⟨x35, st35, q_35, h⟩ := sk_oW_some h
    refine sk_callVi (As := [.int x34]) (rest := []) ⟨hx, hb, hml, hown, hts⟩ hw hnw hok (c_K_Text_put hok hi1 q_35) (cw_Names_91 hts hnw (by decide)) (rc_T (i := i1) hw hi1) rfl hl.1 rfl (Nat.le_of_ble_eq_true rfl) d_K_Names_tellName_35 (fun H locs hw => ?_)
    refine lv_pop hx hb d_K_Names_tellName_38 rfl ?_
    exact hret _ _ _ _ _ (Option.some.inj h) hw d_K_Names_tellName_39
  · have h := (if_neg c_8).symm.trans h
    refine lv_aload_n hx hb d_K_Names_tellName_11 rfl (lv_at hl 1 rfl) ?_
    refine lv_aload_n hx hb d_K_Names_tellName_12 rfl (lv_at hl 0 rfl) ?_
    refine gf_Names_18 hx hb hts hnw hown hw d_K_Names_tellName_13 ?_
    refine gf_Names_80 hx hb hts hnw hown hw d_K_Names_tellName_16 ?_
    refine lv_iload_n hx hb d_K_Names_tellName_19 rfl (lv_at hl 2 rfl) ?_
    obtain ⟨x20, g_20, e_20, h⟩ := sk_rI_some h
    refine al_K35 hx hb hw g_20 e_20 d_K_Names_tellName_20 ?_
    refine lv_iload_n hx hb d_K_Names_tellName_21 rfl (lv_at hl 2 rfl) ?_
    obtain ⟨st22, q_22, h⟩ := sk_oR_some h
    refine sk_callVv (As := [.int x20, .int v2]) (rest := []) ⟨hx, hb, hml, hown, hts⟩ hw hnw hok (c_K_Text_putOldName hok hi1 q_22) (cw_Names_85 hts hnw (by decide)) (rc_T (i := i1) hw hi1) rfl hl.1 rfl (Nat.le_of_ble_eq_true rfl) d_K_Names_tellName_22 (fun H locs hw => ?_)
    refine lv_goto (tgt := 39) hx hb d_K_Names_tellName_25 (by decide) ?_
    exact hret _ _ _ _ _ (Option.some.inj h) hw d_K_Names_tellName_39
set_option maxHeartbeats 4000000 in
set_option maxRecDepth 100000 in
theorem c_K_SF_wordOf {l : Launch} {D : va_G} {A : Nat → Prop} {a : Nat → Nat} {cI cJ cC : ClassId} {adK adV : Nat → Nat} {st : sk_M} {v0 : Int32} {res : Int32} (hok : sk_ok A (nwK A adK adV)) (h : K_SF_wordOf v0 = res) : sk_Ci l y_K_SF_wordOf w_K_SF_wordOf rm_K_SF_wordOf D (tyK cI cJ cC) A (ceK a cI cJ cC) (nwK A adK adV) [.int v0] st res st := by
  refine sk_headi .int (by decide) rfl (Nat.le_of_ble_eq_true rfl) ?_
  intro p e s m args below meth c Q hx hb hml hown hts0 hnw hret ls hl hw
  have hts : ∀ w ∈ TB, w.before args s = true := fun w h => hts0 w (List.mem_cons_of_mem _ h)
  have hown : s.vm.findClass R_SF = some m.cls := hown
  have hl : lv_has ls 1 [(0, .int v0)] := hl
  unfold K_SF_wordOf at h
  refine lv_iload_n hx hb d_K_SF_wordOf_0 rfl (lv_at hl 0 rfl) ?_
  refine lv_iconst (v := 2) hx hb d_K_SF_wordOf_1 (by decide) ?_
  refine lv_idiv hx hb d_K_SF_wordOf_2 (by decide) ?_
  refine lv_bipush (v := 8) hx hb d_K_SF_wordOf_3 (by decide) ?_
  refine lv_irem hx hb d_K_SF_wordOf_5 (by decide) ?_
  exact hret _ _ _ _ _ _ h rfl (vp_nar_int _) hw d_K_SF_wordOf_6
set_option maxHeartbeats 4000000 in
set_option maxRecDepth 100000 in
theorem c_K_Text_putOldText {l : Launch} {D : va_G} {A : Nat → Prop} {a : Nat → Nat} {cI cJ cC : ClassId} {adK adV : Nat → Nat} {N : Nat} {i0 : Nat} {st : sk_M} {v1 : Int32} {res : sk_M} (hok : sk_ok A (nwK A adK adV)) (hi0 : i0 < 4) (h : K_Text_putOldText N i0 st v1 = some res) : sk_Cv l y_K_Text_putOldText w_K_Text_putOldText rm_K_Text_putOldText D (tyK cI cJ cC) A (ceK a cI cJ cC) (nwK A adK adV) [.ref (a (4 + i0)), .int v1] st res := by
  refine sk_headv (by decide) rfl (Nat.le_of_ble_eq_true rfl) ?_
  intro p e s m args below meth c Q hx hb hml hown hts0 hnw hret ls hl hw
  have hts : ∀ w ∈ TB, w.before args s = true := fun w h => hts0 w (List.mem_cons_of_mem _ h)
  have hown : s.vm.findClass R_Text = some m.cls := hown
  have hl : lv_has ls 2 [(0, .ref (a (4 + i0))), (1, .int v1)] := hl
  unfold K_Text_putOldText at h
  refine lv_iload_n hx hb d_K_Text_putOldText_0 rfl (lv_at hl 1 rfl) ?_
  refine lv_bipush (v := 6) hx hb d_K_Text_putOldText_1 (by decide) ?_
  refine lv_icmp_ne (tgt := 15) hx hb d_K_Text_putOldText_3 (by decide) (fun c_3 => ?_) (fun c_3 => ?_)
  · have h := (if_neg c_3).symm.trans h
    refine lv_iload_n hx hb d_K_Text_putOldText_15 rfl (lv_at hl 1 rfl) ?_
    refine lv_bipush (v := 7) hx hb d_K_Text_putOldText_16 (by decide) ?_
    refine lv_icmp_ne (tgt := 30) hx hb d_K_Text_putOldText_18 (by decide) (fun c_18 => ?_) (fun c_18 => ?_)
    · have h := (if_neg c_18).symm.trans h
      refine lv_aload_n hx hb d_K_Text_putOldText_30 rfl (lv_at hl 0 rfl) ?_
      refine lv_bipush (v := 114) hx hb d_K_Text_putOldText_31 (by decide) ?_
      refine lv_iload_n hx hb d_K_Text_putOldText_33 rfl (lv_at hl 1 rfl) ?_
      refine lv_iadd hx hb d_K_Text_putOldText_34 ?_
      obtain ⟨x35, st35, q_35, h⟩ := sk_oW_some h
      refine sk_callVi (As := [.int ((114 : Int32) + v1)]) (rest := []) ⟨hx, hb, hml, hown, hts⟩ hw hnw hok (c_K_Text_put hok hi0 q_35) (cw_Text_28 hts hnw (by decide)) (rc_T (i := i0) hw hi0) rfl hl.1 rfl (Nat.le_of_ble_eq_true rfl) d_K_Text_putOldText_35 (fun H locs hw => ?_)
      refine lv_pop hx hb d_K_Text_putOldText_38 rfl ?_
      exact hret _ _ _ _ _ (Option.some.inj h) hw d_K_Text_putOldText_39
    · have h := (if_pos c_18).symm.trans h
      refine lv_aload_n hx hb d_K_Text_putOldText_21 rfl (lv_at hl 0 rfl) ?_
      refine va_ldcS hx hb hown (hnw.2.1 _ _ _ _ ks_Text_37) d_K_Text_putOldText_22 ?_
      obtain ⟨st24, q_24, h⟩ := sk_oR_some h
      refine sk_callVv (As := [.ref (adK 11)]) (rest := []) ⟨hx, hb, hml, hown, hts⟩ hw hnw hok (c_K_Text_putAll hok hi0 (by decide) q_24) (cw_Text_33 hts hnw (by decide)) (rc_T (i := i0) hw hi0) rfl hl.1 rfl (Nat.le_of_ble_eq_true rfl) d_K_Text_putOldText_24 (fun H locs hw => ?_)
      refine lv_goto (tgt := 39) hx hb d_K_Text_putOldText_27 (by decide) ?_
      exact hret _ _ _ _ _ (Option.some.inj h) hw d_K_Text_putOldText_39
  · have h := (if_pos c_3).symm.trans h
    refine lv_aload_n hx hb d_K_Text_putOldText_6 rfl (lv_at hl 0 rfl) ?_
    refine va_ldcS hx hb hown (hnw.2.1 _ _ _ _ ks_Text_32) d_K_Text_putOldText_7 ?_
    obtain ⟨st9, q_9, h⟩ := sk_oR_some h
    refine sk_callVv (As := [.ref (adK 10)]) (rest := []) ⟨hx, hb, hml, hown, hts⟩ hw hnw hok (c_K_Text_putAll hok hi0 (by decide) q_9) (cw_Text_33 hts hnw (by decide)) (rc_T (i := i0) hw hi0) rfl hl.1 rfl (Nat.le_of_ble_eq_true rfl) d_K_Text_putOldText_9 (fun H locs hw => ?_)
    refine lv_goto (tgt := 39) hx hb d_K_Text_putOldText_12 (by decide) ?_
    exact hret _ _ _ _ _ (Option.some.inj h) hw d_K_Text_putOldText_39
set_option maxHeartbeats 4000000 in
set_option maxRecDepth 100000 in
theorem c_K_SF_isMethod {l : Launch} {D : va_G} {A : Nat → Prop} {a : Nat → Nat} {cI cJ cC : ClassId} {adK adV : Nat → Nat} {st : sk_M} {v0 : Int32} {res : Int32} (hok : sk_ok A (nwK A adK adV)) (h : K_SF_isMethod v0 = res) : sk_Ci l y_K_SF_isMethod w_K_SF_isMethod rm_K_SF_isMethod D (tyK cI cJ cC) A (ceK a cI cJ cC) (nwK A adK adV) [.int v0] st res st := by
  refine sk_headi .boolean (by decide) rfl (Nat.le_of_ble_eq_true rfl) ?_
  intro p e s m args below meth c Q hx hb hml hown hts0 hnw hret ls hl hw
  have hts : ∀ w ∈ TB, w.before args s = true := fun w h => hts0 w (List.mem_cons_of_mem _ h)
  have hown : s.vm.findClass R_SF = some m.cls := hown
  have hl : lv_has ls 1 [(0, .int v0)] := hl
  unfold K_SF_isMethod at h
  refine lv_iload_n hx hb d_K_SF_isMethod_0 rfl (lv_at hl 0 rfl) ?_
  refine lv_bipush (v := 16) hx hb d_K_SF_isMethod_1 (by decide) ?_
  refine lv_icmp_lt (tgt := 10) hx hb d_K_SF_isMethod_3 (by decide) (fun c_3 => ?_) (fun c_3 => ?_)
  · have h := (if_pos c_3).symm.trans h
    refine lv_iconst (v := 0) hx hb d_K_SF_isMethod_10 (by decide) ?_
    exact hret _ _ _ _ _ _ h rfl rfl hw d_K_SF_isMethod_11
  · have h := (if_neg c_3).symm.trans h
    refine lv_iconst (v := 1) hx hb d_K_SF_isMethod_6 (by decide) ?_
    refine lv_goto (tgt := 11) hx hb d_K_SF_isMethod_7 (by decide) ?_
    exact hret _ _ _ _ _ _ h rfl rfl hw d_K_SF_isMethod_11
set_option maxHeartbeats 4000000 in
set_option maxRecDepth 100000 in
theorem c_K_SF_shapeOf {l : Launch} {D : va_G} {A : Nat → Prop} {a : Nat → Nat} {cI cJ cC : ClassId} {adK adV : Nat → Nat} {st : sk_M} {v0 : Int32} {res : Int32} (hok : sk_ok A (nwK A adK adV)) (h : K_SF_shapeOf v0 = res) : sk_Ci l y_K_SF_shapeOf w_K_SF_shapeOf rm_K_SF_shapeOf D (tyK cI cJ cC) A (ceK a cI cJ cC) (nwK A adK adV) [.int v0] st res st := by
  refine sk_headi .int (by decide) rfl (Nat.le_of_ble_eq_true rfl) ?_
  intro p e s m args below meth c Q hx hb hml hown hts0 hnw hret ls hl hw
  have hts : ∀ w ∈ TB, w.before args s = true := fun w h => hts0 w (List.mem_cons_of_mem _ h)
  have hown : s.vm.findClass R_SF = some m.cls := hown
  have hl : lv_has ls 1 [(0, .int v0)] := hl
  unfold K_SF_shapeOf at h
  refine lv_iload_n hx hb d_K_SF_shapeOf_0 rfl (lv_at hl 0 rfl) ?_
  refine lv_iconst (v := 2) hx hb d_K_SF_shapeOf_1 (by decide) ?_
  refine lv_irem hx hb d_K_SF_shapeOf_2 (by decide) ?_
  exact hret _ _ _ _ _ _ h rfl (vp_nar_int _) hw d_K_SF_shapeOf_3
set_option maxHeartbeats 4000000 in
set_option maxRecDepth 100000 in
theorem c_K_Names_tellText {l : Launch} {D : va_G} {A : Nat → Prop} {a : Nat → Nat} {cI cJ cC : ClassId} {adK adV : Nat → Nat} {N : Nat} {i1 : Nat} {st : sk_M} {v2 : Int32} {res : sk_M} (hok : sk_ok A (nwK A adK adV)) (hi1 : i1 < 4) (h : K_Names_tellText N i1 st v2 = some res) : sk_Cv l y_K_Names_tellText w_K_Names_tellText rm_K_Names_tellText D (tyK cI cJ cC) A (ceK a cI cJ cC) (nwK A adK adV) [.ref (a 11), .ref (a (4 + i1)), .int v2] st res := by
  refine sk_headv (by decide) rfl (Nat.le_of_ble_eq_true rfl) ?_
  intro p e s m args below meth c Q hx hb hml hown hts0 hnw hret ls hl hw
  have hts : ∀ w ∈ TB, w.before args s = true := fun w h => hts0 w (List.mem_cons_of_mem _ h)
  have hown : s.vm.findClass R_Names = some m.cls := hown
  have hl : lv_has ls 3 [(0, .ref (a 11)), (1, .ref (a (4 + i1))), (2, .int v2)] := hl
  unfold K_Names_tellText at h
  refine lv_aload_n hx hb d_K_Names_tellText_0 rfl (lv_at hl 0 rfl) ?_
  refine gf_Names_64 hx hb hts hnw hown hw d_K_Names_tellText_1 ?_
  refine lv_iload_n hx hb d_K_Names_tellText_4 rfl (lv_at hl 2 rfl) ?_
  refine sk_callSNi (As := [.long (st.2 0 3), .int v2]) (rest := []) ⟨hx, hb, hml, hown, hts⟩ hw hnw hok (c_K_SF_has hok rfl) (cw_Names_76 hts hnw (by decide)) rfl hl.1 rfl (Nat.le_of_ble_eq_true rfl) d_K_Names_tellText_5 (fun H locs hw => ?_)
  refine lv_if_eq (tgt := 22) hx hb d_K_Names_tellText_8 (by decide) (fun c_8 => ?_) (fun c_8 => ?_)
  · have h := (if_pos c_8).symm.trans h
    refine lv_aload_n hx hb d_K_Names_tellText_22 rfl (lv_at hl 1 rfl) ?_
    refine lv_aload_n hx hb d_K_Names_tellText_23 rfl (lv_at hl 0 rfl) ?_
    refine gf_Names_15 hx hb hts hnw hown hw d_K_Names_tellText_24 ?_
    refine lv_iload_n hx hb d_K_Names_tellText_27 rfl (lv_at hl 2 rfl) ?_
    obtain ⟨x28, g_28, e_28, h⟩ := sk_rI_some h
    refine al_K22 hx hb hw g_28 e_28 d_K_Names_tellText_28 ?_
    obtain ⟨x29, st29, q_29, h⟩ := sk_oW_some h
    refine sk_callVi (As := [.int x28]) (rest := []) ⟨hx, hb, hml, hown, hts⟩ hw hnw hok (c_K_Text_put hok hi1 q_29) (cw_Names_91 hts hnw (by decide)) (rc_T (i := i1) hw hi1) rfl hl.1 rfl (Nat.le_of_ble_eq_true rfl) d_K_Names_tellText_29 (fun H locs hw => ?_)
    refine lv_pop hx hb d_K_Names_tellText_32 rfl ?_
    exact hret _ _ _ _ _ (Option.some.inj h) hw d_K_Names_tellText_33
  · have h := (if_neg c_8).symm.trans h
    refine lv_aload_n hx hb d_K_Names_tellText_11 rfl (lv_at hl 1 rfl) ?_
    refine lv_iload_n hx hb d_K_Names_tellText_12 rfl (lv_at hl 2 rfl) ?_
    refine sk_callSNi (As := [.int v2]) (rest := [.ref (a (4 + i1))]) ⟨hx, hb, hml, hown, hts⟩ hw hnw hok (c_K_SF_wordOf hok rfl) (cw_Names_95 hts hnw (by decide)) rfl hl.1 rfl (Nat.le_of_ble_eq_true rfl) d_K_Names_tellText_13 (fun H locs hw => ?_)
    obtain ⟨st16, q_16, h⟩ := sk_oR_some h
    refine sk_callVv (As := [.int (K_SF_wordOf v2)]) (rest := []) ⟨hx, hb, hml, hown, hts⟩ hw hnw hok (c_K_Text_putOldText hok hi1 q_16) (cw_Names_99 hts hnw (by decide)) (rc_T (i := i1) hw hi1) rfl hl.1 rfl (Nat.le_of_ble_eq_true rfl) d_K_Names_tellText_16 (fun H locs hw => ?_)
    refine lv_goto (tgt := 33) hx hb d_K_Names_tellText_19 (by decide) ?_
    exact hret _ _ _ _ _ (Option.some.inj h) hw d_K_Names_tellText_33
set_option maxHeartbeats 4000000 in
set_option maxRecDepth 100000 in
theorem c_K_Mapping_writeMember {l : Launch} {D : va_G} {A : Nat → Prop} {a : Nat → Nat} {cI cJ cC : ClassId} {adK adV : Nat → Nat} {N : Nat} {st : sk_M} {v1 : Int32} {res : sk_M} (hok : sk_ok A (nwK A adK adV)) (h : K_Mapping_writeMember N st v1 = some res) : sk_Cv l y_K_Mapping_writeMember w_K_Mapping_writeMember rm_K_Mapping_writeMember D (tyK cI cJ cC) A (ceK a cI cJ cC) (nwK A adK adV) [.ref (a 12), .int v1] st res := by
  refine sk_headv (by decide) rfl (Nat.le_of_ble_eq_true rfl) ?_
  intro p e s m args below meth c Q hx hb hml hown hts0 hnw hret ls hl hw
  have hts : ∀ w ∈ TB, w.before args s = true := fun w h => hts0 w (List.mem_cons_of_mem _ h)
  have hown : s.vm.findClass R_Mapping = some m.cls := hown
  have hl : lv_has ls 2 [(0, .ref (a 12)), (1, .int v1)] := hl
  unfold K_Mapping_writeMember at h
  refine lv_aload_n hx hb d_K_Mapping_writeMember_0 rfl (lv_at hl 0 rfl) ?_
  refine gf_Mapping_16 hx hb hts hnw hown hw d_K_Mapping_writeMember_1 ?_
  refine lv_bipush (v := 32) hx hb d_K_Mapping_writeMember_4 (by decide) ?_
  obtain ⟨x6, st6, q_6, h⟩ := sk_oW_some h
  refine sk_callVi (As := [.int (32 : Int32)]) (rest := []) ⟨hx, hb, hml, hown, hts⟩ hw hnw hok (c_K_Text_put hok (by decide) q_6) (cw_Mapping_98 hts hnw (by decide)) (rc_T (i := 3) hw (by decide)) rfl hl.1 rfl (Nat.le_of_ble_eq_true rfl) d_K_Mapping_writeMember_6 (fun H locs hw => ?_)
  refine lv_pop hx hb d_K_Mapping_writeMember_9 rfl ?_
  refine lv_aload_n hx hb d_K_Mapping_writeMember_10 rfl (lv_at hl 0 rfl) ?_
  refine gf_Mapping_16 hx hb hts hnw hown hw d_K_Mapping_writeMember_11 ?_
  refine lv_iload_n hx hb d_K_Mapping_writeMember_14 rfl (lv_at hl 1 rfl) ?_
  refine sk_callSNi (As := [.int v1]) (rest := [.ref (a 7)]) ⟨hx, hb, hml, hown, hts⟩ hw hnw hok (c_K_SF_wordOf hok rfl) (cw_Mapping_102 hts hnw (by decide)) rfl hl.1 rfl (Nat.le_of_ble_eq_true rfl) d_K_Mapping_writeMember_15 (fun H locs hw => ?_)
  obtain ⟨st18, q_18, h⟩ := sk_oR_some h
  refine sk_callVv (As := [.int (K_SF_wordOf v1)]) (rest := []) ⟨hx, hb, hml, hown, hts⟩ hw hnw hok (c_K_Text_putOldText hok (by decide) q_18) (cw_Mapping_106 hts hnw (by decide)) (rc_T (i := 3) hw (by decide)) rfl hl.1 rfl (Nat.le_of_ble_eq_true rfl) d_K_Mapping_writeMember_18 (fun H locs hw => ?_)
  refine lv_iload_n hx hb d_K_Mapping_writeMember_21 rfl (lv_at hl 1 rfl) ?_
  refine sk_callSNi (As := [.int v1]) (rest := []) ⟨hx, hb, hml, hown, hts⟩ hw hnw hok (c_K_SF_isMethod hok rfl) (cw_Mapping_109 hts hnw (by decide)) rfl hl.1 rfl (Nat.le_of_ble_eq_true rfl) d_K_Mapping_writeMember_22 (fun H locs hw => ?_)
  have hJ63 : ∀ (st : sk_M) (v1 : Int32) (H : Heap) (locs : List Loc) (ls : Array Slot), K_Mapping_writeMember_J63 N st v1 = some res → sk_w D (tyK cI cJ cC) A (ceK a cI cJ cC) s st H locs → lv_has ls 2 [(0, .ref (a 12)), (1, .int v1)] → W p l e rm_K_Mapping_writeMember s m args below meth c H locs 0 0 Q (F0 m 63 ls []) := by
    intro st v1 H locs ls h hw hl
    unfold K_Mapping_writeMember_J63 at h
    refine lv_aload_n hx hb d_K_Mapping_writeMember_63 rfl (lv_at hl 0 rfl) ?_
    refine gf_Mapping_16 hx hb hts hnw hown hw d_K_Mapping_writeMember_64 ?_
    refine va_ldcS hx hb hown (hnw.2.1 _ _ _ _ ks_Mapping_66) d_K_Mapping_writeMember_67 ?_
    obtain ⟨st69, q_69, h⟩ := sk_oR_some h
    refine sk_callVv (As := [.ref (adK 12)]) (rest := []) ⟨hx, hb, hml, hown, hts⟩ hw hnw hok (c_K_Text_putAll hok (by decide) (by decide) q_69) (cw_Mapping_68 hts hnw (by decide)) (rc_T (i := 3) hw (by decide)) rfl hl.1 rfl (Nat.le_of_ble_eq_true rfl) d_K_Mapping_writeMember_69 (fun H locs hw => ?_)
    refine lv_aload_n hx hb d_K_Mapping_writeMember_72 rfl (lv_at hl 0 rfl) ?_
    refine gf_Mapping_32 hx hb hts hnw hown hw d_K_Mapping_writeMember_73 ?_
    refine lv_aload_n hx hb d_K_Mapping_writeMember_76 rfl (lv_at hl 0 rfl) ?_
    refine gf_Mapping_16 hx hb hts hnw hown hw d_K_Mapping_writeMember_77 ?_
    refine lv_iload_n hx hb d_K_Mapping_writeMember_80 rfl (lv_at hl 1 rfl) ?_
    obtain ⟨st81, q_81, h⟩ := sk_oR_some h
    refine sk_callVv (As := [.ref (a 7), .int v1]) (rest := []) ⟨hx, hb, hml, hown, hts⟩ hw hnw hok (c_K_Names_tellText hok (by decide) q_81) (cw_Mapping_115 hts hnw (by decide)) (rc_K11 hw) rfl hl.1 rfl (Nat.le_of_ble_eq_true rfl) d_K_Mapping_writeMember_81 (fun H locs hw => ?_)
    refine lv_aload_n hx hb d_K_Mapping_writeMember_84 rfl (lv_at hl 0 rfl) ?_
    refine gf_Mapping_16 hx hb hts hnw hown hw d_K_Mapping_writeMember_85 ?_
    refine lv_bipush (v := 10) hx hb d_K_Mapping_writeMember_88 (by decide) ?_
    obtain ⟨x90, st90, q_90, h⟩ := sk_oW_some h
    refine sk_callVi (As := [.int (10 : Int32)]) (rest := []) ⟨hx, hb, hml, hown, hts⟩ hw hnw hok (c_K_Text_put hok (by decide) q_90) (cw_Mapping_98 hts hnw (by decide)) (rc_T (i := 3) hw (by decide)) rfl hl.1 rfl (Nat.le_of_ble_eq_true rfl) d_K_Mapping_writeMember_90 (fun H locs hw => ?_)
    refine lv_pop hx hb d_K_Mapping_writeMember_93 rfl ?_
    exact hret _ _ _ _ _ (Option.some.inj h) hw d_K_Mapping_writeMember_94
  refine lv_if_eq (tgt := 63) hx hb d_K_Mapping_writeMember_25 (by decide) (fun c_25 => ?_) (fun c_25 => ?_)
  · have h := (if_pos c_25).symm.trans h
    exact hJ63 _ _ _ _ _ h hw (lv_sub hl [0, 1] rfl)
  · have h := (if_neg c_25).symm.trans h
    refine lv_aload_n hx hb d_K_Mapping_writeMember_28 rfl (lv_at hl 0 rfl) ?_
    refine gf_Mapping_16 hx hb hts hnw hown hw d_K_Mapping_writeMember_29 ?_
    refine lv_bipush (v := 40) hx hb d_K_Mapping_writeMember_32 (by decide) ?_
    obtain ⟨x34, st34, q_34, h⟩ := sk_oW_some h
    refine sk_callVi (As := [.int (40 : Int32)]) (rest := []) ⟨hx, hb, hml, hown, hts⟩ hw hnw hok (c_K_Text_put hok (by decide) q_34) (cw_Mapping_98 hts hnw (by decide)) (rc_T (i := 3) hw (by decide)) rfl hl.1 rfl (Nat.le_of_ble_eq_true rfl) d_K_Mapping_writeMember_34 (fun H locs hw => ?_)
    refine lv_pop hx hb d_K_Mapping_writeMember_37 rfl ?_
    refine lv_aload_n hx hb d_K_Mapping_writeMember_38 rfl (lv_at hl 0 rfl) ?_
    refine gf_Mapping_16 hx hb hts hnw hown hw d_K_Mapping_writeMember_39 ?_
    refine lv_bipush (v := 48) hx hb d_K_Mapping_writeMember_42 (by decide) ?_
    refine lv_iload_n hx hb d_K_Mapping_writeMember_44 rfl (lv_at hl 1 rfl) ?_
    refine sk_callSNi (As := [.int v1]) (rest := [.int (48 : Int32), .ref (a 7)]) ⟨hx, hb, hml, hown, hts⟩ hw hnw hok (c_K_SF_shapeOf hok rfl) (cw_Mapping_112 hts hnw (by decide)) rfl hl.1 rfl (Nat.le_of_ble_eq_true rfl) d_K_Mapping_writeMember_45 (fun H locs hw => ?_)
    refine lv_iadd hx hb d_K_Mapping_writeMember_48 ?_
    obtain ⟨x49, st49, q_49, h⟩ := sk_oW_some h
    refine sk_callVi (As := [.int ((48 : Int32) + (K_SF_shapeOf v1))]) (rest := []) ⟨hx, hb, hml, hown, hts⟩ hw hnw hok (c_K_Text_put hok (by decide) q_49) (cw_Mapping_98 hts hnw (by decide)) (rc_T (i := 3) hw (by decide)) rfl hl.1 rfl (Nat.le_of_ble_eq_true rfl) d_K_Mapping_writeMember_49 (fun H locs hw => ?_)
    refine lv_pop hx hb d_K_Mapping_writeMember_52 rfl ?_
    refine lv_aload_n hx hb d_K_Mapping_writeMember_53 rfl (lv_at hl 0 rfl) ?_
    refine gf_Mapping_16 hx hb hts hnw hown hw d_K_Mapping_writeMember_54 ?_
    refine lv_bipush (v := 41) hx hb d_K_Mapping_writeMember_57 (by decide) ?_
    obtain ⟨x59, st59, q_59, h⟩ := sk_oW_some h
    refine sk_callVi (As := [.int (41 : Int32)]) (rest := []) ⟨hx, hb, hml, hown, hts⟩ hw hnw hok (c_K_Text_put hok (by decide) q_59) (cw_Mapping_98 hts hnw (by decide)) (rc_T (i := 3) hw (by decide)) rfl hl.1 rfl (Nat.le_of_ble_eq_true rfl) d_K_Mapping_writeMember_59 (fun H locs hw => ?_)
    refine lv_pop hx hb d_K_Mapping_writeMember_62 rfl ?_
    exact hJ63 _ _ _ _ _ h hw (lv_sub hl [0, 1] rfl)
set_option maxHeartbeats 4000000 in
set_option maxRecDepth 100000 in
theorem c_K_Mapping_writeClass {l : Launch} {D : va_G} {A : Nat → Prop} {a : Nat → Nat} {cI cJ cC : ClassId} {adK adV : Nat → Nat} {N : Nat} {st : sk_M} {v1 : Int32} {res : sk_M} (hok : sk_ok A (nwK A adK adV)) (h : K_Mapping_writeClass N st v1 = some res) : sk_Cv l y_K_Mapping_writeClass w_K_Mapping_writeClass rm_K_Mapping_writeClass D (tyK cI cJ cC) A (ceK a cI cJ cC) (nwK A adK adV) [.ref (a 12), .int v1] st res := by
  refine sk_headv (by decide) rfl (Nat.le_of_ble_eq_true rfl) ?_
  intro p e s m args below meth c Q hx hb hml hown hts0 hnw hret ls hl hw
  have hts : ∀ w ∈ TB, w.before args s = true := fun w h => hts0 w (List.mem_cons_of_mem _ h)
  have hown : s.vm.findClass R_Mapping = some m.cls := hown
  have hl : lv_has ls 3 [(0, .ref (a 12)), (1, .int v1)] := hl
  unfold K_Mapping_writeClass at h
  refine lv_aload_n hx hb d_K_Mapping_writeClass_0 rfl (lv_at hl 0 rfl) ?_
  refine gf_Mapping_16 hx hb hts hnw hown hw d_K_Mapping_writeClass_1 ?_
  refine lv_aload_n hx hb d_K_Mapping_writeClass_4 rfl (lv_at hl 0 rfl) ?_
  refine gf_Mapping_20 hx hb hts hnw hown hw d_K_Mapping_writeClass_5 ?_
  refine gf_Mapping_56 hx hb hts hnw hown hw d_K_Mapping_writeClass_8 ?_
  refine lv_iload_n hx hb d_K_Mapping_writeClass_11 rfl (lv_at hl 1 rfl) ?_
  obtain ⟨x12, g_12, e_12, h⟩ := sk_rI_some h
  refine al_K35 hx hb hw g_12 e_12 d_K_Mapping_writeClass_12 ?_
  refine lv_iload_n hx hb d_K_Mapping_writeClass_13 rfl (lv_at hl 1 rfl) ?_
  obtain ⟨st14, q_14, h⟩ := sk_oR_some h
  refine sk_callVv (As := [.int x12, .int v1]) (rest := []) ⟨hx, hb, hml, hown, hts⟩ hw hnw hok (c_K_Text_putOldName hok (by decide) q_14) (cw_Mapping_62 hts hnw (by decide)) (rc_T (i := 3) hw (by decide)) rfl hl.1 rfl (Nat.le_of_ble_eq_true rfl) d_K_Mapping_writeClass_14 (fun H locs hw => ?_)
  refine lv_aload_n hx hb d_K_Mapping_writeClass_17 rfl (lv_at hl 0 rfl) ?_
  refine gf_Mapping_16 hx hb hts hnw hown hw d_K_Mapping_writeClass_18 ?_
  refine va_ldcS hx hb hown (hnw.2.1 _ _ _ _ ks_Mapping_66) d_K_Mapping_writeClass_21 ?_
  obtain ⟨st23, q_23, h⟩ := sk_oR_some h
  refine sk_callVv (As := [.ref (adK 12)]) (rest := []) ⟨hx, hb, hml, hown, hts⟩ hw hnw hok (c_K_Text_putAll hok (by decide) (by decide) q_23) (cw_Mapping_68 hts hnw (by decide)) (rc_T (i := 3) hw (by decide)) rfl hl.1 rfl (Nat.le_of_ble_eq_true rfl) d_K_Mapping_writeClass_23 (fun H locs hw => ?_)
  refine lv_aload_n hx hb d_K_Mapping_writeClass_26 rfl (lv_at hl 0 rfl) ?_
  refine gf_Mapping_32 hx hb hts hnw hown hw d_K_Mapping_writeClass_27 ?_
  refine lv_aload_n hx hb d_K_Mapping_writeClass_30 rfl (lv_at hl 0 rfl) ?_
  refine gf_Mapping_16 hx hb hts hnw hown hw d_K_Mapping_writeClass_31 ?_
  refine lv_iload_n hx hb d_K_Mapping_writeClass_34 rfl (lv_at hl 1 rfl) ?_
  obtain ⟨st35, q_35, h⟩ := sk_oR_some h
  refine sk_callVv (As := [.ref (a 7), .int v1]) (rest := []) ⟨hx, hb, hml, hown, hts⟩ hw hnw hok (c_K_Names_tellName hok (by decide) q_35) (cw_Mapping_72 hts hnw (by decide)) (rc_K11 hw) rfl hl.1 rfl (Nat.le_of_ble_eq_true rfl) d_K_Mapping_writeClass_35 (fun H locs hw => ?_)
  refine lv_aload_n hx hb d_K_Mapping_writeClass_38 rfl (lv_at hl 0 rfl) ?_
  refine gf_Mapping_16 hx hb hts hnw hown hw d_K_Mapping_writeClass_39 ?_
  refine va_ldcS hx hb hown (hnw.2.1 _ _ _ _ ks_Mapping_78) d_K_Mapping_writeClass_42 ?_
  obtain ⟨st44, q_44, h⟩ := sk_oR_some h
  refine sk_callVv (As := [.ref (adK 13)]) (rest := []) ⟨hx, hb, hml, hown, hts⟩ hw hnw hok (c_K_Text_putAll hok (by decide) (by decide) q_44) (cw_Mapping_68 hts hnw (by decide)) (rc_T (i := 3) hw (by decide)) rfl hl.1 rfl (Nat.le_of_ble_eq_true rfl) d_K_Mapping_writeClass_44 (fun H locs hw => ?_)
  refine lv_iconst (v := 1) hx hb d_K_Mapping_writeClass_47 (by decide) ?_
  refine lv_istore_n (lv' := [(2, .int (1 : Int32)), (0, .ref (a 12)), (1, .int v1)]) hx hb d_K_Mapping_writeClass_48 rfl hl (by decide) rfl (fun ls hl => ?_)
  refine sk_lp_run (G := fun (z : sk_M × Int32 × Int32) => ∀ (H : Heap) (locs : List Loc) (ls : Array Slot), sk_w D (tyK cI cJ cC) A (ceK a cI cJ cC) s z.1 H locs → lv_has ls 3 [(0, .ref (a 12)), (1, .int z.2.1), (2, .int z.2.2)] → W p l e rm_K_Mapping_writeClass s m args below meth c H locs 0 0 Q (F0 m 49 ls [])) ?_ N _ h _ _ _ hw (lv_sub hl [1, 2, 0] rfl)
  rintro self49 ⟨st, v1, v2⟩ hself49 h H locs ls hw hl
  unfold K_Mapping_writeClass_L49 at h
  refine lv_iload_n hx hb d_K_Mapping_writeClass_49 rfl (lv_at hl 2 rfl) ?_
  refine lv_aload_n hx hb d_K_Mapping_writeClass_50 rfl (lv_at hl 0 rfl) ?_
  refine gf_Mapping_24 hx hb hts hnw hown hw d_K_Mapping_writeClass_51 ?_
  refine gf_Mapping_80 hx hb hts hnw hown hw d_K_Mapping_writeClass_54 ?_
  refine lv_icmp_ge (tgt := 106) hx hb d_K_Mapping_writeClass_57 (by decide) (fun c_57 => ?_) (fun c_57 => ?_)
  · have h := (if_pos c_57).symm.trans h
    exact hret _ _ _ _ _ (Option.some.inj h) hw d_K_Mapping_writeClass_106
  · have h := (if_neg c_57).symm.trans h
    refine lv_aload_n hx hb d_K_Mapping_writeClass_60 rfl (lv_at hl 0 rfl) ?_
    refine gf_Mapping_24 hx hb hts hnw hown hw d_K_Mapping_writeClass_61 ?_
    refine gf_Mapping_86 hx hb hts hnw hown hw d_K_Mapping_writeClass_64 ?_
    refine lv_iload_n hx hb d_K_Mapping_writeClass_67 rfl (lv_at hl 2 rfl) ?_
    obtain ⟨x68, g_68, e_68, h⟩ := sk_rI_some h
    refine al_K17 hx hb hw g_68 e_68 d_K_Mapping_writeClass_68 ?_
    refine lv_iload_n hx hb d_K_Mapping_writeClass_69 rfl (lv_at hl 1 rfl) ?_
    refine lv_icmp_ne (tgt := 100) hx hb d_K_Mapping_writeClass_70 (by decide) (fun c_70 => ?_) (fun c_70 => ?_)
    · have h := (if_neg c_70).symm.trans h
      refine lv_iinc (v := v2 + 1) (lv' := [(2, .int (v2 + 1)), (0, .ref (a 12)), (1, .int v1)]) hx hb d_K_Mapping_writeClass_100 hl (k := 2) rfl rfl (by decide) rfl (fun ls hl => ?_)
      refine lv_goto (tgt := 49) hx hb d_K_Mapping_writeClass_103 (by decide) ?_
      exact hself49 (st, v1, (v2 + 1)) h _ _ _ hw (lv_sub hl [1, 2, 0] rfl)
    · have h := (if_pos c_70).symm.trans h
      refine lv_aload_n hx hb d_K_Mapping_writeClass_73 rfl (lv_at hl 0 rfl) ?_
      refine gf_Mapping_28 hx hb hts hnw hown hw d_K_Mapping_writeClass_74 ?_
      refine gf_Mapping_89 hx hb hts hnw hown hw d_K_Mapping_writeClass_77 ?_
      refine lv_iload_n hx hb d_K_Mapping_writeClass_80 rfl (lv_at hl 2 rfl) ?_
      refine sk_callSNi (As := [.long (st.2 0 7), .int v2]) (rest := []) ⟨hx, hb, hml, hown, hts⟩ hw hnw hok (c_K_SF_has hok rfl) (cw_Mapping_49 hts hnw (by decide)) rfl hl.1 rfl (Nat.le_of_ble_eq_true rfl) d_K_Mapping_writeClass_81 (fun H locs hw => ?_)
      refine lv_if_eq (tgt := 100) hx hb d_K_Mapping_writeClass_84 (by decide) (fun c_84 => ?_) (fun c_84 => ?_)
      · have h := (if_pos c_84).symm.trans h
        refine lv_iinc (v := v2 + 1) (lv' := [(2, .int (v2 + 1)), (0, .ref (a 12)), (1, .int v1)]) hx hb d_K_Mapping_writeClass_100 hl (k := 2) rfl rfl (by decide) rfl (fun ls hl => ?_)
        refine lv_goto (tgt := 49) hx hb d_K_Mapping_writeClass_103 (by decide) ?_
        exact hself49 (st, v1, (v2 + 1)) h _ _ _ hw (lv_sub hl [1, 2, 0] rfl)
      · have h := (if_neg c_84).symm.trans h
        refine lv_aload_n hx hb d_K_Mapping_writeClass_87 rfl (lv_at hl 0 rfl) ?_
        refine lv_aload_n hx hb d_K_Mapping_writeClass_88 rfl (lv_at hl 0 rfl) ?_
        refine gf_Mapping_24 hx hb hts hnw hown hw d_K_Mapping_writeClass_89 ?_
        refine gf_Mapping_92 hx hb hts hnw hown hw d_K_Mapping_writeClass_92 ?_
        refine lv_iload_n hx hb d_K_Mapping_writeClass_95 rfl (lv_at hl 2 rfl) ?_
        obtain ⟨x96, g_96, e_96, h⟩ := sk_rI_some h
        refine al_K18 hx hb hw g_96 e_96 d_K_Mapping_writeClass_96 ?_
        obtain ⟨st97, q_97, h⟩ := sk_oR_some h
        refine sk_callVv (As := [.int x96]) (rest := []) ⟨hx, hb, hml, hown, hts⟩ hw hnw hok (c_K_Mapping_writeMember hok q_97) (cw_Mapping_95 hts hnw (by decide)) (rc_K12 hw) rfl hl.1 rfl (Nat.le_of_ble_eq_true rfl) d_K_Mapping_writeClass_97 (fun H locs hw => ?_)
        refine lv_iinc (v := v2 + 1) (lv' := [(2, .int (v2 + 1)), (0, .ref (a 12)), (1, .int v1)]) hx hb d_K_Mapping_writeClass_100 hl (k := 2) rfl rfl (by decide) rfl (fun ls hl => ?_)
        refine lv_goto (tgt := 49) hx hb d_K_Mapping_writeClass_103 (by decide) ?_
        exact hself49 (st97, v1, (v2 + 1)) h _ _ _ hw (lv_sub hl [1, 2, 0] rfl)
set_option maxHeartbeats 4000000 in
set_option maxRecDepth 100000 in
theorem c_K_Mapping_write {l : Launch} {D : va_G} {A : Nat → Prop} {a : Nat → Nat} {cI cJ cC : ClassId} {adK adV : Nat → Nat} {N : Nat} {st : sk_M} {res : sk_M} (hok : sk_ok A (nwK A adK adV)) (h : K_Mapping_write N st = some res) : sk_Cv l y_K_Mapping_write w_K_Mapping_write rm_K_Mapping_write D (tyK cI cJ cC) A (ceK a cI cJ cC) (nwK A adK adV) [.ref (a 12)] st res := by
  refine sk_headv (by decide) rfl (Nat.le_of_ble_eq_true rfl) ?_
  intro p e s m args below meth c Q hx hb hml hown hts0 hnw hret ls hl hw
  have hts : ∀ w ∈ TB, w.before args s = true := fun w h => hts0 w (List.mem_cons_of_mem _ h)
  have hown : s.vm.findClass R_Mapping = some m.cls := hown
  have hl : lv_has ls 2 [(0, .ref (a 12))] := hl
  unfold K_Mapping_write at h
  refine lv_aload_n hx hb d_K_Mapping_write_0 rfl (lv_at hl 0 rfl) ?_
  refine gf_Mapping_36 hx hb hts hnw hown hw d_K_Mapping_write_1 ?_
  refine lv_if_ne (tgt := 8) hx hb d_K_Mapping_write_4 (by decide) (fun c_4 => ?_) (fun c_4 => ?_)
  · have h := (if_neg c_4).symm.trans h
    refine lv_aload_n hx hb d_K_Mapping_write_8 rfl (lv_at hl 0 rfl) ?_
    refine lv_iconst (v := 0) hx hb d_K_Mapping_write_9 (by decide) ?_
    obtain ⟨st10, e_10, h⟩ := sk_fI_some h
    refine pf_Mapping_36 hx hb hts hnw hown hw (by decide) e_10 d_K_Mapping_write_10 (fun H locs hw => ?_)
    refine lv_aload_n hx hb d_K_Mapping_write_13 rfl (lv_at hl 0 rfl) ?_
    refine gf_Mapping_16 hx hb hts hnw hown hw d_K_Mapping_write_14 ?_
    obtain ⟨st17, q_17, h⟩ := sk_oR_some h
    refine sk_callVv (As := []) (rest := []) ⟨hx, hb, hml, hown, hts⟩ hw hnw hok (c_K_Text_wipe hok (by decide) q_17) (cw_Mapping_40 hts hnw (by decide)) (rc_T (i := 3) hw (by decide)) rfl hl.1 rfl (Nat.le_of_ble_eq_true rfl) d_K_Mapping_write_17 (fun H locs hw => ?_)
    refine lv_iconst (v := 1) hx hb d_K_Mapping_write_20 (by decide) ?_
    refine lv_istore_n (lv' := [(1, .int (1 : Int32)), (0, .ref (a 12))]) hx hb d_K_Mapping_write_21 rfl hl (by decide) rfl (fun ls hl => ?_)
    refine sk_lp_run (G := fun (z : sk_M × Int32) => ∀ (H : Heap) (locs : List Loc) (ls : Array Slot), sk_w D (tyK cI cJ cC) A (ceK a cI cJ cC) s z.1 H locs → lv_has ls 2 [(0, .ref (a 12)), (1, .int z.2)] → W p l e rm_K_Mapping_write s m args below meth c H locs 0 0 Q (F0 m 22 ls [])) ?_ N _ h _ _ _ hw (lv_sub hl [1, 0] rfl)
    rintro self22 ⟨st, v1⟩ hself22 h H locs ls hw hl
    unfold K_Mapping_write_L22 at h
    refine lv_iload_n hx hb d_K_Mapping_write_22 rfl (lv_at hl 1 rfl) ?_
    refine lv_bipush (v := 10) hx hb d_K_Mapping_write_23 (by decide) ?_
    refine lv_icmp_ge (tgt := 53) hx hb d_K_Mapping_write_25 (by decide) (fun c_25 => ?_) (fun c_25 => ?_)
    · have h := (if_pos c_25).symm.trans h
      exact hret _ _ _ _ _ (Option.some.inj h) hw d_K_Mapping_write_53
    · have h := (if_neg c_25).symm.trans h
      refine lv_aload_n hx hb d_K_Mapping_write_28 rfl (lv_at hl 0 rfl) ?_
      refine gf_Mapping_28 hx hb hts hnw hown hw d_K_Mapping_write_29 ?_
      refine gf_Mapping_43 hx hb hts hnw hown hw d_K_Mapping_write_32 ?_
      refine lv_iload_n hx hb d_K_Mapping_write_35 rfl (lv_at hl 1 rfl) ?_
      refine sk_callSNi (As := [.long (st.2 0 4), .int v1]) (rest := []) ⟨hx, hb, hml, hown, hts⟩ hw hnw hok (c_K_SF_has hok rfl) (cw_Mapping_49 hts hnw (by decide)) rfl hl.1 rfl (Nat.le_of_ble_eq_true rfl) d_K_Mapping_write_36 (fun H locs hw => ?_)
      refine lv_if_eq (tgt := 47) hx hb d_K_Mapping_write_39 (by decide) (fun c_39 => ?_) (fun c_39 => ?_)
      · have h := (if_pos c_39).symm.trans h
        refine lv_iinc (v := v1 + 1) (lv' := [(1, .int (v1 + 1)), (0, .ref (a 12))]) hx hb d_K_Mapping_write_47 hl (k := 1) rfl rfl (by decide) rfl (fun ls hl => ?_)
        refine lv_goto (tgt := 22) hx hb d_K_Mapping_write_50 (by decide) ?_
        exact hself22 (st, (v1 + 1)) h _ _ _ hw (lv_sub hl [1, 0] rfl)
      · have h := (if_neg c_39).symm.trans h
        refine lv_aload_n hx hb d_K_Mapping_write_42 rfl (lv_at hl 0 rfl) ?_
        refine lv_iload_n hx hb d_K_Mapping_write_43 rfl (lv_at hl 1 rfl) ?_
        obtain ⟨st44, q_44, h⟩ := sk_oR_some h
        refine sk_callVv (As := [.int v1]) (rest := []) ⟨hx, hb, hml, hown, hts⟩ hw hnw hok (c_K_Mapping_writeClass hok q_44) (cw_Mapping_53 hts hnw (by decide)) (rc_K12 hw) rfl hl.1 rfl (Nat.le_of_ble_eq_true rfl) d_K_Mapping_write_44 (fun H locs hw => ?_)
        refine lv_iinc (v := v1 + 1) (lv' := [(1, .int (v1 + 1)), (0, .ref (a 12))]) hx hb d_K_Mapping_write_47 hl (k := 1) rfl rfl (by decide) rfl (fun ls hl => ?_)
        refine lv_goto (tgt := 22) hx hb d_K_Mapping_write_50 (by decide) ?_
        exact hself22 (st44, (v1 + 1)) h _ _ _ hw (lv_sub hl [1, 0] rfl)
  · have h := (if_pos c_4).symm.trans h
    exact hret _ _ _ _ _ (Option.some.inj h) hw d_K_Mapping_write_7
set_option maxHeartbeats 4000000 in
set_option maxRecDepth 100000 in
theorem c_J_fill {l : Launch} {D : va_G} {A : Nat → Prop} {a : Nat → Nat} {cI cJ cC : ClassId} {adK adV : Nat → Nat} {N : Nat} {st : sk_M} {v1 : Int32} {res : sk_M} (hok : sk_ok A (nwK A adK adV)) (h : J_fill N st v1 = some res) : sk_Cv l y_J_fill w_J_fill rm_J_fill D (tyK cI cJ cC) A (ceK a cI cJ cC) (nwK A adK adV) [.ref (a 20), .int v1] st res := by
  refine sk_headv (by decide) rfl (Nat.le_of_ble_eq_true rfl) ?_
  intro p e s m args below meth c Q hx hb hml hown hts0 hnw hret ls hl hw
  have hts : ∀ w ∈ TB, w.before args s = true := fun w h => hts0 w (List.mem_cons_of_mem _ h)
  have hown : s.vm.findClass R_Arr = some m.cls := hown
  have hl : lv_has ls 4 [(0, .ref (a 20)), (1, .int v1)] := hl
  unfold J_fill at h
  refine lv_iconst (v := 0) hx hb d_J_fill_0 (by decide) ?_
  refine lv_istore_n (lv' := [(2, .int (0 : Int32)), (0, .ref (a 20)), (1, .int v1)]) hx hb d_J_fill_1 rfl hl (by decide) rfl (fun ls hl => ?_)
  refine lv_aload_n hx hb d_J_fill_2 rfl (lv_at hl 1 rfl) ?_
  refine an_K20 hx hb hw d_J_fill_3 ?_
  refine lv_istore_n (lv' := [(3, .int (nI 320)), (2, .int (0 : Int32)), (0, .ref (a 20)), (1, .int v1)]) hx hb d_J_fill_4 rfl hl (by decide) rfl (fun ls hl => ?_)
  refine sk_lp_run (G := fun (z : sk_M × Int32 × Int32 × Int32) => ∀ (H : Heap) (locs : List Loc) (ls : Array Slot), sk_w D (tyK cI cJ cC) A (ceK a cI cJ cC) s z.1 H locs → lv_has ls 4 [(0, .ref (a 20)), (1, .int z.2.1), (2, .int z.2.2.1), (3, .int z.2.2.2)] → W p l e rm_J_fill s m args below meth c H locs 0 0 Q (F0 m 5 ls [])) ?_ N _ h _ _ _ hw (lv_sub hl [2, 3, 1, 0] rfl)
  rintro self5 ⟨st, v1, v2, v3⟩ hself5 h H locs ls hw hl
  unfold J_fill_L5 at h
  refine lv_iload_n hx hb d_J_fill_5 rfl (lv_at hl 2 rfl) ?_
  refine lv_iload_n hx hb d_J_fill_6 rfl (lv_at hl 3 rfl) ?_
  refine lv_icmp_ge (tgt := 20) hx hb d_J_fill_7 (by decide) (fun c_7 => ?_) (fun c_7 => ?_)
  · have h := (if_pos c_7).symm.trans h
    exact hret _ _ _ _ _ (Option.some.inj h) hw d_J_fill_20
  · have h := (if_neg c_7).symm.trans h
    refine lv_aload_n hx hb d_J_fill_10 rfl (lv_at hl 0 rfl) ?_
    refine lv_iload_n hx hb d_J_fill_11 rfl (lv_at hl 2 rfl) ?_
    refine lv_iload_n hx hb d_J_fill_12 rfl (lv_at hl 1 rfl) ?_
    obtain ⟨st13, g_13, e_13, h⟩ := sk_wI_some h
    refine as_K20 hx hb hw g_13 e_13 d_J_fill_13 (fun H locs hw => ?_)
    refine lv_iinc (v := v2 + 1) (lv' := [(2, .int (v2 + 1)), (0, .ref (a 20)), (1, .int v1), (3, .int v3)]) hx hb d_J_fill_14 hl (k := 2) rfl rfl (by decide) rfl (fun ls hl => ?_)
    refine lv_goto (tgt := 5) hx hb d_J_fill_17 (by decide) ?_
    exact hself5 (st13, v1, (v2 + 1), v3) h _ _ _ hw (lv_sub hl [1, 2, 0, 3] rfl)
set_option maxHeartbeats 4000000 in
set_option maxRecDepth 100000 in
theorem c_K_SF_bit {l : Launch} {D : va_G} {A : Nat → Prop} {a : Nat → Nat} {cI cJ cC : ClassId} {adK adV : Nat → Nat} {st : sk_M} {v0 : Int32} {res : Int64} (hok : sk_ok A (nwK A adK adV)) (h : K_SF_bit v0 = res) : sk_Cl l y_K_SF_bit w_K_SF_bit rm_K_SF_bit D (tyK cI cJ cC) A (ceK a cI cJ cC) (nwK A adK adV) [.int v0] st res st := by
  refine sk_headl (by decide) rfl (Nat.le_of_ble_eq_true rfl) ?_
  intro p e s m args below meth c Q hx hb hml hown hts0 hnw hret ls hl hw
  have hts : ∀ w ∈ TB, w.before args s = true := fun w h => hts0 w (List.mem_cons_of_mem _ h)
  have hown : s.vm.findClass R_SF = some m.cls := hown
  have hl : lv_has ls 1 [(0, .int v0)] := hl
  unfold K_SF_bit at h
  refine lv_lconst (v := 1) hx hb d_K_SF_bit_0 (by decide) ?_
  refine lv_iload_n hx hb d_K_SF_bit_1 rfl (lv_at hl 0 rfl) ?_
  refine lv_lshl hx hb d_K_SF_bit_2 rfl ?_
  exact hret _ _ _ _ _ _ h rfl hw d_K_SF_bit_3
set_option maxHeartbeats 4000000 in
set_option maxRecDepth 100000 in
theorem c_K_Members_add {l : Launch} {D : va_G} {A : Nat → Prop} {a : Nat → Nat} {cI cJ cC : ClassId} {adK adV : Nat → Nat} {st : sk_M} {v1 : Int32} {v2 : Int32} {v3 : Int32} {res : Int32 × sk_M} (hok : sk_ok A (nwK A adK adV)) (h : K_Members_add st v1 v2 v3 = some res) : sk_Ci l y_K_Members_add w_K_Members_add rm_K_Members_add D (tyK cI cJ cC) A (ceK a cI cJ cC) (nwK A adK adV) [.ref (a 2), .int v1, .int v2, .int v3] st res.1 res.2 := by
  refine sk_headi .int (by decide) rfl (Nat.le_of_ble_eq_true rfl) ?_
  intro p e s m args below meth c Q hx hb hml hown hts0 hnw hret ls hl hw
  have hts : ∀ w ∈ TB, w.before args s = true := fun w h => hts0 w (List.mem_cons_of_mem _ h)
  have hown : s.vm.findClass R_Members = some m.cls := hown
  have hl : lv_has ls 5 [(0, .ref (a 2)), (1, .int v1), (2, .int v2), (3, .int v3)] := hl
  unfold K_Members_add at h
  refine lv_aload_n hx hb d_K_Members_add_0 rfl (lv_at hl 0 rfl) ?_
  refine gf_Members_37 hx hb hts hnw hown hw d_K_Members_add_1 ?_
  refine lv_bipush (v := 40) hx hb d_K_Members_add_4 (by decide) ?_
  refine lv_icmp_lt (tgt := 12) hx hb d_K_Members_add_6 (by decide) (fun c_6 => ?_) (fun c_6 => ?_)
  · have h := (if_pos c_6).symm.trans h
    refine lv_aload_n hx hb d_K_Members_add_12 rfl (lv_at hl 0 rfl) ?_
    refine gf_Members_37 hx hb hts hnw hown hw d_K_Members_add_13 ?_
    refine lv_istore (lv' := [(4, .int (st.1 0 5)), (0, .ref (a 2)), (1, .int v1), (2, .int v2), (3, .int v3)]) hx hb d_K_Members_add_16 hl (by decide) rfl (fun ls hl => ?_)
    refine lv_aload_n hx hb d_K_Members_add_18 rfl (lv_at hl 1 rfl) ?_
    refine lv_dup hx hb d_K_Members_add_19 rfl ?_
    refine gf_Members_37 hx hb hts hnw hown hw d_K_Members_add_20 ?_
    refine lv_iconst (v := 1) hx hb d_K_Members_add_23 (by decide) ?_
    refine lv_iadd hx hb d_K_Members_add_24 ?_
    obtain ⟨st25, e_25, h⟩ := sk_fI_some h
    refine pf_Members_37 hx hb hts hnw hown hw e_25 d_K_Members_add_25 (fun H locs hw => ?_)
    refine lv_aload_n hx hb d_K_Members_add_28 rfl (lv_at hl 1 rfl) ?_
    refine gf_Members_9 hx hb hts hnw hown hw d_K_Members_add_29 ?_
    refine lv_iload hx hb d_K_Members_add_32 (lv_at hl 0 rfl) ?_
    refine lv_iload_n hx hb d_K_Members_add_34 rfl (lv_at hl 2 rfl) ?_
    obtain ⟨st35, g_35, e_35, h⟩ := sk_wI_some h
    refine as_K17 hx hb hw g_35 e_35 d_K_Members_add_35 (fun H locs hw => ?_)
    refine lv_aload_n hx hb d_K_Members_add_36 rfl (lv_at hl 1 rfl) ?_
    refine gf_Members_15 hx hb hts hnw hown hw d_K_Members_add_37 ?_
    refine lv_iload hx hb d_K_Members_add_40 (lv_at hl 0 rfl) ?_
    refine lv_iload_n hx hb d_K_Members_add_42 rfl (lv_at hl 3 rfl) ?_
    obtain ⟨st43, g_43, e_43, h⟩ := sk_wI_some h
    refine as_K18 hx hb hw g_43 e_43 d_K_Members_add_43 (fun H locs hw => ?_)
    refine lv_aload_n hx hb d_K_Members_add_44 rfl (lv_at hl 1 rfl) ?_
    refine gf_Members_18 hx hb hts hnw hown hw d_K_Members_add_45 ?_
    refine lv_iload hx hb d_K_Members_add_48 (lv_at hl 0 rfl) ?_
    refine lv_iload_n hx hb d_K_Members_add_50 rfl (lv_at hl 4 rfl) ?_
    obtain ⟨st51, g_51, e_51, h⟩ := sk_wI_some h
    refine as_K19 hx hb hw g_51 e_51 d_K_Members_add_51 (fun H locs hw => ?_)
    refine lv_aload_n hx hb d_K_Members_add_52 rfl (lv_at hl 1 rfl) ?_
    refine gf_Members_21 hx hb hts hnw hown hw d_K_Members_add_53 ?_
    refine lv_iload_n hx hb d_K_Members_add_56 rfl (lv_at hl 2 rfl) ?_
    refine lv_bipush (v := 32) hx hb d_K_Members_add_57 (by decide) ?_
    refine lv_imul hx hb d_K_Members_add_59 ?_
    refine lv_iload_n hx hb d_K_Members_add_60 rfl (lv_at hl 3 rfl) ?_
    refine lv_iadd hx hb d_K_Members_add_61 ?_
    refine lv_iload hx hb d_K_Members_add_62 (lv_at hl 0 rfl) ?_
    obtain ⟨st64, g_64, e_64, h⟩ := sk_wI_some h
    refine as_K20 hx hb hw g_64 e_64 d_K_Members_add_64 (fun H locs hw => ?_)
    refine lv_aload_n hx hb d_K_Members_add_65 rfl (lv_at hl 1 rfl) ?_
    refine lv_dup hx hb d_K_Members_add_66 rfl ?_
    refine gf_Members_41 hx hb hts hnw hown hw d_K_Members_add_67 ?_
    refine lv_iload hx hb d_K_Members_add_70 (lv_at hl 0 rfl) ?_
    refine sk_callSNl (As := [.int (st.1 0 5)]) (rest := [.long (st64.2 0 0), .ref (a 2)]) ⟨hx, hb, hml, hown, hts⟩ hw hnw hok (c_K_SF_bit hok rfl) (cw_Members_52 hts hnw (by decide)) rfl hl.1 rfl (Nat.le_of_ble_eq_true rfl) d_K_Members_add_72 (fun H locs hw => ?_)
    refine lv_lor hx hb d_K_Members_add_75 ?_
    obtain ⟨st76, e_76, h⟩ := sk_fL_some h
    refine pf_Members_41 hx hb hts hnw hown hw e_76 d_K_Members_add_76 (fun H locs hw => ?_)
    refine lv_iload_n hx hb d_K_Members_add_79 rfl (lv_at hl 4 rfl) ?_
    refine lv_iconst (v := 1) hx hb d_K_Members_add_80 (by decide) ?_
    refine lv_icmp_ne (tgt := 98) hx hb d_K_Members_add_81 (by decide) (fun c_81 => ?_) (fun c_81 => ?_)
    · have h := (if_neg c_81).symm.trans h
      refine lv_iload hx hb d_K_Members_add_98 (lv_at hl 0 rfl) ?_
      exact hret _ _ _ _ _ _ (sk_p1 h) (sk_p2 h) (vp_nar_int _) hw d_K_Members_add_100
    · have h := (if_pos c_81).symm.trans h
      refine lv_aload_n hx hb d_K_Members_add_84 rfl (lv_at hl 1 rfl) ?_
      refine lv_dup hx hb d_K_Members_add_85 rfl ?_
      refine gf_Members_45 hx hb hts hnw hown hw d_K_Members_add_86 ?_
      refine lv_iload hx hb d_K_Members_add_89 (lv_at hl 0 rfl) ?_
      refine sk_callSNl (As := [.int (st.1 0 5)]) (rest := [.long (st76.2 0 1), .ref (a 2)]) ⟨hx, hb, hml, hown, hts⟩ hw hnw hok (c_K_SF_bit hok rfl) (cw_Members_52 hts hnw (by decide)) rfl hl.1 rfl (Nat.le_of_ble_eq_true rfl) d_K_Members_add_91 (fun H locs hw => ?_)
      refine lv_lor hx hb d_K_Members_add_94 ?_
      obtain ⟨st95, e_95, h⟩ := sk_fL_some h
      refine pf_Members_45 hx hb hts hnw hown hw e_95 d_K_Members_add_95 (fun H locs hw => ?_)
      refine lv_iload hx hb d_K_Members_add_98 (lv_at hl 0 rfl) ?_
      exact hret _ _ _ _ _ _ (sk_p1 h) (sk_p2 h) (vp_nar_int _) hw d_K_Members_add_100
  · have h := (if_neg c_6).symm.trans h
    refine lv_bipush (v := -3) hx hb d_K_Members_add_9 (by decide) ?_
    exact hret _ _ _ _ _ _ (sk_p1 h) (sk_p2 h) (vp_nar_int _) hw d_K_Members_add_11
set_option maxHeartbeats 4000000 in
set_option maxRecDepth 100000 in
theorem c_K_Members_reset {l : Launch} {D : va_G} {A : Nat → Prop} {a : Nat → Nat} {cI cJ cC : ClassId} {adK adV : Nat → Nat} {N : Nat} {st : sk_M} {res : sk_M} (hok : sk_ok A (nwK A adK adV)) (h : K_Members_reset N st = some res) : sk_Cv l y_K_Members_reset w_K_Members_reset rm_K_Members_reset D (tyK cI cJ cC) A (ceK a cI cJ cC) (nwK A adK adV) [.ref (a 2)] st res := by
  refine sk_headv (by decide) rfl (Nat.le_of_ble_eq_true rfl) ?_
  intro p e s m args below meth c Q hx hb hml hown hts0 hnw hret ls hl hw
  have hts : ∀ w ∈ TB, w.before args s = true := fun w h => hts0 w (List.mem_cons_of_mem _ h)
  have hown : s.vm.findClass R_Members = some m.cls := hown
  have hl : lv_has ls 1 [(0, .ref (a 2))] := hl
  unfold K_Members_reset at h
  refine lv_aload_n hx hb d_K_Members_reset_0 rfl (lv_at hl 0 rfl) ?_
  refine gf_Members_21 hx hb hts hnw hown hw d_K_Members_reset_1 ?_
  refine lv_bipush (v := -2) hx hb d_K_Members_reset_4 (by decide) ?_
  obtain ⟨st6, q_6, h⟩ := sk_oR_some h
  refine sk_callSv (As := [.ref (a 20), .int (-2 : Int32)]) (rest := []) ⟨hx, hb, hml, hown, hts⟩ hw hnw hok (c_J_fill hok q_6) (cw_Members_31 hts hnw (by decide)) rfl hl.1 rfl (Nat.le_of_ble_eq_true rfl) d_K_Members_reset_6 (fun H locs hw => ?_)
  refine lv_aload_n hx hb d_K_Members_reset_9 rfl (lv_at hl 0 rfl) ?_
  refine lv_iconst (v := 0) hx hb d_K_Members_reset_10 (by decide) ?_
  obtain ⟨st11, e_11, h⟩ := sk_fI_some h
  refine pf_Members_37 hx hb hts hnw hown hw e_11 d_K_Members_reset_11 (fun H locs hw => ?_)
  refine lv_aload_n hx hb d_K_Members_reset_14 rfl (lv_at hl 0 rfl) ?_
  refine lv_lconst (v := 0) hx hb d_K_Members_reset_15 (by decide) ?_
  obtain ⟨st16, e_16, h⟩ := sk_fL_some h
  refine pf_Members_41 hx hb hts hnw hown hw e_16 d_K_Members_reset_16 (fun H locs hw => ?_)
  refine lv_aload_n hx hb d_K_Members_reset_19 rfl (lv_at hl 0 rfl) ?_
  refine lv_lconst (v := 0) hx hb d_K_Members_reset_20 (by decide) ?_
  obtain ⟨st21, e_21, h⟩ := sk_fL_some h
  refine pf_Members_45 hx hb hts hnw hown hw e_21 d_K_Members_reset_21 (fun H locs hw => ?_)
  refine lv_aload_n hx hb d_K_Members_reset_24 rfl (lv_at hl 0 rfl) ?_
  refine lv_iconst (v := 0) hx hb d_K_Members_reset_25 (by decide) ?_
  refine lv_bipush (v := 16) hx hb d_K_Members_reset_26 (by decide) ?_
  refine lv_iconst (v := 1) hx hb d_K_Members_reset_28 (by decide) ?_
  obtain ⟨x29, st29, q_29, h⟩ := sk_oW_some h
  refine sk_callVi (As := [.int (0 : Int32), .int (16 : Int32), .int (1 : Int32)]) (rest := []) ⟨hx, hb, hml, hown, hts⟩ hw hnw hok (c_K_Members_add hok q_29) (cw_Members_48 hts hnw (by decide)) (rc_K2 hw) rfl hl.1 rfl (Nat.le_of_ble_eq_true rfl) d_K_Members_reset_29 (fun H locs hw => ?_)
  refine lv_pop hx hb d_K_Members_reset_32 rfl ?_
  exact hret _ _ _ _ _ (Option.some.inj h) hw d_K_Members_reset_33
set_option maxHeartbeats 4000000 in
set_option maxRecDepth 100000 in
theorem c_K_Members_discard {l : Launch} {D : va_G} {A : Nat → Prop} {a : Nat → Nat} {cI cJ cC : ClassId} {adK adV : Nat → Nat} {st : sk_M} {v1 : Int32} {res : sk_M} (hok : sk_ok A (nwK A adK adV)) (h : K_Members_discard st v1 = some res) : sk_Cv l y_K_Members_discard w_K_Members_discard rm_K_Members_discard D (tyK cI cJ cC) A (ceK a cI cJ cC) (nwK A adK adV) [.ref (a 2), .int v1] st res := by
  refine sk_headv (by decide) rfl (Nat.le_of_ble_eq_true rfl) ?_
  intro p e s m args below meth c Q hx hb hml hown hts0 hnw hret ls hl hw
  have hts : ∀ w ∈ TB, w.before args s = true := fun w h => hts0 w (List.mem_cons_of_mem _ h)
  have hown : s.vm.findClass R_Members = some m.cls := hown
  have hl : lv_has ls 2 [(0, .ref (a 2)), (1, .int v1)] := hl
  unfold K_Members_discard at h
  refine lv_aload_n hx hb d_K_Members_discard_0 rfl (lv_at hl 0 rfl) ?_
  refine gf_Members_21 hx hb hts hnw hown hw d_K_Members_discard_1 ?_
  refine lv_aload_n hx hb d_K_Members_discard_4 rfl (lv_at hl 0 rfl) ?_
  refine gf_Members_9 hx hb hts hnw hown hw d_K_Members_discard_5 ?_
  refine lv_iload_n hx hb d_K_Members_discard_8 rfl (lv_at hl 1 rfl) ?_
  obtain ⟨x9, g_9, e_9, h⟩ := sk_rI_some h
  refine al_K17 hx hb hw g_9 e_9 d_K_Members_discard_9 ?_
  refine lv_bipush (v := 32) hx hb d_K_Members_discard_10 (by decide) ?_
  refine lv_imul hx hb d_K_Members_discard_12 ?_
  refine lv_aload_n hx hb d_K_Members_discard_13 rfl (lv_at hl 0 rfl) ?_
  refine gf_Members_15 hx hb hts hnw hown hw d_K_Members_discard_14 ?_
  refine lv_iload_n hx hb d_K_Members_discard_17 rfl (lv_at hl 1 rfl) ?_
  obtain ⟨x18, g_18, e_18, h⟩ := sk_rI_some h
  refine al_K18 hx hb hw g_18 e_18 d_K_Members_discard_18 ?_
  refine lv_iadd hx hb d_K_Members_discard_19 ?_
  refine lv_bipush (v := -2) hx hb d_K_Members_discard_20 (by decide) ?_
  obtain ⟨st22, g_22, e_22, h⟩ := sk_wI_some h
  refine as_K20 hx hb hw g_22 e_22 d_K_Members_discard_22 (fun H locs hw => ?_)
  refine lv_aload_n hx hb d_K_Members_discard_23 rfl (lv_at hl 0 rfl) ?_
  refine lv_dup hx hb d_K_Members_discard_24 rfl ?_
  refine gf_Members_41 hx hb hts hnw hown hw d_K_Members_discard_25 ?_
  refine lv_iload_n hx hb d_K_Members_discard_28 rfl (lv_at hl 1 rfl) ?_
  refine sk_callSNl (As := [.int v1]) (rest := [.long (st22.2 0 0), .ref (a 2)]) ⟨hx, hb, hml, hown, hts⟩ hw hnw hok (c_K_SF_bit hok rfl) (cw_Members_52 hts hnw (by decide)) rfl hl.1 rfl (Nat.le_of_ble_eq_true rfl) d_K_Members_discard_29 (fun H locs hw => ?_)
  refine lv_ldc2 (v := -1) hx hb hown (hts _ kl_Members_56) d_K_Members_discard_32 ?_
  refine lv_lxor hx hb d_K_Members_discard_35 ?_
  refine lv_land hx hb d_K_Members_discard_36 ?_
  obtain ⟨st37, e_37, h⟩ := sk_fL_some h
  refine pf_Members_41 hx hb hts hnw hown hw e_37 d_K_Members_discard_37 (fun H locs hw => ?_)
  refine lv_aload_n hx hb d_K_Members_discard_40 rfl (lv_at hl 0 rfl) ?_
  refine lv_dup hx hb d_K_Members_discard_41 rfl ?_
  refine gf_Members_45 hx hb hts hnw hown hw d_K_Members_discard_42 ?_
  refine lv_iload_n hx hb d_K_Members_discard_45 rfl (lv_at hl 1 rfl) ?_
  refine sk_callSNl (As := [.int v1]) (rest := [.long (st37.2 0 1), .ref (a 2)]) ⟨hx, hb, hml, hown, hts⟩ hw hnw hok (c_K_SF_bit hok rfl) (cw_Members_52 hts hnw (by decide)) rfl hl.1 rfl (Nat.le_of_ble_eq_true rfl) d_K_Members_discard_46 (fun H locs hw => ?_)
  refine lv_ldc2 (v := -1) hx hb hown (hts _ kl_Members_56) d_K_Members_discard_49 ?_
  refine lv_lxor hx hb d_K_Members_discard_52 ?_
  refine lv_land hx hb d_K_Members_discard_53 ?_
  obtain ⟨st54, e_54, h⟩ := sk_fL_some h
  refine pf_Members_45 hx hb hts hnw hown hw e_54 d_K_Members_discard_54 (fun H locs hw => ?_)
  exact hret _ _ _ _ _ (Option.some.inj h) hw d_K_Members_discard_57
set_option maxHeartbeats 4000000 in
set_option maxRecDepth 100000 in
theorem c_K_Members_isAlive {l : Launch} {D : va_G} {A : Nat → Prop} {a : Nat → Nat} {cI cJ cC : ClassId} {adK adV : Nat → Nat} {st : sk_M} {v1 : Int32} {res : Int32} (hok : sk_ok A (nwK A adK adV)) (h : K_Members_isAlive st v1 = res) : sk_Ci l y_K_Members_isAlive w_K_Members_isAlive rm_K_Members_isAlive D (tyK cI cJ cC) A (ceK a cI cJ cC) (nwK A adK adV) [.ref (a 2), .int v1] st res st := by
  refine sk_headi .boolean (by decide) rfl (Nat.le_of_ble_eq_true rfl) ?_
  intro p e s m args below meth c Q hx hb hml hown hts0 hnw hret ls hl hw
  have hts : ∀ w ∈ TB, w.before args s = true := fun w h => hts0 w (List.mem_cons_of_mem _ h)
  have hown : s.vm.findClass R_Members = some m.cls := hown
  have hl : lv_has ls 2 [(0, .ref (a 2)), (1, .int v1)] := hl
  unfold K_Members_isAlive at h
  refine lv_aload_n hx hb d_K_Members_isAlive_0 rfl (lv_at hl 0 rfl) ?_
  refine gf_Members_41 hx hb hts hnw hown hw d_K_Members_isAlive_1 ?_
  refine lv_iload_n hx hb d_K_Members_isAlive_4 rfl (lv_at hl 1 rfl) ?_
  refine sk_callSNi (As := [.long (st.2 0 0), .int v1]) (rest := []) ⟨hx, hb, hml, hown, hts⟩ hw hnw hok (c_K_SF_has hok rfl) (cw_Members_66 hts hnw (by decide)) rfl hl.1 rfl (Nat.le_of_ble_eq_true rfl) d_K_Members_isAlive_5 (fun H locs hw => ?_)
  exact hret _ _ _ _ _ _ h rfl (congrArg Value.int (bz_K_SF_has _ _)) hw d_K_Members_isAlive_8
set_option maxHeartbeats 4000000 in
set_option maxRecDepth 100000 in
theorem c_K_Members_discardAllOf {l : Launch} {D : va_G} {A : Nat → Prop} {a : Nat → Nat} {cI cJ cC : ClassId} {adK adV : Nat → Nat} {N : Nat} {st : sk_M} {v1 : Int32} {res : sk_M} (hok : sk_ok A (nwK A adK adV)) (h : K_Members_discardAllOf N st v1 = some res) : sk_Cv l y_K_Members_discardAllOf w_K_Members_discardAllOf rm_K_Members_discardAllOf D (tyK cI cJ cC) A (ceK a cI cJ cC) (nwK A adK adV) [.ref (a 2), .int v1] st res := by
  refine sk_headv (by decide) rfl (Nat.le_of_ble_eq_true rfl) ?_
  intro p e s m args below meth c Q hx hb hml hown hts0 hnw hret ls hl hw
  have hts : ∀ w ∈ TB, w.before args s = true := fun w h => hts0 w (List.mem_cons_of_mem _ h)
  have hown : s.vm.findClass R_Members = some m.cls := hown
  have hl : lv_has ls 3 [(0, .ref (a 2)), (1, .int v1)] := hl
  unfold K_Members_discardAllOf at h
  refine lv_iconst (v := 1) hx hb d_K_Members_discardAllOf_0 (by decide) ?_
  refine lv_istore_n (lv' := [(2, .int (1 : Int32)), (0, .ref (a 2)), (1, .int v1)]) hx hb d_K_Members_discardAllOf_1 rfl hl (by decide) rfl (fun ls hl => ?_)
  refine sk_lp_run (G := fun (z : sk_M × Int32 × Int32) => ∀ (H : Heap) (locs : List Loc) (ls : Array Slot), sk_w D (tyK cI cJ cC) A (ceK a cI cJ cC) s z.1 H locs → lv_has ls 3 [(0, .ref (a 2)), (1, .int z.2.1), (2, .int z.2.2)] → W p l e rm_K_Members_discardAllOf s m args below meth c H locs 0 0 Q (F0 m 2 ls [])) ?_ N _ h _ _ _ hw (lv_sub hl [1, 2, 0] rfl)
  rintro self2 ⟨st, v1, v2⟩ hself2 h H locs ls hw hl
  unfold K_Members_discardAllOf_L2 at h
  refine lv_iload_n hx hb d_K_Members_discardAllOf_2 rfl (lv_at hl 2 rfl) ?_
  refine lv_aload_n hx hb d_K_Members_discardAllOf_3 rfl (lv_at hl 0 rfl) ?_
  refine gf_Members_37 hx hb hts hnw hown hw d_K_Members_discardAllOf_4 ?_
  refine lv_icmp_ge (tgt := 39) hx hb d_K_Members_discardAllOf_7 (by decide) (fun c_7 => ?_) (fun c_7 => ?_)
  · have h := (if_pos c_7).symm.trans h
    exact hret _ _ _ _ _ (Option.some.inj h) hw d_K_Members_discardAllOf_39
  · have h := (if_neg c_7).symm.trans h
    refine lv_aload_n hx hb d_K_Members_discardAllOf_10 rfl (lv_at hl 0 rfl) ?_
    refine lv_iload_n hx hb d_K_Members_discardAllOf_11 rfl (lv_at hl 2 rfl) ?_
    refine sk_callVi (As := [.int v2]) (rest := []) ⟨hx, hb, hml, hown, hts⟩ hw hnw hok (c_K_Members_isAlive hok rfl) (cw_Members_58 hts hnw (by decide)) (rc_K2 hw) rfl hl.1 rfl (Nat.le_of_ble_eq_true rfl) d_K_Members_discardAllOf_12 (fun H locs hw => ?_)
    refine lv_if_eq (tgt := 33) hx hb d_K_Members_discardAllOf_15 (by decide) (fun c_15 => ?_) (fun c_15 => ?_)
    · have h := (if_pos c_15).symm.trans h
      refine lv_iinc (v := v2 + 1) (lv' := [(2, .int (v2 + 1)), (0, .ref (a 2)), (1, .int v1)]) hx hb d_K_Members_discardAllOf_33 hl (k := 2) rfl rfl (by decide) rfl (fun ls hl => ?_)
      refine lv_goto (tgt := 2) hx hb d_K_Members_discardAllOf_36 (by decide) ?_
      exact hself2 (st, v1, (v2 + 1)) h _ _ _ hw (lv_sub hl [1, 2, 0] rfl)
    · have h := (if_neg c_15).symm.trans h
      refine lv_aload_n hx hb d_K_Members_discardAllOf_18 rfl (lv_at hl 0 rfl) ?_
      refine gf_Members_9 hx hb hts hnw hown hw d_K_Members_discardAllOf_19 ?_
      refine lv_iload_n hx hb d_K_Members_discardAllOf_22 rfl (lv_at hl 2 rfl) ?_
      obtain ⟨x23, g_23, e_23, h⟩ := sk_rI_some h
      refine al_K17 hx hb hw g_23 e_23 d_K_Members_discardAllOf_23 ?_
      refine lv_iload_n hx hb d_K_Members_discardAllOf_24 rfl (lv_at hl 1 rfl) ?_
      refine lv_icmp_ne (tgt := 33) hx hb d_K_Members_discardAllOf_25 (by decide) (fun c_25 => ?_) (fun c_25 => ?_)
      · have h := (if_neg c_25).symm.trans h
        refine lv_iinc (v := v2 + 1) (lv' := [(2, .int (v2 + 1)), (0, .ref (a 2)), (1, .int v1)]) hx hb d_K_Members_discardAllOf_33 hl (k := 2) rfl rfl (by decide) rfl (fun ls hl => ?_)
        refine lv_goto (tgt := 2) hx hb d_K_Members_discardAllOf_36 (by decide) ?_
        exact hself2 (st, v1, (v2 + 1)) h _ _ _ hw (lv_sub hl [1, 2, 0] rfl)
      · have h := (if_pos c_25).symm.trans h
        refine lv_aload_n hx hb d_K_Members_discardAllOf_28 rfl (lv_at hl 0 rfl) ?_
        refine lv_iload_n hx hb d_K_Members_discardAllOf_29 rfl (lv_at hl 2 rfl) ?_
        obtain ⟨st30, q_30, h⟩ := sk_oR_some h
        refine sk_callVv (As := [.int v2]) (rest := []) ⟨hx, hb, hml, hown, hts⟩ hw hnw hok (c_K_Members_discard hok q_30) (cw_Members_62 hts hnw (by decide)) (rc_K2 hw) rfl hl.1 rfl (Nat.le_of_ble_eq_true rfl) d_K_Members_discardAllOf_30 (fun H locs hw => ?_)
        refine lv_iinc (v := v2 + 1) (lv' := [(2, .int (v2 + 1)), (0, .ref (a 2)), (1, .int v1)]) hx hb d_K_Members_discardAllOf_33 hl (k := 2) rfl rfl (by decide) rfl (fun ls hl => ?_)
        refine lv_goto (tgt := 2) hx hb d_K_Members_discardAllOf_36 (by decide) ?_
        exact hself2 (st30, v1, (v2 + 1)) h _ _ _ hw (lv_sub hl [1, 2, 0] rfl)
set_option maxHeartbeats 4000000 in
set_option maxRecDepth 100000 in
theorem c_K_Members_hasFlag {l : Launch} {D : va_G} {A : Nat → Prop} {a : Nat → Nat} {cI cJ cC : ClassId} {adK adV : Nat → Nat} {st : sk_M} {v1 : Int32} {v2 : Int32} {res : Int32} (hok : sk_ok A (nwK A adK adV)) (h : K_Members_hasFlag st v1 v2 = some res) : sk_Ci l y_K_Members_hasFlag w_K_Members_hasFlag rm_K_Members_hasFlag D (tyK cI cJ cC) A (ceK a cI cJ cC) (nwK A adK adV) [.ref (a 2), .int v1, .int v2] st res st := by
  refine sk_headi .boolean (by decide) rfl (Nat.le_of_ble_eq_true rfl) ?_
  intro p e s m args below meth c Q hx hb hml hown hts0 hnw hret ls hl hw
  have hts : ∀ w ∈ TB, w.before args s = true := fun w h => hts0 w (List.mem_cons_of_mem _ h)
  have hown : s.vm.findClass R_Members = some m.cls := hown
  have hl : lv_has ls 3 [(0, .ref (a 2)), (1, .int v1), (2, .int v2)] := hl
  unfold K_Members_hasFlag at h
  refine lv_aload_n hx hb d_K_Members_hasFlag_0 rfl (lv_at hl 0 rfl) ?_
  refine gf_Members_18 hx hb hts hnw hown hw d_K_Members_hasFlag_1 ?_
  refine lv_iload_n hx hb d_K_Members_hasFlag_4 rfl (lv_at hl 1 rfl) ?_
  obtain ⟨x5, g_5, e_5, h⟩ := sk_rI_some h
  refine al_K19 hx hb hw g_5 e_5 d_K_Members_hasFlag_5 ?_
  refine lv_iload_n hx hb d_K_Members_hasFlag_6 rfl (lv_at hl 2 rfl) ?_
  refine lv_iand hx hb d_K_Members_hasFlag_7 ?_
  refine lv_if_eq (tgt := 15) hx hb d_K_Members_hasFlag_8 (by decide) (fun c_8 => ?_) (fun c_8 => ?_)
  · have h := (if_pos c_8).symm.trans h
    refine lv_iconst (v := 0) hx hb d_K_Members_hasFlag_15 (by decide) ?_
    exact hret _ _ _ _ _ _ (Option.some.inj h) rfl rfl hw d_K_Members_hasFlag_16
  · have h := (if_neg c_8).symm.trans h
    refine lv_iconst (v := 1) hx hb d_K_Members_hasFlag_11 (by decide) ?_
    refine lv_goto (tgt := 16) hx hb d_K_Members_hasFlag_12 (by decide) ?_
    exact hret _ _ _ _ _ _ (Option.some.inj h) rfl rfl hw d_K_Members_hasFlag_16
set_option maxHeartbeats 4000000 in
set_option maxRecDepth 100000 in
theorem c_K_Members_at {l : Launch} {D : va_G} {A : Nat → Prop} {a : Nat → Nat} {cI cJ cC : ClassId} {adK adV : Nat → Nat} {st : sk_M} {v1 : Int32} {v2 : Int32} {res : Int32} (hok : sk_ok A (nwK A adK adV)) (h : K_Members_at st v1 v2 = some res) : sk_Ci l y_K_Members_at w_K_Members_at rm_K_Members_at D (tyK cI cJ cC) A (ceK a cI cJ cC) (nwK A adK adV) [.ref (a 2), .int v1, .int v2] st res st := by
  refine sk_headi .int (by decide) rfl (Nat.le_of_ble_eq_true rfl) ?_
  intro p e s m args below meth c Q hx hb hml hown hts0 hnw hret ls hl hw
  have hts : ∀ w ∈ TB, w.before args s = true := fun w h => hts0 w (List.mem_cons_of_mem _ h)
  have hown : s.vm.findClass R_Members = some m.cls := hown
  have hl : lv_has ls 3 [(0, .ref (a 2)), (1, .int v1), (2, .int v2)] := hl
  unfold K_Members_at at h
  refine lv_aload_n hx hb d_K_Members_at_0 rfl (lv_at hl 0 rfl) ?_
  refine gf_Members_21 hx hb hts hnw hown hw d_K_Members_at_1 ?_
  refine lv_iload_n hx hb d_K_Members_at_4 rfl (lv_at hl 1 rfl) ?_
  refine lv_bipush (v := 32) hx hb d_K_Members_at_5 (by decide) ?_
  refine lv_imul hx hb d_K_Members_at_7 ?_
  refine lv_iload_n hx hb d_K_Members_at_8 rfl (lv_at hl 2 rfl) ?_
  refine lv_iadd hx hb d_K_Members_at_9 ?_
  obtain ⟨x10, g_10, e_10, h⟩ := sk_rI_some h
  refine al_K20 hx hb hw g_10 e_10 d_K_Members_at_10 ?_
  exact hret _ _ _ _ _ _ (Option.some.inj h) rfl (vp_nar_int _) hw d_K_Members_at_11
set_option maxHeartbeats 4000000 in
set_option maxRecDepth 100000 in
theorem c_K_Members_leastOfFaces {l : Launch} {D : va_G} {A : Nat → Prop} {a : Nat → Nat} {cI cJ cC : ClassId} {adK adV : Nat → Nat} {N : Nat} {st : sk_M} {v1 : Int64} {v3 : Int32} {v4 : Int64} {res : Int32} (hok : sk_ok A (nwK A adK adV)) (h : K_Members_leastOfFaces N st v1 v3 v4 = some res) : sk_Ci l y_K_Members_leastOfFaces w_K_Members_leastOfFaces rm_K_Members_leastOfFaces D (tyK cI cJ cC) A (ceK a cI cJ cC) (nwK A adK adV) [.ref (a 2), .long v1, .int v3, .long v4] st res st := by
  refine sk_headi .int (by decide) rfl (Nat.le_of_ble_eq_true rfl) ?_
  intro p e s m args below meth c Q hx hb hml hown hts0 hnw hret ls hl hw
  have hts : ∀ w ∈ TB, w.before args s = true := fun w h => hts0 w (List.mem_cons_of_mem _ h)
  have hown : s.vm.findClass R_Members = some m.cls := hown
  have hl : lv_has ls 9 [(0, .ref (a 2)), (1, .long v1), (3, .int v3), (4, .long v4)] := hl
  unfold K_Members_leastOfFaces at h
  refine lv_bipush (v := -2) hx hb d_K_Members_leastOfFaces_0 (by decide) ?_
  refine lv_istore (lv' := [(6, .int (-2 : Int32)), (0, .ref (a 2)), (1, .long v1), (3, .int v3), (4, .long v4)]) hx hb d_K_Members_leastOfFaces_2 hl (by decide) rfl (fun ls hl => ?_)
  refine lv_iconst (v := 0) hx hb d_K_Members_leastOfFaces_4 (by decide) ?_
  refine lv_istore (lv' := [(7, .int (0 : Int32)), (6, .int (-2 : Int32)), (0, .ref (a 2)), (1, .long v1), (3, .int v3), (4, .long v4)]) hx hb d_K_Members_leastOfFaces_5 hl (by decide) rfl (fun ls hl => ?_)
  refine sk_lp_run (G := fun (z : Int64 × Int32 × Int64 × Int32 × Int32) => ∀ (H : Heap) (locs : List Loc) (ls : Array Slot), sk_w D (tyK cI cJ cC) A (ceK a cI cJ cC) s st H locs → lv_has ls 9 [(0, .ref (a 2)), (1, .long z.1), (3, .int z.2.1), (4, .long z.2.2.1), (6, .int z.2.2.2.1), (7, .int z.2.2.2.2)] → W p l e rm_K_Members_leastOfFaces s m args below meth c H locs 0 0 Q (F0 m 7 ls [])) ?_ N _ h _ _ _ hw (lv_sub hl [2, 3, 4, 5, 1, 0] rfl)
  rintro self7 ⟨v1, v3, v4, v6, v7⟩ hself7 h H locs ls hw hl
  unfold K_Members_leastOfFaces_L7 at h
  refine lv_iload hx hb d_K_Members_leastOfFaces_7 (lv_at hl 5 rfl) ?_
  refine lv_bipush (v := 10) hx hb d_K_Members_leastOfFaces_9 (by decide) ?_
  refine lv_icmp_ge (tgt := 74) hx hb d_K_Members_leastOfFaces_11 (by decide) (fun c_11 => ?_) (fun c_11 => ?_)
  · have h := (if_pos c_11).symm.trans h
    refine lv_iload hx hb d_K_Members_leastOfFaces_74 (lv_at hl 4 rfl) ?_
    exact hret _ _ _ _ _ _ (Option.some.inj h) rfl (vp_nar_int _) hw d_K_Members_leastOfFaces_76
  · have h := (if_neg c_11).symm.trans h
    refine lv_lload_n hx hb d_K_Members_leastOfFaces_14 rfl (lv_at hl 1 rfl) ?_
    refine lv_iload hx hb d_K_Members_leastOfFaces_15 (lv_at hl 5 rfl) ?_
    refine sk_callSNi (As := [.long v1, .int v7]) (rest := []) ⟨hx, hb, hml, hown, hts⟩ hw hnw hok (c_K_SF_has hok rfl) (cw_Members_66 hts hnw (by decide)) rfl hl.1 rfl (Nat.le_of_ble_eq_true rfl) d_K_Members_leastOfFaces_17 (fun H locs hw => ?_)
    refine lv_if_eq (tgt := 68) hx hb d_K_Members_leastOfFaces_20 (by decide) (fun c_20 => ?_) (fun c_20 => ?_)
    · have h := (if_pos c_20).symm.trans h
      refine lv_iinc (v := v7 + 1) (lv' := [(7, .int (v7 + 1)), (0, .ref (a 2)), (1, .long v1), (3, .int v3), (4, .long v4), (6, .int v6)]) hx hb d_K_Members_leastOfFaces_68 hl (k := 5) rfl rfl (by decide) rfl (fun ls hl => ?_)
      refine lv_goto (tgt := 7) hx hb d_K_Members_leastOfFaces_71 (by decide) ?_
      exact hself7 (v1, v3, v4, v6, (v7 + 1)) h _ _ _ hw (lv_sub hl [1, 2, 3, 4, 5, 0] rfl)
    · have h := (if_neg c_20).symm.trans h
      refine lv_lload hx hb d_K_Members_leastOfFaces_23 (lv_at hl 3 rfl) ?_
      refine lv_aload_n hx hb d_K_Members_leastOfFaces_25 rfl (lv_at hl 0 rfl) ?_
      refine lv_iload hx hb d_K_Members_leastOfFaces_26 (lv_at hl 5 rfl) ?_
      refine lv_iload_n hx hb d_K_Members_leastOfFaces_28 rfl (lv_at hl 2 rfl) ?_
      obtain ⟨x29, q_29, h⟩ := sk_oR_some h
      refine sk_callVi (As := [.int v7, .int v3]) (rest := [.long v4]) ⟨hx, hb, hml, hown, hts⟩ hw hnw hok (c_K_Members_at hok q_29) (cw_Members_79 hts hnw (by decide)) (rc_K2 hw) rfl hl.1 rfl (Nat.le_of_ble_eq_true rfl) d_K_Members_leastOfFaces_29 (fun H locs hw => ?_)
      refine sk_callSNi (As := [.long v4, .int x29]) (rest := []) ⟨hx, hb, hml, hown, hts⟩ hw hnw hok (c_K_SF_has hok rfl) (cw_Members_66 hts hnw (by decide)) rfl hl.1 rfl (Nat.le_of_ble_eq_true rfl) d_K_Members_leastOfFaces_32 (fun H locs hw => ?_)
      refine lv_if_eq (tgt := 68) hx hb d_K_Members_leastOfFaces_35 (by decide) (fun c_35 => ?_) (fun c_35 => ?_)
      · have h := (if_pos c_35).symm.trans h
        refine lv_iinc (v := v7 + 1) (lv' := [(7, .int (v7 + 1)), (0, .ref (a 2)), (1, .long v1), (3, .int v3), (4, .long v4), (6, .int v6)]) hx hb d_K_Members_leastOfFaces_68 hl (k := 5) rfl rfl (by decide) rfl (fun ls hl => ?_)
        refine lv_goto (tgt := 7) hx hb d_K_Members_leastOfFaces_71 (by decide) ?_
        exact hself7 (v1, v3, v4, v6, (v7 + 1)) h _ _ _ hw (lv_sub hl [1, 2, 3, 4, 5, 0] rfl)
      · have h := (if_neg c_35).symm.trans h
        refine lv_aload_n hx hb d_K_Members_leastOfFaces_38 rfl (lv_at hl 0 rfl) ?_
        refine lv_iload hx hb d_K_Members_leastOfFaces_39 (lv_at hl 5 rfl) ?_
        refine lv_iload_n hx hb d_K_Members_leastOfFaces_41 rfl (lv_at hl 2 rfl) ?_
        obtain ⟨x42, q_42, h⟩ := sk_oR_some h
        refine sk_callVi (As := [.int v7, .int v3]) (rest := []) ⟨hx, hb, hml, hown, hts⟩ hw hnw hok (c_K_Members_at hok q_42) (cw_Members_79 hts hnw (by decide)) (rc_K2 hw) rfl hl.1 rfl (Nat.le_of_ble_eq_true rfl) d_K_Members_leastOfFaces_42 (fun H locs hw => ?_)
        refine lv_istore (lv' := [(8, .int x42), (0, .ref (a 2)), (1, .long v1), (3, .int v3), (4, .long v4), (6, .int v6), (7, .int v7)]) hx hb d_K_Members_leastOfFaces_45 hl (by decide) rfl (fun ls hl => ?_)
        refine lv_iload hx hb d_K_Members_leastOfFaces_47 (lv_at hl 5 rfl) ?_
        refine lv_bipush (v := -2) hx hb d_K_Members_leastOfFaces_49 (by decide) ?_
        refine lv_icmp_ne (tgt := 59) hx hb d_K_Members_leastOfFaces_51 (by decide) (fun c_51 => ?_) (fun c_51 => ?_)
        · have h := (if_neg c_51).symm.trans h
          refine lv_iload hx hb d_K_Members_leastOfFaces_59 (lv_at hl 5 rfl) ?_
          refine lv_iload hx hb d_K_Members_leastOfFaces_61 (lv_at hl 0 rfl) ?_
          refine va_mmin hx hb (hml.trans hl.1.symm) hown (hts _ ml_Members_93) (hts _ ml_stat) (hts _ ml_init) (hts _ ml_code) (by decide) (Nat.le_of_ble_eq_true rfl) (Nat.zero_le _) (Nat.zero_le _) d_K_Members_leastOfFaces_63 ?_
          refine lv_istore (lv' := [(6, .int (if x42 < v6 then x42 else v6)), (8, .int x42), (0, .ref (a 2)), (1, .long v1), (3, .int v3), (4, .long v4), (7, .int v7)]) hx hb d_K_Members_leastOfFaces_66 hl (by decide) rfl (fun ls hl => ?_)
          refine lv_iinc (v := v7 + 1) (lv' := [(7, .int (v7 + 1)), (6, .int (if x42 < v6 then x42 else v6)), (8, .int x42), (0, .ref (a 2)), (1, .long v1), (3, .int v3), (4, .long v4)]) hx hb d_K_Members_leastOfFaces_68 hl (k := 6) rfl rfl (by decide) rfl (fun ls hl => ?_)
          refine lv_goto (tgt := 7) hx hb d_K_Members_leastOfFaces_71 (by decide) ?_
          exact hself7 (v1, v3, v4, (if x42 < v6 then x42 else v6), (v7 + 1)) h _ _ _ hw (lv_sub hl [3, 4, 5, 6, 1, 0] rfl)
        · have h := (if_pos c_51).symm.trans h
          refine lv_iload hx hb d_K_Members_leastOfFaces_54 (lv_at hl 0 rfl) ?_
          refine lv_goto (tgt := 66) hx hb d_K_Members_leastOfFaces_56 (by decide) ?_
          refine lv_istore (lv' := [(6, .int x42), (8, .int x42), (0, .ref (a 2)), (1, .long v1), (3, .int v3), (4, .long v4), (7, .int v7)]) hx hb d_K_Members_leastOfFaces_66 hl (by decide) rfl (fun ls hl => ?_)
          refine lv_iinc (v := v7 + 1) (lv' := [(7, .int (v7 + 1)), (6, .int x42), (8, .int x42), (0, .ref (a 2)), (1, .long v1), (3, .int v3), (4, .long v4)]) hx hb d_K_Members_leastOfFaces_68 hl (k := 6) rfl rfl (by decide) rfl (fun ls hl => ?_)
          refine lv_goto (tgt := 7) hx hb d_K_Members_leastOfFaces_71 (by decide) ?_
          exact hself7 (v1, v3, v4, x42, (v7 + 1)) h _ _ _ hw (lv_sub hl [3, 4, 5, 6, 1, 0] rfl)
set_option maxHeartbeats 4000000 in
set_option maxRecDepth 100000 in
theorem c_K_Members_find {l : Launch} {D : va_G} {A : Nat → Prop} {a : Nat → Nat} {cI cJ cC : ClassId} {adK adV : Nat → Nat} {N : Nat} {st : sk_M} {v1 : Int32} {v2 : Int32} {v3 : Int64} {res : Int32} (hok : sk_ok A (nwK A adK adV)) (h : K_Members_find N st v1 v2 v3 = some res) : sk_Ci l y_K_Members_find w_K_Members_find rm_K_Members_find D (tyK cI cJ cC) A (ceK a cI cJ cC) (nwK A adK adV) [.ref (a 2), .int v1, .int v2, .long v3] st res st := by
  refine sk_headi .int (by decide) rfl (Nat.le_of_ble_eq_true rfl) ?_
  intro p e s m args below meth c Q hx hb hml hown hts0 hnw hret ls hl hw
  have hts : ∀ w ∈ TB, w.before args s = true := fun w h => hts0 w (List.mem_cons_of_mem _ h)
  have hown : s.vm.findClass R_Members = some m.cls := hown
  have hl : lv_has ls 6 [(0, .ref (a 2)), (1, .int v1), (2, .int v2), (3, .long v3)] := hl
  unfold K_Members_find at h
  refine lv_aload_n hx hb d_K_Members_find_0 rfl (lv_at hl 0 rfl) ?_
  refine gf_Members_24 hx hb hts hnw hown hw d_K_Members_find_1 ?_
  refine gf_Members_70 hx hb hts hnw hown hw d_K_Members_find_4 ?_
  refine lv_iload_n hx hb d_K_Members_find_7 rfl (lv_at hl 1 rfl) ?_
  refine sk_callSNi (As := [.long (st.2 0 11), .int v1]) (rest := []) ⟨hx, hb, hml, hown, hts⟩ hw hnw hok (c_K_SF_has hok rfl) (cw_Members_66 hts hnw (by decide)) rfl hl.1 rfl (Nat.le_of_ble_eq_true rfl) d_K_Members_find_8 (fun H locs hw => ?_)
  refine lv_if_ne (tgt := 17) hx hb d_K_Members_find_11 (by decide) (fun c_11 => ?_) (fun c_11 => ?_)
  · have h := (if_neg c_11).symm.trans h
    refine lv_iload_n hx hb d_K_Members_find_17 rfl (lv_at hl 1 rfl) ?_
    refine lv_istore (lv' := [(5, .int v1), (0, .ref (a 2)), (1, .int v1), (2, .int v2), (3, .long v3)]) hx hb d_K_Members_find_18 hl (by decide) rfl (fun ls hl => ?_)
    have hJ70 : ∀ (v1 : Int32) (v2 : Int32) (v3 : Int64) (H : Heap) (locs : List Loc) (ls : Array Slot), K_Members_find_J70 N st v1 v2 v3 = some res → sk_w D (tyK cI cJ cC) A (ceK a cI cJ cC) s st H locs → lv_has ls 6 [(0, .ref (a 2)), (1, .int v1), (2, .int v2), (3, .long v3)] → W p l e rm_K_Members_find s m args below meth c H locs 0 0 Q (F0 m 70 ls []) := by
      intro v1 v2 v3 H locs ls h hw hl
      unfold K_Members_find_J70 at h
      refine lv_aload_n hx hb d_K_Members_find_70 rfl (lv_at hl 0 rfl) ?_
      refine lv_aload_n hx hb d_K_Members_find_71 rfl (lv_at hl 0 rfl) ?_
      refine gf_Members_24 hx hb hts hnw hown hw d_K_Members_find_72 ?_
      refine gf_Members_83 hx hb hts hnw hown hw d_K_Members_find_75 ?_
      refine lv_iload_n hx hb d_K_Members_find_78 rfl (lv_at hl 1 rfl) ?_
      obtain ⟨x79, g_79, e_79, h⟩ := sk_rL_some h
      refine al_K42 hx hb hw g_79 e_79 d_K_Members_find_79 ?_
      refine lv_aload_n hx hb d_K_Members_find_80 rfl (lv_at hl 0 rfl) ?_
      refine gf_Members_24 hx hb hts hnw hown hw d_K_Members_find_81 ?_
      refine gf_Members_86 hx hb hts hnw hown hw d_K_Members_find_84 ?_
      refine lv_land hx hb d_K_Members_find_87 ?_
      refine lv_iload_n hx hb d_K_Members_find_88 rfl (lv_at hl 2 rfl) ?_
      refine lv_lload_n hx hb d_K_Members_find_89 rfl (lv_at hl 3 rfl) ?_
      obtain ⟨x90, q_90, h⟩ := sk_oR_some h
      refine sk_callVi (As := [.long (x79 &&& (st.2 0 12)), .int v2, .long v3]) (rest := []) ⟨hx, hb, hml, hown, hts⟩ hw hnw hok (c_K_Members_leastOfFaces hok q_90) (cw_Members_89 hts hnw (by decide)) (rc_K2 hw) rfl hl.1 rfl (Nat.le_of_ble_eq_true rfl) d_K_Members_find_90 (fun H locs hw => ?_)
      exact hret _ _ _ _ _ _ (Option.some.inj h) rfl (vp_nar_int _) hw d_K_Members_find_93
    have hJ56 : ∀ (v2 : Int32) (v5 : Int32) (H : Heap) (locs : List Loc) (ls : Array Slot), K_Members_find_J56 N st v2 v5 = some res → sk_w D (tyK cI cJ cC) A (ceK a cI cJ cC) s st H locs → lv_has ls 6 [(0, .ref (a 2)), (2, .int v2), (5, .int v5)] → W p l e rm_K_Members_find s m args below meth c H locs 0 0 Q (F0 m 56 ls []) := by
      intro v2 v5 H locs ls h hw hl
      unfold K_Members_find_J56 at h
      refine lv_aload_n hx hb d_K_Members_find_56 rfl (lv_at hl 0 rfl) ?_
      refine lv_iload hx hb d_K_Members_find_57 (lv_at hl 2 rfl) ?_
      refine lv_iload_n hx hb d_K_Members_find_59 rfl (lv_at hl 1 rfl) ?_
      obtain ⟨x60, q_60, h⟩ := sk_oR_some h
      refine sk_callVi (As := [.int v5, .int v2]) (rest := []) ⟨hx, hb, hml, hown, hts⟩ hw hnw hok (c_K_Members_at hok q_60) (cw_Members_79 hts hnw (by decide)) (rc_K2 hw) rfl hl.1 rfl (Nat.le_of_ble_eq_true rfl) d_K_Members_find_60 (fun H locs hw => ?_)
      exact hret _ _ _ _ _ _ (Option.some.inj h) rfl (vp_nar_int _) hw d_K_Members_find_63
    refine sk_lp_run (G := fun (z : Int32 × Int32 × Int64 × Int32) => ∀ (H : Heap) (locs : List Loc) (ls : Array Slot), sk_w D (tyK cI cJ cC) A (ceK a cI cJ cC) s st H locs → lv_has ls 6 [(0, .ref (a 2)), (1, .int z.1), (2, .int z.2.1), (3, .long z.2.2.1), (5, .int z.2.2.2)] → W p l e rm_K_Members_find s m args below meth c H locs 0 0 Q (F0 m 20 ls [])) ?_ N _ h _ _ _ hw (lv_sub hl [1, 2, 3, 4, 0] rfl)
    rintro self20 ⟨v1, v2, v3, v5⟩ hself20 h H locs ls hw hl
    unfold K_Members_find_L20 at h
    refine lv_iload hx hb d_K_Members_find_20 (lv_at hl 4 rfl) ?_
    refine lv_if_lt (tgt := 70) hx hb d_K_Members_find_22 (by decide) (fun c_22 => ?_) (fun c_22 => ?_)
    · have h := (if_pos c_22).symm.trans h
      exact hJ70 _ _ _ _ _ _ h hw (lv_sub hl [0, 1, 2, 3] rfl)
    · have h := (if_neg c_22).symm.trans h
      refine lv_aload_n hx hb d_K_Members_find_25 rfl (lv_at hl 0 rfl) ?_
      refine gf_Members_24 hx hb hts hnw hown hw d_K_Members_find_26 ?_
      refine gf_Members_75 hx hb hts hnw hown hw d_K_Members_find_29 ?_
      refine lv_iload_n hx hb d_K_Members_find_32 rfl (lv_at hl 1 rfl) ?_
      obtain ⟨x33, g_33, e_33, h⟩ := sk_rL_some h
      refine al_K41 hx hb hw g_33 e_33 d_K_Members_find_33 ?_
      refine lv_iload hx hb d_K_Members_find_34 (lv_at hl 4 rfl) ?_
      refine sk_callSNi (As := [.long x33, .int v5]) (rest := []) ⟨hx, hb, hml, hown, hts⟩ hw hnw hok (c_K_SF_has hok rfl) (cw_Members_66 hts hnw (by decide)) rfl hl.1 rfl (Nat.le_of_ble_eq_true rfl) d_K_Members_find_36 (fun H locs hw => ?_)
      refine lv_if_eq (tgt := 64) hx hb d_K_Members_find_39 (by decide) (fun c_39 => ?_) (fun c_39 => ?_)
      · have h := (if_pos c_39).symm.trans h
        refine lv_iinc (v := v5 + (-1)) (lv' := [(5, .int (v5 + (-1))), (0, .ref (a 2)), (1, .int v1), (2, .int v2), (3, .long v3)]) hx hb d_K_Members_find_64 hl (k := 4) rfl rfl (by decide) rfl (fun ls hl => ?_)
        refine lv_goto (tgt := 20) hx hb d_K_Members_find_67 (by decide) ?_
        exact hself20 (v1, v2, v3, (v5 + (-1))) h _ _ _ hw (lv_sub hl [1, 2, 3, 4, 0] rfl)
      · have h := (if_neg c_39).symm.trans h
        refine lv_lload_n hx hb d_K_Members_find_42 rfl (lv_at hl 3 rfl) ?_
        refine lv_aload_n hx hb d_K_Members_find_43 rfl (lv_at hl 0 rfl) ?_
        refine lv_iload hx hb d_K_Members_find_44 (lv_at hl 4 rfl) ?_
        refine lv_iload_n hx hb d_K_Members_find_46 rfl (lv_at hl 2 rfl) ?_
        obtain ⟨x47, q_47, h⟩ := sk_oR_some h
        refine sk_callVi (As := [.int v5, .int v2]) (rest := [.long v3]) ⟨hx, hb, hml, hown, hts⟩ hw hnw hok (c_K_Members_at hok q_47) (cw_Members_79 hts hnw (by decide)) (rc_K2 hw) rfl hl.1 rfl (Nat.le_of_ble_eq_true rfl) d_K_Members_find_47 (fun H locs hw => ?_)
        refine sk_callSNi (As := [.long v3, .int x47]) (rest := []) ⟨hx, hb, hml, hown, hts⟩ hw hnw hok (c_K_SF_has hok rfl) (cw_Members_66 hts hnw (by decide)) rfl hl.1 rfl (Nat.le_of_ble_eq_true rfl) d_K_Members_find_50 (fun H locs hw => ?_)
        refine lv_if_eq (tgt := 64) hx hb d_K_Members_find_53 (by decide) (fun c_53 => ?_) (fun c_53 => ?_)
        · have h := (if_pos c_53).symm.trans h
          refine lv_iinc (v := v5 + (-1)) (lv' := [(5, .int (v5 + (-1))), (0, .ref (a 2)), (1, .int v1), (2, .int v2), (3, .long v3)]) hx hb d_K_Members_find_64 hl (k := 4) rfl rfl (by decide) rfl (fun ls hl => ?_)
          refine lv_goto (tgt := 20) hx hb d_K_Members_find_67 (by decide) ?_
          exact hself20 (v1, v2, v3, (v5 + (-1))) h _ _ _ hw (lv_sub hl [1, 2, 3, 4, 0] rfl)
        · have h := (if_neg c_53).symm.trans h
          exact hJ56 _ _ _ _ _ h hw (lv_sub hl [0, 2, 4] rfl)
  · have h := (if_pos c_11).symm.trans h
    refine lv_bipush (v := -2) hx hb d_K_Members_find_14 (by decide) ?_
    exact hret _ _ _ _ _ _ (Option.some.inj h) rfl (vp_nar_int _) hw d_K_Members_find_16
set_option maxHeartbeats 4000000 in
set_option maxRecDepth 100000 in
theorem c_K_SF_signature {l : Launch} {D : va_G} {A : Nat → Prop} {a : Nat → Nat} {cI cJ cC : ClassId} {adK adV : Nat → Nat} {st : sk_M} {v0 : Int32} {v1 : Int32} {v2 : Int32} {res : Int32} (hok : sk_ok A (nwK A adK adV)) (h : K_SF_signature v0 v1 v2 = res) : sk_Ci l y_K_SF_signature w_K_SF_signature rm_K_SF_signature D (tyK cI cJ cC) A (ceK a cI cJ cC) (nwK A adK adV) [.int v0, .int v1, .int v2] st res st := by
  refine sk_headi .int (by decide) rfl (Nat.le_of_ble_eq_true rfl) ?_
  intro p e s m args below meth c Q hx hb hml hown hts0 hnw hret ls hl hw
  have hts : ∀ w ∈ TB, w.before args s = true := fun w h => hts0 w (List.mem_cons_of_mem _ h)
  have hown : s.vm.findClass R_SF = some m.cls := hown
  have hl : lv_has ls 3 [(0, .int v0), (1, .int v1), (2, .int v2)] := hl
  unfold K_SF_signature at h
  refine lv_iload_n hx hb d_K_SF_signature_0 rfl (lv_at hl 0 rfl) ?_
  have hJ10 : ∀ (v1 : Int32) (v2 : Int32) (s0 : Int32) (H : Heap) (locs : List Loc) (ls : Array Slot), K_SF_signature_J10 v1 v2 s0 = res → sk_w D (tyK cI cJ cC) A (ceK a cI cJ cC) s st H locs → lv_has ls 3 [(1, .int v1), (2, .int v2)] → W p l e rm_K_SF_signature s m args below meth c H locs 0 0 Q (F0 m 10 ls [.int s0]) := by
    intro v1 v2 s0 H locs ls h hw hl
    unfold K_SF_signature_J10 at h
    refine lv_iload_n hx hb d_K_SF_signature_10 rfl (lv_at hl 0 rfl) ?_
    refine lv_iconst (v := 2) hx hb d_K_SF_signature_11 (by decide) ?_
    refine lv_imul hx hb d_K_SF_signature_12 ?_
    refine lv_iadd hx hb d_K_SF_signature_13 ?_
    refine lv_iload_n hx hb d_K_SF_signature_14 rfl (lv_at hl 1 rfl) ?_
    refine lv_iadd hx hb d_K_SF_signature_15 ?_
    exact hret _ _ _ _ _ _ h rfl (vp_nar_int _) hw d_K_SF_signature_16
  refine lv_if_eq (tgt := 9) hx hb d_K_SF_signature_1 (by decide) (fun c_1 => ?_) (fun c_1 => ?_)
  · have h := (if_pos c_1).symm.trans h
    refine lv_iconst (v := 0) hx hb d_K_SF_signature_9 (by decide) ?_
    exact hJ10 _ _ _ _ _ _ h hw (lv_sub hl [1, 2] rfl)
  · have h := (if_neg c_1).symm.trans h
    refine lv_bipush (v := 16) hx hb d_K_SF_signature_4 (by decide) ?_
    refine lv_goto (tgt := 10) hx hb d_K_SF_signature_6 (by decide) ?_
    exact hJ10 _ _ _ _ _ _ h hw (lv_sub hl [1, 2] rfl)
set_option maxHeartbeats 4000000 in
set_option maxRecDepth 100000 in
theorem c_K_Names_keepWhatTheLibraryKnows {l : Launch} {D : va_G} {A : Nat → Prop} {a : Nat → Nat} {cI cJ cC : ClassId} {adK adV : Nat → Nat} {N : Nat} {st : sk_M} {res : sk_M} (hok : sk_ok A (nwK A adK adV)) (h : K_Names_keepWhatTheLibraryKnows N st = some res) : sk_Cv l y_K_Names_keepWhatTheLibraryKnows w_K_Names_keepWhatTheLibraryKnows rm_K_Names_keepWhatTheLibraryKnows D (tyK cI cJ cC) A (ceK a cI cJ cC) (nwK A adK adV) [.ref (a 11)] st res := by
  refine sk_headv (by decide) rfl (Nat.le_of_ble_eq_true rfl) ?_
  intro p e s m args below meth c Q hx hb hml hown hts0 hnw hret ls hl hw
  have hts : ∀ w ∈ TB, w.before args s = true := fun w h => hts0 w (List.mem_cons_of_mem _ h)
  have hown : s.vm.findClass R_Names = some m.cls := hown
  have hl : lv_has ls 2 [(0, .ref (a 11))] := hl
  unfold K_Names_keepWhatTheLibraryKnows at h
  refine lv_aload_n hx hb d_K_Names_keepWhatTheLibraryKnows_0 rfl (lv_at hl 0 rfl) ?_
  refine lv_iconst (v := 0) hx hb d_K_Names_keepWhatTheLibraryKnows_1 (by decide) ?_
  refine sk_callSNl (As := [.int (0 : Int32)]) (rest := [.ref (a 11)]) ⟨hx, hb, hml, hown, hts⟩ hw hnw hok (c_K_SF_bit hok rfl) (cw_Names_103 hts hnw (by decide)) rfl hl.1 rfl (Nat.le_of_ble_eq_true rfl) d_K_Names_keepWhatTheLibraryKnows_2 (fun H locs hw => ?_)
  obtain ⟨st5, e_5, h⟩ := sk_fL_some h
  refine pf_Names_57 hx hb hts hnw hown hw e_5 d_K_Names_keepWhatTheLibraryKnows_5 (fun H locs hw => ?_)
  refine lv_aload_n hx hb d_K_Names_keepWhatTheLibraryKnows_8 rfl (lv_at hl 0 rfl) ?_
  refine lv_bipush (v := 16) hx hb d_K_Names_keepWhatTheLibraryKnows_9 (by decide) ?_
  refine sk_callSNl (As := [.int (16 : Int32)]) (rest := [.ref (a 11)]) ⟨hx, hb, hml, hown, hts⟩ hw hnw hok (c_K_SF_bit hok rfl) (cw_Names_103 hts hnw (by decide)) rfl hl.1 rfl (Nat.le_of_ble_eq_true rfl) d_K_Names_keepWhatTheLibraryKnows_11 (fun H locs hw => ?_)
  obtain ⟨st14, e_14, h⟩ := sk_fL_some h
  refine pf_Names_64 hx hb hts hnw hown hw e_14 d_K_Names_keepWhatTheLibraryKnows_14 (fun H locs hw => ?_)
  refine lv_iconst (v := 0) hx hb d_K_Names_keepWhatTheLibraryKnows_17 (by decide) ?_
  refine lv_istore_n (lv' := [(1, .int (0 : Int32)), (0, .ref (a 11))]) hx hb d_K_Names_keepWhatTheLibraryKnows_18 rfl hl (by decide) rfl (fun ls hl => ?_)
  refine sk_lp_run (G := fun (z : sk_M × Int32) => ∀ (H : Heap) (locs : List Loc) (ls : Array Slot), sk_w D (tyK cI cJ cC) A (ceK a cI cJ cC) s z.1 H locs → lv_has ls 2 [(0, .ref (a 11)), (1, .int z.2)] → W p l e rm_K_Names_keepWhatTheLibraryKnows s m args below meth c H locs 0 0 Q (F0 m 19 ls [])) ?_ N _ h _ _ _ hw (lv_sub hl [1, 0] rfl)
  rintro self19 ⟨st, v1⟩ hself19 h H locs ls hw hl
  unfold K_Names_keepWhatTheLibraryKnows_L19 at h
  refine lv_iload_n hx hb d_K_Names_keepWhatTheLibraryKnows_19 rfl (lv_at hl 1 rfl) ?_
  refine lv_iconst (v := 2) hx hb d_K_Names_keepWhatTheLibraryKnows_20 (by decide) ?_
  refine lv_icmp_ge (tgt := 68) hx hb d_K_Names_keepWhatTheLibraryKnows_21 (by decide) (fun c_21 => ?_) (fun c_21 => ?_)
  · have h := (if_pos c_21).symm.trans h
    exact hret _ _ _ _ _ (Option.some.inj h) hw d_K_Names_keepWhatTheLibraryKnows_68
  · have h := (if_neg c_21).symm.trans h
    refine lv_aload_n hx hb d_K_Names_keepWhatTheLibraryKnows_24 rfl (lv_at hl 0 rfl) ?_
    refine lv_dup hx hb d_K_Names_keepWhatTheLibraryKnows_25 rfl ?_
    refine gf_Names_64 hx hb hts hnw hown hw d_K_Names_keepWhatTheLibraryKnows_26 ?_
    refine lv_iconst (v := 1) hx hb d_K_Names_keepWhatTheLibraryKnows_29 (by decide) ?_
    refine lv_bipush (v := 6) hx hb d_K_Names_keepWhatTheLibraryKnows_30 (by decide) ?_
    refine lv_iload_n hx hb d_K_Names_keepWhatTheLibraryKnows_32 rfl (lv_at hl 1 rfl) ?_
    refine sk_callSNi (As := [.int (1 : Int32), .int (6 : Int32), .int v1]) (rest := [.long (st.2 0 3), .ref (a 11)]) ⟨hx, hb, hml, hown, hts⟩ hw hnw hok (c_K_SF_signature hok rfl) (cw_Names_107 hts hnw (by decide)) rfl hl.1 rfl (Nat.le_of_ble_eq_true rfl) d_K_Names_keepWhatTheLibraryKnows_33 (fun H locs hw => ?_)
    refine sk_callSNl (As := [.int (K_SF_signature (1 : Int32) (6 : Int32) v1)]) (rest := [.long (st.2 0 3), .ref (a 11)]) ⟨hx, hb, hml, hown, hts⟩ hw hnw hok (c_K_SF_bit hok rfl) (cw_Names_103 hts hnw (by decide)) rfl hl.1 rfl (Nat.le_of_ble_eq_true rfl) d_K_Names_keepWhatTheLibraryKnows_36 (fun H locs hw => ?_)
    refine lv_lor hx hb d_K_Names_keepWhatTheLibraryKnows_39 ?_
    obtain ⟨st40, e_40, h⟩ := sk_fL_some h
    refine pf_Names_64 hx hb hts hnw hown hw e_40 d_K_Names_keepWhatTheLibraryKnows_40 (fun H locs hw => ?_)
    refine lv_aload_n hx hb d_K_Names_keepWhatTheLibraryKnows_43 rfl (lv_at hl 0 rfl) ?_
    refine lv_dup hx hb d_K_Names_keepWhatTheLibraryKnows_44 rfl ?_
    refine gf_Names_64 hx hb hts hnw hown hw d_K_Names_keepWhatTheLibraryKnows_45 ?_
    refine lv_iconst (v := 1) hx hb d_K_Names_keepWhatTheLibraryKnows_48 (by decide) ?_
    refine lv_bipush (v := 7) hx hb d_K_Names_keepWhatTheLibraryKnows_49 (by decide) ?_
    refine lv_iload_n hx hb d_K_Names_keepWhatTheLibraryKnows_51 rfl (lv_at hl 1 rfl) ?_
    refine sk_callSNi (As := [.int (1 : Int32), .int (7 : Int32), .int v1]) (rest := [.long (st40.2 0 3), .ref (a 11)]) ⟨hx, hb, hml, hown, hts⟩ hw hnw hok (c_K_SF_signature hok rfl) (cw_Names_107 hts hnw (by decide)) rfl hl.1 rfl (Nat.le_of_ble_eq_true rfl) d_K_Names_keepWhatTheLibraryKnows_52 (fun H locs hw => ?_)
    refine sk_callSNl (As := [.int (K_SF_signature (1 : Int32) (7 : Int32) v1)]) (rest := [.long (st40.2 0 3), .ref (a 11)]) ⟨hx, hb, hml, hown, hts⟩ hw hnw hok (c_K_SF_bit hok rfl) (cw_Names_103 hts hnw (by decide)) rfl hl.1 rfl (Nat.le_of_ble_eq_true rfl) d_K_Names_keepWhatTheLibraryKnows_55 (fun H locs hw => ?_)
    refine lv_lor hx hb d_K_Names_keepWhatTheLibraryKnows_58 ?_
    obtain ⟨st59, e_59, h⟩ := sk_fL_some h
    refine pf_Names_64 hx hb hts hnw hown hw e_59 d_K_Names_keepWhatTheLibraryKnows_59 (fun H locs hw => ?_)
    refine lv_iinc (v := v1 + 1) (lv' := [(1, .int (v1 + 1)), (0, .ref (a 11))]) hx hb d_K_Names_keepWhatTheLibraryKnows_62 hl (k := 1) rfl rfl (by decide) rfl (fun ls hl => ?_)
    refine lv_goto (tgt := 19) hx hb d_K_Names_keepWhatTheLibraryKnows_65 (by decide) ?_
    exact hself19 (st59, (v1 + 1)) h _ _ _ hw (lv_sub hl [1, 0] rfl)
set_option maxHeartbeats 4000000 in
set_option maxRecDepth 100000 in
theorem c_K_Needs_ofNeededClasses {l : Launch} {D : va_G} {A : Nat → Prop} {a : Nat → Nat} {cI cJ cC : ClassId} {adK adV : Nat → Nat} {N : Nat} {st : sk_M} {v1 : Int64} {res : Int64} (hok : sk_ok A (nwK A adK adV)) (h : K_Needs_ofNeededClasses N st v1 = some res) : sk_Cl l y_K_Needs_ofNeededClasses w_K_Needs_ofNeededClasses rm_K_Needs_ofNeededClasses D (tyK cI cJ cC) A (ceK a cI cJ cC) (nwK A adK adV) [.ref (a 10), .long v1] st res st := by
  refine sk_headl (by decide) rfl (Nat.le_of_ble_eq_true rfl) ?_
  intro p e s m args below meth c Q hx hb hml hown hts0 hnw hret ls hl hw
  have hts : ∀ w ∈ TB, w.before args s = true := fun w h => hts0 w (List.mem_cons_of_mem _ h)
  have hown : s.vm.findClass R_Needs = some m.cls := hown
  have hl : lv_has ls 6 [(0, .ref (a 10)), (1, .long v1)] := hl
  unfold K_Needs_ofNeededClasses at h
  refine lv_lload_n hx hb d_K_Needs_ofNeededClasses_0 rfl (lv_at hl 1 rfl) ?_
  refine lv_lstore_n (lv' := [(3, .long v1), (0, .ref (a 10)), (1, .long v1)]) hx hb d_K_Needs_ofNeededClasses_1 rfl hl (by decide) rfl (fun ls hl => ?_)
  refine lv_iconst (v := 0) hx hb d_K_Needs_ofNeededClasses_2 (by decide) ?_
  refine lv_istore (lv' := [(5, .int (0 : Int32)), (3, .long v1), (0, .ref (a 10)), (1, .long v1)]) hx hb d_K_Needs_ofNeededClasses_3 hl (by decide) rfl (fun ls hl => ?_)
  refine sk_lp_run (G := fun (z : Int64 × Int32) => ∀ (H : Heap) (locs : List Loc) (ls : Array Slot), sk_w D (tyK cI cJ cC) A (ceK a cI cJ cC) s st H locs → lv_has ls 6 [(0, .ref (a 10)), (3, .long z.1), (5, .int z.2)] → W p l e rm_K_Needs_ofNeededClasses s m args below meth c H locs 0 0 Q (F0 m 5 ls [])) ?_ N _ h _ _ _ hw (lv_sub hl [2, 1, 0] rfl)
  rintro self5 ⟨v3, v5⟩ hself5 h H locs ls hw hl
  unfold K_Needs_ofNeededClasses_L5 at h
  refine lv_iload hx hb d_K_Needs_ofNeededClasses_5 (lv_at hl 2 rfl) ?_
  refine lv_aload_n hx hb d_K_Needs_ofNeededClasses_7 rfl (lv_at hl 0 rfl) ?_
  refine gf_Needs_15 hx hb hts hnw hown hw d_K_Needs_ofNeededClasses_8 ?_
  refine gf_Needs_135 hx hb hts hnw hown hw d_K_Needs_ofNeededClasses_11 ?_
  refine lv_icmp_ge (tgt := 55) hx hb d_K_Needs_ofNeededClasses_14 (by decide) (fun c_14 => ?_) (fun c_14 => ?_)
  · have h := (if_pos c_14).symm.trans h
    refine lv_lload_n hx hb d_K_Needs_ofNeededClasses_55 rfl (lv_at hl 1 rfl) ?_
    exact hret _ _ _ _ _ _ (Option.some.inj h) rfl hw d_K_Needs_ofNeededClasses_56
  · have h := (if_neg c_14).symm.trans h
    refine lv_aload_n hx hb d_K_Needs_ofNeededClasses_17 rfl (lv_at hl 0 rfl) ?_
    refine gf_Needs_31 hx hb hts hnw hown hw d_K_Needs_ofNeededClasses_18 ?_
    refine lv_aload_n hx hb d_K_Needs_ofNeededClasses_21 rfl (lv_at hl 0 rfl) ?_
    refine gf_Needs_15 hx hb hts hnw hown hw d_K_Needs_ofNeededClasses_22 ?_
    refine gf_Needs_136 hx hb hts hnw hown hw d_K_Needs_ofNeededClasses_25 ?_
    refine lv_iload hx hb d_K_Needs_ofNeededClasses_28 (lv_at hl 2 rfl) ?_
    obtain ⟨x30, g_30, e_30, h⟩ := sk_rI_some h
    refine al_K17 hx hb hw g_30 e_30 d_K_Needs_ofNeededClasses_30 ?_
    refine sk_callSNi (As := [.long (st.2 0 4), .int x30]) (rest := []) ⟨hx, hb, hml, hown, hts⟩ hw hnw hok (c_K_SF_has hok rfl) (cw_Needs_77 hts hnw (by decide)) rfl hl.1 rfl (Nat.le_of_ble_eq_true rfl) d_K_Needs_ofNeededClasses_31 (fun H locs hw => ?_)
    refine lv_if_ne (tgt := 49) hx hb d_K_Needs_ofNeededClasses_34 (by decide) (fun c_34 => ?_) (fun c_34 => ?_)
    · have h := (if_neg c_34).symm.trans h
      refine lv_iinc (v := v5 + 1) (lv' := [(5, .int (v5 + 1)), (0, .ref (a 10)), (3, .long v3)]) hx hb d_K_Needs_ofNeededClasses_49 hl (k := 2) rfl rfl (by decide) rfl (fun ls hl => ?_)
      refine lv_goto (tgt := 5) hx hb d_K_Needs_ofNeededClasses_52 (by decide) ?_
      exact hself5 (v3, (v5 + 1)) h _ _ _ hw (lv_sub hl [1, 2, 0] rfl)
    · have h := (if_pos c_34).symm.trans h
      refine lv_lload_n hx hb d_K_Needs_ofNeededClasses_37 rfl (lv_at hl 1 rfl) ?_
      refine lv_iload hx hb d_K_Needs_ofNeededClasses_38 (lv_at hl 2 rfl) ?_
      refine sk_callSNl (As := [.int v5]) (rest := [.long v3]) ⟨hx, hb, hml, hown, hts⟩ hw hnw hok (c_K_SF_bit hok rfl) (cw_Needs_27 hts hnw (by decide)) rfl hl.1 rfl (Nat.le_of_ble_eq_true rfl) d_K_Needs_ofNeededClasses_40 (fun H locs hw => ?_)
      refine lv_ldc2 (v := -1) hx hb hown (hts _ kl_Needs_139) d_K_Needs_ofNeededClasses_43 ?_
      refine lv_lxor hx hb d_K_Needs_ofNeededClasses_46 ?_
      refine lv_land hx hb d_K_Needs_ofNeededClasses_47 ?_
      refine lv_lstore_n (lv' := [(3, .long (v3 &&& ((K_SF_bit v5) ^^^ (-1 : Int64)))), (0, .ref (a 10)), (5, .int v5)]) hx hb d_K_Needs_ofNeededClasses_48 rfl hl (by decide) rfl (fun ls hl => ?_)
      refine lv_iinc (v := v5 + 1) (lv' := [(5, .int (v5 + 1)), (3, .long (v3 &&& ((K_SF_bit v5) ^^^ (-1 : Int64)))), (0, .ref (a 10))]) hx hb d_K_Needs_ofNeededClasses_49 hl (k := 2) rfl rfl (by decide) rfl (fun ls hl => ?_)
      refine lv_goto (tgt := 5) hx hb d_K_Needs_ofNeededClasses_52 (by decide) ?_
      exact hself5 ((v3 &&& ((K_SF_bit v5) ^^^ (-1 : Int64))), (v5 + 1)) h _ _ _ hw (lv_sub hl [2, 1, 0] rfl)
set_option maxHeartbeats 4000000 in
set_option maxRecDepth 100000 in
theorem c_K_Names_signaturesOf {l : Launch} {D : va_G} {A : Nat → Prop} {a : Nat → Nat} {cI cJ cC : ClassId} {adK adV : Nat → Nat} {N : Nat} {st : sk_M} {v1 : Int64} {res : Int64} (hok : sk_ok A (nwK A adK adV)) (h : K_Names_signaturesOf N st v1 = some res) : sk_Cl l y_K_Names_signaturesOf w_K_Names_signaturesOf rm_K_Names_signaturesOf D (tyK cI cJ cC) A (ceK a cI cJ cC) (nwK A adK adV) [.ref (a 11), .long v1] st res st := by
  refine sk_headl (by decide) rfl (Nat.le_of_ble_eq_true rfl) ?_
  intro p e s m args below meth c Q hx hb hml hown hts0 hnw hret ls hl hw
  have hts : ∀ w ∈ TB, w.before args s = true := fun w h => hts0 w (List.mem_cons_of_mem _ h)
  have hown : s.vm.findClass R_Names = some m.cls := hown
  have hl : lv_has ls 6 [(0, .ref (a 11)), (1, .long v1)] := hl
  unfold K_Names_signaturesOf at h
  refine lv_lconst (v := 0) hx hb d_K_Names_signaturesOf_0 (by decide) ?_
  refine lv_lstore_n (lv' := [(3, .long (0 : Int64)), (0, .ref (a 11)), (1, .long v1)]) hx hb d_K_Names_signaturesOf_1 rfl hl (by decide) rfl (fun ls hl => ?_)
  refine lv_iconst (v := 0) hx hb d_K_Names_signaturesOf_2 (by decide) ?_
  refine lv_istore (lv' := [(5, .int (0 : Int32)), (3, .long (0 : Int64)), (0, .ref (a 11)), (1, .long v1)]) hx hb d_K_Names_signaturesOf_3 hl (by decide) rfl (fun ls hl => ?_)
  refine sk_lp_run (G := fun (z : Int64 × Int64 × Int32) => ∀ (H : Heap) (locs : List Loc) (ls : Array Slot), sk_w D (tyK cI cJ cC) A (ceK a cI cJ cC) s st H locs → lv_has ls 6 [(0, .ref (a 11)), (1, .long z.1), (3, .long z.2.1), (5, .int z.2.2)] → W p l e rm_K_Names_signaturesOf s m args below meth c H locs 0 0 Q (F0 m 5 ls [])) ?_ N _ h _ _ _ hw (lv_sub hl [2, 3, 1, 0] rfl)
  rintro self5 ⟨v1, v3, v5⟩ hself5 h H locs ls hw hl
  unfold K_Names_signaturesOf_L5 at h
  refine lv_iload hx hb d_K_Names_signaturesOf_5 (lv_at hl 3 rfl) ?_
  refine lv_aload_n hx hb d_K_Names_signaturesOf_7 rfl (lv_at hl 0 rfl) ?_
  refine gf_Names_22 hx hb hts hnw hown hw d_K_Names_signaturesOf_8 ?_
  refine gf_Names_111 hx hb hts hnw hown hw d_K_Names_signaturesOf_11 ?_
  refine lv_icmp_ge (tgt := 48) hx hb d_K_Names_signaturesOf_14 (by decide) (fun c_14 => ?_) (fun c_14 => ?_)
  · have h := (if_pos c_14).symm.trans h
    refine lv_lload_n hx hb d_K_Names_signaturesOf_48 rfl (lv_at hl 2 rfl) ?_
    exact hret _ _ _ _ _ _ (Option.some.inj h) rfl hw d_K_Names_signaturesOf_49
  · have h := (if_neg c_14).symm.trans h
    refine lv_lload_n hx hb d_K_Names_signaturesOf_17 rfl (lv_at hl 1 rfl) ?_
    refine lv_iload hx hb d_K_Names_signaturesOf_18 (lv_at hl 3 rfl) ?_
    refine sk_callSNi (As := [.long v1, .int v5]) (rest := []) ⟨hx, hb, hml, hown, hts⟩ hw hnw hok (c_K_SF_has hok rfl) (cw_Names_76 hts hnw (by decide)) rfl hl.1 rfl (Nat.le_of_ble_eq_true rfl) d_K_Names_signaturesOf_20 (fun H locs hw => ?_)
    refine lv_if_eq (tgt := 42) hx hb d_K_Names_signaturesOf_23 (by decide) (fun c_23 => ?_) (fun c_23 => ?_)
    · have h := (if_pos c_23).symm.trans h
      refine lv_iinc (v := v5 + 1) (lv' := [(5, .int (v5 + 1)), (0, .ref (a 11)), (1, .long v1), (3, .long v3)]) hx hb d_K_Names_signaturesOf_42 hl (k := 3) rfl rfl (by decide) rfl (fun ls hl => ?_)
      refine lv_goto (tgt := 5) hx hb d_K_Names_signaturesOf_45 (by decide) ?_
      exact hself5 (v1, v3, (v5 + 1)) h _ _ _ hw (lv_sub hl [1, 2, 3, 0] rfl)
    · have h := (if_neg c_23).symm.trans h
      refine lv_lload_n hx hb d_K_Names_signaturesOf_26 rfl (lv_at hl 2 rfl) ?_
      refine lv_aload_n hx hb d_K_Names_signaturesOf_27 rfl (lv_at hl 0 rfl) ?_
      refine gf_Names_22 hx hb hts hnw hown hw d_K_Names_signaturesOf_28 ?_
      refine gf_Names_114 hx hb hts hnw hown hw d_K_Names_signaturesOf_31 ?_
      refine lv_iload hx hb d_K_Names_signaturesOf_34 (lv_at hl 3 rfl) ?_
      obtain ⟨x36, g_36, e_36, h⟩ := sk_rI_some h
      refine al_K18 hx hb hw g_36 e_36 d_K_Names_signaturesOf_36 ?_
      refine sk_callSNl (As := [.int x36]) (rest := [.long v3]) ⟨hx, hb, hml, hown, hts⟩ hw hnw hok (c_K_SF_bit hok rfl) (cw_Names_103 hts hnw (by decide)) rfl hl.1 rfl (Nat.le_of_ble_eq_true rfl) d_K_Names_signaturesOf_37 (fun H locs hw => ?_)
      refine lv_lor hx hb d_K_Names_signaturesOf_40 ?_
      refine lv_lstore_n (lv' := [(3, .long (v3 ||| (K_SF_bit x36))), (0, .ref (a 11)), (1, .long v1), (5, .int v5)]) hx hb d_K_Names_signaturesOf_41 rfl hl (by decide) rfl (fun ls hl => ?_)
      refine lv_iinc (v := v5 + 1) (lv' := [(5, .int (v5 + 1)), (3, .long (v3 ||| (K_SF_bit x36))), (0, .ref (a 11)), (1, .long v1)]) hx hb d_K_Names_signaturesOf_42 hl (k := 3) rfl rfl (by decide) rfl (fun ls hl => ?_)
      refine lv_goto (tgt := 5) hx hb d_K_Names_signaturesOf_45 (by decide) ?_
      exact hself5 (v1, (v3 ||| (K_SF_bit x36)), (v5 + 1)) h _ _ _ hw (lv_sub hl [2, 3, 1, 0] rfl)
set_option maxHeartbeats 4000000 in
set_option maxRecDepth 100000 in
theorem c_K_Names_giveNames {l : Launch} {D : va_G} {A : Nat → Prop} {a : Nat → Nat} {cI cJ cC : ClassId} {adK adV : Nat → Nat} {N : Nat} {st : sk_M} {res : sk_M} (hok : sk_ok A (nwK A adK adV)) (h : K_Names_giveNames N st = some res) : sk_Cv l y_K_Names_giveNames w_K_Names_giveNames rm_K_Names_giveNames D (tyK cI cJ cC) A (ceK a cI cJ cC) (nwK A adK adV) [.ref (a 11)] st res := by
  refine sk_headv (by decide) rfl (Nat.le_of_ble_eq_true rfl) ?_
  intro p e s m args below meth c Q hx hb hml hown hts0 hnw hret ls hl hw
  have hts : ∀ w ∈ TB, w.before args s = true := fun w h => hts0 w (List.mem_cons_of_mem _ h)
  have hown : s.vm.findClass R_Names = some m.cls := hown
  have hl : lv_has ls 3 [(0, .ref (a 11))] := hl
  unfold K_Names_giveNames at h
  refine lv_bipush (v := 97) hx hb d_K_Names_giveNames_0 (by decide) ?_
  refine lv_istore_n (lv' := [(1, .int (97 : Int32)), (0, .ref (a 11))]) hx hb d_K_Names_giveNames_2 rfl hl (by decide) rfl (fun ls hl => ?_)
  refine lv_iconst (v := 0) hx hb d_K_Names_giveNames_3 (by decide) ?_
  refine lv_istore_n (lv' := [(2, .int (0 : Int32)), (1, .int (97 : Int32)), (0, .ref (a 11))]) hx hb d_K_Names_giveNames_4 rfl hl (by decide) rfl (fun ls hl => ?_)
  refine sk_lp_run (G := fun (z : sk_M × Int32 × Int32) => ∀ (H : Heap) (locs : List Loc) (ls : Array Slot), sk_w D (tyK cI cJ cC) A (ceK a cI cJ cC) s z.1 H locs → lv_has ls 3 [(0, .ref (a 11)), (1, .int z.2.1), (2, .int z.2.2)] → W p l e rm_K_Names_giveNames s m args below meth c H locs 0 0 Q (F0 m 5 ls [])) ?_ N _ h _ _ _ hw (lv_sub hl [2, 1, 0] rfl)
  rintro self5 ⟨st, v1, v2⟩ hself5 h H locs ls hw hl
  unfold K_Names_giveNames_L5 at h
  refine lv_iload_n hx hb d_K_Names_giveNames_5 rfl (lv_at hl 2 rfl) ?_
  refine lv_bipush (v := 10) hx hb d_K_Names_giveNames_6 (by decide) ?_
  refine lv_icmp_ge (tgt := 51) hx hb d_K_Names_giveNames_8 (by decide) (fun c_8 => ?_) (fun c_8 => ?_)
  · have h := (if_pos c_8).symm.trans h
    exact hret _ _ _ _ _ (Option.some.inj h) hw d_K_Names_giveNames_51
  · have h := (if_neg c_8).symm.trans h
    refine lv_aload_n hx hb d_K_Names_giveNames_11 rfl (lv_at hl 0 rfl) ?_
    refine gf_Names_30 hx hb hts hnw hown hw d_K_Names_giveNames_12 ?_
    refine gf_Names_117 hx hb hts hnw hown hw d_K_Names_giveNames_15 ?_
    refine lv_aload_n hx hb d_K_Names_giveNames_18 rfl (lv_at hl 0 rfl) ?_
    refine gf_Names_57 hx hb hts hnw hown hw d_K_Names_giveNames_19 ?_
    refine lv_ldc2 (v := -1) hx hb hown (hts _ kl_Names_120) d_K_Names_giveNames_22 ?_
    refine lv_lxor hx hb d_K_Names_giveNames_25 ?_
    refine lv_land hx hb d_K_Names_giveNames_26 ?_
    refine lv_iload_n hx hb d_K_Names_giveNames_27 rfl (lv_at hl 2 rfl) ?_
    refine sk_callSNi (As := [.long ((st.2 0 4) &&& ((st.2 0 2) ^^^ (-1 : Int64))), .int v2]) (rest := []) ⟨hx, hb, hml, hown, hts⟩ hw hnw hok (c_K_SF_has hok rfl) (cw_Names_76 hts hnw (by decide)) rfl hl.1 rfl (Nat.le_of_ble_eq_true rfl) d_K_Names_giveNames_28 (fun H locs hw => ?_)
    refine lv_if_eq (tgt := 45) hx hb d_K_Names_giveNames_31 (by decide) (fun c_31 => ?_) (fun c_31 => ?_)
    · have h := (if_pos c_31).symm.trans h
      refine lv_iinc (v := v2 + 1) (lv' := [(2, .int (v2 + 1)), (0, .ref (a 11)), (1, .int v1)]) hx hb d_K_Names_giveNames_45 hl (k := 2) rfl rfl (by decide) rfl (fun ls hl => ?_)
      refine lv_goto (tgt := 5) hx hb d_K_Names_giveNames_48 (by decide) ?_
      exact hself5 (st, v1, (v2 + 1)) h _ _ _ hw (lv_sub hl [1, 2, 0] rfl)
    · have h := (if_neg c_31).symm.trans h
      refine lv_aload_n hx hb d_K_Names_giveNames_34 rfl (lv_at hl 0 rfl) ?_
      refine gf_Names_9 hx hb hts hnw hown hw d_K_Names_giveNames_35 ?_
      refine lv_iload_n hx hb d_K_Names_giveNames_38 rfl (lv_at hl 2 rfl) ?_
      refine lv_iload_n hx hb d_K_Names_giveNames_39 rfl (lv_at hl 1 rfl) ?_
      refine lv_i2c hx hb d_K_Names_giveNames_40 rfl ?_
      obtain ⟨st41, g_41, e_41, h⟩ := sk_wI_some h
      refine as_K21 hx hb hw g_41 e_41 d_K_Names_giveNames_41 (fun H locs hw => ?_)
      refine lv_iinc (v := v1 + 1) (lv' := [(1, .int (v1 + 1)), (0, .ref (a 11)), (2, .int v2)]) hx hb d_K_Names_giveNames_42 hl (k := 1) rfl rfl (by decide) rfl (fun ls hl => ?_)
      refine lv_iinc (v := v2 + 1) (lv' := [(2, .int (v2 + 1)), (1, .int (v1 + 1)), (0, .ref (a 11))]) hx hb d_K_Names_giveNames_45 hl (k := 2) rfl rfl (by decide) rfl (fun ls hl => ?_)
      refine lv_goto (tgt := 5) hx hb d_K_Names_giveNames_48 (by decide) ?_
      exact hself5 (st41, (v1 + 1), (v2 + 1)) h _ _ _ hw (lv_sub hl [2, 1, 0] rfl)
set_option maxHeartbeats 4000000 in
set_option maxRecDepth 100000 in
theorem c_K_Names_giveTextsOf {l : Launch} {D : va_G} {A : Nat → Prop} {a : Nat → Nat} {cI cJ cC : ClassId} {adK adV : Nat → Nat} {N : Nat} {st : sk_M} {v1 : Int64} {v3 : Int32} {v4 : Int32} {res : sk_M} (hok : sk_ok A (nwK A adK adV)) (h : K_Names_giveTextsOf N st v1 v3 v4 = some res) : sk_Cv l y_K_Names_giveTextsOf w_K_Names_giveTextsOf rm_K_Names_giveTextsOf D (tyK cI cJ cC) A (ceK a cI cJ cC) (nwK A adK adV) [.ref (a 11), .long v1, .int v3, .int v4] st res := by
  refine sk_headv (by decide) rfl (Nat.le_of_ble_eq_true rfl) ?_
  intro p e s m args below meth c Q hx hb hml hown hts0 hnw hret ls hl hw
  have hts : ∀ w ∈ TB, w.before args s = true := fun w h => hts0 w (List.mem_cons_of_mem _ h)
  have hown : s.vm.findClass R_Names = some m.cls := hown
  have hl : lv_has ls 8 [(0, .ref (a 11)), (1, .long v1), (3, .int v3), (4, .int v4)] := hl
  unfold K_Names_giveTextsOf at h
  refine lv_bipush (v := 97) hx hb d_K_Names_giveTextsOf_0 (by decide) ?_
  refine lv_istore (lv' := [(5, .int (97 : Int32)), (0, .ref (a 11)), (1, .long v1), (3, .int v3), (4, .int v4)]) hx hb d_K_Names_giveTextsOf_2 hl (by decide) rfl (fun ls hl => ?_)
  refine lv_iconst (v := 0) hx hb d_K_Names_giveTextsOf_4 (by decide) ?_
  refine lv_istore (lv' := [(6, .int (0 : Int32)), (5, .int (97 : Int32)), (0, .ref (a 11)), (1, .long v1), (3, .int v3), (4, .int v4)]) hx hb d_K_Names_giveTextsOf_5 hl (by decide) rfl (fun ls hl => ?_)
  refine sk_lp_run (G := fun (z : sk_M × Int64 × Int32 × Int32 × Int32 × Int32) => ∀ (H : Heap) (locs : List Loc) (ls : Array Slot), sk_w D (tyK cI cJ cC) A (ceK a cI cJ cC) s z.1 H locs → lv_has ls 8 [(0, .ref (a 11)), (1, .long z.2.1), (3, .int z.2.2.1), (4, .int z.2.2.2.1), (5, .int z.2.2.2.2.1), (6, .int z.2.2.2.2.2)] → W p l e rm_K_Names_giveTextsOf s m args below meth c H locs 0 0 Q (F0 m 7 ls [])) ?_ N _ h _ _ _ hw (lv_sub hl [2, 3, 4, 5, 1, 0] rfl)
  rintro self7 ⟨st, v1, v3, v4, v5, v6⟩ hself7 h H locs ls hw hl
  unfold K_Names_giveTextsOf_L7 at h
  refine lv_iload hx hb d_K_Names_giveTextsOf_7 (lv_at hl 5 rfl) ?_
  refine lv_bipush (v := 6) hx hb d_K_Names_giveTextsOf_9 (by decide) ?_
  refine lv_icmp_ge (tgt := 52) hx hb d_K_Names_giveTextsOf_11 (by decide) (fun c_11 => ?_) (fun c_11 => ?_)
  · have h := (if_pos c_11).symm.trans h
    exact hret _ _ _ _ _ (Option.some.inj h) hw d_K_Names_giveTextsOf_52
  · have h := (if_neg c_11).symm.trans h
    refine lv_iload_n hx hb d_K_Names_giveTextsOf_14 rfl (lv_at hl 2 rfl) ?_
    refine lv_iload hx hb d_K_Names_giveTextsOf_15 (lv_at hl 5 rfl) ?_
    refine lv_iload hx hb d_K_Names_giveTextsOf_17 (lv_at hl 3 rfl) ?_
    refine sk_callSNi (As := [.int v3, .int v6, .int v4]) (rest := []) ⟨hx, hb, hml, hown, hts⟩ hw hnw hok (c_K_SF_signature hok rfl) (cw_Names_107 hts hnw (by decide)) rfl hl.1 rfl (Nat.le_of_ble_eq_true rfl) d_K_Names_giveTextsOf_19 (fun H locs hw => ?_)
    refine lv_istore (lv' := [(7, .int (K_SF_signature v3 v6 v4)), (0, .ref (a 11)), (1, .long v1), (3, .int v3), (4, .int v4), (5, .int v5), (6, .int v6)]) hx hb d_K_Names_giveTextsOf_22 hl (by decide) rfl (fun ls hl => ?_)
    refine lv_lload_n hx hb d_K_Names_giveTextsOf_24 rfl (lv_at hl 2 rfl) ?_
    refine lv_iload hx hb d_K_Names_giveTextsOf_25 (lv_at hl 0 rfl) ?_
    refine sk_callSNi (As := [.long v1, .int (K_SF_signature v3 v6 v4)]) (rest := []) ⟨hx, hb, hml, hown, hts⟩ hw hnw hok (c_K_SF_has hok rfl) (cw_Names_76 hts hnw (by decide)) rfl hl.1 rfl (Nat.le_of_ble_eq_true rfl) d_K_Names_giveTextsOf_27 (fun H locs hw => ?_)
    refine lv_if_eq (tgt := 46) hx hb d_K_Names_giveTextsOf_30 (by decide) (fun c_30 => ?_) (fun c_30 => ?_)
    · have h := (if_pos c_30).symm.trans h
      refine lv_iinc (v := v6 + 1) (lv' := [(6, .int (v6 + 1)), (7, .int (K_SF_signature v3 v6 v4)), (0, .ref (a 11)), (1, .long v1), (3, .int v3), (4, .int v4), (5, .int v5)]) hx hb d_K_Names_giveTextsOf_46 hl (k := 6) rfl rfl (by decide) rfl (fun ls hl => ?_)
      refine lv_goto (tgt := 7) hx hb d_K_Names_giveTextsOf_49 (by decide) ?_
      exact hself7 (st, v1, v3, v4, v5, (v6 + 1)) h _ _ _ hw (lv_sub hl [2, 3, 4, 5, 6, 0] rfl)
    · have h := (if_neg c_30).symm.trans h
      refine lv_aload_n hx hb d_K_Names_giveTextsOf_33 rfl (lv_at hl 1 rfl) ?_
      refine gf_Names_15 hx hb hts hnw hown hw d_K_Names_giveTextsOf_34 ?_
      refine lv_iload hx hb d_K_Names_giveTextsOf_37 (lv_at hl 0 rfl) ?_
      refine lv_iload hx hb d_K_Names_giveTextsOf_39 (lv_at hl 5 rfl) ?_
      refine lv_i2c hx hb d_K_Names_giveTextsOf_41 rfl ?_
      obtain ⟨st42, g_42, e_42, h⟩ := sk_wI_some h
      refine as_K22 hx hb hw g_42 e_42 d_K_Names_giveTextsOf_42 (fun H locs hw => ?_)
      refine lv_iinc (v := v5 + 1) (lv' := [(5, .int (v5 + 1)), (7, .int (K_SF_signature v3 v6 v4)), (0, .ref (a 11)), (1, .long v1), (3, .int v3), (4, .int v4), (6, .int v6)]) hx hb d_K_Names_giveTextsOf_43 hl (k := 5) rfl rfl (by decide) rfl (fun ls hl => ?_)
      refine lv_iinc (v := v6 + 1) (lv' := [(6, .int (v6 + 1)), (5, .int (v5 + 1)), (7, .int (K_SF_signature v3 v6 v4)), (0, .ref (a 11)), (1, .long v1), (3, .int v3), (4, .int v4)]) hx hb d_K_Names_giveTextsOf_46 hl (k := 6) rfl rfl (by decide) rfl (fun ls hl => ?_)
      refine lv_goto (tgt := 7) hx hb d_K_Names_giveTextsOf_49 (by decide) ?_
      exact hself7 (st42, v1, v3, v4, (v5 + 1), (v6 + 1)) h _ _ _ hw (lv_sub hl [3, 4, 5, 6, 1, 0] rfl)
set_option maxHeartbeats 4000000 in
set_option maxRecDepth 100000 in
theorem c_K_Names_giveTexts {l : Launch} {D : va_G} {A : Nat → Prop} {a : Nat → Nat} {cI cJ cC : ClassId} {adK adV : Nat → Nat} {N : Nat} {st : sk_M} {res : sk_M} (hok : sk_ok A (nwK A adK adV)) (h : K_Names_giveTexts N st = some res) : sk_Cv l y_K_Names_giveTexts w_K_Names_giveTexts rm_K_Names_giveTexts D (tyK cI cJ cC) A (ceK a cI cJ cC) (nwK A adK adV) [.ref (a 11)] st res := by
  refine sk_headv (by decide) rfl (Nat.le_of_ble_eq_true rfl) ?_
  intro p e s m args below meth c Q hx hb hml hown hts0 hnw hret ls hl hw
  have hts : ∀ w ∈ TB, w.before args s = true := fun w h => hts0 w (List.mem_cons_of_mem _ h)
  have hown : s.vm.findClass R_Names = some m.cls := hown
  have hl : lv_has ls 4 [(0, .ref (a 11))] := hl
  unfold K_Names_giveTexts at h
  refine lv_aload_n hx hb d_K_Names_giveTexts_0 rfl (lv_at hl 0 rfl) ?_
  refine lv_aload_n hx hb d_K_Names_giveTexts_1 rfl (lv_at hl 0 rfl) ?_
  refine gf_Names_30 hx hb hts hnw hown hw d_K_Names_giveTexts_2 ?_
  refine gf_Names_122 hx hb hts hnw hown hw d_K_Names_giveTexts_5 ?_
  obtain ⟨x8, q_8, h⟩ := sk_oR_some h
  refine sk_callVl (As := [.long (st.2 0 7)]) (rest := []) ⟨hx, hb, hml, hown, hts⟩ hw hnw hok (c_K_Names_signaturesOf hok q_8) (cw_Names_67 hts hnw (by decide)) (rc_K11 hw) rfl hl.1 rfl (Nat.le_of_ble_eq_true rfl) d_K_Names_giveTexts_8 (fun H locs hw => ?_)
  refine lv_aload_n hx hb d_K_Names_giveTexts_11 rfl (lv_at hl 0 rfl) ?_
  refine gf_Names_64 hx hb hts hnw hown hw d_K_Names_giveTexts_12 ?_
  refine lv_ldc2 (v := -1) hx hb hown (hts _ kl_Names_120) d_K_Names_giveTexts_15 ?_
  refine lv_lxor hx hb d_K_Names_giveTexts_18 ?_
  refine lv_land hx hb d_K_Names_giveTexts_19 ?_
  refine lv_lstore_n (lv' := [(1, .long (x8 &&& ((st.2 0 3) ^^^ (-1 : Int64)))), (0, .ref (a 11))]) hx hb d_K_Names_giveTexts_20 rfl hl (by decide) rfl (fun ls hl => ?_)
  refine lv_iconst (v := 0) hx hb d_K_Names_giveTexts_21 (by decide) ?_
  refine lv_istore_n (lv' := [(3, .int (0 : Int32)), (1, .long (x8 &&& ((st.2 0 3) ^^^ (-1 : Int64)))), (0, .ref (a 11))]) hx hb d_K_Names_giveTexts_22 rfl hl (by decide) rfl (fun ls hl => ?_)
  refine sk_lp_run (G := fun (z : sk_M × Int64 × Int32) => ∀ (H : Heap) (locs : List Loc) (ls : Array Slot), sk_w D (tyK cI cJ cC) A (ceK a cI cJ cC) s z.1 H locs → lv_has ls 4 [(0, .ref (a 11)), (1, .long z.2.1), (3, .int z.2.2)] → W p l e rm_K_Names_giveTexts s m args below meth c H locs 0 0 Q (F0 m 23 ls [])) ?_ N _ h _ _ _ hw (lv_sub hl [2, 1, 0] rfl)
  rintro self23 ⟨st, v1, v3⟩ hself23 h H locs ls hw hl
  unfold K_Names_giveTexts_L23 at h
  refine lv_iload_n hx hb d_K_Names_giveTexts_23 rfl (lv_at hl 2 rfl) ?_
  refine lv_iconst (v := 2) hx hb d_K_Names_giveTexts_24 (by decide) ?_
  refine lv_icmp_ge (tgt := 48) hx hb d_K_Names_giveTexts_25 (by decide) (fun c_25 => ?_) (fun c_25 => ?_)
  · have h := (if_pos c_25).symm.trans h
    exact hret _ _ _ _ _ (Option.some.inj h) hw d_K_Names_giveTexts_48
  · have h := (if_neg c_25).symm.trans h
    refine lv_aload_n hx hb d_K_Names_giveTexts_28 rfl (lv_at hl 0 rfl) ?_
    refine lv_lload_n hx hb d_K_Names_giveTexts_29 rfl (lv_at hl 1 rfl) ?_
    refine lv_iconst (v := 0) hx hb d_K_Names_giveTexts_30 (by decide) ?_
    refine lv_iload_n hx hb d_K_Names_giveTexts_31 rfl (lv_at hl 2 rfl) ?_
    obtain ⟨st32, q_32, h⟩ := sk_oR_some h
    refine sk_callVv (As := [.long v1, .int (0 : Int32), .int v3]) (rest := []) ⟨hx, hb, hml, hown, hts⟩ hw hnw hok (c_K_Names_giveTextsOf hok q_32) (cw_Names_125 hts hnw (by decide)) (rc_K11 hw) rfl hl.1 rfl (Nat.le_of_ble_eq_true rfl) d_K_Names_giveTexts_32 (fun H locs hw => ?_)
    refine lv_aload_n hx hb d_K_Names_giveTexts_35 rfl (lv_at hl 0 rfl) ?_
    refine lv_lload_n hx hb d_K_Names_giveTexts_36 rfl (lv_at hl 1 rfl) ?_
    refine lv_iconst (v := 1) hx hb d_K_Names_giveTexts_37 (by decide) ?_
    refine lv_iload_n hx hb d_K_Names_giveTexts_38 rfl (lv_at hl 2 rfl) ?_
    obtain ⟨st39, q_39, h⟩ := sk_oR_some h
    refine sk_callVv (As := [.long v1, .int (1 : Int32), .int v3]) (rest := []) ⟨hx, hb, hml, hown, hts⟩ hw hnw hok (c_K_Names_giveTextsOf hok q_39) (cw_Names_125 hts hnw (by decide)) (rc_K11 hw) rfl hl.1 rfl (Nat.le_of_ble_eq_true rfl) d_K_Names_giveTexts_39 (fun H locs hw => ?_)
    refine lv_iinc (v := v3 + 1) (lv' := [(3, .int (v3 + 1)), (0, .ref (a 11)), (1, .long v1)]) hx hb d_K_Names_giveTexts_42 hl (k := 2) rfl rfl (by decide) rfl (fun ls hl => ?_)
    refine lv_goto (tgt := 23) hx hb d_K_Names_giveTexts_45 (by decide) ?_
    exact hself23 (st39, v1, (v3 + 1)) h _ _ _ hw (lv_sub hl [1, 2, 0] rfl)
set_option maxHeartbeats 4000000 in
set_option maxRecDepth 100000 in
theorem c_K_Names_work {l : Launch} {D : va_G} {A : Nat → Prop} {a : Nat → Nat} {cI cJ cC : ClassId} {adK adV : Nat → Nat} {N : Nat} {st : sk_M} {res : sk_M} (hok : sk_ok A (nwK A adK adV)) (h : K_Names_work N st = some res) : sk_Cv l y_K_Names_work w_K_Names_work rm_K_Names_work D (tyK cI cJ cC) A (ceK a cI cJ cC) (nwK A adK adV) [.ref (a 11)] st res := by
  refine sk_headv (by decide) rfl (Nat.le_of_ble_eq_true rfl) ?_
  intro p e s m args below meth c Q hx hb hml hown hts0 hnw hret ls hl hw
  have hts : ∀ w ∈ TB, w.before args s = true := fun w h => hts0 w (List.mem_cons_of_mem _ h)
  have hown : s.vm.findClass R_Names = some m.cls := hown
  have hl : lv_has ls 4 [(0, .ref (a 11))] := hl
  unfold K_Names_work at h
  refine lv_aload_n hx hb d_K_Names_work_0 rfl (lv_at hl 0 rfl) ?_
  obtain ⟨st1, q_1, h⟩ := sk_oR_some h
  refine sk_callVv (As := []) (rest := []) ⟨hx, hb, hml, hown, hts⟩ hw hnw hok (c_K_Names_keepWhatTheLibraryKnows hok q_1) (cw_Names_34 hts hnw (by decide)) (rc_K11 hw) rfl hl.1 rfl (Nat.le_of_ble_eq_true rfl) d_K_Names_work_1 (fun H locs hw => ?_)
  refine lv_iconst (v := 0) hx hb d_K_Names_work_4 (by decide) ?_
  refine lv_istore_n (lv' := [(1, .int (0 : Int32)), (0, .ref (a 11))]) hx hb d_K_Names_work_5 rfl hl (by decide) rfl (fun ls hl => ?_)
  have hJ90 : ∀ (st : sk_M) (H : Heap) (locs : List Loc) (ls : Array Slot), K_Names_work_J90 N st = some res → sk_w D (tyK cI cJ cC) A (ceK a cI cJ cC) s st H locs → lv_has ls 4 [(0, .ref (a 11))] → W p l e rm_K_Names_work s m args below meth c H locs 0 0 Q (F0 m 90 ls []) := by
    intro st H locs ls h hw hl
    unfold K_Names_work_J90 at h
    refine lv_aload_n hx hb d_K_Names_work_90 rfl (lv_at hl 0 rfl) ?_
    obtain ⟨st91, q_91, h⟩ := sk_oR_some h
    refine sk_callVv (As := []) (rest := []) ⟨hx, hb, hml, hown, hts⟩ hw hnw hok (c_K_Names_giveNames hok q_91) (cw_Names_70 hts hnw (by decide)) (rc_K11 hw) rfl hl.1 rfl (Nat.le_of_ble_eq_true rfl) d_K_Names_work_91 (fun H locs hw => ?_)
    refine lv_aload_n hx hb d_K_Names_work_94 rfl (lv_at hl 0 rfl) ?_
    obtain ⟨st95, q_95, h⟩ := sk_oR_some h
    refine sk_callVv (As := []) (rest := []) ⟨hx, hb, hml, hown, hts⟩ hw hnw hok (c_K_Names_giveTexts hok q_95) (cw_Names_73 hts hnw (by decide)) (rc_K11 hw) rfl hl.1 rfl (Nat.le_of_ble_eq_true rfl) d_K_Names_work_95 (fun H locs hw => ?_)
    exact hret _ _ _ _ _ (Option.some.inj h) hw d_K_Names_work_98
  refine sk_lp_run (G := fun (z : sk_M × Int32) => ∀ (H : Heap) (locs : List Loc) (ls : Array Slot), sk_w D (tyK cI cJ cC) A (ceK a cI cJ cC) s z.1 H locs → lv_has ls 4 [(0, .ref (a 11)), (1, .int z.2)] → W p l e rm_K_Names_work s m args below meth c H locs 0 0 Q (F0 m 6 ls [])) ?_ N _ h _ _ _ hw (lv_sub hl [1, 0] rfl)
  rintro self6 ⟨st, v1⟩ hself6 h H locs ls hw hl
  unfold K_Names_work_L6 at h
  refine lv_iload_n hx hb d_K_Names_work_6 rfl (lv_at hl 1 rfl) ?_
  refine lv_aload_n hx hb d_K_Names_work_7 rfl (lv_at hl 0 rfl) ?_
  refine gf_Names_26 hx hb hts hnw hown hw d_K_Names_work_8 ?_
  refine gf_Names_37 hx hb hts hnw hown hw d_K_Names_work_11 ?_
  refine lv_icmp_ge (tgt := 90) hx hb d_K_Names_work_14 (by decide) (fun c_14 => ?_) (fun c_14 => ?_)
  · have h := (if_pos c_14).symm.trans h
    exact hJ90 _ _ _ _ h hw (lv_sub hl [0] rfl)
  · have h := (if_neg c_14).symm.trans h
    refine lv_aload_n hx hb d_K_Names_work_17 rfl (lv_at hl 0 rfl) ?_
    refine gf_Names_26 hx hb hts hnw hown hw d_K_Names_work_18 ?_
    refine gf_Names_43 hx hb hts hnw hown hw d_K_Names_work_21 ?_
    refine lv_iload_n hx hb d_K_Names_work_24 rfl (lv_at hl 1 rfl) ?_
    obtain ⟨x25, g_25, e_25, h⟩ := sk_rL_some h
    refine al_K32 hx hb hw g_25 e_25 d_K_Names_work_25 ?_
    refine lv_lstore_n (lv' := [(2, .long x25), (0, .ref (a 11)), (1, .int v1)]) hx hb d_K_Names_work_26 rfl hl (by decide) rfl (fun ls hl => ?_)
    refine lv_aload_n hx hb d_K_Names_work_27 rfl (lv_at hl 1 rfl) ?_
    refine gf_Names_26 hx hb hts hnw hown hw d_K_Names_work_28 ?_
    refine gf_Names_47 hx hb hts hnw hown hw d_K_Names_work_31 ?_
    refine lv_iload_n hx hb d_K_Names_work_34 rfl (lv_at hl 2 rfl) ?_
    obtain ⟨x35, g_35, e_35, h⟩ := sk_rI_some h
    refine al_K27 hx hb hw g_35 e_35 d_K_Names_work_35 ?_
    refine lv_iconst (v := 3) hx hb d_K_Names_work_36 (by decide) ?_
    have hJ70 : ∀ (st : sk_M) (v1 : Int32) (v2 : Int64) (H : Heap) (locs : List Loc) (ls : Array Slot), K_Names_work_J70 N (fun st => K_Names_work_J90 N st) self6 st v1 v2 = some res → sk_w D (tyK cI cJ cC) A (ceK a cI cJ cC) s st H locs → lv_has ls 4 [(0, .ref (a 11)), (1, .int v1), (2, .long v2)] → W p l e rm_K_Names_work s m args below meth c H locs 0 0 Q (F0 m 70 ls []) := by
      intro st v1 v2 H locs ls h hw hl
      unfold K_Names_work_J70 at h
      refine lv_aload_n hx hb d_K_Names_work_70 rfl (lv_at hl 0 rfl) ?_
      refine lv_dup hx hb d_K_Names_work_71 rfl ?_
      refine gf_Names_64 hx hb hts hnw hown hw d_K_Names_work_72 ?_
      refine lv_aload_n hx hb d_K_Names_work_75 rfl (lv_at hl 0 rfl) ?_
      refine lv_lload_n hx hb d_K_Names_work_76 rfl (lv_at hl 2 rfl) ?_
      obtain ⟨x77, q_77, h⟩ := sk_oR_some h
      refine sk_callVl (As := [.long v2]) (rest := [.long (st.2 0 3), .ref (a 11)]) ⟨hx, hb, hml, hown, hts⟩ hw hnw hok (c_K_Names_signaturesOf hok q_77) (cw_Names_67 hts hnw (by decide)) (rc_K11 hw) rfl hl.1 rfl (Nat.le_of_ble_eq_true rfl) d_K_Names_work_77 (fun H locs hw => ?_)
      refine lv_lor hx hb d_K_Names_work_80 ?_
      obtain ⟨st81, e_81, h⟩ := sk_fL_some h
      refine pf_Names_64 hx hb hts hnw hown hw e_81 d_K_Names_work_81 (fun H locs hw => ?_)
      refine lv_iinc (v := v1 + 1) (lv' := [(1, .int (v1 + 1)), (0, .ref (a 11)), (2, .long v2)]) hx hb d_K_Names_work_84 hl (k := 1) rfl rfl (by decide) rfl (fun ls hl => ?_)
      refine lv_goto (tgt := 6) hx hb d_K_Names_work_87 (by decide) ?_
      exact hself6 (st81, (v1 + 1)) h _ _ _ hw (lv_sub hl [1, 0] rfl)
    refine lv_icmp_ne (tgt := 52) hx hb d_K_Names_work_37 (by decide) (fun c_37 => ?_) (fun c_37 => ?_)
    · have h := (if_neg c_37).symm.trans h
      refine lv_aload_n hx hb d_K_Names_work_52 rfl (lv_at hl 1 rfl) ?_
      refine lv_dup hx hb d_K_Names_work_53 rfl ?_
      refine gf_Names_57 hx hb hts hnw hown hw d_K_Names_work_54 ?_
      refine lv_aload_n hx hb d_K_Names_work_57 rfl (lv_at hl 1 rfl) ?_
      refine gf_Names_26 hx hb hts hnw hown hw d_K_Names_work_58 ?_
      refine gf_Names_61 hx hb hts hnw hown hw d_K_Names_work_61 ?_
      refine lv_iload_n hx hb d_K_Names_work_64 rfl (lv_at hl 2 rfl) ?_
      obtain ⟨x65, g_65, e_65, h⟩ := sk_rL_some h
      refine al_K31 hx hb hw g_65 e_65 d_K_Names_work_65 ?_
      refine lv_lor hx hb d_K_Names_work_66 ?_
      obtain ⟨st67, e_67, h⟩ := sk_fL_some h
      refine pf_Names_57 hx hb hts hnw hown hw e_67 d_K_Names_work_67 (fun H locs hw => ?_)
      exact hJ70 _ _ _ _ _ _ h hw (lv_sub hl [1, 2, 0] rfl)
    · have h := (if_pos c_37).symm.trans h
      refine lv_aload_n hx hb d_K_Names_work_40 rfl (lv_at hl 1 rfl) ?_
      refine gf_Names_30 hx hb hts hnw hown hw d_K_Names_work_41 ?_
      refine lv_lload_n hx hb d_K_Names_work_44 rfl (lv_at hl 0 rfl) ?_
      obtain ⟨x45, q_45, h⟩ := sk_oR_some h
      refine sk_callVNl (As := [.long x25]) (rest := []) ⟨hx, hb, hml, hown, hts⟩ hw hnw hok (c_K_Needs_ofNeededClasses hok q_45) (cw_Names_51 hts hnw (by decide)) (rc_K10 hw) rfl hl.1 rfl (Nat.le_of_ble_eq_true rfl) d_K_Names_work_45 (fun H locs hw => ?_)
      refine lv_lstore_n (lv' := [(2, .long x45), (0, .ref (a 11)), (1, .int v1)]) hx hb d_K_Names_work_48 rfl hl (by decide) rfl (fun ls hl => ?_)
      refine lv_goto (tgt := 70) hx hb d_K_Names_work_49 (by decide) ?_
      exact hJ70 _ _ _ _ _ _ h hw (lv_sub hl [1, 2, 0] rfl)
set_option maxHeartbeats 4000000 in
set_option maxRecDepth 100000 in
theorem c_K_Needs_addKept {l : Launch} {D : va_G} {A : Nat → Prop} {a : Nat → Nat} {cI cJ cC : ClassId} {adK adV : Nat → Nat} {N : Nat} {st : sk_M} {res : sk_M} (hok : sk_ok A (nwK A adK adV)) (h : K_Needs_addKept N st = some res) : sk_Cv l y_K_Needs_addKept w_K_Needs_addKept rm_K_Needs_addKept D (tyK cI cJ cC) A (ceK a cI cJ cC) (nwK A adK adV) [.ref (a 10)] st res := by
  refine sk_headv (by decide) rfl (Nat.le_of_ble_eq_true rfl) ?_
  intro p e s m args below meth c Q hx hb hml hown hts0 hnw hret ls hl hw
  have hts : ∀ w ∈ TB, w.before args s = true := fun w h => hts0 w (List.mem_cons_of_mem _ h)
  have hown : s.vm.findClass R_Needs = some m.cls := hown
  have hl : lv_has ls 2 [(0, .ref (a 10))] := hl
  unfold K_Needs_addKept at h
  refine lv_iconst (v := 0) hx hb d_K_Needs_addKept_0 (by decide) ?_
  refine lv_istore_n (lv' := [(1, .int (0 : Int32)), (0, .ref (a 10))]) hx hb d_K_Needs_addKept_1 rfl hl (by decide) rfl (fun ls hl => ?_)
  refine sk_lp_run (G := fun (z : sk_M × Int32) => ∀ (H : Heap) (locs : List Loc) (ls : Array Slot), sk_w D (tyK cI cJ cC) A (ceK a cI cJ cC) s z.1 H locs → lv_has ls 2 [(0, .ref (a 10)), (1, .int z.2)] → W p l e rm_K_Needs_addKept s m args below meth c H locs 0 0 Q (F0 m 2 ls [])) ?_ N _ h _ _ _ hw (lv_sub hl [1, 0] rfl)
  rintro self2 ⟨st, v1⟩ hself2 h H locs ls hw hl
  unfold K_Needs_addKept_L2 at h
  refine lv_iload_n hx hb d_K_Needs_addKept_2 rfl (lv_at hl 1 rfl) ?_
  refine lv_aload_n hx hb d_K_Needs_addKept_3 rfl (lv_at hl 0 rfl) ?_
  refine gf_Needs_23 hx hb hts hnw hown hw d_K_Needs_addKept_4 ?_
  refine gf_Needs_115 hx hb hts hnw hown hw d_K_Needs_addKept_7 ?_
  refine lv_icmp_ge (tgt := 112) hx hb d_K_Needs_addKept_10 (by decide) (fun c_10 => ?_) (fun c_10 => ?_)
  · have h := (if_pos c_10).symm.trans h
    exact hret _ _ _ _ _ (Option.some.inj h) hw d_K_Needs_addKept_112
  · have h := (if_neg c_10).symm.trans h
    refine lv_aload_n hx hb d_K_Needs_addKept_13 rfl (lv_at hl 0 rfl) ?_
    refine gf_Needs_23 hx hb hts hnw hown hw d_K_Needs_addKept_14 ?_
    refine gf_Needs_118 hx hb hts hnw hown hw d_K_Needs_addKept_17 ?_
    refine lv_iload_n hx hb d_K_Needs_addKept_20 rfl (lv_at hl 1 rfl) ?_
    obtain ⟨x21, g_21, e_21, h⟩ := sk_rI_some h
    refine al_K27 hx hb hw g_21 e_21 d_K_Needs_addKept_21 ?_
    refine lv_iconst (v := 1) hx hb d_K_Needs_addKept_22 (by decide) ?_
    refine lv_icmp_ne (tgt := 106) hx hb d_K_Needs_addKept_23 (by decide) (fun c_23 => ?_) (fun c_23 => ?_)
    · have h := (if_neg c_23).symm.trans h
      refine lv_iinc (v := v1 + 1) (lv' := [(1, .int (v1 + 1)), (0, .ref (a 10))]) hx hb d_K_Needs_addKept_106 hl (k := 1) rfl rfl (by decide) rfl (fun ls hl => ?_)
      refine lv_goto (tgt := 2) hx hb d_K_Needs_addKept_109 (by decide) ?_
      exact hself2 (st, (v1 + 1)) h _ _ _ hw (lv_sub hl [1, 0] rfl)
    · have h := (if_pos c_23).symm.trans h
      refine lv_aload_n hx hb d_K_Needs_addKept_26 rfl (lv_at hl 0 rfl) ?_
      refine lv_dup hx hb d_K_Needs_addKept_27 rfl ?_
      refine gf_Needs_31 hx hb hts hnw hown hw d_K_Needs_addKept_28 ?_
      refine lv_aload_n hx hb d_K_Needs_addKept_31 rfl (lv_at hl 0 rfl) ?_
      refine gf_Needs_23 hx hb hts hnw hown hw d_K_Needs_addKept_32 ?_
      refine gf_Needs_121 hx hb hts hnw hown hw d_K_Needs_addKept_35 ?_
      refine lv_iload_n hx hb d_K_Needs_addKept_38 rfl (lv_at hl 1 rfl) ?_
      obtain ⟨x39, g_39, e_39, h⟩ := sk_rL_some h
      refine al_K31 hx hb hw g_39 e_39 d_K_Needs_addKept_39 ?_
      refine lv_lor hx hb d_K_Needs_addKept_40 ?_
      obtain ⟨st41, e_41, h⟩ := sk_fL_some h
      refine pf_Needs_31 hx hb hts hnw hown hw e_41 d_K_Needs_addKept_41 (fun H locs hw => ?_)
      refine lv_aload_n hx hb d_K_Needs_addKept_44 rfl (lv_at hl 0 rfl) ?_
      refine lv_dup hx hb d_K_Needs_addKept_45 rfl ?_
      refine gf_Needs_41 hx hb hts hnw hown hw d_K_Needs_addKept_46 ?_
      refine lv_aload_n hx hb d_K_Needs_addKept_49 rfl (lv_at hl 0 rfl) ?_
      refine gf_Needs_23 hx hb hts hnw hown hw d_K_Needs_addKept_50 ?_
      refine gf_Needs_121 hx hb hts hnw hown hw d_K_Needs_addKept_53 ?_
      refine lv_iload_n hx hb d_K_Needs_addKept_56 rfl (lv_at hl 1 rfl) ?_
      obtain ⟨x57, g_57, e_57, h⟩ := sk_rL_some h
      refine al_K31 hx hb hw g_57 e_57 d_K_Needs_addKept_57 ?_
      refine lv_lor hx hb d_K_Needs_addKept_58 ?_
      obtain ⟨st59, e_59, h⟩ := sk_fL_some h
      refine pf_Needs_41 hx hb hts hnw hown hw e_59 d_K_Needs_addKept_59 (fun H locs hw => ?_)
      refine lv_aload_n hx hb d_K_Needs_addKept_62 rfl (lv_at hl 0 rfl) ?_
      refine lv_dup hx hb d_K_Needs_addKept_63 rfl ?_
      refine gf_Needs_38 hx hb hts hnw hown hw d_K_Needs_addKept_64 ?_
      refine lv_aload_n hx hb d_K_Needs_addKept_67 rfl (lv_at hl 0 rfl) ?_
      refine gf_Needs_23 hx hb hts hnw hown hw d_K_Needs_addKept_68 ?_
      refine gf_Needs_121 hx hb hts hnw hown hw d_K_Needs_addKept_71 ?_
      refine lv_iload_n hx hb d_K_Needs_addKept_74 rfl (lv_at hl 1 rfl) ?_
      obtain ⟨x75, g_75, e_75, h⟩ := sk_rL_some h
      refine al_K31 hx hb hw g_75 e_75 d_K_Needs_addKept_75 ?_
      refine lv_aload_n hx hb d_K_Needs_addKept_76 rfl (lv_at hl 0 rfl) ?_
      refine gf_Needs_9 hx hb hts hnw hown hw d_K_Needs_addKept_77 ?_
      refine gf_Needs_125 hx hb hts hnw hown hw d_K_Needs_addKept_80 ?_
      refine lv_land hx hb d_K_Needs_addKept_83 ?_
      refine lv_lor hx hb d_K_Needs_addKept_84 ?_
      obtain ⟨st85, e_85, h⟩ := sk_fL_some h
      refine pf_Needs_38 hx hb hts hnw hown hw e_85 d_K_Needs_addKept_85 (fun H locs hw => ?_)
      refine lv_aload_n hx hb d_K_Needs_addKept_88 rfl (lv_at hl 0 rfl) ?_
      refine lv_dup hx hb d_K_Needs_addKept_89 rfl ?_
      refine gf_Needs_35 hx hb hts hnw hown hw d_K_Needs_addKept_90 ?_
      refine lv_aload_n hx hb d_K_Needs_addKept_93 rfl (lv_at hl 0 rfl) ?_
      refine gf_Needs_23 hx hb hts hnw hown hw d_K_Needs_addKept_94 ?_
      refine gf_Needs_128 hx hb hts hnw hown hw d_K_Needs_addKept_97 ?_
      refine lv_iload_n hx hb d_K_Needs_addKept_100 rfl (lv_at hl 1 rfl) ?_
      obtain ⟨x101, g_101, e_101, h⟩ := sk_rL_some h
      refine al_K32 hx hb hw g_101 e_101 d_K_Needs_addKept_101 ?_
      refine lv_lor hx hb d_K_Needs_addKept_102 ?_
      obtain ⟨st103, e_103, h⟩ := sk_fL_some h
      refine pf_Needs_35 hx hb hts hnw hown hw e_103 d_K_Needs_addKept_103 (fun H locs hw => ?_)
      refine lv_iinc (v := v1 + 1) (lv' := [(1, .int (v1 + 1)), (0, .ref (a 10))]) hx hb d_K_Needs_addKept_106 hl (k := 1) rfl rfl (by decide) rfl (fun ls hl => ?_)
      refine lv_goto (tgt := 2) hx hb d_K_Needs_addKept_109 (by decide) ?_
      exact hself2 (st103, (v1 + 1)) h _ _ _ hw (lv_sub hl [1, 0] rfl)
