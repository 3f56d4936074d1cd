set_option maxHeartbeats 4000000 in
set_option maxRecDepth 100000 in
theorem c_M_clear {l : Launch} {D : va_G} {A : Nat → Prop} {a : Nat → Nat} {cI cZ : ClassId} {nw : State → Prop} {N : Nat} {st : sk_M} {v1 : Int32} {res : Int32 × sk_M} (hok : sk_ok A nw) (h : M_clear N st v1 = some res) : sk_Ci l y_M_clear w_M_clear rm_M_clear D (tyM cI cZ) A (ceM a cI cZ) nw [.ref (a 0), .int v1] st res.1 res.2 := by
  refine sk_headi .int (by decide) rfl (Nat.le_of_ble_eq_true rfl) ?_
  intro p e s m args below meth c Q hx hb hml hown hts0 hnw hret ls hl hw
  have hts : ∀ w ∈ TB, w.before args s = true := fun w h => hts0 w (List.mem_cons_of_mem _ h)
  have hown : s.vm.findClass R_M = some m.cls := hown
  have hl : lv_has ls 4 [(0, .ref (a 0)), (1, .int v1)] := hl
  unfold M_clear at h
  refine lv_aload_n hx hb d_M_clear_0 rfl (lv_at hl 0 rfl) ?_
  refine gf_M_185 hx hb hts hnw hown hw d_M_clear_1 ?_
  refine lv_istore_n (lv' := [(2, .int (st.1 0 3)), (0, .ref (a 0)), (1, .int v1)]) hx hb d_M_clear_4 rfl hl (by decide) rfl (fun ls hl => ?_)
  refine lv_aload_n hx hb d_M_clear_5 rfl (lv_at hl 1 rfl) ?_
  refine lv_iconst (v := 0) hx hb d_M_clear_6 (by decide) ?_
  obtain ⟨st7, e_7, h⟩ := sk_fI_some h
  refine pf_M_185 hx hb hts hnw hown hw e_7 d_M_clear_7 (fun H locs hw => ?_)
  refine lv_aload_n hx hb d_M_clear_10 rfl (lv_at hl 1 rfl) ?_
  refine lv_iconst (v := 0) hx hb d_M_clear_11 (by decide) ?_
  obtain ⟨st12, e_12, h⟩ := sk_fI_some h
  refine pf_M_146 hx hb hts hnw hown hw e_12 d_M_clear_12 (fun H locs hw => ?_)
  refine lv_iload_n hx hb d_M_clear_15 rfl (lv_at hl 2 rfl) ?_
  refine lv_if_eq (tgt := 50) hx hb d_M_clear_16 (by decide) (fun c_16 => ?_) (fun c_16 => ?_)
  · have h := (if_pos c_16).symm.trans h
    refine lv_iload_n hx hb d_M_clear_50 rfl (lv_at hl 0 rfl) ?_
    exact hret _ _ _ _ _ _ (sk_p1 h) (sk_p2 h) (vp_nar_int _) hw d_M_clear_51
  · have h := (if_neg c_16).symm.trans h
    refine lv_iconst (v := 1) hx hb d_M_clear_19 (by decide) ?_
    refine lv_istore_n (lv' := [(3, .int (1 : Int32)), (2, .int (st.1 0 3)), (0, .ref (a 0)), (1, .int v1)]) hx hb d_M_clear_20 rfl hl (by decide) rfl (fun ls hl => ?_)
    have hJ40 : ∀ (st : sk_M) (v2 : Int32) (H : Heap) (locs : List Loc) (ls : Array Slot), M_clear_J40 N st v2 = some res → sk_w D (tyM cI cZ) A (ceM a cI cZ) s st H locs → lv_has ls 4 [(0, .ref (a 0)), (2, .int v2)] → W p l e rm_M_clear s m args below meth c H locs 0 0 Q (F0 m 40 ls []) := by
      intro st v2 H locs ls h hw hl
      unfold M_clear_J40 at h
      refine lv_aload_n hx hb d_M_clear_40 rfl (lv_at hl 0 rfl) ?_
      refine lv_iconst (v := 1) hx hb d_M_clear_41 (by decide) ?_
      obtain ⟨st42, e_42, h⟩ := sk_fI_some h
      refine pf_M_47 hx hb hts hnw hown hw e_42 d_M_clear_42 (fun H locs hw => ?_)
      refine lv_aload_n hx hb d_M_clear_45 rfl (lv_at hl 0 rfl) ?_
      refine lv_iconst (v := 0) hx hb d_M_clear_46 (by decide) ?_
      obtain ⟨st47, e_47, h⟩ := sk_fI_some h
      refine pf_M_143 hx hb hts hnw hown hw e_47 d_M_clear_47 (fun H locs hw => ?_)
      refine lv_iload_n hx hb d_M_clear_50 rfl (lv_at hl 1 rfl) ?_
      exact hret _ _ _ _ _ _ (sk_p1 h) (sk_p2 h) (vp_nar_int _) hw d_M_clear_51
    refine sk_lp_run (G := fun (z : sk_M × Int32 × Int32) => ∀ (H : Heap) (locs : List Loc) (ls : Array Slot), sk_w D (tyM cI cZ) A (ceM a cI cZ) s z.1 H locs → lv_has ls 4 [(0, .ref (a 0)), (2, .int z.2.1), (3, .int z.2.2)] → W p l e rm_M_clear s m args below meth c H locs 0 0 Q (F0 m 21 ls [])) ?_ N _ h _ _ _ hw (lv_sub hl [2, 1, 0] rfl)
    rintro self21 ⟨st, v2, v3⟩ hself21 h H locs ls hw hl
    unfold M_clear_L21 at h
    refine lv_iload_n hx hb d_M_clear_21 rfl (lv_at hl 2 rfl) ?_
    refine lv_bipush (v := 10) hx hb d_M_clear_22 (by decide) ?_
    refine lv_icmp_ge (tgt := 40) hx hb d_M_clear_24 (by decide) (fun c_24 => ?_) (fun c_24 => ?_)
    · have h := (if_pos c_24).symm.trans h
      exact hJ40 _ _ _ _ _ h hw (lv_sub hl [0, 1] rfl)
    · have h := (if_neg c_24).symm.trans h
      refine lv_aload_n hx hb d_M_clear_27 rfl (lv_at hl 0 rfl) ?_
      refine gf_M_7 hx hb hts hnw hown hw d_M_clear_28 ?_
      refine lv_iload_n hx hb d_M_clear_31 rfl (lv_at hl 2 rfl) ?_
      refine lv_iconst (v := 0) hx hb d_M_clear_32 (by decide) ?_
      obtain ⟨st33, g_33, e_33, h⟩ := sk_wI_some h
      refine as_M1 hx hb hw g_33 e_33 d_M_clear_33 (fun H locs hw => ?_)
      refine lv_iinc (v := v3 + 1) (lv' := [(3, .int (v3 + 1)), (0, .ref (a 0)), (2, .int v2)]) hx hb d_M_clear_34 hl (k := 2) rfl rfl (by decide) rfl (fun ls hl => ?_)
      refine lv_goto (tgt := 21) hx hb d_M_clear_37 (by decide) ?_
      exact hself21 (st33, v2, (v3 + 1)) h _ _ _ hw (lv_sub hl [1, 2, 0] rfl)
set_option maxHeartbeats 4000000 in
set_option maxRecDepth 100000 in
theorem c_M_fits {l : Launch} {D : va_G} {A : Nat → Prop} {a : Nat → Nat} {cI cZ : ClassId} {nw : State → Prop} {N : Nat} {st : sk_M} {v1 : Int32} {v2 : Int32} {v3 : Int32} {res : Int32 × sk_M} (hok : sk_ok A nw) (h : M_fits N st v1 v2 v3 = some res) : sk_Ci l y_M_fits w_M_fits rm_M_fits D (tyM cI cZ) A (ceM a cI cZ) nw [.ref (a 0), .int v1, .int v2, .int v3] st res.1 res.2 := by
  refine sk_headi .boolean (by decide) rfl (Nat.le_of_ble_eq_true rfl) ?_
  intro p e s m args below meth c Q hx hb hml hown hts0 hnw hret ls hl hw
  have hts : ∀ w ∈ TB, w.before args s = true := fun w h => hts0 w (List.mem_cons_of_mem _ h)
  have hown : s.vm.findClass R_M = some m.cls := hown
  have hl : lv_has ls 10 [(0, .ref (a 0)), (1, .int v1), (2, .int v2), (3, .int v3)] := hl
  unfold M_fits at h
  refine lv_bipush (v := 60) hx hb d_M_fits_0 (by decide) ?_
  refine lv_iload_n hx hb d_M_fits_2 rfl (lv_at hl 1 rfl) ?_
  refine lv_imul hx hb d_M_fits_3 ?_
  refine lv_istore (lv' := [(4, .int ((60 : Int32) * v1)), (0, .ref (a 0)), (1, .int v1), (2, .int v2), (3, .int v3)]) hx hb d_M_fits_4 hl (by decide) rfl (fun ls hl => ?_)
  refine lv_iload_n hx hb d_M_fits_6 rfl (lv_at hl 3 rfl) ?_
  refine lv_istore (lv' := [(5, .int v2), (4, .int ((60 : Int32) * v1)), (0, .ref (a 0)), (1, .int v1), (2, .int v2), (3, .int v3)]) hx hb d_M_fits_7 hl (by decide) rfl (fun ls hl => ?_)
  refine lv_iconst (v := 0) hx hb d_M_fits_9 (by decide) ?_
  refine lv_istore (lv' := [(6, .int (0 : Int32)), (5, .int v2), (4, .int ((60 : Int32) * v1)), (0, .ref (a 0)), (1, .int v1), (2, .int v2), (3, .int v3)]) hx hb d_M_fits_10 hl (by decide) rfl (fun ls hl => ?_)
  have hJ44 : ∀ (st : sk_M) (v3 : Int32) (v4 : Int32) (v5 : Int32) (H : Heap) (locs : List Loc) (ls : Array Slot), M_fits_J44 N st v3 v4 v5 = some res → sk_w D (tyM cI cZ) A (ceM a cI cZ) s st H locs → lv_has ls 10 [(0, .ref (a 0)), (3, .int v3), (4, .int v4), (5, .int v5)] → W p l e rm_M_fits s m args below meth c H locs 0 0 Q (F0 m 44 ls []) := by
    intro st v3 v4 v5 H locs ls h hw hl
    unfold M_fits_J44 at h
    have hJ316 : ∀ (st : sk_M) (H : Heap) (locs : List Loc) (ls : Array Slot), M_fits_J316 N st = some res → sk_w D (tyM cI cZ) A (ceM a cI cZ) s st H locs → lv_has ls 10 [(0, .ref (a 0))] → W p l e rm_M_fits s m args below meth c H locs 0 0 Q (F0 m 316 ls []) := by
      intro st H locs ls h hw hl
      unfold M_fits_J316 at h
      refine lv_aload_n hx hb d_M_fits_316 rfl (lv_at hl 0 rfl) ?_
      refine gf_M_111 hx hb hts hnw hown hw d_M_fits_317 ?_
      refine lv_aload_n hx hb d_M_fits_320 rfl (lv_at hl 0 rfl) ?_
      refine gf_M_195 hx hb hts hnw hown hw d_M_fits_321 ?_
      obtain ⟨x324, g_324, e_324, h⟩ := sk_rI_some h
      refine al_M33 hx hb hw g_324 e_324 d_M_fits_324 ?_
      obtain ⟨hz, h⟩ := sk_ck_some h
      exact hret _ _ _ _ _ _ (sk_p1 h) (sk_p2 h) (congrArg Value.int hz) hw d_M_fits_325
    refine sk_lp_run (G := fun (z : sk_M × Int32 × Int32 × Int32) => ∀ (H : Heap) (locs : List Loc) (ls : Array Slot), sk_w D (tyM cI cZ) A (ceM a cI cZ) s z.1 H locs → lv_has ls 10 [(0, .ref (a 0)), (3, .int z.2.1), (4, .int z.2.2.1), (5, .int z.2.2.2)] → W p l e rm_M_fits s m args below meth c H locs 0 0 Q (F0 m 44 ls [])) ?_ N _ h _ _ _ hw (lv_sub hl [0, 1, 2, 3] rfl)
    rintro self44 ⟨st, v3, v4, v5⟩ hself44 h H locs ls hw hl
    unfold M_fits_L44 at h
    refine lv_iload hx hb d_M_fits_44 (lv_at hl 3 rfl) ?_
    refine lv_iload_n hx hb d_M_fits_46 rfl (lv_at hl 1 rfl) ?_
    refine lv_icmp_ge (tgt := 316) hx hb d_M_fits_47 (by decide) (fun c_47 => ?_) (fun c_47 => ?_)
    · have h := (if_pos c_47).symm.trans h
      exact hJ316 _ _ _ _ h hw (lv_sub hl [0] rfl)
    · have h := (if_neg c_47).symm.trans h
      refine lv_aload_n hx hb d_M_fits_50 rfl (lv_at hl 0 rfl) ?_
      refine gf_M_69 hx hb hts hnw hown hw d_M_fits_51 ?_
      refine lv_iload hx hb d_M_fits_54 (lv_at hl 2 rfl) ?_
      refine lv_iload hx hb d_M_fits_56 (lv_at hl 3 rfl) ?_
      refine lv_iadd hx hb d_M_fits_58 ?_
      obtain ⟨x59, g_59, e_59, h⟩ := sk_rI_some h
      refine al_M19 hx hb hw g_59 e_59 d_M_fits_59 ?_
      refine lv_istore (lv' := [(6, .int x59), (0, .ref (a 0)), (3, .int v3), (4, .int v4), (5, .int v5)]) hx hb d_M_fits_60 hl (by decide) rfl (fun ls hl => ?_)
      refine lv_iload hx hb d_M_fits_62 (lv_at hl 0 rfl) ?_
      refine lv_bipush (v := 42) hx hb d_M_fits_64 (by decide) ?_
      have hJ99 : ∀ (st : sk_M) (v3 : Int32) (v4 : Int32) (v5 : Int32) (v6 : Int32) (s0 : Int32) (H : Heap) (locs : List Loc) (ls : Array Slot), M_fits_J99 N (fun st => M_fits_J316 N st) self44 st v3 v4 v5 v6 s0 = some res → sk_w D (tyM cI cZ) A (ceM a cI cZ) s st H locs → lv_has ls 10 [(0, .ref (a 0)), (3, .int v3), (4, .int v4), (5, .int v5), (6, .int v6)] → W p l e rm_M_fits s m args below meth c H locs 0 0 Q (F0 m 99 ls [.int s0]) := by
        intro st v3 v4 v5 v6 s0 H locs ls h hw hl
        unfold M_fits_J99 at h
        refine lv_istore (lv' := [(7, .int s0), (0, .ref (a 0)), (3, .int v3), (4, .int v4), (5, .int v5), (6, .int v6)]) hx hb d_M_fits_99 hl (by decide) rfl (fun ls hl => ?_)
        refine lv_iconst (v := 0) hx hb d_M_fits_101 (by decide) ?_
        refine lv_istore (lv' := [(8, .int (0 : Int32)), (7, .int s0), (0, .ref (a 0)), (3, .int v3), (4, .int v4), (5, .int v5), (6, .int v6)]) hx hb d_M_fits_102 hl (by decide) rfl (fun ls hl => ?_)
        have hJ266 : ∀ (st : sk_M) (v3 : Int32) (v4 : Int32) (v5 : Int32) (v7 : Int32) (H : Heap) (locs : List Loc) (ls : Array Slot), M_fits_J266 N (fun st => M_fits_J316 N st) self44 st v3 v4 v5 v7 = some res → sk_w D (tyM cI cZ) A (ceM a cI cZ) s st H locs → lv_has ls 10 [(0, .ref (a 0)), (3, .int v3), (4, .int v4), (5, .int v5), (7, .int v7)] → W p l e rm_M_fits s m args below meth c H locs 0 0 Q (F0 m 266 ls []) := by
          intro st v3 v4 v5 v7 H locs ls h hw hl
          unfold M_fits_J266 at h
          refine lv_iconst (v := 0) hx hb d_M_fits_266 (by decide) ?_
          refine lv_istore (lv' := [(8, .int (0 : Int32)), (0, .ref (a 0)), (3, .int v3), (4, .int v4), (5, .int v5), (7, .int v7)]) hx hb d_M_fits_267 hl (by decide) rfl (fun ls hl => ?_)
          have hJ298 : ∀ (st : sk_M) (v3 : Int32) (v4 : Int32) (v5 : Int32) (v7 : Int32) (H : Heap) (locs : List Loc) (ls : Array Slot), M_fits_J298 N (fun st => M_fits_J316 N st) self44 st v3 v4 v5 v7 = some res → sk_w D (tyM cI cZ) A (ceM a cI cZ) s st H locs → lv_has ls 10 [(0, .ref (a 0)), (3, .int v3), (4, .int v4), (5, .int v5), (7, .int v7)] → W p l e rm_M_fits s m args below meth c H locs 0 0 Q (F0 m 298 ls []) := by
            intro st v3 v4 v5 v7 H locs ls h hw hl
            unfold M_fits_J298 at h
            refine lv_iload hx hb d_M_fits_298 (lv_at hl 3 rfl) ?_
            refine lv_iload hx hb d_M_fits_300 (lv_at hl 4 rfl) ?_
            refine lv_if_eq (tgt := 309) hx hb d_M_fits_302 (by decide) (fun c_302 => ?_) (fun c_302 => ?_)
            · have h := (if_pos c_302).symm.trans h
              refine lv_iconst (v := 1) hx hb d_M_fits_309 (by decide) ?_
              refine lv_iadd hx hb d_M_fits_310 ?_
              refine lv_istore (lv' := [(5, .int (v5 + (1 : Int32))), (0, .ref (a 0)), (3, .int v3), (4, .int v4), (7, .int v7)]) hx hb d_M_fits_311 hl (by decide) rfl (fun ls hl => ?_)
              refine lv_goto (tgt := 44) hx hb d_M_fits_313 (by decide) ?_
              exact hself44 (st, v3, v4, (v5 + (1 : Int32))) h _ _ _ hw (lv_sub hl [1, 2, 3, 0] rfl)
            · have h := (if_neg c_302).symm.trans h
              refine lv_iconst (v := 2) hx hb d_M_fits_305 (by decide) ?_
              refine lv_goto (tgt := 310) hx hb d_M_fits_306 (by decide) ?_
              refine lv_iadd hx hb d_M_fits_310 ?_
              refine lv_istore (lv' := [(5, .int (v5 + (2 : Int32))), (0, .ref (a 0)), (3, .int v3), (4, .int v4), (7, .int v7)]) hx hb d_M_fits_311 hl (by decide) rfl (fun ls hl => ?_)
              refine lv_goto (tgt := 44) hx hb d_M_fits_313 (by decide) ?_
              exact hself44 (st, v3, v4, (v5 + (2 : Int32))) h _ _ _ hw (lv_sub hl [1, 2, 3, 0] rfl)
          refine sk_lp_run (G := fun (z : sk_M × Int32 × Int32 × Int32 × Int32 × Int32) => ∀ (H : Heap) (locs : List Loc) (ls : Array Slot), sk_w D (tyM cI cZ) A (ceM a cI cZ) s z.1 H locs → lv_has ls 10 [(0, .ref (a 0)), (3, .int z.2.1), (4, .int z.2.2.1), (5, .int z.2.2.2.1), (7, .int z.2.2.2.2.1), (8, .int z.2.2.2.2.2)] → W p l e rm_M_fits s m args below meth c H locs 0 0 Q (F0 m 269 ls [])) ?_ N _ h _ _ _ hw (lv_sub hl [1, 2, 3, 4, 5, 0] rfl)
          rintro self269 ⟨st, v3, v4, v5, v7, v8⟩ hself269 h H locs ls hw hl
          unfold M_fits_L269 at h
          refine lv_iload hx hb d_M_fits_269 (lv_at hl 5 rfl) ?_
          refine lv_aload_n hx hb d_M_fits_271 rfl (lv_at hl 0 rfl) ?_
          refine gf_M_195 hx hb hts hnw hown hw d_M_fits_272 ?_
          refine lv_icmp_gt (tgt := 298) hx hb d_M_fits_275 (by decide) (fun c_275 => ?_) (fun c_275 => ?_)
          · have h := (if_pos c_275).symm.trans h
            exact hJ298 _ _ _ _ _ _ _ _ h hw (lv_sub hl [0, 1, 2, 3, 4] rfl)
          · have h := (if_neg c_275).symm.trans h
            refine lv_aload_n hx hb d_M_fits_278 rfl (lv_at hl 0 rfl) ?_
            refine gf_M_111 hx hb hts hnw hown hw d_M_fits_279 ?_
            refine lv_iload hx hb d_M_fits_282 (lv_at hl 5 rfl) ?_
            refine lv_aload_n hx hb d_M_fits_284 rfl (lv_at hl 0 rfl) ?_
            refine gf_M_114 hx hb hts hnw hown hw d_M_fits_285 ?_
            refine lv_iload hx hb d_M_fits_288 (lv_at hl 5 rfl) ?_
            obtain ⟨x290, g_290, e_290, h⟩ := sk_rI_some h
            refine al_M34 hx hb hw g_290 e_290 d_M_fits_290 ?_
            obtain ⟨st291, g_291, e_291, h⟩ := sk_wI_some h
            refine as_M33 hx hb hw g_291 e_291 d_M_fits_291 (fun H locs hw => ?_)
            refine lv_iinc (v := v8 + 1) (lv' := [(8, .int (v8 + 1)), (0, .ref (a 0)), (3, .int v3), (4, .int v4), (5, .int v5), (7, .int v7)]) hx hb d_M_fits_292 hl (k := 5) rfl rfl (by decide) rfl (fun ls hl => ?_)
            refine lv_goto (tgt := 269) hx hb d_M_fits_295 (by decide) ?_
            exact hself269 (st291, v3, v4, v5, v7, (v8 + 1)) h _ _ _ hw (lv_sub hl [1, 2, 3, 4, 5, 0] rfl)
        refine sk_lp_run (G := fun (z : sk_M × Int32 × Int32 × Int32 × Int32 × Int32 × Int32) => ∀ (H : Heap) (locs : List Loc) (ls : Array Slot), sk_w D (tyM cI cZ) A (ceM a cI cZ) s z.1 H locs → lv_has ls 10 [(0, .ref (a 0)), (3, .int z.2.1), (4, .int z.2.2.1), (5, .int z.2.2.2.1), (6, .int z.2.2.2.2.1), (7, .int z.2.2.2.2.2.1), (8, .int z.2.2.2.2.2.2)] → W p l e rm_M_fits s m args below meth c H locs 0 0 Q (F0 m 104 ls [])) ?_ N _ h _ _ _ hw (lv_sub hl [2, 3, 4, 5, 6, 1, 0] rfl)
        rintro self104 ⟨st, v3, v4, v5, v6, v7, v8⟩ hself104 h H locs ls hw hl
        unfold M_fits_L104 at h
        refine lv_iload hx hb d_M_fits_104 (lv_at hl 6 rfl) ?_
        refine lv_aload_n hx hb d_M_fits_106 rfl (lv_at hl 0 rfl) ?_
        refine gf_M_195 hx hb hts hnw hown hw d_M_fits_107 ?_
        refine lv_icmp_gt (tgt := 266) hx hb d_M_fits_110 (by decide) (fun c_110 => ?_) (fun c_110 => ?_)
        · have h := (if_pos c_110).symm.trans h
          exact hJ266 _ _ _ _ _ _ _ _ h hw (lv_sub hl [0, 1, 2, 3, 5] rfl)
        · have h := (if_neg c_110).symm.trans h
          refine lv_iload hx hb d_M_fits_113 (lv_at hl 6 rfl) ?_
          have hJ135 : ∀ (st : sk_M) (v3 : Int32) (v4 : Int32) (v5 : Int32) (v6 : Int32) (v7 : Int32) (v8 : Int32) (s0 : Int32) (H : Heap) (locs : List Loc) (ls : Array Slot), M_fits_J135 N (fun st v3 v4 v5 v7 => M_fits_J266 N (fun st => M_fits_J316 N st) self44 st v3 v4 v5 v7) self104 st v3 v4 v5 v6 v7 v8 s0 = some res → sk_w D (tyM cI cZ) A (ceM a cI cZ) s st H locs → lv_has ls 10 [(0, .ref (a 0)), (3, .int v3), (4, .int v4), (5, .int v5), (6, .int v6), (7, .int v7), (8, .int v8)] → W p l e rm_M_fits s m args below meth c H locs 0 0 Q (F0 m 135 ls [.int s0]) := by
            intro st v3 v4 v5 v6 v7 v8 s0 H locs ls h hw hl
            unfold M_fits_J135 at h
            refine lv_istore (lv' := [(9, .int s0), (0, .ref (a 0)), (3, .int v3), (4, .int v4), (5, .int v5), (6, .int v6), (7, .int v7), (8, .int v8)]) hx hb d_M_fits_135 hl (by decide) rfl (fun ls hl => ?_)
            refine lv_iload hx hb d_M_fits_137 (lv_at hl 5 rfl) ?_
            refine lv_bipush (v := 42) hx hb d_M_fits_139 (by decide) ?_
            refine lv_icmp_ne (tgt := 205) hx hb d_M_fits_141 (by decide) (fun c_141 => ?_) (fun c_141 => ?_)
            · have h := (if_neg c_141).symm.trans h
              refine lv_aload_n hx hb d_M_fits_205 rfl (lv_at hl 1 rfl) ?_
              refine gf_M_114 hx hb hts hnw hown hw d_M_fits_206 ?_
              refine lv_iload hx hb d_M_fits_209 (lv_at hl 7 rfl) ?_
              refine lv_iload hx hb d_M_fits_211 (lv_at hl 0 rfl) ?_
              have hJ259 : ∀ (st : sk_M) (v3 : Int32) (v4 : Int32) (v5 : Int32) (v6 : Int32) (v7 : Int32) (v8 : Int32) (s1 : Int32) (s2 : Int32) (H : Heap) (locs : List Loc) (ls : Array Slot), M_fits_J259 N (fun st v3 v4 v5 v7 => M_fits_J266 N (fun st => M_fits_J316 N st) self44 st v3 v4 v5 v7) self104 st v3 v4 v5 v6 v7 v8 s1 s2 = some res → sk_w D (tyM cI cZ) A (ceM a cI cZ) s st H locs → lv_has ls 10 [(0, .ref (a 0)), (3, .int v3), (4, .int v4), (5, .int v5), (6, .int v6), (7, .int v7), (8, .int v8)] → W p l e rm_M_fits s m args below meth c H locs 0 0 Q (F0 m 259 ls [.int s2, .int s1, .ref (a 34)]) := by
                intro st v3 v4 v5 v6 v7 v8 s1 s2 H locs ls h hw hl
                unfold M_fits_J259 at h
                obtain ⟨st259, g_259, e_259, h⟩ := sk_wI_some h
                refine as_M34 hx hb hw g_259 e_259 d_M_fits_259 (fun H locs hw => ?_)
                refine lv_iinc (v := v8 + 1) (lv' := [(8, .int (v8 + 1)), (0, .ref (a 0)), (3, .int v3), (4, .int v4), (5, .int v5), (6, .int v6), (7, .int v7)]) hx hb d_M_fits_260 hl (k := 6) rfl rfl (by decide) rfl (fun ls hl => ?_)
                refine lv_goto (tgt := 104) hx hb d_M_fits_263 (by decide) ?_
                exact hself104 (st259, v3, v4, v5, v6, v7, (v8 + 1)) h _ _ _ hw (lv_sub hl [1, 2, 3, 4, 5, 6, 0] rfl)
              have hJ258 : ∀ (st : sk_M) (v3 : Int32) (v4 : Int32) (v5 : Int32) (v6 : Int32) (v7 : Int32) (v8 : Int32) (s1 : Int32) (H : Heap) (locs : List Loc) (ls : Array Slot), M_fits_J258 N (fun st v3 v4 v5 v7 => M_fits_J266 N (fun st => M_fits_J316 N st) self44 st v3 v4 v5 v7) self104 st v3 v4 v5 v6 v7 v8 s1 = some res → sk_w D (tyM cI cZ) A (ceM a cI cZ) s st H locs → lv_has ls 10 [(0, .ref (a 0)), (3, .int v3), (4, .int v4), (5, .int v5), (6, .int v6), (7, .int v7), (8, .int v8)] → W p l e rm_M_fits s m args below meth c H locs 0 0 Q (F0 m 258 ls [.int s1, .ref (a 34)]) := by
                intro st v3 v4 v5 v6 v7 v8 s1 H locs ls h hw hl
                unfold M_fits_J258 at h
                refine lv_iconst (v := 0) hx hb d_M_fits_258 (by decide) ?_
                exact hJ259 _ _ _ _ _ _ _ _ _ _ _ _ h hw (lv_sub hl [0, 1, 2, 3, 4, 5, 6] rfl)
              refine lv_if_eq (tgt := 258) hx hb d_M_fits_213 (by decide) (fun c_213 => ?_) (fun c_213 => ?_)
              · have h := (if_pos c_213).symm.trans h
                exact hJ258 _ _ _ _ _ _ _ _ _ _ _ h hw (lv_sub hl [1, 2, 3, 4, 5, 6, 7] rfl)
              · have h := (if_neg c_213).symm.trans h
                refine lv_iload hx hb d_M_fits_216 (lv_at hl 5 rfl) ?_
                refine lv_bipush (v := 63) hx hb d_M_fits_218 (by decide) ?_
                have hJ254 : ∀ (st : sk_M) (v3 : Int32) (v4 : Int32) (v5 : Int32) (v6 : Int32) (v7 : Int32) (v8 : Int32) (s1 : Int32) (H : Heap) (locs : List Loc) (ls : Array Slot), M_fits_J254 N (fun st v3 v4 v5 v7 => M_fits_J266 N (fun st => M_fits_J316 N st) self44 st v3 v4 v5 v7) self104 st v3 v4 v5 v6 v7 v8 s1 = some res → sk_w D (tyM cI cZ) A (ceM a cI cZ) s st H locs → lv_has ls 10 [(0, .ref (a 0)), (3, .int v3), (4, .int v4), (5, .int v5), (6, .int v6), (7, .int v7), (8, .int v8)] → W p l e rm_M_fits s m args below meth c H locs 0 0 Q (F0 m 254 ls [.int s1, .ref (a 34)]) := by
                  intro st v3 v4 v5 v6 v7 v8 s1 H locs ls h hw hl
                  unfold M_fits_J254 at h
                  refine lv_iconst (v := 1) hx hb d_M_fits_254 (by decide) ?_
                  refine lv_goto (tgt := 259) hx hb d_M_fits_255 (by decide) ?_
                  exact hJ259 _ _ _ _ _ _ _ _ _ _ _ _ h hw (lv_sub hl [0, 1, 2, 3, 4, 5, 6] rfl)
                refine lv_icmp_ne (tgt := 240) hx hb d_M_fits_220 (by decide) (fun c_220 => ?_) (fun c_220 => ?_)
                · have h := (if_neg c_220).symm.trans h
                  refine lv_aload_n hx hb d_M_fits_240 rfl (lv_at hl 1 rfl) ?_
                  refine gf_M_108 hx hb hts hnw hown hw d_M_fits_241 ?_
                  refine lv_iload hx hb d_M_fits_244 (lv_at hl 7 rfl) ?_
                  refine lv_iconst (v := 1) hx hb d_M_fits_246 (by decide) ?_
                  refine lv_isub hx hb d_M_fits_247 ?_
                  obtain ⟨x248, g_248, e_248, h⟩ := sk_rI_some h
                  refine al_M32 hx hb hw g_248 e_248 d_M_fits_248 ?_
                  refine lv_iload hx hb d_M_fits_249 (lv_at hl 5 rfl) ?_
                  refine lv_icmp_ne (tgt := 258) hx hb d_M_fits_251 (by decide) (fun c_251 => ?_) (fun c_251 => ?_)
                  · have h := (if_neg c_251).symm.trans h
                    exact hJ258 _ _ _ _ _ _ _ _ _ _ _ h hw (lv_sub hl [1, 2, 3, 4, 5, 6, 7] rfl)
                  · have h := (if_pos c_251).symm.trans h
                    exact hJ254 _ _ _ _ _ _ _ _ _ _ _ h hw (lv_sub hl [1, 2, 3, 4, 5, 6, 7] rfl)
                · have h := (if_pos c_220).symm.trans h
                  refine lv_aload_n hx hb d_M_fits_223 rfl (lv_at hl 1 rfl) ?_
                  refine gf_M_108 hx hb hts hnw hown hw d_M_fits_224 ?_
                  refine lv_iload hx hb d_M_fits_227 (lv_at hl 7 rfl) ?_
                  refine lv_iconst (v := 1) hx hb d_M_fits_229 (by decide) ?_
                  refine lv_isub hx hb d_M_fits_230 ?_
                  obtain ⟨x231, g_231, e_231, h⟩ := sk_rI_some h
                  refine al_M32 hx hb hw g_231 e_231 d_M_fits_231 ?_
                  refine lv_bipush (v := 46) hx hb d_M_fits_232 (by decide) ?_
                  refine lv_icmp_eq (tgt := 258) hx hb d_M_fits_234 (by decide) (fun c_234 => ?_) (fun c_234 => ?_)
                  · have h := (if_pos c_234).symm.trans h
                    exact hJ258 _ _ _ _ _ _ _ _ _ _ _ h hw (lv_sub hl [1, 2, 3, 4, 5, 6, 7] rfl)
                  · have h := (if_neg c_234).symm.trans h
                    refine lv_goto (tgt := 254) hx hb d_M_fits_237 (by decide) ?_
                    exact hJ254 _ _ _ _ _ _ _ _ _ _ _ h hw (lv_sub hl [1, 2, 3, 4, 5, 6, 7] rfl)
            · have h := (if_pos c_141).symm.trans h
              refine lv_aload_n hx hb d_M_fits_144 rfl (lv_at hl 1 rfl) ?_
              refine gf_M_114 hx hb hts hnw hown hw d_M_fits_145 ?_
              refine lv_iload hx hb d_M_fits_148 (lv_at hl 7 rfl) ?_
              refine lv_aload_n hx hb d_M_fits_150 rfl (lv_at hl 1 rfl) ?_
              refine gf_M_111 hx hb hts hnw hown hw d_M_fits_151 ?_
              refine lv_iload hx hb d_M_fits_154 (lv_at hl 7 rfl) ?_
              obtain ⟨x156, g_156, e_156, h⟩ := sk_rI_some h
              refine al_M33 hx hb hw g_156 e_156 d_M_fits_156 ?_
              have hJ201 : ∀ (st : sk_M) (v3 : Int32) (v4 : Int32) (v5 : Int32) (v6 : Int32) (v7 : Int32) (v8 : Int32) (s1 : Int32) (s2 : Int32) (H : Heap) (locs : List Loc) (ls : Array Slot), M_fits_J201 N (fun st v3 v4 v5 v7 => M_fits_J266 N (fun st => M_fits_J316 N st) self44 st v3 v4 v5 v7) self104 st v3 v4 v5 v6 v7 v8 s1 s2 = some res → sk_w D (tyM cI cZ) A (ceM a cI cZ) s st H locs → lv_has ls 10 [(0, .ref (a 0)), (3, .int v3), (4, .int v4), (5, .int v5), (6, .int v6), (7, .int v7), (8, .int v8)] → W p l e rm_M_fits s m args below meth c H locs 0 0 Q (F0 m 201 ls [.int s2, .int s1, .ref (a 34)]) := by
                intro st v3 v4 v5 v6 v7 v8 s1 s2 H locs ls h hw hl
                unfold M_fits_J201 at h
                obtain ⟨st201, g_201, e_201, h⟩ := sk_wI_some h
                refine as_M34 hx hb hw g_201 e_201 d_M_fits_201 (fun H locs hw => ?_)
                refine lv_goto (tgt := 260) hx hb d_M_fits_202 (by decide) ?_
                refine lv_iinc (v := v8 + 1) (lv' := [(8, .int (v8 + 1)), (0, .ref (a 0)), (3, .int v3), (4, .int v4), (5, .int v5), (6, .int v6), (7, .int v7)]) hx hb d_M_fits_260 hl (k := 6) rfl rfl (by decide) rfl (fun ls hl => ?_)
                refine lv_goto (tgt := 104) hx hb d_M_fits_263 (by decide) ?_
                exact hself104 (st201, v3, v4, v5, v6, v7, (v8 + 1)) h _ _ _ hw (lv_sub hl [1, 2, 3, 4, 5, 6, 0] rfl)
              have hJ196 : ∀ (st : sk_M) (v3 : Int32) (v4 : Int32) (v5 : Int32) (v6 : Int32) (v7 : Int32) (v8 : Int32) (s1 : Int32) (H : Heap) (locs : List Loc) (ls : Array Slot), M_fits_J196 N (fun st v3 v4 v5 v7 => M_fits_J266 N (fun st => M_fits_J316 N st) self44 st v3 v4 v5 v7) self104 st v3 v4 v5 v6 v7 v8 s1 = some res → sk_w D (tyM cI cZ) A (ceM a cI cZ) s st H locs → lv_has ls 10 [(0, .ref (a 0)), (3, .int v3), (4, .int v4), (5, .int v5), (6, .int v6), (7, .int v7), (8, .int v8)] → W p l e rm_M_fits s m args below meth c H locs 0 0 Q (F0 m 196 ls [.int s1, .ref (a 34)]) := by
                intro st v3 v4 v5 v6 v7 v8 s1 H locs ls h hw hl
                unfold M_fits_J196 at h
                refine lv_iconst (v := 1) hx hb d_M_fits_196 (by decide) ?_
                refine lv_goto (tgt := 201) hx hb d_M_fits_197 (by decide) ?_
                exact hJ201 _ _ _ _ _ _ _ _ _ _ _ _ h hw (lv_sub hl [0, 1, 2, 3, 4, 5, 6] rfl)
              refine lv_if_ne (tgt := 196) hx hb d_M_fits_157 (by decide) (fun c_157 => ?_) (fun c_157 => ?_)
              · have h := (if_neg c_157).symm.trans h
                exact hJ196 _ _ _ _ _ _ _ _ _ _ _ h hw (lv_sub hl [1, 2, 3, 4, 5, 6, 7] rfl)
              · have h := (if_pos c_157).symm.trans h
                refine lv_iload hx hb d_M_fits_160 (lv_at hl 7 rfl) ?_
                have hJ200 : ∀ (st : sk_M) (v3 : Int32) (v4 : Int32) (v5 : Int32) (v6 : Int32) (v7 : Int32) (v8 : Int32) (s1 : Int32) (H : Heap) (locs : List Loc) (ls : Array Slot), M_fits_J200 N (fun st v3 v4 v5 v7 => M_fits_J266 N (fun st => M_fits_J316 N st) self44 st v3 v4 v5 v7) self104 st v3 v4 v5 v6 v7 v8 s1 = some res → sk_w D (tyM cI cZ) A (ceM a cI cZ) s st H locs → lv_has ls 10 [(0, .ref (a 0)), (3, .int v3), (4, .int v4), (5, .int v5), (6, .int v6), (7, .int v7), (8, .int v8)] → W p l e rm_M_fits s m args below meth c H locs 0 0 Q (F0 m 200 ls [.int s1, .ref (a 34)]) := by
                  intro st v3 v4 v5 v6 v7 v8 s1 H locs ls h hw hl
                  unfold M_fits_J200 at h
                  refine lv_iconst (v := 0) hx hb d_M_fits_200 (by decide) ?_
                  exact hJ201 _ _ _ _ _ _ _ _ _ _ _ _ h hw (lv_sub hl [0, 1, 2, 3, 4, 5, 6] rfl)
                refine lv_if_le (tgt := 200) hx hb d_M_fits_162 (by decide) (fun c_162 => ?_) (fun c_162 => ?_)
                · have h := (if_pos c_162).symm.trans h
                  exact hJ200 _ _ _ _ _ _ _ _ _ _ _ h hw (lv_sub hl [1, 2, 3, 4, 5, 6, 7] rfl)
                · have h := (if_neg c_162).symm.trans h
                  refine lv_aload_n hx hb d_M_fits_165 rfl (lv_at hl 1 rfl) ?_
                  refine gf_M_114 hx hb hts hnw hown hw d_M_fits_166 ?_
                  refine lv_iload hx hb d_M_fits_169 (lv_at hl 7 rfl) ?_
                  refine lv_iconst (v := 1) hx hb d_M_fits_171 (by decide) ?_
                  refine lv_isub hx hb d_M_fits_172 ?_
                  obtain ⟨x173, g_173, e_173, h⟩ := sk_rI_some h
                  refine al_M34 hx hb hw g_173 e_173 d_M_fits_173 ?_
                  refine lv_if_eq (tgt := 200) hx hb d_M_fits_174 (by decide) (fun c_174 => ?_) (fun c_174 => ?_)
                  · have h := (if_pos c_174).symm.trans h
                    exact hJ200 _ _ _ _ _ _ _ _ _ _ _ h hw (lv_sub hl [1, 2, 3, 4, 5, 6, 7] rfl)
                  · have h := (if_neg c_174).symm.trans h
                    refine lv_iload hx hb d_M_fits_177 (lv_at hl 6 rfl) ?_
                    refine lv_if_ne (tgt := 196) hx hb d_M_fits_179 (by decide) (fun c_179 => ?_) (fun c_179 => ?_)
                    · have h := (if_neg c_179).symm.trans h
                      exact hJ196 _ _ _ _ _ _ _ _ _ _ _ h hw (lv_sub hl [1, 2, 3, 4, 5, 6, 7] rfl)
                    · have h := (if_pos c_179).symm.trans h
                      refine lv_aload_n hx hb d_M_fits_182 rfl (lv_at hl 1 rfl) ?_
                      refine gf_M_108 hx hb hts hnw hown hw d_M_fits_183 ?_
                      refine lv_iload hx hb d_M_fits_186 (lv_at hl 7 rfl) ?_
                      refine lv_iconst (v := 1) hx hb d_M_fits_188 (by decide) ?_
                      refine lv_isub hx hb d_M_fits_189 ?_
                      obtain ⟨x190, g_190, e_190, h⟩ := sk_rI_some h
                      refine al_M32 hx hb hw g_190 e_190 d_M_fits_190 ?_
                      refine lv_bipush (v := 46) hx hb d_M_fits_191 (by decide) ?_
                      refine lv_icmp_eq (tgt := 200) hx hb d_M_fits_193 (by decide) (fun c_193 => ?_) (fun c_193 => ?_)
                      · have h := (if_pos c_193).symm.trans h
                        exact hJ200 _ _ _ _ _ _ _ _ _ _ _ h hw (lv_sub hl [1, 2, 3, 4, 5, 6, 7] rfl)
                      · have h := (if_neg c_193).symm.trans h
                        exact hJ196 _ _ _ _ _ _ _ _ _ _ _ h hw (lv_sub hl [1, 2, 3, 4, 5, 6, 7] rfl)
          have hJ134 : ∀ (st : sk_M) (v3 : Int32) (v4 : Int32) (v5 : Int32) (v6 : Int32) (v7 : Int32) (v8 : Int32) (H : Heap) (locs : List Loc) (ls : Array Slot), M_fits_J134 N (fun st v3 v4 v5 v7 => M_fits_J266 N (fun st => M_fits_J316 N st) self44 st v3 v4 v5 v7) self104 st v3 v4 v5 v6 v7 v8 = some res → sk_w D (tyM cI cZ) A (ceM a cI cZ) s st H locs → lv_has ls 10 [(0, .ref (a 0)), (3, .int v3), (4, .int v4), (5, .int v5), (6, .int v6), (7, .int v7), (8, .int v8)] → W p l e rm_M_fits s m args below meth c H locs 0 0 Q (F0 m 134 ls []) := by
            intro st v3 v4 v5 v6 v7 v8 H locs ls h hw hl
            unfold M_fits_J134 at h
            refine lv_iconst (v := 0) hx hb d_M_fits_134 (by decide) ?_
            exact hJ135 _ _ _ _ _ _ _ _ _ _ _ h hw (lv_sub hl [0, 1, 2, 3, 4, 5, 6] rfl)
          refine lv_if_le (tgt := 134) hx hb d_M_fits_115 (by decide) (fun c_115 => ?_) (fun c_115 => ?_)
          · have h := (if_pos c_115).symm.trans h
            exact hJ134 _ _ _ _ _ _ _ _ _ _ h hw (lv_sub hl [0, 1, 2, 3, 4, 5, 6] rfl)
          · have h := (if_neg c_115).symm.trans h
            refine lv_aload_n hx hb d_M_fits_118 rfl (lv_at hl 0 rfl) ?_
            refine gf_M_111 hx hb hts hnw hown hw d_M_fits_119 ?_
            refine lv_iload hx hb d_M_fits_122 (lv_at hl 6 rfl) ?_
            refine lv_iconst (v := 1) hx hb d_M_fits_124 (by decide) ?_
            refine lv_isub hx hb d_M_fits_125 ?_
            obtain ⟨x126, g_126, e_126, h⟩ := sk_rI_some h
            refine al_M33 hx hb hw g_126 e_126 d_M_fits_126 ?_
            refine lv_if_eq (tgt := 134) hx hb d_M_fits_127 (by decide) (fun c_127 => ?_) (fun c_127 => ?_)
            · have h := (if_pos c_127).symm.trans h
              exact hJ134 _ _ _ _ _ _ _ _ _ _ h hw (lv_sub hl [0, 1, 2, 3, 4, 5, 6] rfl)
            · have h := (if_neg c_127).symm.trans h
              refine lv_iconst (v := 1) hx hb d_M_fits_130 (by decide) ?_
              refine lv_goto (tgt := 135) hx hb d_M_fits_131 (by decide) ?_
              exact hJ135 _ _ _ _ _ _ _ _ _ _ _ h hw (lv_sub hl [0, 1, 2, 3, 4, 5, 6] rfl)
      have hJ98 : ∀ (st : sk_M) (v3 : Int32) (v4 : Int32) (v5 : Int32) (v6 : Int32) (H : Heap) (locs : List Loc) (ls : Array Slot), M_fits_J98 N (fun st => M_fits_J316 N st) self44 st v3 v4 v5 v6 = some res → sk_w D (tyM cI cZ) A (ceM a cI cZ) s st H locs → lv_has ls 10 [(0, .ref (a 0)), (3, .int v3), (4, .int v4), (5, .int v5), (6, .int v6)] → W p l e rm_M_fits s m args below meth c H locs 0 0 Q (F0 m 98 ls []) := by
        intro st v3 v4 v5 v6 H locs ls h hw hl
        unfold M_fits_J98 at h
        refine lv_iconst (v := 0) hx hb d_M_fits_98 (by decide) ?_
        exact hJ99 _ _ _ _ _ _ _ _ _ h hw (lv_sub hl [0, 1, 2, 3, 4] rfl)
      refine lv_icmp_ne (tgt := 98) hx hb d_M_fits_66 (by decide) (fun c_66 => ?_) (fun c_66 => ?_)
      · have h := (if_neg c_66).symm.trans h
        exact hJ98 _ _ _ _ _ _ _ _ h hw (lv_sub hl [1, 2, 3, 4, 0] rfl)
      · have h := (if_pos c_66).symm.trans h
        refine lv_iload hx hb d_M_fits_69 (lv_at hl 4 rfl) ?_
        refine lv_iconst (v := 1) hx hb d_M_fits_71 (by decide) ?_
        refine lv_iadd hx hb d_M_fits_72 ?_
        refine lv_iload_n hx hb d_M_fits_73 rfl (lv_at hl 2 rfl) ?_
        refine lv_icmp_ge (tgt := 98) hx hb d_M_fits_74 (by decide) (fun c_74 => ?_) (fun c_74 => ?_)
        · have h := (if_pos c_74).symm.trans h
          exact hJ98 _ _ _ _ _ _ _ _ h hw (lv_sub hl [1, 2, 3, 4, 0] rfl)
        · have h := (if_neg c_74).symm.trans h
          refine lv_aload_n hx hb d_M_fits_77 rfl (lv_at hl 1 rfl) ?_
          refine gf_M_69 hx hb hts hnw hown hw d_M_fits_78 ?_
          refine lv_iload hx hb d_M_fits_81 (lv_at hl 3 rfl) ?_
          refine lv_iload hx hb d_M_fits_83 (lv_at hl 4 rfl) ?_
          refine lv_iadd hx hb d_M_fits_85 ?_
          refine lv_iconst (v := 1) hx hb d_M_fits_86 (by decide) ?_
          refine lv_iadd hx hb d_M_fits_87 ?_
          obtain ⟨x88, g_88, e_88, h⟩ := sk_rI_some h
          refine al_M19 hx hb hw g_88 e_88 d_M_fits_88 ?_
          refine lv_bipush (v := 42) hx hb d_M_fits_89 (by decide) ?_
          refine lv_icmp_ne (tgt := 98) hx hb d_M_fits_91 (by decide) (fun c_91 => ?_) (fun c_91 => ?_)
          · have h := (if_neg c_91).symm.trans h
            exact hJ98 _ _ _ _ _ _ _ _ h hw (lv_sub hl [1, 2, 3, 4, 0] rfl)
          · have h := (if_pos c_91).symm.trans h
            refine lv_iconst (v := 1) hx hb d_M_fits_94 (by decide) ?_
            refine lv_goto (tgt := 99) hx hb d_M_fits_95 (by decide) ?_
            exact hJ99 _ _ _ _ _ _ _ _ _ h hw (lv_sub hl [1, 2, 3, 4, 0] rfl)
  refine sk_lp_run (G := fun (z : sk_M × Int32 × Int32 × Int32 × Int32) => ∀ (H : Heap) (locs : List Loc) (ls : Array Slot), sk_w D (tyM cI cZ) A (ceM a cI cZ) s z.1 H locs → lv_has ls 10 [(0, .ref (a 0)), (3, .int z.2.1), (4, .int z.2.2.1), (5, .int z.2.2.2.1), (6, .int z.2.2.2.2)] → W p l e rm_M_fits s m args below meth c H locs 0 0 Q (F0 m 12 ls [])) ?_ N _ h _ _ _ hw (lv_sub hl [3, 6, 2, 1, 0] rfl)
  rintro self12 ⟨st, v3, v4, v5, v6⟩ hself12 h H locs ls hw hl
  unfold M_fits_L12 at h
  refine lv_iload hx hb d_M_fits_12 (lv_at hl 4 rfl) ?_
  refine lv_aload_n hx hb d_M_fits_14 rfl (lv_at hl 0 rfl) ?_
  refine gf_M_195 hx hb hts hnw hown hw d_M_fits_15 ?_
  refine lv_icmp_gt (tgt := 44) hx hb d_M_fits_18 (by decide) (fun c_18 => ?_) (fun c_18 => ?_)
  · have h := (if_pos c_18).symm.trans h
    exact hJ44 _ _ _ _ _ _ _ h hw (lv_sub hl [0, 1, 2, 3] rfl)
  · have h := (if_neg c_18).symm.trans h
    refine lv_aload_n hx hb d_M_fits_21 rfl (lv_at hl 0 rfl) ?_
    refine gf_M_111 hx hb hts hnw hown hw d_M_fits_22 ?_
    refine lv_iload hx hb d_M_fits_25 (lv_at hl 4 rfl) ?_
    refine lv_iload hx hb d_M_fits_27 (lv_at hl 4 rfl) ?_
    have hJ37 : ∀ (st : sk_M) (v3 : Int32) (v4 : Int32) (v5 : Int32) (v6 : Int32) (s1 : Int32) (s2 : Int32) (H : Heap) (locs : List Loc) (ls : Array Slot), M_fits_J37 N (fun st v3 v4 v5 => M_fits_J44 N st v3 v4 v5) self12 st v3 v4 v5 v6 s1 s2 = some res → sk_w D (tyM cI cZ) A (ceM a cI cZ) s st H locs → lv_has ls 10 [(0, .ref (a 0)), (3, .int v3), (4, .int v4), (5, .int v5), (6, .int v6)] → W p l e rm_M_fits s m args below meth c H locs 0 0 Q (F0 m 37 ls [.int s2, .int s1, .ref (a 33)]) := by
      intro st v3 v4 v5 v6 s1 s2 H locs ls h hw hl
      unfold M_fits_J37 at h
      obtain ⟨st37, g_37, e_37, h⟩ := sk_wI_some h
      refine as_M33 hx hb hw g_37 e_37 d_M_fits_37 (fun H locs hw => ?_)
      refine lv_iinc (v := v6 + 1) (lv' := [(6, .int (v6 + 1)), (0, .ref (a 0)), (3, .int v3), (4, .int v4), (5, .int v5)]) hx hb d_M_fits_38 hl (k := 4) rfl rfl (by decide) rfl (fun ls hl => ?_)
      refine lv_goto (tgt := 12) hx hb d_M_fits_41 (by decide) ?_
      exact hself12 (st37, v3, v4, v5, (v6 + 1)) h _ _ _ hw (lv_sub hl [1, 2, 3, 4, 0] rfl)
    refine lv_if_ne (tgt := 36) hx hb d_M_fits_29 (by decide) (fun c_29 => ?_) (fun c_29 => ?_)
    · have h := (if_neg c_29).symm.trans h
      refine lv_iconst (v := 0) hx hb d_M_fits_36 (by decide) ?_
      exact hJ37 _ _ _ _ _ _ _ _ _ _ h hw (lv_sub hl [0, 1, 2, 3, 4] rfl)
    · have h := (if_pos c_29).symm.trans h
      refine lv_iconst (v := 1) hx hb d_M_fits_32 (by decide) ?_
      refine lv_goto (tgt := 37) hx hb d_M_fits_33 (by decide) ?_
      exact hJ37 _ _ _ _ _ _ _ _ _ _ h hw (lv_sub hl [0, 1, 2, 3, 4] rfl)
set_option maxHeartbeats 4000000 in
set_option maxRecDepth 100000 in
theorem c_M_className {l : Launch} {D : va_G} {A : Nat → Prop} {a : Nat → Nat} {cI cZ : ClassId} {nw : State → Prop} {st : sk_M} {v1 : Int32} {res : sk_M} (hok : sk_ok A nw) (h : M_className st v1 = some res) : sk_Cv l y_M_className w_M_className rm_M_className D (tyM cI cZ) A (ceM a cI cZ) nw [.ref (a 0), .int v1] st res := by
  refine sk_headv (by decide) rfl (Nat.le_of_ble_eq_true rfl) ?_
  intro p e s m args below meth c Q hx hb hml hown hts0 hnw hret ls hl hw
  have hts : ∀ w ∈ TB, w.before args s = true := fun w h => hts0 w (List.mem_cons_of_mem _ h)
  have hown : s.vm.findClass R_M = some m.cls := hown
  have hl : lv_has ls 2 [(0, .ref (a 0)), (1, .int v1)] := hl
  unfold M_className at h
  refine lv_aload_n hx hb d_M_className_0 rfl (lv_at hl 0 rfl) ?_
  refine gf_M_108 hx hb hts hnw hown hw d_M_className_1 ?_
  refine lv_iconst (v := 0) hx hb d_M_className_4 (by decide) ?_
  refine lv_bipush (v := 111) hx hb d_M_className_5 (by decide) ?_
  refine lv_aload_n hx hb d_M_className_7 rfl (lv_at hl 0 rfl) ?_
  refine gf_M_19 hx hb hts hnw hown hw d_M_className_8 ?_
  refine lv_iload_n hx hb d_M_className_11 rfl (lv_at hl 1 rfl) ?_
  obtain ⟨x12, g_12, e_12, h⟩ := sk_rI_some h
  refine al_M4 hx hb hw g_12 e_12 d_M_className_12 ?_
  refine lv_iadd hx hb d_M_className_13 ?_
  obtain ⟨st14, g_14, e_14, h⟩ := sk_wI_some h
  refine as_M32 hx hb hw g_14 e_14 d_M_className_14 (fun H locs hw => ?_)
  refine lv_aload_n hx hb d_M_className_15 rfl (lv_at hl 0 rfl) ?_
  refine gf_M_108 hx hb hts hnw hown hw d_M_className_16 ?_
  refine lv_iconst (v := 1) hx hb d_M_className_19 (by decide) ?_
  refine lv_bipush (v := 46) hx hb d_M_className_20 (by decide) ?_
  obtain ⟨st22, g_22, e_22, h⟩ := sk_wI_some h
  refine as_M32 hx hb hw g_22 e_22 d_M_className_22 (fun H locs hw => ?_)
  refine lv_aload_n hx hb d_M_className_23 rfl (lv_at hl 0 rfl) ?_
  refine gf_M_108 hx hb hts hnw hown hw d_M_className_24 ?_
  refine lv_iconst (v := 2) hx hb d_M_className_27 (by decide) ?_
  refine lv_bipush (v := 65) hx hb d_M_className_28 (by decide) ?_
  refine lv_iload_n hx hb d_M_className_30 rfl (lv_at hl 1 rfl) ?_
  refine lv_iadd hx hb d_M_className_31 ?_
  obtain ⟨st32, g_32, e_32, h⟩ := sk_wI_some h
  refine as_M32 hx hb hw g_32 e_32 d_M_className_32 (fun H locs hw => ?_)
  refine lv_aload_n hx hb d_M_className_33 rfl (lv_at hl 0 rfl) ?_
  refine lv_iconst (v := 3) hx hb d_M_className_34 (by decide) ?_
  obtain ⟨st35, e_35, h⟩ := sk_fI_some h
  refine pf_M_195 hx hb hts hnw hown hw e_35 d_M_className_35 (fun H locs hw => ?_)
  exact hret _ _ _ _ _ (Option.some.inj h) hw d_M_className_38
set_option maxHeartbeats 4000000 in
set_option maxRecDepth 100000 in
theorem c_M_put {l : Launch} {D : va_G} {A : Nat → Prop} {a : Nat → Nat} {cI cZ : ClassId} {nw : State → Prop} {st : sk_M} {v1 : Int32} {res : sk_M} (hok : sk_ok A nw) (h : M_put st v1 = some res) : sk_Cv l y_M_put w_M_put rm_M_put D (tyM cI cZ) A (ceM a cI cZ) nw [.ref (a 0), .int v1] st res := by
  refine sk_headv (by decide) rfl (Nat.le_of_ble_eq_true rfl) ?_
  intro p e s m args below meth c Q hx hb hml hown hts0 hnw hret ls hl hw
  have hts : ∀ w ∈ TB, w.before args s = true := fun w h => hts0 w (List.mem_cons_of_mem _ h)
  have hown : s.vm.findClass R_M = some m.cls := hown
  have hl : lv_has ls 2 [(0, .ref (a 0)), (1, .int v1)] := hl
  unfold M_put at h
  refine lv_aload_n hx hb d_M_put_0 rfl (lv_at hl 0 rfl) ?_
  refine gf_M_108 hx hb hts hnw hown hw d_M_put_1 ?_
  refine lv_aload_n hx hb d_M_put_4 rfl (lv_at hl 0 rfl) ?_
  refine gf_M_195 hx hb hts hnw hown hw d_M_put_5 ?_
  refine lv_iload_n hx hb d_M_put_8 rfl (lv_at hl 1 rfl) ?_
  obtain ⟨st9, g_9, e_9, h⟩ := sk_wI_some h
  refine as_M32 hx hb hw g_9 e_9 d_M_put_9 (fun H locs hw => ?_)
  refine lv_aload_n hx hb d_M_put_10 rfl (lv_at hl 0 rfl) ?_
  refine lv_dup hx hb d_M_put_11 rfl ?_
  refine gf_M_195 hx hb hts hnw hown hw d_M_put_12 ?_
  refine lv_iconst (v := 1) hx hb d_M_put_15 (by decide) ?_
  refine lv_iadd hx hb d_M_put_16 ?_
  obtain ⟨st17, e_17, h⟩ := sk_fI_some h
  refine pf_M_195 hx hb hts hnw hown hw e_17 d_M_put_17 (fun H locs hw => ?_)
  exact hret _ _ _ _ _ (Option.some.inj h) hw d_M_put_20
set_option maxHeartbeats 4000000 in
set_option maxRecDepth 100000 in
theorem c_M_wordText {l : Launch} {D : va_G} {A : Nat → Prop} {a : Nat → Nat} {cI cZ : ClassId} {nw : State → Prop} {st : sk_M} {v1 : Int32} {res : sk_M} (hok : sk_ok A nw) (h : M_wordText st v1 = some res) : sk_Cv l y_M_wordText w_M_wordText rm_M_wordText D (tyM cI cZ) A (ceM a cI cZ) nw [.ref (a 0), .int v1] st res := by
  refine sk_headv (by decide) rfl (Nat.le_of_ble_eq_true rfl) ?_
  intro p e s m args below meth c Q hx hb hml hown hts0 hnw hret ls hl hw
  have hts : ∀ w ∈ TB, w.before args s = true := fun w h => hts0 w (List.mem_cons_of_mem _ h)
  have hown : s.vm.findClass R_M = some m.cls := hown
  have hl : lv_has ls 2 [(0, .ref (a 0)), (1, .int v1)] := hl
  unfold M_wordText at h
  refine lv_aload_n hx hb d_M_wordText_0 rfl (lv_at hl 0 rfl) ?_
  refine lv_iconst (v := 0) hx hb d_M_wordText_1 (by decide) ?_
  obtain ⟨st2, e_2, h⟩ := sk_fI_some h
  refine pf_M_195 hx hb hts hnw hown hw e_2 d_M_wordText_2 (fun H locs hw => ?_)
  refine lv_iload_n hx hb d_M_wordText_5 rfl (lv_at hl 1 rfl) ?_
  refine lv_bipush (v := 6) hx hb d_M_wordText_6 (by decide) ?_
  refine lv_icmp_ge (tgt := 20) hx hb d_M_wordText_8 (by decide) (fun c_8 => ?_) (fun c_8 => ?_)
  · have h := (if_pos c_8).symm.trans h
    refine lv_aload_n hx hb d_M_wordText_20 rfl (lv_at hl 0 rfl) ?_
    refine lv_bipush (v := 60) hx hb d_M_wordText_21 (by decide) ?_
    obtain ⟨st23, q_23, h⟩ := sk_oR_some h
    refine sk_callVv (As := [.int (60 : Int32)]) (rest := []) ⟨hx, hb, hml, hown, hts⟩ hw hnw hok (c_M_put hok q_23) (cw_M_198 hts hnw (by decide)) (rc_M hw) rfl hl.1 rfl (Nat.le_of_ble_eq_true rfl) d_M_wordText_23 (fun H locs hw => ?_)
    refine lv_iload_n hx hb d_M_wordText_26 rfl (lv_at hl 1 rfl) ?_
    refine lv_bipush (v := 7) hx hb d_M_wordText_27 (by decide) ?_
    have hJ44 : ∀ (st : sk_M) (H : Heap) (locs : List Loc) (ls : Array Slot), M_wordText_J44 st = some res → sk_w D (tyM cI cZ) A (ceM a cI cZ) s st H locs → lv_has ls 2 [(0, .ref (a 0))] → W p l e rm_M_wordText s m args below meth c H locs 0 0 Q (F0 m 44 ls []) := by
      intro st H locs ls h hw hl
      unfold M_wordText_J44 at h
      refine lv_aload_n hx hb d_M_wordText_44 rfl (lv_at hl 0 rfl) ?_
      refine lv_bipush (v := 105) hx hb d_M_wordText_45 (by decide) ?_
      obtain ⟨st47, q_47, h⟩ := sk_oR_some h
      refine sk_callVv (As := [.int (105 : Int32)]) (rest := []) ⟨hx, hb, hml, hown, hts⟩ hw hnw hok (c_M_put hok q_47) (cw_M_198 hts hnw (by decide)) (rc_M hw) rfl hl.1 rfl (Nat.le_of_ble_eq_true rfl) d_M_wordText_47 (fun H locs hw => ?_)
      refine lv_aload_n hx hb d_M_wordText_50 rfl (lv_at hl 0 rfl) ?_
      refine lv_bipush (v := 110) hx hb d_M_wordText_51 (by decide) ?_
      obtain ⟨st53, q_53, h⟩ := sk_oR_some h
      refine sk_callVv (As := [.int (110 : Int32)]) (rest := []) ⟨hx, hb, hml, hown, hts⟩ hw hnw hok (c_M_put hok q_53) (cw_M_198 hts hnw (by decide)) (rc_M hw) rfl hl.1 rfl (Nat.le_of_ble_eq_true rfl) d_M_wordText_53 (fun H locs hw => ?_)
      refine lv_aload_n hx hb d_M_wordText_56 rfl (lv_at hl 0 rfl) ?_
      refine lv_bipush (v := 105) hx hb d_M_wordText_57 (by decide) ?_
      obtain ⟨st59, q_59, h⟩ := sk_oR_some h
      refine sk_callVv (As := [.int (105 : Int32)]) (rest := []) ⟨hx, hb, hml, hown, hts⟩ hw hnw hok (c_M_put hok q_59) (cw_M_198 hts hnw (by decide)) (rc_M hw) rfl hl.1 rfl (Nat.le_of_ble_eq_true rfl) d_M_wordText_59 (fun H locs hw => ?_)
      refine lv_aload_n hx hb d_M_wordText_62 rfl (lv_at hl 0 rfl) ?_
      refine lv_bipush (v := 116) hx hb d_M_wordText_63 (by decide) ?_
      obtain ⟨st65, q_65, h⟩ := sk_oR_some h
      refine sk_callVv (As := [.int (116 : Int32)]) (rest := []) ⟨hx, hb, hml, hown, hts⟩ hw hnw hok (c_M_put hok q_65) (cw_M_198 hts hnw (by decide)) (rc_M hw) rfl hl.1 rfl (Nat.le_of_ble_eq_true rfl) d_M_wordText_65 (fun H locs hw => ?_)
      refine lv_aload_n hx hb d_M_wordText_68 rfl (lv_at hl 0 rfl) ?_
      refine lv_bipush (v := 62) hx hb d_M_wordText_69 (by decide) ?_
      obtain ⟨st71, q_71, h⟩ := sk_oR_some h
      refine sk_callVv (As := [.int (62 : Int32)]) (rest := []) ⟨hx, hb, hml, hown, hts⟩ hw hnw hok (c_M_put hok q_71) (cw_M_198 hts hnw (by decide)) (rc_M hw) rfl hl.1 rfl (Nat.le_of_ble_eq_true rfl) d_M_wordText_71 (fun H locs hw => ?_)
      exact hret _ _ _ _ _ (Option.some.inj h) hw d_M_wordText_74
    refine lv_icmp_ne (tgt := 44) hx hb d_M_wordText_29 (by decide) (fun c_29 => ?_) (fun c_29 => ?_)
    · have h := (if_neg c_29).symm.trans h
      exact hJ44 _ _ _ _ h hw (lv_sub hl [0] rfl)
    · have h := (if_pos c_29).symm.trans h
      refine lv_aload_n hx hb d_M_wordText_32 rfl (lv_at hl 0 rfl) ?_
      refine lv_bipush (v := 99) hx hb d_M_wordText_33 (by decide) ?_
      obtain ⟨st35, q_35, h⟩ := sk_oR_some h
      refine sk_callVv (As := [.int (99 : Int32)]) (rest := []) ⟨hx, hb, hml, hown, hts⟩ hw hnw hok (c_M_put hok q_35) (cw_M_198 hts hnw (by decide)) (rc_M hw) rfl hl.1 rfl (Nat.le_of_ble_eq_true rfl) d_M_wordText_35 (fun H locs hw => ?_)
      refine lv_aload_n hx hb d_M_wordText_38 rfl (lv_at hl 0 rfl) ?_
      refine lv_bipush (v := 108) hx hb d_M_wordText_39 (by decide) ?_
      obtain ⟨st41, q_41, h⟩ := sk_oR_some h
      refine sk_callVv (As := [.int (108 : Int32)]) (rest := []) ⟨hx, hb, hml, hown, hts⟩ hw hnw hok (c_M_put hok q_41) (cw_M_198 hts hnw (by decide)) (rc_M hw) rfl hl.1 rfl (Nat.le_of_ble_eq_true rfl) d_M_wordText_41 (fun H locs hw => ?_)
      exact hJ44 _ _ _ _ h hw (lv_sub hl [0] rfl)
  · have h := (if_neg c_8).symm.trans h
    refine lv_aload_n hx hb d_M_wordText_11 rfl (lv_at hl 0 rfl) ?_
    refine lv_bipush (v := 114) hx hb d_M_wordText_12 (by decide) ?_
    refine lv_iload_n hx hb d_M_wordText_14 rfl (lv_at hl 1 rfl) ?_
    refine lv_iadd hx hb d_M_wordText_15 ?_
    obtain ⟨st16, q_16, h⟩ := sk_oR_some h
    refine sk_callVv (As := [.int ((114 : Int32) + v1)]) (rest := []) ⟨hx, hb, hml, hown, hts⟩ hw hnw hok (c_M_put hok q_16) (cw_M_198 hts hnw (by decide)) (rc_M hw) rfl hl.1 rfl (Nat.le_of_ble_eq_true rfl) d_M_wordText_16 (fun H locs hw => ?_)
    exact hret _ _ _ _ _ (Option.some.inj h) hw d_M_wordText_19
set_option maxHeartbeats 4000000 in
set_option maxRecDepth 100000 in
theorem c_M_fitsUp {l : Launch} {D : va_G} {A : Nat → Prop} {a : Nat → Nat} {cI cZ : ClassId} {nw : State → Prop} {N : Nat} {st : sk_M} {v1 : Int32} {v2 : Int32} {res : Int32 × sk_M} (hok : sk_ok A nw) (h : M_fitsUp N st v1 v2 = some res) : sk_Ci l y_M_fitsUp w_M_fitsUp rm_M_fitsUp D (tyM cI cZ) A (ceM a cI cZ) nw [.ref (a 0), .int v1, .int v2] st res.1 res.2 := by
  refine sk_headi .boolean (by decide) rfl (Nat.le_of_ble_eq_true rfl) ?_
  intro p e s m args below meth c Q hx hb hml hown hts0 hnw hret ls hl hw
  have hts : ∀ w ∈ TB, w.before args s = true := fun w h => hts0 w (List.mem_cons_of_mem _ h)
  have hown : s.vm.findClass R_M = some m.cls := hown
  have hl : lv_has ls 5 [(0, .ref (a 0)), (1, .int v1), (2, .int v2)] := hl
  unfold M_fitsUp at h
  refine lv_aload_n hx hb d_M_fitsUp_0 rfl (lv_at hl 0 rfl) ?_
  refine gf_M_81 hx hb hts hnw hown hw d_M_fitsUp_1 ?_
  refine lv_iload_n hx hb d_M_fitsUp_4 rfl (lv_at hl 1 rfl) ?_
  obtain ⟨x5, g_5, e_5, h⟩ := sk_rI_some h
  refine al_M23 hx hb hw g_5 e_5 d_M_fitsUp_5 ?_
  refine lv_if_ge (tgt := 11) hx hb d_M_fitsUp_6 (by decide) (fun c_6 => ?_) (fun c_6 => ?_)
  · have h := (if_pos c_6).symm.trans h
    refine lv_iconst (v := 0) hx hb d_M_fitsUp_11 (by decide) ?_
    refine lv_istore_n (lv' := [(3, .int (0 : Int32)), (0, .ref (a 0)), (1, .int v1), (2, .int v2)]) hx hb d_M_fitsUp_12 rfl hl (by decide) rfl (fun ls hl => ?_)
    refine sk_lp_run (G := fun (z : sk_M × Int32 × Int32 × Int32) => ∀ (H : Heap) (locs : List Loc) (ls : Array Slot), sk_w D (tyM cI cZ) A (ceM a cI cZ) s z.1 H locs → lv_has ls 5 [(0, .ref (a 0)), (1, .int z.2.1), (2, .int z.2.2.1), (3, .int z.2.2.2)] → W p l e rm_M_fitsUp s m args below meth c H locs 0 0 Q (F0 m 13 ls [])) ?_ N _ h _ _ _ hw (lv_sub hl [1, 2, 3, 0] rfl)
    rintro self13 ⟨st, v1, v2, v3⟩ hself13 h H locs ls hw hl
    unfold M_fitsUp_L13 at h
    refine lv_iload_n hx hb d_M_fitsUp_13 rfl (lv_at hl 3 rfl) ?_
    refine lv_bipush (v := 10) hx hb d_M_fitsUp_14 (by decide) ?_
    refine lv_icmp_ge (tgt := 72) hx hb d_M_fitsUp_16 (by decide) (fun c_16 => ?_) (fun c_16 => ?_)
    · have h := (if_pos c_16).symm.trans h
      refine lv_iconst (v := 0) hx hb d_M_fitsUp_72 (by decide) ?_
      exact hret _ _ _ _ _ _ (sk_p1 h) (sk_p2 h) rfl hw d_M_fitsUp_73
    · have h := (if_neg c_16).symm.trans h
      refine lv_aload_n hx hb d_M_fitsUp_19 rfl (lv_at hl 0 rfl) ?_
      refine gf_M_29 hx hb hts hnw hown hw d_M_fitsUp_20 ?_
      refine lv_iload_n hx hb d_M_fitsUp_23 rfl (lv_at hl 2 rfl) ?_
      obtain ⟨x24, g_24, e_24, h⟩ := sk_rI_some h
      refine al_M7 hx hb hw g_24 e_24 d_M_fitsUp_24 ?_
      refine lv_iload_n hx hb d_M_fitsUp_25 rfl (lv_at hl 3 rfl) ?_
      refine lv_ishr hx hb d_M_fitsUp_26 ?_
      refine lv_iconst (v := 1) hx hb d_M_fitsUp_27 (by decide) ?_
      refine lv_iand hx hb d_M_fitsUp_28 ?_
      refine lv_if_ne (tgt := 35) hx hb d_M_fitsUp_29 (by decide) (fun c_29 => ?_) (fun c_29 => ?_)
      · have h := (if_neg c_29).symm.trans h
        refine lv_aload_n hx hb d_M_fitsUp_35 rfl (lv_at hl 0 rfl) ?_
        refine lv_iload_n hx hb d_M_fitsUp_36 rfl (lv_at hl 3 rfl) ?_
        obtain ⟨st37, q_37, h⟩ := sk_oR_some h
        refine sk_callVv (As := [.int v3]) (rest := []) ⟨hx, hb, hml, hown, hts⟩ hw hnw hok (c_M_className hok q_37) (cw_M_202 hts hnw (by decide)) (rc_M hw) rfl hl.1 rfl (Nat.le_of_ble_eq_true rfl) d_M_fitsUp_37 (fun H locs hw => ?_)
        refine lv_aload_n hx hb d_M_fitsUp_40 rfl (lv_at hl 0 rfl) ?_
        refine lv_iload_n hx hb d_M_fitsUp_41 rfl (lv_at hl 1 rfl) ?_
        refine lv_aload_n hx hb d_M_fitsUp_42 rfl (lv_at hl 0 rfl) ?_
        refine gf_M_81 hx hb hts hnw hown hw d_M_fitsUp_43 ?_
        refine lv_iload_n hx hb d_M_fitsUp_46 rfl (lv_at hl 1 rfl) ?_
        obtain ⟨x47, g_47, e_47, h⟩ := sk_rI_some h
        refine al_M23 hx hb hw g_47 e_47 d_M_fitsUp_47 ?_
        refine lv_aload_n hx hb d_M_fitsUp_48 rfl (lv_at hl 0 rfl) ?_
        refine gf_M_84 hx hb hts hnw hown hw d_M_fitsUp_49 ?_
        refine lv_iload_n hx hb d_M_fitsUp_52 rfl (lv_at hl 1 rfl) ?_
        obtain ⟨x53, g_53, e_53, h⟩ := sk_rI_some h
        refine al_M24 hx hb hw g_53 e_53 d_M_fitsUp_53 ?_
        obtain ⟨x54, st54, q_54, h⟩ := sk_oW_some h
        refine sk_callVi (As := [.int v1, .int x47, .int x53]) (rest := []) ⟨hx, hb, hml, hown, hts⟩ hw hnw hok (c_M_fits hok q_54) (cw_M_205 hts hnw (by decide)) (rc_M hw) rfl hl.1 rfl (Nat.le_of_ble_eq_true rfl) d_M_fitsUp_54 (fun H locs hw => ?_)
        refine lv_istore (lv' := [(4, .int x54), (0, .ref (a 0)), (1, .int v1), (2, .int v2), (3, .int v3)]) hx hb d_M_fitsUp_57 hl (by decide) rfl (fun ls hl => ?_)
        refine lv_iload hx hb d_M_fitsUp_59 (lv_at hl 0 rfl) ?_
        refine lv_if_eq (tgt := 66) hx hb d_M_fitsUp_61 (by decide) (fun c_61 => ?_) (fun c_61 => ?_)
        · have h := (if_pos c_61).symm.trans h
          refine lv_iinc (v := v3 + 1) (lv' := [(3, .int (v3 + 1)), (4, .int x54), (0, .ref (a 0)), (1, .int v1), (2, .int v2)]) hx hb d_M_fitsUp_66 hl (k := 4) rfl rfl (by decide) rfl (fun ls hl => ?_)
          refine lv_goto (tgt := 13) hx hb d_M_fitsUp_69 (by decide) ?_
          exact hself13 (st54, v1, v2, (v3 + 1)) h _ _ _ hw (lv_sub hl [2, 3, 4, 0] rfl)
        · have h := (if_neg c_61).symm.trans h
          refine lv_iconst (v := 1) hx hb d_M_fitsUp_64 (by decide) ?_
          exact hret _ _ _ _ _ _ (sk_p1 h) (sk_p2 h) rfl hw d_M_fitsUp_65
      · have h := (if_pos c_29).symm.trans h
        refine lv_goto (tgt := 66) hx hb d_M_fitsUp_32 (by decide) ?_
        refine lv_iinc (v := v3 + 1) (lv' := [(3, .int (v3 + 1)), (0, .ref (a 0)), (1, .int v1), (2, .int v2)]) hx hb d_M_fitsUp_66 hl (k := 3) rfl rfl (by decide) rfl (fun ls hl => ?_)
        refine lv_goto (tgt := 13) hx hb d_M_fitsUp_69 (by decide) ?_
        exact hself13 (st, v1, v2, (v3 + 1)) h _ _ _ hw (lv_sub hl [1, 2, 3, 0] rfl)
  · have h := (if_neg c_6).symm.trans h
    refine lv_iconst (v := 1) hx hb d_M_fitsUp_9 (by decide) ?_
    exact hret _ _ _ _ _ _ (sk_p1 h) (sk_p2 h) rfl hw d_M_fitsUp_10
set_option maxHeartbeats 4000000 in
set_option maxRecDepth 100000 in
theorem c_M_isAbout {l : Launch} {D : va_G} {A : Nat → Prop} {a : Nat → Nat} {cI cZ : ClassId} {nw : State → Prop} {N : Nat} {st : sk_M} {v1 : Int32} {v2 : Int32} {res : Int32 × sk_M} (hok : sk_ok A nw) (h : M_isAbout N st v1 v2 = some res) : sk_Ci l y_M_isAbout w_M_isAbout rm_M_isAbout D (tyM cI cZ) A (ceM a cI cZ) nw [.ref (a 0), .int v1, .int v2] st res.1 res.2 := by
  refine sk_headi .boolean (by decide) rfl (Nat.le_of_ble_eq_true rfl) ?_
  intro p e s m args below meth c Q hx hb hml hown hts0 hnw hret ls hl hw
  have hts : ∀ w ∈ TB, w.before args s = true := fun w h => hts0 w (List.mem_cons_of_mem _ h)
  have hown : s.vm.findClass R_M = some m.cls := hown
  have hl : lv_has ls 3 [(0, .ref (a 0)), (1, .int v1), (2, .int v2)] := hl
  unfold M_isAbout at h
  refine lv_iload_n hx hb d_M_isAbout_0 rfl (lv_at hl 2 rfl) ?_
  refine lv_if_eq (tgt := 13) hx hb d_M_isAbout_1 (by decide) (fun c_1 => ?_) (fun c_1 => ?_)
  · have h := (if_pos c_1).symm.trans h
    refine lv_iconst (v := 0) hx hb d_M_isAbout_13 (by decide) ?_
    exact hret _ _ _ _ _ _ (sk_p1 h) (sk_p2 h) rfl hw d_M_isAbout_14
  · have h := (if_neg c_1).symm.trans h
    refine lv_aload_n hx hb d_M_isAbout_4 rfl (lv_at hl 0 rfl) ?_
    refine gf_M_7 hx hb hts hnw hown hw d_M_isAbout_5 ?_
    refine lv_iload_n hx hb d_M_isAbout_8 rfl (lv_at hl 2 rfl) ?_
    obtain ⟨x9, g_9, e_9, h⟩ := sk_rI_some h
    refine al_M1 hx hb hw g_9 e_9 d_M_isAbout_9 ?_
    refine lv_if_ne (tgt := 15) hx hb d_M_isAbout_10 (by decide) (fun c_10 => ?_) (fun c_10 => ?_)
    · have h := (if_neg c_10).symm.trans h
      refine lv_aload_n hx hb d_M_isAbout_15 rfl (lv_at hl 0 rfl) ?_
      refine lv_iload_n hx hb d_M_isAbout_16 rfl (lv_at hl 2 rfl) ?_
      obtain ⟨st17, q_17, h⟩ := sk_oR_some h
      refine sk_callVv (As := [.int v2]) (rest := []) ⟨hx, hb, hml, hown, hts⟩ hw hnw hok (c_M_className hok q_17) (cw_M_202 hts hnw (by decide)) (rc_M hw) rfl hl.1 rfl (Nat.le_of_ble_eq_true rfl) d_M_isAbout_17 (fun H locs hw => ?_)
      refine lv_aload_n hx hb d_M_isAbout_20 rfl (lv_at hl 0 rfl) ?_
      refine lv_iload_n hx hb d_M_isAbout_21 rfl (lv_at hl 1 rfl) ?_
      refine lv_aload_n hx hb d_M_isAbout_22 rfl (lv_at hl 0 rfl) ?_
      refine gf_M_75 hx hb hts hnw hown hw d_M_isAbout_23 ?_
      refine lv_iload_n hx hb d_M_isAbout_26 rfl (lv_at hl 1 rfl) ?_
      obtain ⟨x27, g_27, e_27, h⟩ := sk_rI_some h
      refine al_M21 hx hb hw g_27 e_27 d_M_isAbout_27 ?_
      refine lv_aload_n hx hb d_M_isAbout_28 rfl (lv_at hl 0 rfl) ?_
      refine gf_M_78 hx hb hts hnw hown hw d_M_isAbout_29 ?_
      refine lv_iload_n hx hb d_M_isAbout_32 rfl (lv_at hl 1 rfl) ?_
      obtain ⟨x33, g_33, e_33, h⟩ := sk_rI_some h
      refine al_M22 hx hb hw g_33 e_33 d_M_isAbout_33 ?_
      obtain ⟨x34, st34, q_34, h⟩ := sk_oW_some h
      refine sk_callVi (As := [.int v1, .int x27, .int x33]) (rest := []) ⟨hx, hb, hml, hown, hts⟩ hw hnw hok (c_M_fits hok q_34) (cw_M_205 hts hnw (by decide)) (rc_M hw) rfl hl.1 rfl (Nat.le_of_ble_eq_true rfl) d_M_isAbout_34 (fun H locs hw => ?_)
      refine lv_if_eq (tgt := 53) hx hb d_M_isAbout_37 (by decide) (fun c_37 => ?_) (fun c_37 => ?_)
      · have h := (if_pos c_37).symm.trans h
        refine lv_iconst (v := 0) hx hb d_M_isAbout_53 (by decide) ?_
        exact hret _ _ _ _ _ _ (sk_p1 h) (sk_p2 h) rfl hw d_M_isAbout_54
      · have h := (if_neg c_37).symm.trans h
        refine lv_aload_n hx hb d_M_isAbout_40 rfl (lv_at hl 0 rfl) ?_
        refine lv_iload_n hx hb d_M_isAbout_41 rfl (lv_at hl 1 rfl) ?_
        refine lv_iload_n hx hb d_M_isAbout_42 rfl (lv_at hl 2 rfl) ?_
        obtain ⟨x43, st43, q_43, h⟩ := sk_oW_some h
        refine sk_callVi (As := [.int v1, .int v2]) (rest := []) ⟨hx, hb, hml, hown, hts⟩ hw hnw hok (c_M_fitsUp hok q_43) (cw_M_208 hts hnw (by decide)) (rc_M hw) rfl hl.1 rfl (Nat.le_of_ble_eq_true rfl) d_M_isAbout_43 (fun H locs hw => ?_)
        refine lv_if_eq (tgt := 53) hx hb d_M_isAbout_46 (by decide) (fun c_46 => ?_) (fun c_46 => ?_)
        · have h := (if_pos c_46).symm.trans h
          refine lv_iconst (v := 0) hx hb d_M_isAbout_53 (by decide) ?_
          exact hret _ _ _ _ _ _ (sk_p1 h) (sk_p2 h) rfl hw d_M_isAbout_54
        · have h := (if_neg c_46).symm.trans h
          refine lv_iconst (v := 1) hx hb d_M_isAbout_49 (by decide) ?_
          refine lv_goto (tgt := 54) hx hb d_M_isAbout_50 (by decide) ?_
          exact hret _ _ _ _ _ _ (sk_p1 h) (sk_p2 h) rfl hw d_M_isAbout_54
    · have h := (if_pos c_10).symm.trans h
      refine lv_iconst (v := 0) hx hb d_M_isAbout_13 (by decide) ?_
      exact hret _ _ _ _ _ _ (sk_p1 h) (sk_p2 h) rfl hw d_M_isAbout_14
set_option maxHeartbeats 4000000 in
set_option maxRecDepth 100000 in
theorem c_M_isMeant {l : Launch} {D : va_G} {A : Nat → Prop} {a : Nat → Nat} {cI cZ : ClassId} {nw : State → Prop} {N : Nat} {st : sk_M} {v1 : Int32} {v2 : Int32} {res : Int32 × sk_M} (hok : sk_ok A nw) (h : M_isMeant N st v1 v2 = some res) : sk_Ci l y_M_isMeant w_M_isMeant rm_M_isMeant D (tyM cI cZ) A (ceM a cI cZ) nw [.ref (a 0), .int v1, .int v2] st res.1 res.2 := by
  refine sk_headi .boolean (by decide) rfl (Nat.le_of_ble_eq_true rfl) ?_
  intro p e s m args below meth c Q hx hb hml hown hts0 hnw hret ls hl hw
  have hts : ∀ w ∈ TB, w.before args s = true := fun w h => hts0 w (List.mem_cons_of_mem _ h)
  have hown : s.vm.findClass R_M = some m.cls := hown
  have hl : lv_has ls 6 [(0, .ref (a 0)), (1, .int v1), (2, .int v2)] := hl
  unfold M_isMeant at h
  refine lv_aload_n hx hb d_M_isMeant_0 rfl (lv_at hl 0 rfl) ?_
  refine gf_M_44 hx hb hts hnw hown hw d_M_isMeant_1 ?_
  refine lv_iload_n hx hb d_M_isMeant_4 rfl (lv_at hl 2 rfl) ?_
  obtain ⟨x5, g_5, e_5, h⟩ := sk_rI_some h
  refine al_M12 hx hb hw g_5 e_5 d_M_isMeant_5 ?_
  refine lv_if_ne (tgt := 28) hx hb d_M_isMeant_6 (by decide) (fun c_6 => ?_) (fun c_6 => ?_)
  · have h := (if_neg c_6).symm.trans h
    refine lv_iconst (v := 0) hx hb d_M_isMeant_28 (by decide) ?_
    exact hret _ _ _ _ _ _ (sk_p1 h) (sk_p2 h) rfl hw d_M_isMeant_29
  · have h := (if_pos c_6).symm.trans h
    refine lv_aload_n hx hb d_M_isMeant_9 rfl (lv_at hl 0 rfl) ?_
    refine gf_M_129 hx hb hts hnw hown hw d_M_isMeant_10 ?_
    refine lv_bipush (v := 10) hx hb d_M_isMeant_13 (by decide) ?_
    refine lv_iload_n hx hb d_M_isMeant_15 rfl (lv_at hl 1 rfl) ?_
    refine lv_imul hx hb d_M_isMeant_16 ?_
    refine lv_aload_n hx hb d_M_isMeant_17 rfl (lv_at hl 0 rfl) ?_
    refine gf_M_32 hx hb hts hnw hown hw d_M_isMeant_18 ?_
    refine lv_iload_n hx hb d_M_isMeant_21 rfl (lv_at hl 2 rfl) ?_
    obtain ⟨x22, g_22, e_22, h⟩ := sk_rI_some h
    refine al_M8 hx hb hw g_22 e_22 d_M_isMeant_22 ?_
    refine lv_iadd hx hb d_M_isMeant_23 ?_
    obtain ⟨x24, g_24, e_24, h⟩ := sk_rI_some h
    refine al_M39 hx hb hw g_24 e_24 d_M_isMeant_24 ?_
    refine lv_if_ne (tgt := 30) hx hb d_M_isMeant_25 (by decide) (fun c_25 => ?_) (fun c_25 => ?_)
    · have h := (if_neg c_25).symm.trans h
      refine lv_aload_n hx hb d_M_isMeant_30 rfl (lv_at hl 0 rfl) ?_
      refine lv_aload_n hx hb d_M_isMeant_31 rfl (lv_at hl 0 rfl) ?_
      refine gf_M_35 hx hb hts hnw hown hw d_M_isMeant_32 ?_
      refine lv_iload_n hx hb d_M_isMeant_35 rfl (lv_at hl 2 rfl) ?_
      obtain ⟨x36, g_36, e_36, h⟩ := sk_rI_some h
      refine al_M9 hx hb hw g_36 e_36 d_M_isMeant_36 ?_
      obtain ⟨st37, q_37, h⟩ := sk_oR_some h
      refine sk_callVv (As := [.int x36]) (rest := []) ⟨hx, hb, hml, hown, hts⟩ hw hnw hok (c_M_wordText hok q_37) (cw_M_211 hts hnw (by decide)) (rc_M hw) rfl hl.1 rfl (Nat.le_of_ble_eq_true rfl) d_M_isMeant_37 (fun H locs hw => ?_)
      refine lv_iconst (v := 0) hx hb d_M_isMeant_40 (by decide) ?_
      refine lv_istore_n (lv' := [(3, .int (0 : Int32)), (0, .ref (a 0)), (1, .int v1), (2, .int v2)]) hx hb d_M_isMeant_41 rfl hl (by decide) rfl (fun ls hl => ?_)
      refine sk_lp_run (G := fun (z : sk_M × Int32 × Int32 × Int32) => ∀ (H : Heap) (locs : List Loc) (ls : Array Slot), sk_w D (tyM cI cZ) A (ceM a cI cZ) s z.1 H locs → lv_has ls 6 [(0, .ref (a 0)), (1, .int z.2.1), (2, .int z.2.2.1), (3, .int z.2.2.2)] → W p l e rm_M_isMeant s m args below meth c H locs 0 0 Q (F0 m 42 ls [])) ?_ N _ h _ _ _ hw (lv_sub hl [1, 2, 3, 0] rfl)
      rintro self42 ⟨st, v1, v2, v3⟩ hself42 h H locs ls hw hl
      unfold M_isMeant_L42 at h
      refine lv_iload_n hx hb d_M_isMeant_42 rfl (lv_at hl 3 rfl) ?_
      refine lv_aload_n hx hb d_M_isMeant_43 rfl (lv_at hl 0 rfl) ?_
      refine gf_M_87 hx hb hts hnw hown hw d_M_isMeant_44 ?_
      refine lv_iload_n hx hb d_M_isMeant_47 rfl (lv_at hl 1 rfl) ?_
      obtain ⟨x48, g_48, e_48, h⟩ := sk_rI_some h
      refine al_M25 hx hb hw g_48 e_48 d_M_isMeant_48 ?_
      refine lv_icmp_ge (tgt := 134) hx hb d_M_isMeant_49 (by decide) (fun c_49 => ?_) (fun c_49 => ?_)
      · have h := (if_pos c_49).symm.trans h
        refine lv_iconst (v := 0) hx hb d_M_isMeant_134 (by decide) ?_
        exact hret _ _ _ _ _ _ (sk_p1 h) (sk_p2 h) rfl hw d_M_isMeant_135
      · have h := (if_neg c_49).symm.trans h
        refine lv_aload_n hx hb d_M_isMeant_52 rfl (lv_at hl 0 rfl) ?_
        refine gf_M_90 hx hb hts hnw hown hw d_M_isMeant_53 ?_
        refine lv_bipush (v := 16) hx hb d_M_isMeant_56 (by decide) ?_
        refine lv_iload_n hx hb d_M_isMeant_58 rfl (lv_at hl 1 rfl) ?_
        refine lv_imul hx hb d_M_isMeant_59 ?_
        refine lv_iload_n hx hb d_M_isMeant_60 rfl (lv_at hl 3 rfl) ?_
        refine lv_iadd hx hb d_M_isMeant_61 ?_
        obtain ⟨x62, g_62, e_62, h⟩ := sk_rI_some h
        refine al_M26 hx hb hw g_62 e_62 d_M_isMeant_62 ?_
        refine lv_istore (lv' := [(4, .int x62), (0, .ref (a 0)), (1, .int v1), (2, .int v2), (3, .int v3)]) hx hb d_M_isMeant_63 hl (by decide) rfl (fun ls hl => ?_)
        refine lv_iload hx hb d_M_isMeant_65 (lv_at hl 0 rfl) ?_
        refine lv_aload_n hx hb d_M_isMeant_67 rfl (lv_at hl 1 rfl) ?_
        refine gf_M_41 hx hb hts hnw hown hw d_M_isMeant_68 ?_
        refine lv_iload_n hx hb d_M_isMeant_71 rfl (lv_at hl 3 rfl) ?_
        obtain ⟨x72, g_72, e_72, h⟩ := sk_rI_some h
        refine al_M11 hx hb hw g_72 e_72 d_M_isMeant_72 ?_
        refine lv_iconst (v := 1) hx hb d_M_isMeant_73 (by decide) ?_
        refine lv_iand hx hb d_M_isMeant_74 ?_
        refine lv_iconst (v := 1) hx hb d_M_isMeant_75 (by decide) ?_
        have hJ86 : ∀ (st : sk_M) (v1 : Int32) (v2 : Int32) (v3 : Int32) (s0 : Int32) (s1 : Int32) (H : Heap) (locs : List Loc) (ls : Array Slot), M_isMeant_J86 N self42 st v1 v2 v3 s0 s1 = some res → sk_w D (tyM cI cZ) A (ceM a cI cZ) s st H locs → lv_has ls 6 [(0, .ref (a 0)), (1, .int v1), (2, .int v2), (3, .int v3)] → W p l e rm_M_isMeant s m args below meth c H locs 0 0 Q (F0 m 86 ls [.int s1, .int s0]) := by
          intro st v1 v2 v3 s0 s1 H locs ls h hw hl
          unfold M_isMeant_J86 at h
          refine lv_icmp_ne (tgt := 92) hx hb d_M_isMeant_86 (by decide) (fun c_86 => ?_) (fun c_86 => ?_)
          · have h := (if_neg c_86).symm.trans h
            refine lv_aload_n hx hb d_M_isMeant_92 rfl (lv_at hl 0 rfl) ?_
            refine lv_iload_n hx hb d_M_isMeant_93 rfl (lv_at hl 1 rfl) ?_
            refine lv_aload_n hx hb d_M_isMeant_94 rfl (lv_at hl 0 rfl) ?_
            refine gf_M_93 hx hb hts hnw hown hw d_M_isMeant_95 ?_
            refine lv_bipush (v := 16) hx hb d_M_isMeant_98 (by decide) ?_
            refine lv_iload_n hx hb d_M_isMeant_100 rfl (lv_at hl 1 rfl) ?_
            refine lv_imul hx hb d_M_isMeant_101 ?_
            refine lv_iload_n hx hb d_M_isMeant_102 rfl (lv_at hl 3 rfl) ?_
            refine lv_iadd hx hb d_M_isMeant_103 ?_
            obtain ⟨x104, g_104, e_104, h⟩ := sk_rI_some h
            refine al_M27 hx hb hw g_104 e_104 d_M_isMeant_104 ?_
            refine lv_aload_n hx hb d_M_isMeant_105 rfl (lv_at hl 0 rfl) ?_
            refine gf_M_96 hx hb hts hnw hown hw d_M_isMeant_106 ?_
            refine lv_bipush (v := 16) hx hb d_M_isMeant_109 (by decide) ?_
            refine lv_iload_n hx hb d_M_isMeant_111 rfl (lv_at hl 1 rfl) ?_
            refine lv_imul hx hb d_M_isMeant_112 ?_
            refine lv_iload_n hx hb d_M_isMeant_113 rfl (lv_at hl 3 rfl) ?_
            refine lv_iadd hx hb d_M_isMeant_114 ?_
            obtain ⟨x115, g_115, e_115, h⟩ := sk_rI_some h
            refine al_M28 hx hb hw g_115 e_115 d_M_isMeant_115 ?_
            obtain ⟨x116, st116, q_116, h⟩ := sk_oW_some h
            refine sk_callVi (As := [.int v1, .int x104, .int x115]) (rest := []) ⟨hx, hb, hml, hown, hts⟩ hw hnw hok (c_M_fits hok q_116) (cw_M_205 hts hnw (by decide)) (rc_M hw) rfl hl.1 rfl (Nat.le_of_ble_eq_true rfl) d_M_isMeant_116 (fun H locs hw => ?_)
            refine lv_istore (lv' := [(5, .int x116), (0, .ref (a 0)), (1, .int v1), (2, .int v2), (3, .int v3)]) hx hb d_M_isMeant_119 hl (by decide) rfl (fun ls hl => ?_)
            refine lv_iload hx hb d_M_isMeant_121 (lv_at hl 0 rfl) ?_
            refine lv_if_eq (tgt := 128) hx hb d_M_isMeant_123 (by decide) (fun c_123 => ?_) (fun c_123 => ?_)
            · have h := (if_pos c_123).symm.trans h
              refine lv_iinc (v := v3 + 1) (lv' := [(3, .int (v3 + 1)), (5, .int x116), (0, .ref (a 0)), (1, .int v1), (2, .int v2)]) hx hb d_M_isMeant_128 hl (k := 4) rfl rfl (by decide) rfl (fun ls hl => ?_)
              refine lv_goto (tgt := 42) hx hb d_M_isMeant_131 (by decide) ?_
              exact hself42 (st116, v1, v2, (v3 + 1)) h _ _ _ hw (lv_sub hl [2, 3, 4, 0] rfl)
            · have h := (if_neg c_123).symm.trans h
              refine lv_iconst (v := 1) hx hb d_M_isMeant_126 (by decide) ?_
              exact hret _ _ _ _ _ _ (sk_p1 h) (sk_p2 h) rfl hw d_M_isMeant_127
          · have h := (if_pos c_86).symm.trans h
            refine lv_goto (tgt := 128) hx hb d_M_isMeant_89 (by decide) ?_
            refine lv_iinc (v := v3 + 1) (lv' := [(3, .int (v3 + 1)), (0, .ref (a 0)), (1, .int v1), (2, .int v2)]) hx hb d_M_isMeant_128 hl (k := 3) rfl rfl (by decide) rfl (fun ls hl => ?_)
            refine lv_goto (tgt := 42) hx hb d_M_isMeant_131 (by decide) ?_
            exact hself42 (st, v1, v2, (v3 + 1)) h _ _ _ hw (lv_sub hl [1, 2, 3, 0] rfl)
        refine lv_icmp_ne (tgt := 84) hx hb d_M_isMeant_76 (by decide) (fun c_76 => ?_) (fun c_76 => ?_)
        · have h := (if_neg c_76).symm.trans h
          refine lv_bipush (v := 109) hx hb d_M_isMeant_84 (by decide) ?_
          exact hJ86 _ _ _ _ _ _ _ _ _ h hw (lv_sub hl [1, 2, 3, 4] rfl)
        · have h := (if_pos c_76).symm.trans h
          refine lv_bipush (v := 102) hx hb d_M_isMeant_79 (by decide) ?_
          refine lv_goto (tgt := 86) hx hb d_M_isMeant_81 (by decide) ?_
          exact hJ86 _ _ _ _ _ _ _ _ _ h hw (lv_sub hl [1, 2, 3, 4] rfl)
    · have h := (if_pos c_25).symm.trans h
      refine lv_iconst (v := 0) hx hb d_M_isMeant_28 (by decide) ?_
      exact hret _ _ _ _ _ _ (sk_p1 h) (sk_p2 h) rfl hw d_M_isMeant_29
set_option maxHeartbeats 4000000 in
set_option maxRecDepth 100000 in
theorem c_M_superOf {l : Launch} {D : va_G} {A : Nat → Prop} {a : Nat → Nat} {cI cZ : ClassId} {nw : State → Prop} {st : sk_M} {v1 : Int32} {res : Int32} (hok : sk_ok A nw) (h : M_superOf st v1 = some res) : sk_Ci l y_M_superOf w_M_superOf rm_M_superOf D (tyM cI cZ) A (ceM a cI cZ) nw [.ref (a 0), .int v1] st res st := by
  refine sk_headi .int (by decide) rfl (Nat.le_of_ble_eq_true rfl) ?_
  intro p e s m args below meth c Q hx hb hml hown hts0 hnw hret ls hl hw
  have hts : ∀ w ∈ TB, w.before args s = true := fun w h => hts0 w (List.mem_cons_of_mem _ h)
  have hown : s.vm.findClass R_M = some m.cls := hown
  have hl : lv_has ls 2 [(0, .ref (a 0)), (1, .int v1)] := hl
  unfold M_superOf at h
  refine lv_iload_n hx hb d_M_superOf_0 rfl (lv_at hl 1 rfl) ?_
  refine lv_if_ne (tgt := 8) hx hb d_M_superOf_1 (by decide) (fun c_1 => ?_) (fun c_1 => ?_)
  · have h := (if_neg c_1).symm.trans h
    refine lv_aload_n hx hb d_M_superOf_8 rfl (lv_at hl 0 rfl) ?_
    refine gf_M_13 hx hb hts hnw hown hw d_M_superOf_9 ?_
    refine lv_iload_n hx hb d_M_superOf_12 rfl (lv_at hl 1 rfl) ?_
    obtain ⟨x13, g_13, e_13, h⟩ := sk_rI_some h
    refine al_M2 hx hb hw g_13 e_13 d_M_superOf_13 ?_
    refine lv_if_ne (tgt := 45) hx hb d_M_superOf_14 (by decide) (fun c_14 => ?_) (fun c_14 => ?_)
    · have h := (if_neg c_14).symm.trans h
      refine lv_iconst (v := 0) hx hb d_M_superOf_45 (by decide) ?_
      refine lv_goto (tgt := 55) hx hb d_M_superOf_46 (by decide) ?_
      exact hret _ _ _ _ _ _ (Option.some.inj h) rfl (vp_nar_int _) hw d_M_superOf_55
    · have h := (if_pos c_14).symm.trans h
      refine lv_aload_n hx hb d_M_superOf_17 rfl (lv_at hl 0 rfl) ?_
      refine gf_M_7 hx hb hts hnw hown hw d_M_superOf_18 ?_
      refine lv_aload_n hx hb d_M_superOf_21 rfl (lv_at hl 0 rfl) ?_
      refine gf_M_23 hx hb hts hnw hown hw d_M_superOf_22 ?_
      refine lv_iload_n hx hb d_M_superOf_25 rfl (lv_at hl 1 rfl) ?_
      obtain ⟨x26, g_26, e_26, h⟩ := sk_rI_some h
      refine al_M5 hx hb hw g_26 e_26 d_M_superOf_26 ?_
      obtain ⟨x27, g_27, e_27, h⟩ := sk_rI_some h
      refine al_M1 hx hb hw g_27 e_27 d_M_superOf_27 ?_
      refine lv_if_eq (tgt := 45) hx hb d_M_superOf_28 (by decide) (fun c_28 => ?_) (fun c_28 => ?_)
      · have h := (if_pos c_28).symm.trans h
        refine lv_iconst (v := 0) hx hb d_M_superOf_45 (by decide) ?_
        refine lv_goto (tgt := 55) hx hb d_M_superOf_46 (by decide) ?_
        exact hret _ _ _ _ _ _ (Option.some.inj h) rfl (vp_nar_int _) hw d_M_superOf_55
      · have h := (if_neg c_28).symm.trans h
        refine lv_aload_n hx hb d_M_superOf_31 rfl (lv_at hl 0 rfl) ?_
        refine gf_M_13 hx hb hts hnw hown hw d_M_superOf_32 ?_
        refine lv_aload_n hx hb d_M_superOf_35 rfl (lv_at hl 0 rfl) ?_
        refine gf_M_23 hx hb hts hnw hown hw d_M_superOf_36 ?_
        refine lv_iload_n hx hb d_M_superOf_39 rfl (lv_at hl 1 rfl) ?_
        obtain ⟨x40, g_40, e_40, h⟩ := sk_rI_some h
        refine al_M5 hx hb hw g_40 e_40 d_M_superOf_40 ?_
        obtain ⟨x41, g_41, e_41, h⟩ := sk_rI_some h
        refine al_M2 hx hb hw g_41 e_41 d_M_superOf_41 ?_
        refine lv_if_eq (tgt := 49) hx hb d_M_superOf_42 (by decide) (fun c_42 => ?_) (fun c_42 => ?_)
        · have h := (if_pos c_42).symm.trans h
          refine lv_aload_n hx hb d_M_superOf_49 rfl (lv_at hl 0 rfl) ?_
          refine gf_M_23 hx hb hts hnw hown hw d_M_superOf_50 ?_
          refine lv_iload_n hx hb d_M_superOf_53 rfl (lv_at hl 1 rfl) ?_
          obtain ⟨x54, g_54, e_54, h⟩ := sk_rI_some h
          refine al_M5 hx hb hw g_54 e_54 d_M_superOf_54 ?_
          exact hret _ _ _ _ _ _ (Option.some.inj h) rfl (vp_nar_int _) hw d_M_superOf_55
        · have h := (if_neg c_42).symm.trans h
          refine lv_iconst (v := 0) hx hb d_M_superOf_45 (by decide) ?_
          refine lv_goto (tgt := 55) hx hb d_M_superOf_46 (by decide) ?_
          exact hret _ _ _ _ _ _ (Option.some.inj h) rfl (vp_nar_int _) hw d_M_superOf_55
  · have h := (if_pos c_1).symm.trans h
    refine lv_iconst (v := -1) hx hb d_M_superOf_4 (by decide) ?_
    refine lv_goto (tgt := 55) hx hb d_M_superOf_5 (by decide) ?_
    exact hret _ _ _ _ _ _ (Option.some.inj h) rfl (vp_nar_int _) hw d_M_superOf_55
set_option maxHeartbeats 4000000 in
set_option maxRecDepth 100000 in
theorem c_M_hasFace {l : Launch} {D : va_G} {A : Nat → Prop} {a : Nat → Nat} {cI cZ : ClassId} {nw : State → Prop} {st : sk_M} {v1 : Int32} {v2 : Int32} {res : Int32} (hok : sk_ok A nw) (h : M_hasFace st v1 v2 = some res) : sk_Ci l y_M_hasFace w_M_hasFace rm_M_hasFace D (tyM cI cZ) A (ceM a cI cZ) nw [.ref (a 0), .int v1, .int v2] st res st := by
  refine sk_headi .boolean (by decide) rfl (Nat.le_of_ble_eq_true rfl) ?_
  intro p e s m args below meth c Q hx hb hml hown hts0 hnw hret ls hl hw
  have hts : ∀ w ∈ TB, w.before args s = true := fun w h => hts0 w (List.mem_cons_of_mem _ h)
  have hown : s.vm.findClass R_M = some m.cls := hown
  have hl : lv_has ls 3 [(0, .ref (a 0)), (1, .int v1), (2, .int v2)] := hl
  unfold M_hasFace at h
  refine lv_aload_n hx hb d_M_hasFace_0 rfl (lv_at hl 0 rfl) ?_
  refine gf_M_26 hx hb hts hnw hown hw d_M_hasFace_1 ?_
  refine lv_iload_n hx hb d_M_hasFace_4 rfl (lv_at hl 1 rfl) ?_
  obtain ⟨x5, g_5, e_5, h⟩ := sk_rI_some h
  refine al_M6 hx hb hw g_5 e_5 d_M_hasFace_5 ?_
  refine lv_iload_n hx hb d_M_hasFace_6 rfl (lv_at hl 2 rfl) ?_
  refine lv_ishr hx hb d_M_hasFace_7 ?_
  refine lv_iconst (v := 1) hx hb d_M_hasFace_8 (by decide) ?_
  refine lv_iand hx hb d_M_hasFace_9 ?_
  refine lv_iconst (v := 1) hx hb d_M_hasFace_10 (by decide) ?_
  refine lv_icmp_ne (tgt := 36) hx hb d_M_hasFace_11 (by decide) (fun c_11 => ?_) (fun c_11 => ?_)
  · have h := (if_neg c_11).symm.trans h
    refine lv_iconst (v := 0) hx hb d_M_hasFace_36 (by decide) ?_
    exact hret _ _ _ _ _ _ (Option.some.inj h) rfl rfl hw d_M_hasFace_37
  · have h := (if_pos c_11).symm.trans h
    refine lv_aload_n hx hb d_M_hasFace_14 rfl (lv_at hl 0 rfl) ?_
    refine gf_M_7 hx hb hts hnw hown hw d_M_hasFace_15 ?_
    refine lv_iload_n hx hb d_M_hasFace_18 rfl (lv_at hl 2 rfl) ?_
    obtain ⟨x19, g_19, e_19, h⟩ := sk_rI_some h
    refine al_M1 hx hb hw g_19 e_19 d_M_hasFace_19 ?_
    refine lv_if_eq (tgt := 36) hx hb d_M_hasFace_20 (by decide) (fun c_20 => ?_) (fun c_20 => ?_)
    · have h := (if_pos c_20).symm.trans h
      refine lv_iconst (v := 0) hx hb d_M_hasFace_36 (by decide) ?_
      exact hret _ _ _ _ _ _ (Option.some.inj h) rfl rfl hw d_M_hasFace_37
    · have h := (if_neg c_20).symm.trans h
      refine lv_aload_n hx hb d_M_hasFace_23 rfl (lv_at hl 0 rfl) ?_
      refine gf_M_13 hx hb hts hnw hown hw d_M_hasFace_24 ?_
      refine lv_iload_n hx hb d_M_hasFace_27 rfl (lv_at hl 2 rfl) ?_
      obtain ⟨x28, g_28, e_28, h⟩ := sk_rI_some h
      refine al_M2 hx hb hw g_28 e_28 d_M_hasFace_28 ?_
      refine lv_if_eq (tgt := 36) hx hb d_M_hasFace_29 (by decide) (fun c_29 => ?_) (fun c_29 => ?_)
      · have h := (if_pos c_29).symm.trans h
        refine lv_iconst (v := 0) hx hb d_M_hasFace_36 (by decide) ?_
        exact hret _ _ _ _ _ _ (Option.some.inj h) rfl rfl hw d_M_hasFace_37
      · have h := (if_neg c_29).symm.trans h
        refine lv_iconst (v := 1) hx hb d_M_hasFace_32 (by decide) ?_
        refine lv_goto (tgt := 37) hx hb d_M_hasFace_33 (by decide) ?_
        exact hret _ _ _ _ _ _ (Option.some.inj h) rfl rfl hw d_M_hasFace_37
set_option maxHeartbeats 4000000 in
set_option maxRecDepth 100000 in
theorem c_M_order {l : Launch} {D : va_G} {A : Nat → Prop} {a : Nat → Nat} {cI cZ : ClassId} {nw : State → Prop} {N : Nat} {st : sk_M} {res : sk_M} (hok : sk_ok A nw) (h : M_order N st = some res) : sk_Cv l y_M_order w_M_order rm_M_order D (tyM cI cZ) A (ceM a cI cZ) nw [.ref (a 0)] st res := by
  refine sk_headv (by decide) rfl (Nat.le_of_ble_eq_true rfl) ?_
  intro p e s m args below meth c Q hx hb hml hown hts0 hnw hret ls hl hw
  have hts : ∀ w ∈ TB, w.before args s = true := fun w h => hts0 w (List.mem_cons_of_mem _ h)
  have hown : s.vm.findClass R_M = some m.cls := hown
  have hl : lv_has ls 5 [(0, .ref (a 0))] := hl
  unfold M_order at h
  refine lv_aload_n hx hb d_M_order_0 rfl (lv_at hl 0 rfl) ?_
  refine gf_M_29 hx hb hts hnw hown hw d_M_order_1 ?_
  refine lv_iconst (v := 0) hx hb d_M_order_4 (by decide) ?_
  refine lv_iconst (v := 0) hx hb d_M_order_5 (by decide) ?_
  obtain ⟨st6, g_6, e_6, h⟩ := sk_wI_some h
  refine as_M7 hx hb hw g_6 e_6 d_M_order_6 (fun H locs hw => ?_)
  refine lv_iconst (v := 1) hx hb d_M_order_7 (by decide) ?_
  refine lv_istore_n (lv' := [(1, .int (1 : Int32)), (0, .ref (a 0))]) hx hb d_M_order_8 rfl hl (by decide) rfl (fun ls hl => ?_)
  refine sk_lp_run (G := fun (z : sk_M × Int32) => ∀ (H : Heap) (locs : List Loc) (ls : Array Slot), sk_w D (tyM cI cZ) A (ceM a cI cZ) s z.1 H locs → lv_has ls 5 [(0, .ref (a 0)), (1, .int z.2)] → W p l e rm_M_order s m args below meth c H locs 0 0 Q (F0 m 9 ls [])) ?_ N _ h _ _ _ hw (lv_sub hl [1, 0] rfl)
  rintro self9 ⟨st, v1⟩ hself9 h H locs ls hw hl
  unfold M_order_L9 at h
  refine lv_iload_n hx hb d_M_order_9 rfl (lv_at hl 1 rfl) ?_
  refine lv_bipush (v := 10) hx hb d_M_order_10 (by decide) ?_
  refine lv_icmp_ge (tgt := 85) hx hb d_M_order_12 (by decide) (fun c_12 => ?_) (fun c_12 => ?_)
  · have h := (if_pos c_12).symm.trans h
    exact hret _ _ _ _ _ (Option.some.inj h) hw d_M_order_85
  · have h := (if_neg c_12).symm.trans h
    refine lv_aload_n hx hb d_M_order_15 rfl (lv_at hl 0 rfl) ?_
    refine lv_iload_n hx hb d_M_order_16 rfl (lv_at hl 1 rfl) ?_
    obtain ⟨x17, q_17, h⟩ := sk_oR_some h
    refine sk_callVi (As := [.int v1]) (rest := []) ⟨hx, hb, hml, hown, hts⟩ hw hnw hok (c_M_superOf hok q_17) (cw_M_214 hts hnw (by decide)) (rc_M hw) rfl hl.1 rfl (Nat.le_of_ble_eq_true rfl) d_M_order_17 (fun H locs hw => ?_)
    refine lv_istore_n (lv' := [(2, .int x17), (0, .ref (a 0)), (1, .int v1)]) hx hb d_M_order_20 rfl hl (by decide) rfl (fun ls hl => ?_)
    refine lv_iconst (v := 1) hx hb d_M_order_21 (by decide) ?_
    refine lv_iload_n hx hb d_M_order_22 rfl (lv_at hl 0 rfl) ?_
    refine lv_ishl hx hb d_M_order_23 ?_
    refine lv_aload_n hx hb d_M_order_24 rfl (lv_at hl 1 rfl) ?_
    refine gf_M_29 hx hb hts hnw hown hw d_M_order_25 ?_
    refine lv_iload_n hx hb d_M_order_28 rfl (lv_at hl 0 rfl) ?_
    obtain ⟨x29, g_29, e_29, h⟩ := sk_rI_some h
    refine al_M7 hx hb hw g_29 e_29 d_M_order_29 ?_
    refine lv_ior hx hb d_M_order_30 ?_
    refine lv_istore_n (lv' := [(3, .int (((1 : Int32) <<< (x17 &&& 31)) ||| x29)), (2, .int x17), (0, .ref (a 0)), (1, .int v1)]) hx hb d_M_order_31 rfl hl (by decide) rfl (fun ls hl => ?_)
    refine lv_iconst (v := 1) hx hb d_M_order_32 (by decide) ?_
    refine lv_istore (lv' := [(4, .int (1 : Int32)), (3, .int (((1 : Int32) <<< (x17 &&& 31)) ||| x29)), (2, .int x17), (0, .ref (a 0)), (1, .int v1)]) hx hb d_M_order_33 hl (by decide) rfl (fun ls hl => ?_)
    have hJ72 : ∀ (st : sk_M) (v1 : Int32) (v3 : Int32) (H : Heap) (locs : List Loc) (ls : Array Slot), M_order_J72 N self9 st v1 v3 = some res → sk_w D (tyM cI cZ) A (ceM a cI cZ) s st H locs → lv_has ls 5 [(0, .ref (a 0)), (1, .int v1), (3, .int v3)] → W p l e rm_M_order s m args below meth c H locs 0 0 Q (F0 m 72 ls []) := by
      intro st v1 v3 H locs ls h hw hl
      unfold M_order_J72 at h
      refine lv_aload_n hx hb d_M_order_72 rfl (lv_at hl 0 rfl) ?_
      refine gf_M_29 hx hb hts hnw hown hw d_M_order_73 ?_
      refine lv_iload_n hx hb d_M_order_76 rfl (lv_at hl 1 rfl) ?_
      refine lv_iload_n hx hb d_M_order_77 rfl (lv_at hl 2 rfl) ?_
      obtain ⟨st78, g_78, e_78, h⟩ := sk_wI_some h
      refine as_M7 hx hb hw g_78 e_78 d_M_order_78 (fun H locs hw => ?_)
      refine lv_iinc (v := v1 + 1) (lv' := [(1, .int (v1 + 1)), (0, .ref (a 0)), (3, .int v3)]) hx hb d_M_order_79 hl (k := 1) rfl rfl (by decide) rfl (fun ls hl => ?_)
      refine lv_goto (tgt := 9) hx hb d_M_order_82 (by decide) ?_
      exact hself9 (st78, (v1 + 1)) h _ _ _ hw (lv_sub hl [1, 0] rfl)
    refine sk_lp_run (G := fun (z : sk_M × Int32 × Int32 × Int32) => ∀ (H : Heap) (locs : List Loc) (ls : Array Slot), sk_w D (tyM cI cZ) A (ceM a cI cZ) s z.1 H locs → lv_has ls 5 [(0, .ref (a 0)), (1, .int z.2.1), (3, .int z.2.2.1), (4, .int z.2.2.2)] → W p l e rm_M_order s m args below meth c H locs 0 0 Q (F0 m 35 ls [])) ?_ N _ h _ _ _ hw (lv_sub hl [3, 4, 1, 0] rfl)
    rintro self35 ⟨st, v1, v3, v4⟩ hself35 h H locs ls hw hl
    unfold M_order_L35 at h
    refine lv_iload hx hb d_M_order_35 (lv_at hl 3 rfl) ?_
    refine lv_iload_n hx hb d_M_order_37 rfl (lv_at hl 1 rfl) ?_
    refine lv_icmp_ge (tgt := 72) hx hb d_M_order_38 (by decide) (fun c_38 => ?_) (fun c_38 => ?_)
    · have h := (if_pos c_38).symm.trans h
      exact hJ72 _ _ _ _ _ _ h hw (lv_sub hl [0, 1, 2] rfl)
    · have h := (if_neg c_38).symm.trans h
      refine lv_aload_n hx hb d_M_order_41 rfl (lv_at hl 0 rfl) ?_
      refine lv_iload_n hx hb d_M_order_42 rfl (lv_at hl 1 rfl) ?_
      refine lv_iload hx hb d_M_order_43 (lv_at hl 3 rfl) ?_
      obtain ⟨x45, q_45, h⟩ := sk_oR_some h
      refine sk_callVi (As := [.int v1, .int v4]) (rest := []) ⟨hx, hb, hml, hown, hts⟩ hw hnw hok (c_M_hasFace hok q_45) (cw_M_217 hts hnw (by decide)) (rc_M hw) rfl hl.1 rfl (Nat.le_of_ble_eq_true rfl) d_M_order_45 (fun H locs hw => ?_)
      refine lv_if_eq (tgt := 66) hx hb d_M_order_48 (by decide) (fun c_48 => ?_) (fun c_48 => ?_)
      · have h := (if_pos c_48).symm.trans h
        refine lv_iinc (v := v4 + 1) (lv' := [(4, .int (v4 + 1)), (0, .ref (a 0)), (1, .int v1), (3, .int v3)]) hx hb d_M_order_66 hl (k := 3) rfl rfl (by decide) rfl (fun ls hl => ?_)
        refine lv_goto (tgt := 35) hx hb d_M_order_69 (by decide) ?_
        exact hself35 (st, v1, v3, (v4 + 1)) h _ _ _ hw (lv_sub hl [1, 2, 3, 0] rfl)
      · have h := (if_neg c_48).symm.trans h
        refine lv_iload_n hx hb d_M_order_51 rfl (lv_at hl 2 rfl) ?_
        refine lv_iconst (v := 1) hx hb d_M_order_52 (by decide) ?_
        refine lv_iload hx hb d_M_order_53 (lv_at hl 3 rfl) ?_
        refine lv_ishl hx hb d_M_order_55 ?_
        refine lv_aload_n hx hb d_M_order_56 rfl (lv_at hl 0 rfl) ?_
        refine gf_M_29 hx hb hts hnw hown hw d_M_order_57 ?_
        refine lv_iload hx hb d_M_order_60 (lv_at hl 3 rfl) ?_
        obtain ⟨x62, g_62, e_62, h⟩ := sk_rI_some h
        refine al_M7 hx hb hw g_62 e_62 d_M_order_62 ?_
        refine lv_ior hx hb d_M_order_63 ?_
        refine lv_ior hx hb d_M_order_64 ?_
        refine lv_istore_n (lv' := [(3, .int (v3 ||| (((1 : Int32) <<< (v4 &&& 31)) ||| x62))), (0, .ref (a 0)), (1, .int v1), (4, .int v4)]) hx hb d_M_order_65 rfl hl (by decide) rfl (fun ls hl => ?_)
        refine lv_iinc (v := v4 + 1) (lv' := [(4, .int (v4 + 1)), (3, .int (v3 ||| (((1 : Int32) <<< (v4 &&& 31)) ||| x62))), (0, .ref (a 0)), (1, .int v1)]) hx hb d_M_order_66 hl (k := 3) rfl rfl (by decide) rfl (fun ls hl => ?_)
        refine lv_goto (tgt := 35) hx hb d_M_order_69 (by decide) ?_
        exact hself35 (st, v1, (v3 ||| (((1 : Int32) <<< (v4 &&& 31)) ||| x62)), (v4 + 1)) h _ _ _ hw (lv_sub hl [2, 3, 1, 0] rfl)
set_option maxHeartbeats 4000000 in
set_option maxRecDepth 100000 in
theorem c_M_isWanted {l : Launch} {D : va_G} {A : Nat → Prop} {a : Nat → Nat} {cI cZ : ClassId} {nw : State → Prop} {st : sk_M} {v1 : Int32} {v2 : Int32} {v3 : Int32} {res : Int32} (hok : sk_ok A nw) (h : M_isWanted st v1 v2 v3 = some res) : sk_Ci l y_M_isWanted w_M_isWanted rm_M_isWanted D (tyM cI cZ) A (ceM a cI cZ) nw [.ref (a 0), .int v1, .int v2, .int v3] st res st := by
  refine sk_headi .boolean (by decide) rfl (Nat.le_of_ble_eq_true rfl) ?_
  intro p e s m args below meth c Q hx hb hml hown hts0 hnw hret ls hl hw
  have hts : ∀ w ∈ TB, w.before args s = true := fun w h => hts0 w (List.mem_cons_of_mem _ h)
  have hown : s.vm.findClass R_M = some m.cls := hown
  have hl : lv_has ls 4 [(0, .ref (a 0)), (1, .int v1), (2, .int v2), (3, .int v3)] := hl
  unfold M_isWanted at h
  refine lv_iload_n hx hb d_M_isWanted_0 rfl (lv_at hl 1 rfl) ?_
  refine lv_if_lt (tgt := 37) hx hb d_M_isWanted_1 (by decide) (fun c_1 => ?_) (fun c_1 => ?_)
  · have h := (if_pos c_1).symm.trans h
    refine lv_iconst (v := 0) hx hb d_M_isWanted_37 (by decide) ?_
    exact hret _ _ _ _ _ _ (Option.some.inj h) rfl rfl hw d_M_isWanted_38
  · have h := (if_neg c_1).symm.trans h
    refine lv_iload_n hx hb d_M_isWanted_4 rfl (lv_at hl 2 rfl) ?_
    have hJ20 : ∀ (v1 : Int32) (v3 : Int32) (H : Heap) (locs : List Loc) (ls : Array Slot), M_isWanted_J20 st v1 v3 = some res → sk_w D (tyM cI cZ) A (ceM a cI cZ) s st H locs → lv_has ls 4 [(0, .ref (a 0)), (1, .int v1), (3, .int v3)] → W p l e rm_M_isWanted s m args below meth c H locs 0 0 Q (F0 m 20 ls []) := by
      intro v1 v3 H locs ls h hw hl
      unfold M_isWanted_J20 at h
      refine lv_iload_n hx hb d_M_isWanted_20 rfl (lv_at hl 2 rfl) ?_
      refine lv_if_eq (tgt := 33) hx hb d_M_isWanted_21 (by decide) (fun c_21 => ?_) (fun c_21 => ?_)
      · have h := (if_pos c_21).symm.trans h
        refine lv_iconst (v := 1) hx hb d_M_isWanted_33 (by decide) ?_
        refine lv_goto (tgt := 38) hx hb d_M_isWanted_34 (by decide) ?_
        exact hret _ _ _ _ _ _ (Option.some.inj h) rfl rfl hw d_M_isWanted_38
      · have h := (if_neg c_21).symm.trans h
        refine lv_aload_n hx hb d_M_isWanted_24 rfl (lv_at hl 0 rfl) ?_
        refine gf_M_126 hx hb hts hnw hown hw d_M_isWanted_25 ?_
        refine lv_iload_n hx hb d_M_isWanted_28 rfl (lv_at hl 1 rfl) ?_
        obtain ⟨x29, g_29, e_29, h⟩ := sk_rI_some h
        refine al_M38 hx hb hw g_29 e_29 d_M_isWanted_29 ?_
        refine lv_if_eq (tgt := 37) hx hb d_M_isWanted_30 (by decide) (fun c_30 => ?_) (fun c_30 => ?_)
        · have h := (if_pos c_30).symm.trans h
          refine lv_iconst (v := 0) hx hb d_M_isWanted_37 (by decide) ?_
          exact hret _ _ _ _ _ _ (Option.some.inj h) rfl rfl hw d_M_isWanted_38
        · have h := (if_neg c_30).symm.trans h
          refine lv_iconst (v := 1) hx hb d_M_isWanted_33 (by decide) ?_
          refine lv_goto (tgt := 38) hx hb d_M_isWanted_34 (by decide) ?_
          exact hret _ _ _ _ _ _ (Option.some.inj h) rfl rfl hw d_M_isWanted_38
    refine lv_if_eq (tgt := 20) hx hb d_M_isWanted_5 (by decide) (fun c_5 => ?_) (fun c_5 => ?_)
    · have h := (if_pos c_5).symm.trans h
      exact hJ20 _ _ _ _ _ h hw (lv_sub hl [0, 1, 3] rfl)
    · have h := (if_neg c_5).symm.trans h
      refine lv_aload_n hx hb d_M_isWanted_8 rfl (lv_at hl 0 rfl) ?_
      refine gf_M_41 hx hb hts hnw hown hw d_M_isWanted_9 ?_
      refine lv_iload_n hx hb d_M_isWanted_12 rfl (lv_at hl 1 rfl) ?_
      obtain ⟨x13, g_13, e_13, h⟩ := sk_rI_some h
      refine al_M11 hx hb hw g_13 e_13 d_M_isWanted_13 ?_
      refine lv_bipush (v := 6) hx hb d_M_isWanted_14 (by decide) ?_
      refine lv_iand hx hb d_M_isWanted_16 ?_
      refine lv_if_ne (tgt := 37) hx hb d_M_isWanted_17 (by decide) (fun c_17 => ?_) (fun c_17 => ?_)
      · have h := (if_neg c_17).symm.trans h
        refine lv_iconst (v := 0) hx hb d_M_isWanted_37 (by decide) ?_
        exact hret _ _ _ _ _ _ (Option.some.inj h) rfl rfl hw d_M_isWanted_38
      · have h := (if_pos c_17).symm.trans h
        exact hJ20 _ _ _ _ _ h hw (lv_sub hl [0, 1, 3] rfl)
set_option maxHeartbeats 4000000 in
set_option maxRecDepth 100000 in
theorem c_M_look {l : Launch} {D : va_G} {A : Nat → Prop} {a : Nat → Nat} {cI cZ : ClassId} {nw : State → Prop} {N : Nat} {st : sk_M} {v1 : Int32} {v2 : Int32} {v3 : Int32} {v4 : Int32} {v5 : Int32} {v6 : Int32} {res : Int32} (hok : sk_ok A nw) (h : M_look N st v1 v2 v3 v4 v5 v6 = some res) : sk_Ci l y_M_look w_M_look rm_M_look D (tyM cI cZ) A (ceM a cI cZ) nw [.ref (a 0), .int v1, .int v2, .int v3, .int v4, .int v5, .int v6] st res st := by
  refine sk_headi .int (by decide) rfl (Nat.le_of_ble_eq_true rfl) ?_
  intro p e s m args below meth c Q hx hb hml hown hts0 hnw hret ls hl hw
  have hts : ∀ w ∈ TB, w.before args s = true := fun w h => hts0 w (List.mem_cons_of_mem _ h)
  have hown : s.vm.findClass R_M = some m.cls := hown
  have hl : lv_has ls 9 [(0, .ref (a 0)), (1, .int v1), (2, .int v2), (3, .int v3), (4, .int v4), (5, .int v5), (6, .int v6)] := hl
  unfold M_look at h
  refine lv_iload_n hx hb d_M_look_0 rfl (lv_at hl 1 rfl) ?_
  refine lv_istore (lv' := [(7, .int v1), (0, .ref (a 0)), (1, .int v1), (2, .int v2), (3, .int v3), (4, .int v4), (5, .int v5), (6, .int v6)]) hx hb d_M_look_1 hl (by decide) rfl (fun ls hl => ?_)
  have hJ47 : ∀ (v1 : Int32) (v2 : Int32) (v3 : Int32) (v4 : Int32) (v5 : Int32) (v6 : Int32) (H : Heap) (locs : List Loc) (ls : Array Slot), M_look_J47 N st v1 v2 v3 v4 v5 v6 = some res → sk_w D (tyM cI cZ) A (ceM a cI cZ) s st H locs → lv_has ls 9 [(0, .ref (a 0)), (1, .int v1), (2, .int v2), (3, .int v3), (4, .int v4), (5, .int v5), (6, .int v6)] → W p l e rm_M_look s m args below meth c H locs 0 0 Q (F0 m 47 ls []) := by
    intro v1 v2 v3 v4 v5 v6 H locs ls h hw hl
    unfold M_look_J47 at h
    refine lv_iconst (v := 0) hx hb d_M_look_47 (by decide) ?_
    refine lv_istore (lv' := [(7, .int (0 : Int32)), (0, .ref (a 0)), (1, .int v1), (2, .int v2), (3, .int v3), (4, .int v4), (5, .int v5), (6, .int v6)]) hx hb d_M_look_48 hl (by decide) rfl (fun ls hl => ?_)
    refine sk_lp_run (G := fun (z : Int32 × Int32 × Int32 × Int32 × Int32 × Int32 × Int32) => ∀ (H : Heap) (locs : List Loc) (ls : Array Slot), sk_w D (tyM cI cZ) A (ceM a cI cZ) s st H locs → lv_has ls 9 [(0, .ref (a 0)), (1, .int z.1), (2, .int z.2.1), (3, .int z.2.2.1), (4, .int z.2.2.2.1), (5, .int z.2.2.2.2.1), (6, .int z.2.2.2.2.2.1), (7, .int z.2.2.2.2.2.2)] → W p l e rm_M_look s m args below meth c H locs 0 0 Q (F0 m 50 ls [])) ?_ N _ h _ _ _ hw (lv_sub hl [1, 2, 3, 4, 5, 6, 7, 0] rfl)
    rintro self50 ⟨v1, v2, v3, v4, v5, v6, v7⟩ hself50 h H locs ls hw hl
    unfold M_look_L50 at h
    refine lv_iload hx hb d_M_look_50 (lv_at hl 7 rfl) ?_
    refine lv_aload_n hx hb d_M_look_52 rfl (lv_at hl 0 rfl) ?_
    refine gf_M_47 hx hb hts hnw hown hw d_M_look_53 ?_
    refine lv_icmp_ge (tgt := 163) hx hb d_M_look_56 (by decide) (fun c_56 => ?_) (fun c_56 => ?_)
    · have h := (if_pos c_56).symm.trans h
      refine lv_bipush (v := -2) hx hb d_M_look_163 (by decide) ?_
      exact hret _ _ _ _ _ _ (Option.some.inj h) rfl (vp_nar_int _) hw d_M_look_165
    · have h := (if_neg c_56).symm.trans h
      refine lv_aload_n hx hb d_M_look_59 rfl (lv_at hl 0 rfl) ?_
      refine gf_M_32 hx hb hts hnw hown hw d_M_look_60 ?_
      refine lv_iload hx hb d_M_look_63 (lv_at hl 7 rfl) ?_
      obtain ⟨x65, g_65, e_65, h⟩ := sk_rI_some h
      refine al_M8 hx hb hw g_65 e_65 d_M_look_65 ?_
      refine lv_istore (lv' := [(8, .int x65), (0, .ref (a 0)), (1, .int v1), (2, .int v2), (3, .int v3), (4, .int v4), (5, .int v5), (6, .int v6), (7, .int v7)]) hx hb d_M_look_66 hl (by decide) rfl (fun ls hl => ?_)
      refine lv_aload_n hx hb d_M_look_68 rfl (lv_at hl 1 rfl) ?_
      refine gf_M_44 hx hb hts hnw hown hw d_M_look_69 ?_
      refine lv_iload hx hb d_M_look_72 (lv_at hl 8 rfl) ?_
      obtain ⟨x74, g_74, e_74, h⟩ := sk_rI_some h
      refine al_M12 hx hb hw g_74 e_74 d_M_look_74 ?_
      refine lv_if_ne (tgt := 157) hx hb d_M_look_75 (by decide) (fun c_75 => ?_) (fun c_75 => ?_)
      · have h := (if_neg c_75).symm.trans h
        refine lv_iinc (v := v7 + 1) (lv' := [(7, .int (v7 + 1)), (8, .int x65), (0, .ref (a 0)), (1, .int v1), (2, .int v2), (3, .int v3), (4, .int v4), (5, .int v5), (6, .int v6)]) hx hb d_M_look_157 hl (k := 8) rfl rfl (by decide) rfl (fun ls hl => ?_)
        refine lv_goto (tgt := 50) hx hb d_M_look_160 (by decide) ?_
        exact hself50 (v1, v2, v3, v4, v5, v6, (v7 + 1)) h _ _ _ hw (lv_sub hl [2, 3, 4, 5, 6, 7, 8, 0] rfl)
      · have h := (if_pos c_75).symm.trans h
        refine lv_aload_n hx hb d_M_look_78 rfl (lv_at hl 1 rfl) ?_
        refine gf_M_29 hx hb hts hnw hown hw d_M_look_79 ?_
        refine lv_iload_n hx hb d_M_look_82 rfl (lv_at hl 2 rfl) ?_
        obtain ⟨x83, g_83, e_83, h⟩ := sk_rI_some h
        refine al_M7 hx hb hw g_83 e_83 d_M_look_83 ?_
        refine lv_iload hx hb d_M_look_84 (lv_at hl 0 rfl) ?_
        refine lv_ishr hx hb d_M_look_86 ?_
        refine lv_iconst (v := 1) hx hb d_M_look_87 (by decide) ?_
        refine lv_iand hx hb d_M_look_88 ?_
        refine lv_if_eq (tgt := 157) hx hb d_M_look_89 (by decide) (fun c_89 => ?_) (fun c_89 => ?_)
        · have h := (if_pos c_89).symm.trans h
          refine lv_iinc (v := v7 + 1) (lv' := [(7, .int (v7 + 1)), (8, .int x65), (0, .ref (a 0)), (1, .int v1), (2, .int v2), (3, .int v3), (4, .int v4), (5, .int v5), (6, .int v6)]) hx hb d_M_look_157 hl (k := 8) rfl rfl (by decide) rfl (fun ls hl => ?_)
          refine lv_goto (tgt := 50) hx hb d_M_look_160 (by decide) ?_
          exact hself50 (v1, v2, v3, v4, v5, v6, (v7 + 1)) h _ _ _ hw (lv_sub hl [2, 3, 4, 5, 6, 7, 8, 0] rfl)
        · have h := (if_neg c_89).symm.trans h
          refine lv_aload_n hx hb d_M_look_92 rfl (lv_at hl 1 rfl) ?_
          refine gf_M_13 hx hb hts hnw hown hw d_M_look_93 ?_
          refine lv_iload hx hb d_M_look_96 (lv_at hl 0 rfl) ?_
          obtain ⟨x98, g_98, e_98, h⟩ := sk_rI_some h
          refine al_M2 hx hb hw g_98 e_98 d_M_look_98 ?_
          refine lv_if_eq (tgt := 157) hx hb d_M_look_99 (by decide) (fun c_99 => ?_) (fun c_99 => ?_)
          · have h := (if_pos c_99).symm.trans h
            refine lv_iinc (v := v7 + 1) (lv' := [(7, .int (v7 + 1)), (8, .int x65), (0, .ref (a 0)), (1, .int v1), (2, .int v2), (3, .int v3), (4, .int v4), (5, .int v5), (6, .int v6)]) hx hb d_M_look_157 hl (k := 8) rfl rfl (by decide) rfl (fun ls hl => ?_)
            refine lv_goto (tgt := 50) hx hb d_M_look_160 (by decide) ?_
            exact hself50 (v1, v2, v3, v4, v5, v6, (v7 + 1)) h _ _ _ hw (lv_sub hl [2, 3, 4, 5, 6, 7, 8, 0] rfl)
          · have h := (if_neg c_99).symm.trans h
            refine lv_aload_n hx hb d_M_look_102 rfl (lv_at hl 1 rfl) ?_
            refine gf_M_41 hx hb hts hnw hown hw d_M_look_103 ?_
            refine lv_iload hx hb d_M_look_106 (lv_at hl 8 rfl) ?_
            obtain ⟨x108, g_108, e_108, h⟩ := sk_rI_some h
            refine al_M11 hx hb hw g_108 e_108 d_M_look_108 ?_
            refine lv_iconst (v := 1) hx hb d_M_look_109 (by decide) ?_
            refine lv_iand hx hb d_M_look_110 ?_
            refine lv_iload_n hx hb d_M_look_111 rfl (lv_at hl 3 rfl) ?_
            refine lv_icmp_ne (tgt := 157) hx hb d_M_look_112 (by decide) (fun c_112 => ?_) (fun c_112 => ?_)
            · have h := (if_neg c_112).symm.trans h
              refine lv_iinc (v := v7 + 1) (lv' := [(7, .int (v7 + 1)), (8, .int x65), (0, .ref (a 0)), (1, .int v1), (2, .int v2), (3, .int v3), (4, .int v4), (5, .int v5), (6, .int v6)]) hx hb d_M_look_157 hl (k := 8) rfl rfl (by decide) rfl (fun ls hl => ?_)
              refine lv_goto (tgt := 50) hx hb d_M_look_160 (by decide) ?_
              exact hself50 (v1, v2, v3, v4, v5, v6, (v7 + 1)) h _ _ _ hw (lv_sub hl [2, 3, 4, 5, 6, 7, 8, 0] rfl)
            · have h := (if_pos c_112).symm.trans h
              refine lv_aload_n hx hb d_M_look_115 rfl (lv_at hl 1 rfl) ?_
              refine gf_M_35 hx hb hts hnw hown hw d_M_look_116 ?_
              refine lv_iload hx hb d_M_look_119 (lv_at hl 8 rfl) ?_
              obtain ⟨x121, g_121, e_121, h⟩ := sk_rI_some h
              refine al_M9 hx hb hw g_121 e_121 d_M_look_121 ?_
              refine lv_iload_n hx hb d_M_look_122 rfl (lv_at hl 4 rfl) ?_
              refine lv_icmp_ne (tgt := 157) hx hb d_M_look_123 (by decide) (fun c_123 => ?_) (fun c_123 => ?_)
              · have h := (if_neg c_123).symm.trans h
                refine lv_iinc (v := v7 + 1) (lv' := [(7, .int (v7 + 1)), (8, .int x65), (0, .ref (a 0)), (1, .int v1), (2, .int v2), (3, .int v3), (4, .int v4), (5, .int v5), (6, .int v6)]) hx hb d_M_look_157 hl (k := 8) rfl rfl (by decide) rfl (fun ls hl => ?_)
                refine lv_goto (tgt := 50) hx hb d_M_look_160 (by decide) ?_
                exact hself50 (v1, v2, v3, v4, v5, v6, (v7 + 1)) h _ _ _ hw (lv_sub hl [2, 3, 4, 5, 6, 7, 8, 0] rfl)
              · have h := (if_pos c_123).symm.trans h
                refine lv_aload_n hx hb d_M_look_126 rfl (lv_at hl 1 rfl) ?_
                refine gf_M_38 hx hb hts hnw hown hw d_M_look_127 ?_
                refine lv_iload hx hb d_M_look_130 (lv_at hl 8 rfl) ?_
                obtain ⟨x132, g_132, e_132, h⟩ := sk_rI_some h
                refine al_M10 hx hb hw g_132 e_132 d_M_look_132 ?_
                refine lv_iload hx hb d_M_look_133 (lv_at hl 5 rfl) ?_
                refine lv_icmp_eq (tgt := 141) hx hb d_M_look_135 (by decide) (fun c_135 => ?_) (fun c_135 => ?_)
                · have h := (if_pos c_135).symm.trans h
                  refine lv_aload_n hx hb d_M_look_141 rfl (lv_at hl 1 rfl) ?_
                  refine lv_iload hx hb d_M_look_142 (lv_at hl 8 rfl) ?_
                  refine lv_iload hx hb d_M_look_144 (lv_at hl 6 rfl) ?_
                  refine lv_iload hx hb d_M_look_146 (lv_at hl 7 rfl) ?_
                  obtain ⟨x148, q_148, h⟩ := sk_oR_some h
                  refine sk_callVi (As := [.int v7, .int v5, .int v6]) (rest := []) ⟨hx, hb, hml, hown, hts⟩ hw hnw hok (c_M_isWanted hok q_148) (cw_M_220 hts hnw (by decide)) (rc_M hw) rfl hl.1 rfl (Nat.le_of_ble_eq_true rfl) d_M_look_148 (fun H locs hw => ?_)
                  refine lv_if_eq (tgt := 157) hx hb d_M_look_151 (by decide) (fun c_151 => ?_) (fun c_151 => ?_)
                  · have h := (if_pos c_151).symm.trans h
                    refine lv_iinc (v := v7 + 1) (lv' := [(7, .int (v7 + 1)), (8, .int x65), (0, .ref (a 0)), (1, .int v1), (2, .int v2), (3, .int v3), (4, .int v4), (5, .int v5), (6, .int v6)]) hx hb d_M_look_157 hl (k := 8) rfl rfl (by decide) rfl (fun ls hl => ?_)
                    refine lv_goto (tgt := 50) hx hb d_M_look_160 (by decide) ?_
                    exact hself50 (v1, v2, v3, v4, v5, v6, (v7 + 1)) h _ _ _ hw (lv_sub hl [2, 3, 4, 5, 6, 7, 8, 0] rfl)
                  · have h := (if_neg c_151).symm.trans h
                    refine lv_iload hx hb d_M_look_154 (lv_at hl 8 rfl) ?_
                    exact hret _ _ _ _ _ _ (Option.some.inj h) rfl (vp_nar_int _) hw d_M_look_156
                · have h := (if_neg c_135).symm.trans h
                  refine lv_goto (tgt := 157) hx hb d_M_look_138 (by decide) ?_
                  refine lv_iinc (v := v7 + 1) (lv' := [(7, .int (v7 + 1)), (8, .int x65), (0, .ref (a 0)), (1, .int v1), (2, .int v2), (3, .int v3), (4, .int v4), (5, .int v5), (6, .int v6)]) hx hb d_M_look_157 hl (k := 8) rfl rfl (by decide) rfl (fun ls hl => ?_)
                  refine lv_goto (tgt := 50) hx hb d_M_look_160 (by decide) ?_
                  exact hself50 (v1, v2, v3, v4, v5, v6, (v7 + 1)) h _ _ _ hw (lv_sub hl [2, 3, 4, 5, 6, 7, 8, 0] rfl)
  refine sk_lp_run (G := fun (z : Int32 × Int32 × Int32 × Int32 × Int32 × Int32 × Int32) => ∀ (H : Heap) (locs : List Loc) (ls : Array Slot), sk_w D (tyM cI cZ) A (ceM a cI cZ) s st H locs → lv_has ls 9 [(0, .ref (a 0)), (1, .int z.1), (2, .int z.2.1), (3, .int z.2.2.1), (4, .int z.2.2.2.1), (5, .int z.2.2.2.2.1), (6, .int z.2.2.2.2.2.1), (7, .int z.2.2.2.2.2.2)] → W p l e rm_M_look s m args below meth c H locs 0 0 Q (F0 m 3 ls [])) ?_ N _ h _ _ _ hw (lv_sub hl [1, 2, 3, 4, 5, 6, 7, 0] rfl)
  rintro self3 ⟨v1, v2, v3, v4, v5, v6, v7⟩ hself3 h H locs ls hw hl
  unfold M_look_L3 at h
  refine lv_iload hx hb d_M_look_3 (lv_at hl 7 rfl) ?_
  refine lv_if_lt (tgt := 47) hx hb d_M_look_5 (by decide) (fun c_5 => ?_) (fun c_5 => ?_)
  · have h := (if_pos c_5).symm.trans h
    exact hJ47 _ _ _ _ _ _ _ _ _ h hw (lv_sub hl [0, 1, 2, 3, 4, 5, 6] rfl)
  · have h := (if_neg c_5).symm.trans h
    refine lv_aload_n hx hb d_M_look_8 rfl (lv_at hl 0 rfl) ?_
    refine lv_iload hx hb d_M_look_9 (lv_at hl 7 rfl) ?_
    refine lv_iload_n hx hb d_M_look_11 rfl (lv_at hl 2 rfl) ?_
    refine lv_iload_n hx hb d_M_look_12 rfl (lv_at hl 3 rfl) ?_
    refine lv_iload hx hb d_M_look_13 (lv_at hl 4 rfl) ?_
    obtain ⟨x15, q_15, h⟩ := sk_oR_some h
    refine sk_callVi (As := [.int v7, .int v2, .int v3, .int v4]) (rest := []) ⟨hx, hb, hml, hown, hts⟩ hw hnw hok (c_M_own hok q_15) (cw_M_139 hts hnw (by decide)) (rc_M hw) rfl hl.1 rfl (Nat.le_of_ble_eq_true rfl) d_M_look_15 (fun H locs hw => ?_)
    refine lv_istore (lv' := [(8, .int x15), (0, .ref (a 0)), (1, .int v1), (2, .int v2), (3, .int v3), (4, .int v4), (5, .int v5), (6, .int v6), (7, .int v7)]) hx hb d_M_look_18 hl (by decide) rfl (fun ls hl => ?_)
    refine lv_aload_n hx hb d_M_look_20 rfl (lv_at hl 1 rfl) ?_
    refine lv_iload hx hb d_M_look_21 (lv_at hl 0 rfl) ?_
    refine lv_iload hx hb d_M_look_23 (lv_at hl 6 rfl) ?_
    refine lv_iload hx hb d_M_look_25 (lv_at hl 7 rfl) ?_
    obtain ⟨x27, q_27, h⟩ := sk_oR_some h
    refine sk_callVi (As := [.int x15, .int v5, .int v6]) (rest := []) ⟨hx, hb, hml, hown, hts⟩ hw hnw hok (c_M_isWanted hok q_27) (cw_M_220 hts hnw (by decide)) (rc_M hw) rfl hl.1 rfl (Nat.le_of_ble_eq_true rfl) d_M_look_27 (fun H locs hw => ?_)
    refine lv_if_eq (tgt := 36) hx hb d_M_look_30 (by decide) (fun c_30 => ?_) (fun c_30 => ?_)
    · have h := (if_pos c_30).symm.trans h
      refine lv_aload_n hx hb d_M_look_36 rfl (lv_at hl 1 rfl) ?_
      refine lv_iload hx hb d_M_look_37 (lv_at hl 8 rfl) ?_
      obtain ⟨x39, q_39, h⟩ := sk_oR_some h
      refine sk_callVi (As := [.int v7]) (rest := []) ⟨hx, hb, hml, hown, hts⟩ hw hnw hok (c_M_superOf hok q_39) (cw_M_214 hts hnw (by decide)) (rc_M hw) rfl hl.1 rfl (Nat.le_of_ble_eq_true rfl) d_M_look_39 (fun H locs hw => ?_)
      refine lv_istore (lv' := [(7, .int x39), (8, .int x15), (0, .ref (a 0)), (1, .int v1), (2, .int v2), (3, .int v3), (4, .int v4), (5, .int v5), (6, .int v6)]) hx hb d_M_look_42 hl (by decide) rfl (fun ls hl => ?_)
      refine lv_goto (tgt := 3) hx hb d_M_look_44 (by decide) ?_
      exact hself3 (v1, v2, v3, v4, v5, v6, x39) h _ _ _ hw (lv_sub hl [2, 3, 4, 5, 6, 7, 8, 0] rfl)
    · have h := (if_neg c_30).symm.trans h
      refine lv_iload hx hb d_M_look_33 (lv_at hl 0 rfl) ?_
      exact hret _ _ _ _ _ _ (Option.some.inj h) rfl (vp_nar_int _) hw d_M_look_35
set_option maxHeartbeats 4000000 in
set_option maxRecDepth 100000 in
theorem c_M_needClass {l : Launch} {D : va_G} {A : Nat → Prop} {a : Nat → Nat} {cI cZ : ClassId} {nw : State → Prop} {st : sk_M} {v1 : Int32} {res : sk_M} (hok : sk_ok A nw) (h : M_needClass st v1 = some res) : sk_Cv l y_M_needClass w_M_needClass rm_M_needClass D (tyM cI cZ) A (ceM a cI cZ) nw [.ref (a 0), .int v1] st res := by
  refine sk_headv (by decide) rfl (Nat.le_of_ble_eq_true rfl) ?_
  intro p e s m args below meth c Q hx hb hml hown hts0 hnw hret ls hl hw
  have hts : ∀ w ∈ TB, w.before args s = true := fun w h => hts0 w (List.mem_cons_of_mem _ h)
  have hown : s.vm.findClass R_M = some m.cls := hown
  have hl : lv_has ls 2 [(0, .ref (a 0)), (1, .int v1)] := hl
  unfold M_needClass at h
  refine lv_aload_n hx hb d_M_needClass_0 rfl (lv_at hl 0 rfl) ?_
  refine gf_M_117 hx hb hts hnw hown hw d_M_needClass_1 ?_
  refine lv_iload_n hx hb d_M_needClass_4 rfl (lv_at hl 1 rfl) ?_
  obtain ⟨x5, g_5, e_5, h⟩ := sk_rI_some h
  refine al_M35 hx hb hw g_5 e_5 d_M_needClass_5 ?_
  have hJ14 : ∀ (st : sk_M) (v1 : Int32) (H : Heap) (locs : List Loc) (ls : Array Slot), M_needClass_J14 st v1 = some res → sk_w D (tyM cI cZ) A (ceM a cI cZ) s st H locs → lv_has ls 2 [(0, .ref (a 0)), (1, .int v1)] → W p l e rm_M_needClass s m args below meth c H locs 0 0 Q (F0 m 14 ls []) := by
    intro st v1 H locs ls h hw hl
    unfold M_needClass_J14 at h
    refine lv_aload_n hx hb d_M_needClass_14 rfl (lv_at hl 0 rfl) ?_
    refine gf_M_117 hx hb hts hnw hown hw d_M_needClass_15 ?_
    refine lv_iload_n hx hb d_M_needClass_18 rfl (lv_at hl 1 rfl) ?_
    refine lv_iconst (v := 1) hx hb d_M_needClass_19 (by decide) ?_
    obtain ⟨st20, g_20, e_20, h⟩ := sk_wI_some h
    refine as_M35 hx hb hw g_20 e_20 d_M_needClass_20 (fun H locs hw => ?_)
    exact hret _ _ _ _ _ (Option.some.inj h) hw d_M_needClass_21
  refine lv_if_ne (tgt := 14) hx hb d_M_needClass_6 (by decide) (fun c_6 => ?_) (fun c_6 => ?_)
  · have h := (if_neg c_6).symm.trans h
    exact hJ14 _ _ _ _ _ h hw (lv_sub hl [0, 1] rfl)
  · have h := (if_pos c_6).symm.trans h
    refine lv_aload_n hx hb d_M_needClass_9 rfl (lv_at hl 0 rfl) ?_
    refine lv_iconst (v := 1) hx hb d_M_needClass_10 (by decide) ?_
    obtain ⟨st11, e_11, h⟩ := sk_fI_some h
    refine pf_M_224 hx hb hts hnw hown hw (by decide) e_11 d_M_needClass_11 (fun H locs hw => ?_)
    exact hJ14 _ _ _ _ _ h hw (lv_sub hl [0, 1] rfl)
set_option maxHeartbeats 4000000 in
set_option maxRecDepth 100000 in
theorem c_M_make {l : Launch} {D : va_G} {A : Nat → Prop} {a : Nat → Nat} {cI cZ : ClassId} {nw : State → Prop} {st : sk_M} {v1 : Int32} {res : sk_M} (hok : sk_ok A nw) (h : M_make st v1 = some res) : sk_Cv l y_M_make w_M_make rm_M_make D (tyM cI cZ) A (ceM a cI cZ) nw [.ref (a 0), .int v1] st res := by
  refine sk_headv (by decide) rfl (Nat.le_of_ble_eq_true rfl) ?_
  intro p e s m args below meth c Q hx hb hml hown hts0 hnw hret ls hl hw
  have hts : ∀ w ∈ TB, w.before args s = true := fun w h => hts0 w (List.mem_cons_of_mem _ h)
  have hown : s.vm.findClass R_M = some m.cls := hown
  have hl : lv_has ls 2 [(0, .ref (a 0)), (1, .int v1)] := hl
  unfold M_make at h
  refine lv_aload_n hx hb d_M_make_0 rfl (lv_at hl 0 rfl) ?_
  refine gf_M_120 hx hb hts hnw hown hw d_M_make_1 ?_
  refine lv_iload_n hx hb d_M_make_4 rfl (lv_at hl 1 rfl) ?_
  obtain ⟨x5, g_5, e_5, h⟩ := sk_rI_some h
  refine al_M36 hx hb hw g_5 e_5 d_M_make_5 ?_
  have hJ14 : ∀ (st : sk_M) (v1 : Int32) (H : Heap) (locs : List Loc) (ls : Array Slot), M_make_J14 st v1 = some res → sk_w D (tyM cI cZ) A (ceM a cI cZ) s st H locs → lv_has ls 2 [(0, .ref (a 0)), (1, .int v1)] → W p l e rm_M_make s m args below meth c H locs 0 0 Q (F0 m 14 ls []) := by
    intro st v1 H locs ls h hw hl
    unfold M_make_J14 at h
    refine lv_aload_n hx hb d_M_make_14 rfl (lv_at hl 0 rfl) ?_
    refine gf_M_120 hx hb hts hnw hown hw d_M_make_15 ?_
    refine lv_iload_n hx hb d_M_make_18 rfl (lv_at hl 1 rfl) ?_
    refine lv_iconst (v := 1) hx hb d_M_make_19 (by decide) ?_
    obtain ⟨st20, g_20, e_20, h⟩ := sk_wI_some h
    refine as_M36 hx hb hw g_20 e_20 d_M_make_20 (fun H locs hw => ?_)
    exact hret _ _ _ _ _ (Option.some.inj h) hw d_M_make_21
  refine lv_if_ne (tgt := 14) hx hb d_M_make_6 (by decide) (fun c_6 => ?_) (fun c_6 => ?_)
  · have h := (if_neg c_6).symm.trans h
    exact hJ14 _ _ _ _ _ h hw (lv_sub hl [0, 1] rfl)
  · have h := (if_pos c_6).symm.trans h
    refine lv_aload_n hx hb d_M_make_9 rfl (lv_at hl 0 rfl) ?_
    refine lv_iconst (v := 1) hx hb d_M_make_10 (by decide) ?_
    obtain ⟨st11, e_11, h⟩ := sk_fI_some h
    refine pf_M_224 hx hb hts hnw hown hw (by decide) e_11 d_M_make_11 (fun H locs hw => ?_)
    exact hJ14 _ _ _ _ _ h hw (lv_sub hl [0, 1] rfl)
set_option maxHeartbeats 4000000 in
set_option maxRecDepth 100000 in
theorem c_M_start {l : Launch} {D : va_G} {A : Nat → Prop} {a : Nat → Nat} {cI cZ : ClassId} {nw : State → Prop} {st : sk_M} {v1 : Int32} {res : sk_M} (hok : sk_ok A nw) (h : M_start st v1 = some res) : sk_Cv l y_M_start w_M_start rm_M_start D (tyM cI cZ) A (ceM a cI cZ) nw [.ref (a 0), .int v1] st res := by
  refine sk_headv (by decide) rfl (Nat.le_of_ble_eq_true rfl) ?_
  intro p e s m args below meth c Q hx hb hml hown hts0 hnw hret ls hl hw
  have hts : ∀ w ∈ TB, w.before args s = true := fun w h => hts0 w (List.mem_cons_of_mem _ h)
  have hown : s.vm.findClass R_M = some m.cls := hown
  have hl : lv_has ls 2 [(0, .ref (a 0)), (1, .int v1)] := hl
  unfold M_start at h
  refine lv_aload_n hx hb d_M_start_0 rfl (lv_at hl 0 rfl) ?_
  refine gf_M_123 hx hb hts hnw hown hw d_M_start_1 ?_
  refine lv_iload_n hx hb d_M_start_4 rfl (lv_at hl 1 rfl) ?_
  obtain ⟨x5, g_5, e_5, h⟩ := sk_rI_some h
  refine al_M37 hx hb hw g_5 e_5 d_M_start_5 ?_
  have hJ14 : ∀ (st : sk_M) (v1 : Int32) (H : Heap) (locs : List Loc) (ls : Array Slot), M_start_J14 st v1 = some res → sk_w D (tyM cI cZ) A (ceM a cI cZ) s st H locs → lv_has ls 2 [(0, .ref (a 0)), (1, .int v1)] → W p l e rm_M_start s m args below meth c H locs 0 0 Q (F0 m 14 ls []) := by
    intro st v1 H locs ls h hw hl
    unfold M_start_J14 at h
    refine lv_aload_n hx hb d_M_start_14 rfl (lv_at hl 0 rfl) ?_
    refine gf_M_123 hx hb hts hnw hown hw d_M_start_15 ?_
    refine lv_iload_n hx hb d_M_start_18 rfl (lv_at hl 1 rfl) ?_
    refine lv_iconst (v := 1) hx hb d_M_start_19 (by decide) ?_
    obtain ⟨st20, g_20, e_20, h⟩ := sk_wI_some h
    refine as_M37 hx hb hw g_20 e_20 d_M_start_20 (fun H locs hw => ?_)
    exact hret _ _ _ _ _ (Option.some.inj h) hw d_M_start_21
  refine lv_if_ne (tgt := 14) hx hb d_M_start_6 (by decide) (fun c_6 => ?_) (fun c_6 => ?_)
  · have h := (if_neg c_6).symm.trans h
    exact hJ14 _ _ _ _ _ h hw (lv_sub hl [0, 1] rfl)
  · have h := (if_pos c_6).symm.trans h
    refine lv_aload_n hx hb d_M_start_9 rfl (lv_at hl 0 rfl) ?_
    refine lv_iconst (v := 1) hx hb d_M_start_10 (by decide) ?_
    obtain ⟨st11, e_11, h⟩ := sk_fI_some h
    refine pf_M_224 hx hb hts hnw hown hw (by decide) e_11 d_M_start_11 (fun H locs hw => ?_)
    exact hJ14 _ _ _ _ _ h hw (lv_sub hl [0, 1] rfl)
set_option maxHeartbeats 4000000 in
set_option maxRecDepth 100000 in
theorem c_M_needMember {l : Launch} {D : va_G} {A : Nat → Prop} {a : Nat → Nat} {cI cZ : ClassId} {nw : State → Prop} {st : sk_M} {v1 : Int32} {res : sk_M} (hok : sk_ok A nw) (h : M_needMember st v1 = some res) : sk_Cv l y_M_needMember w_M_needMember rm_M_needMember D (tyM cI cZ) A (ceM a cI cZ) nw [.ref (a 0), .int v1] st res := by
  refine sk_headv (by decide) rfl (Nat.le_of_ble_eq_true rfl) ?_
  intro p e s m args below meth c Q hx hb hml hown hts0 hnw hret ls hl hw
  have hts : ∀ w ∈ TB, w.before args s = true := fun w h => hts0 w (List.mem_cons_of_mem _ h)
  have hown : s.vm.findClass R_M = some m.cls := hown
  have hl : lv_has ls 2 [(0, .ref (a 0)), (1, .int v1)] := hl
  unfold M_needMember at h
  refine lv_iload_n hx hb d_M_needMember_0 rfl (lv_at hl 1 rfl) ?_
  refine lv_if_ge (tgt := 5) hx hb d_M_needMember_1 (by decide) (fun c_1 => ?_) (fun c_1 => ?_)
  · have h := (if_pos c_1).symm.trans h
    refine lv_aload_n hx hb d_M_needMember_5 rfl (lv_at hl 0 rfl) ?_
    refine gf_M_126 hx hb hts hnw hown hw d_M_needMember_6 ?_
    refine lv_iload_n hx hb d_M_needMember_9 rfl (lv_at hl 1 rfl) ?_
    obtain ⟨x10, g_10, e_10, h⟩ := sk_rI_some h
    refine al_M38 hx hb hw g_10 e_10 d_M_needMember_10 ?_
    have hJ19 : ∀ (st : sk_M) (v1 : Int32) (H : Heap) (locs : List Loc) (ls : Array Slot), M_needMember_J19 st v1 = some res → sk_w D (tyM cI cZ) A (ceM a cI cZ) s st H locs → lv_has ls 2 [(0, .ref (a 0)), (1, .int v1)] → W p l e rm_M_needMember s m args below meth c H locs 0 0 Q (F0 m 19 ls []) := by
      intro st v1 H locs ls h hw hl
      unfold M_needMember_J19 at h
      refine lv_aload_n hx hb d_M_needMember_19 rfl (lv_at hl 0 rfl) ?_
      refine gf_M_126 hx hb hts hnw hown hw d_M_needMember_20 ?_
      refine lv_iload_n hx hb d_M_needMember_23 rfl (lv_at hl 1 rfl) ?_
      refine lv_iconst (v := 1) hx hb d_M_needMember_24 (by decide) ?_
      obtain ⟨st25, g_25, e_25, h⟩ := sk_wI_some h
      refine as_M38 hx hb hw g_25 e_25 d_M_needMember_25 (fun H locs hw => ?_)
      exact hret _ _ _ _ _ (Option.some.inj h) hw d_M_needMember_26
    refine lv_if_ne (tgt := 19) hx hb d_M_needMember_11 (by decide) (fun c_11 => ?_) (fun c_11 => ?_)
    · have h := (if_neg c_11).symm.trans h
      exact hJ19 _ _ _ _ _ h hw (lv_sub hl [0, 1] rfl)
    · have h := (if_pos c_11).symm.trans h
      refine lv_aload_n hx hb d_M_needMember_14 rfl (lv_at hl 0 rfl) ?_
      refine lv_iconst (v := 1) hx hb d_M_needMember_15 (by decide) ?_
      obtain ⟨st16, e_16, h⟩ := sk_fI_some h
      refine pf_M_224 hx hb hts hnw hown hw (by decide) e_16 d_M_needMember_16 (fun H locs hw => ?_)
      exact hJ19 _ _ _ _ _ h hw (lv_sub hl [0, 1] rfl)
  · have h := (if_neg c_1).symm.trans h
    exact hret _ _ _ _ _ (Option.some.inj h) hw d_M_needMember_4
set_option maxHeartbeats 4000000 in
set_option maxRecDepth 100000 in
theorem c_M_byRules {l : Launch} {D : va_G} {A : Nat → Prop} {a : Nat → Nat} {cI cZ : ClassId} {nw : State → Prop} {N : Nat} {st : sk_M} {res : sk_M} (hok : sk_ok A nw) (h : M_byRules N st = some res) : sk_Cv l y_M_byRules w_M_byRules rm_M_byRules D (tyM cI cZ) A (ceM a cI cZ) nw [.ref (a 0)] st res := by
  refine sk_headv (by decide) rfl (Nat.le_of_ble_eq_true rfl) ?_
  intro p e s m args below meth c Q hx hb hml hown hts0 hnw hret ls hl hw
  have hts : ∀ w ∈ TB, w.before args s = true := fun w h => hts0 w (List.mem_cons_of_mem _ h)
  have hown : s.vm.findClass R_M = some m.cls := hown
  have hl : lv_has ls 4 [(0, .ref (a 0))] := hl
  unfold M_byRules at h
  refine lv_iconst (v := 0) hx hb d_M_byRules_0 (by decide) ?_
  refine lv_istore_n (lv' := [(1, .int (0 : Int32)), (0, .ref (a 0))]) hx hb d_M_byRules_1 rfl hl (by decide) rfl (fun ls hl => ?_)
  refine sk_lp_run (G := fun (z : sk_M × Int32) => ∀ (H : Heap) (locs : List Loc) (ls : Array Slot), sk_w D (tyM cI cZ) A (ceM a cI cZ) s z.1 H locs → lv_has ls 4 [(0, .ref (a 0)), (1, .int z.2)] → W p l e rm_M_byRules s m args below meth c H locs 0 0 Q (F0 m 2 ls [])) ?_ N _ h _ _ _ hw (lv_sub hl [1, 0] rfl)
  rintro self2 ⟨st, v1⟩ hself2 h H locs ls hw hl
  unfold M_byRules_L2 at h
  refine lv_iload_n hx hb d_M_byRules_2 rfl (lv_at hl 1 rfl) ?_
  refine lv_aload_n hx hb d_M_byRules_3 rfl (lv_at hl 0 rfl) ?_
  refine gf_M_185 hx hb hts hnw hown hw d_M_byRules_4 ?_
  refine lv_icmp_ge (tgt := 162) hx hb d_M_byRules_7 (by decide) (fun c_7 => ?_) (fun c_7 => ?_)
  · have h := (if_pos c_7).symm.trans h
    exact hret _ _ _ _ _ (Option.some.inj h) hw d_M_byRules_162
  · have h := (if_neg c_7).symm.trans h
    refine lv_iconst (v := 1) hx hb d_M_byRules_10 (by decide) ?_
    refine lv_istore_n (lv' := [(2, .int (1 : Int32)), (0, .ref (a 0)), (1, .int v1)]) hx hb d_M_byRules_11 rfl hl (by decide) rfl (fun ls hl => ?_)
    have hJ83 : ∀ (st : sk_M) (v1 : Int32) (H : Heap) (locs : List Loc) (ls : Array Slot), M_byRules_J83 N self2 st v1 = some res → sk_w D (tyM cI cZ) A (ceM a cI cZ) s st H locs → lv_has ls 4 [(0, .ref (a 0)), (1, .int v1)] → W p l e rm_M_byRules s m args below meth c H locs 0 0 Q (F0 m 83 ls []) := by
      intro st v1 H locs ls h hw hl
      unfold M_byRules_J83 at h
      refine lv_iconst (v := 1) hx hb d_M_byRules_83 (by decide) ?_
      refine lv_istore_n (lv' := [(2, .int (1 : Int32)), (0, .ref (a 0)), (1, .int v1)]) hx hb d_M_byRules_84 rfl hl (by decide) rfl (fun ls hl => ?_)
      have hJ156 : ∀ (st : sk_M) (v1 : Int32) (H : Heap) (locs : List Loc) (ls : Array Slot), M_byRules_J156 N self2 st v1 = some res → sk_w D (tyM cI cZ) A (ceM a cI cZ) s st H locs → lv_has ls 4 [(0, .ref (a 0)), (1, .int v1)] → W p l e rm_M_byRules s m args below meth c H locs 0 0 Q (F0 m 156 ls []) := by
        intro st v1 H locs ls h hw hl
        unfold M_byRules_J156 at h
        refine lv_iinc (v := v1 + 1) (lv' := [(1, .int (v1 + 1)), (0, .ref (a 0))]) hx hb d_M_byRules_156 hl (k := 1) rfl rfl (by decide) rfl (fun ls hl => ?_)
        refine lv_goto (tgt := 2) hx hb d_M_byRules_159 (by decide) ?_
        exact hself2 (st, (v1 + 1)) h _ _ _ hw (lv_sub hl [1, 0] rfl)
      refine sk_lp_run (G := fun (z : sk_M × Int32 × Int32) => ∀ (H : Heap) (locs : List Loc) (ls : Array Slot), sk_w D (tyM cI cZ) A (ceM a cI cZ) s z.1 H locs → lv_has ls 4 [(0, .ref (a 0)), (1, .int z.2.1), (2, .int z.2.2)] → W p l e rm_M_byRules s m args below meth c H locs 0 0 Q (F0 m 85 ls [])) ?_ N _ h _ _ _ hw (lv_sub hl [1, 2, 0] rfl)
      rintro self85 ⟨st, v1, v2⟩ hself85 h H locs ls hw hl
      unfold M_byRules_L85 at h
      refine lv_iload_n hx hb d_M_byRules_85 rfl (lv_at hl 2 rfl) ?_
      refine lv_aload_n hx hb d_M_byRules_86 rfl (lv_at hl 0 rfl) ?_
      refine gf_M_47 hx hb hts hnw hown hw d_M_byRules_87 ?_
      refine lv_icmp_ge (tgt := 156) hx hb d_M_byRules_90 (by decide) (fun c_90 => ?_) (fun c_90 => ?_)
      · have h := (if_pos c_90).symm.trans h
        exact hJ156 _ _ _ _ _ h hw (lv_sub hl [0, 1] rfl)
      · have h := (if_neg c_90).symm.trans h
        refine lv_aload_n hx hb d_M_byRules_93 rfl (lv_at hl 0 rfl) ?_
        refine gf_M_72 hx hb hts hnw hown hw d_M_byRules_94 ?_
        refine lv_iload_n hx hb d_M_byRules_97 rfl (lv_at hl 1 rfl) ?_
        obtain ⟨x98, g_98, e_98, h⟩ := sk_rI_some h
        refine al_M20 hx hb hw g_98 e_98 d_M_byRules_98 ?_
        have hJ140 : ∀ (st : sk_M) (v1 : Int32) (v2 : Int32) (s0 : Int32) (H : Heap) (locs : List Loc) (ls : Array Slot), M_byRules_J140 N (fun st v1 => M_byRules_J156 N self2 st v1) self85 st v1 v2 s0 = some res → sk_w D (tyM cI cZ) A (ceM a cI cZ) s st H locs → lv_has ls 4 [(0, .ref (a 0)), (1, .int v1), (2, .int v2)] → W p l e rm_M_byRules s m args below meth c H locs 0 0 Q (F0 m 140 ls [.int s0]) := by
          intro st v1 v2 s0 H locs ls h hw hl
          unfold M_byRules_J140 at h
          refine lv_istore_n (lv' := [(3, .int s0), (0, .ref (a 0)), (1, .int v1), (2, .int v2)]) hx hb d_M_byRules_140 rfl hl (by decide) rfl (fun ls hl => ?_)
          refine lv_iload_n hx hb d_M_byRules_141 rfl (lv_at hl 0 rfl) ?_
          refine lv_if_eq (tgt := 150) hx hb d_M_byRules_142 (by decide) (fun c_142 => ?_) (fun c_142 => ?_)
          · have h := (if_pos c_142).symm.trans h
            refine lv_iinc (v := v2 + 1) (lv' := [(2, .int (v2 + 1)), (3, .int s0), (0, .ref (a 0)), (1, .int v1)]) hx hb d_M_byRules_150 hl (k := 3) rfl rfl (by decide) rfl (fun ls hl => ?_)
            refine lv_goto (tgt := 85) hx hb d_M_byRules_153 (by decide) ?_
            exact hself85 (st, v1, (v2 + 1)) h _ _ _ hw (lv_sub hl [2, 3, 0] rfl)
          · have h := (if_neg c_142).symm.trans h
            refine lv_aload_n hx hb d_M_byRules_145 rfl (lv_at hl 1 rfl) ?_
            refine lv_iload_n hx hb d_M_byRules_146 rfl (lv_at hl 3 rfl) ?_
            obtain ⟨st147, q_147, h⟩ := sk_oR_some h
            refine sk_callVv (As := [.int v2]) (rest := []) ⟨hx, hb, hml, hown, hts⟩ hw hnw hok (c_M_needMember hok q_147) (cw_M_240 hts hnw (by decide)) (rc_M hw) rfl hl.1 rfl (Nat.le_of_ble_eq_true rfl) d_M_byRules_147 (fun H locs hw => ?_)
            refine lv_iinc (v := v2 + 1) (lv' := [(2, .int (v2 + 1)), (3, .int s0), (0, .ref (a 0)), (1, .int v1)]) hx hb d_M_byRules_150 hl (k := 3) rfl rfl (by decide) rfl (fun ls hl => ?_)
            refine lv_goto (tgt := 85) hx hb d_M_byRules_153 (by decide) ?_
            exact hself85 (st147, v1, (v2 + 1)) h _ _ _ hw (lv_sub hl [2, 3, 0] rfl)
        have hJ139 : ∀ (st : sk_M) (v1 : Int32) (v2 : Int32) (H : Heap) (locs : List Loc) (ls : Array Slot), M_byRules_J139 N (fun st v1 => M_byRules_J156 N self2 st v1) self85 st v1 v2 = some res → sk_w D (tyM cI cZ) A (ceM a cI cZ) s st H locs → lv_has ls 4 [(0, .ref (a 0)), (1, .int v1), (2, .int v2)] → W p l e rm_M_byRules s m args below meth c H locs 0 0 Q (F0 m 139 ls []) := by
          intro st v1 v2 H locs ls h hw hl
          unfold M_byRules_J139 at h
          refine lv_iconst (v := 0) hx hb d_M_byRules_139 (by decide) ?_
          exact hJ140 _ _ _ _ _ _ _ h hw (lv_sub hl [0, 1, 2] rfl)
        have hJ126 : ∀ (st : sk_M) (v1 : Int32) (v2 : Int32) (H : Heap) (locs : List Loc) (ls : Array Slot), M_byRules_J126 N (fun st v1 => M_byRules_J156 N self2 st v1) self85 st v1 v2 = some res → sk_w D (tyM cI cZ) A (ceM a cI cZ) s st H locs → lv_has ls 4 [(0, .ref (a 0)), (1, .int v1), (2, .int v2)] → W p l e rm_M_byRules s m args below meth c H locs 0 0 Q (F0 m 126 ls []) := by
          intro st v1 v2 H locs ls h hw hl
          unfold M_byRules_J126 at h
          refine lv_aload_n hx hb d_M_byRules_126 rfl (lv_at hl 0 rfl) ?_
          refine lv_iload_n hx hb d_M_byRules_127 rfl (lv_at hl 1 rfl) ?_
          refine lv_iload_n hx hb d_M_byRules_128 rfl (lv_at hl 2 rfl) ?_
          obtain ⟨x129, st129, q_129, h⟩ := sk_oW_some h
          refine sk_callVi (As := [.int v1, .int v2]) (rest := []) ⟨hx, hb, hml, hown, hts⟩ hw hnw hok (c_M_isMeant hok q_129) (cw_M_237 hts hnw (by decide)) (rc_M hw) rfl hl.1 rfl (Nat.le_of_ble_eq_true rfl) d_M_byRules_129 (fun H locs hw => ?_)
          refine lv_if_eq (tgt := 139) hx hb d_M_byRules_132 (by decide) (fun c_132 => ?_) (fun c_132 => ?_)
          · have h := (if_pos c_132).symm.trans h
            exact hJ139 _ _ _ _ _ _ h hw (lv_sub hl [0, 1, 2] rfl)
          · have h := (if_neg c_132).symm.trans h
            refine lv_iconst (v := 1) hx hb d_M_byRules_135 (by decide) ?_
            refine lv_goto (tgt := 140) hx hb d_M_byRules_136 (by decide) ?_
            exact hJ140 _ _ _ _ _ _ _ h hw (lv_sub hl [0, 1, 2] rfl)
        refine lv_if_eq (tgt := 126) hx hb d_M_byRules_99 (by decide) (fun c_99 => ?_) (fun c_99 => ?_)
        · have h := (if_pos c_99).symm.trans h
          exact hJ126 _ _ _ _ _ _ h hw (lv_sub hl [0, 1, 2] rfl)
        · have h := (if_neg c_99).symm.trans h
          refine lv_aload_n hx hb d_M_byRules_102 rfl (lv_at hl 0 rfl) ?_
          refine gf_M_72 hx hb hts hnw hown hw d_M_byRules_103 ?_
          refine lv_iload_n hx hb d_M_byRules_106 rfl (lv_at hl 1 rfl) ?_
          obtain ⟨x107, g_107, e_107, h⟩ := sk_rI_some h
          refine al_M20 hx hb hw g_107 e_107 d_M_byRules_107 ?_
          refine lv_iconst (v := 2) hx hb d_M_byRules_108 (by decide) ?_
          refine lv_icmp_ne (tgt := 139) hx hb d_M_byRules_109 (by decide) (fun c_109 => ?_) (fun c_109 => ?_)
          · have h := (if_neg c_109).symm.trans h
            exact hJ139 _ _ _ _ _ _ h hw (lv_sub hl [0, 1, 2] rfl)
          · have h := (if_pos c_109).symm.trans h
            refine lv_aload_n hx hb d_M_byRules_112 rfl (lv_at hl 0 rfl) ?_
            refine gf_M_117 hx hb hts hnw hown hw d_M_byRules_113 ?_
            refine lv_aload_n hx hb d_M_byRules_116 rfl (lv_at hl 0 rfl) ?_
            refine gf_M_32 hx hb hts hnw hown hw d_M_byRules_117 ?_
            refine lv_iload_n hx hb d_M_byRules_120 rfl (lv_at hl 2 rfl) ?_
            obtain ⟨x121, g_121, e_121, h⟩ := sk_rI_some h
            refine al_M8 hx hb hw g_121 e_121 d_M_byRules_121 ?_
            obtain ⟨x122, g_122, e_122, h⟩ := sk_rI_some h
            refine al_M35 hx hb hw g_122 e_122 d_M_byRules_122 ?_
            refine lv_if_eq (tgt := 139) hx hb d_M_byRules_123 (by decide) (fun c_123 => ?_) (fun c_123 => ?_)
            · have h := (if_pos c_123).symm.trans h
              exact hJ139 _ _ _ _ _ _ h hw (lv_sub hl [0, 1, 2] rfl)
            · have h := (if_neg c_123).symm.trans h
              exact hJ126 _ _ _ _ _ _ h hw (lv_sub hl [0, 1, 2] rfl)
    refine sk_lp_run (G := fun (z : sk_M × Int32 × Int32) => ∀ (H : Heap) (locs : List Loc) (ls : Array Slot), sk_w D (tyM cI cZ) A (ceM a cI cZ) s z.1 H locs → lv_has ls 4 [(0, .ref (a 0)), (1, .int z.2.1), (2, .int z.2.2)] → W p l e rm_M_byRules s m args below meth c H locs 0 0 Q (F0 m 12 ls [])) ?_ N _ h _ _ _ hw (lv_sub hl [1, 2, 0] rfl)
    rintro self12 ⟨st, v1, v2⟩ hself12 h H locs ls hw hl
    unfold M_byRules_L12 at h
    refine lv_iload_n hx hb d_M_byRules_12 rfl (lv_at hl 2 rfl) ?_
    refine lv_bipush (v := 10) hx hb d_M_byRules_13 (by decide) ?_
    refine lv_icmp_ge (tgt := 83) hx hb d_M_byRules_15 (by decide) (fun c_15 => ?_) (fun c_15 => ?_)
    · have h := (if_pos c_15).symm.trans h
      exact hJ83 _ _ _ _ _ h hw (lv_sub hl [0, 1] rfl)
    · have h := (if_neg c_15).symm.trans h
      refine lv_aload_n hx hb d_M_byRules_18 rfl (lv_at hl 0 rfl) ?_
      refine gf_M_129 hx hb hts hnw hown hw d_M_byRules_19 ?_
      refine lv_bipush (v := 10) hx hb d_M_byRules_22 (by decide) ?_
      refine lv_iload_n hx hb d_M_byRules_24 rfl (lv_at hl 1 rfl) ?_
      refine lv_imul hx hb d_M_byRules_25 ?_
      refine lv_iload_n hx hb d_M_byRules_26 rfl (lv_at hl 2 rfl) ?_
      refine lv_iadd hx hb d_M_byRules_27 ?_
      obtain ⟨x28, g_28, e_28, h⟩ := sk_rI_some h
      refine al_M39 hx hb hw g_28 e_28 d_M_byRules_28 ?_
      refine lv_if_eq (tgt := 77) hx hb d_M_byRules_29 (by decide) (fun c_29 => ?_) (fun c_29 => ?_)
      · have h := (if_pos c_29).symm.trans h
        refine lv_iinc (v := v2 + 1) (lv' := [(2, .int (v2 + 1)), (0, .ref (a 0)), (1, .int v1)]) hx hb d_M_byRules_77 hl (k := 2) rfl rfl (by decide) rfl (fun ls hl => ?_)
        refine lv_goto (tgt := 12) hx hb d_M_byRules_80 (by decide) ?_
        exact hself12 (st, v1, (v2 + 1)) h _ _ _ hw (lv_sub hl [1, 2, 0] rfl)
      · have h := (if_neg c_29).symm.trans h
        refine lv_aload_n hx hb d_M_byRules_32 rfl (lv_at hl 0 rfl) ?_
        refine gf_M_72 hx hb hts hnw hown hw d_M_byRules_33 ?_
        refine lv_iload_n hx hb d_M_byRules_36 rfl (lv_at hl 1 rfl) ?_
        obtain ⟨x37, g_37, e_37, h⟩ := sk_rI_some h
        refine al_M20 hx hb hw g_37 e_37 d_M_byRules_37 ?_
        refine lv_if_eq (tgt := 44) hx hb d_M_byRules_38 (by decide) (fun c_38 => ?_) (fun c_38 => ?_)
        · have h := (if_pos c_38).symm.trans h
          refine lv_aload_n hx hb d_M_byRules_44 rfl (lv_at hl 0 rfl) ?_
          refine lv_iload_n hx hb d_M_byRules_45 rfl (lv_at hl 2 rfl) ?_
          obtain ⟨st46, q_46, h⟩ := sk_oR_some h
          refine sk_callVv (As := [.int v2]) (rest := []) ⟨hx, hb, hml, hown, hts⟩ hw hnw hok (c_M_needClass hok q_46) (cw_M_228 hts hnw (by decide)) (rc_M hw) rfl hl.1 rfl (Nat.le_of_ble_eq_true rfl) d_M_byRules_46 (fun H locs hw => ?_)
          refine lv_aload_n hx hb d_M_byRules_49 rfl (lv_at hl 0 rfl) ?_
          refine lv_iload_n hx hb d_M_byRules_50 rfl (lv_at hl 2 rfl) ?_
          obtain ⟨st51, q_51, h⟩ := sk_oR_some h
          refine sk_callVv (As := [.int v2]) (rest := []) ⟨hx, hb, hml, hown, hts⟩ hw hnw hok (c_M_start hok q_51) (cw_M_231 hts hnw (by decide)) (rc_M hw) rfl hl.1 rfl (Nat.le_of_ble_eq_true rfl) d_M_byRules_51 (fun H locs hw => ?_)
          refine lv_aload_n hx hb d_M_byRules_54 rfl (lv_at hl 0 rfl) ?_
          refine gf_M_16 hx hb hts hnw hown hw d_M_byRules_55 ?_
          refine lv_iload_n hx hb d_M_byRules_58 rfl (lv_at hl 2 rfl) ?_
          obtain ⟨x59, g_59, e_59, h⟩ := sk_rI_some h
          refine al_M3 hx hb hw g_59 e_59 d_M_byRules_59 ?_
          refine lv_if_ne (tgt := 77) hx hb d_M_byRules_60 (by decide) (fun c_60 => ?_) (fun c_60 => ?_)
          · have h := (if_neg c_60).symm.trans h
            refine lv_iinc (v := v2 + 1) (lv' := [(2, .int (v2 + 1)), (0, .ref (a 0)), (1, .int v1)]) hx hb d_M_byRules_77 hl (k := 2) rfl rfl (by decide) rfl (fun ls hl => ?_)
            refine lv_goto (tgt := 12) hx hb d_M_byRules_80 (by decide) ?_
            exact hself12 (st51, v1, (v2 + 1)) h _ _ _ hw (lv_sub hl [1, 2, 0] rfl)
          · have h := (if_pos c_60).symm.trans h
            refine lv_aload_n hx hb d_M_byRules_63 rfl (lv_at hl 0 rfl) ?_
            refine gf_M_13 hx hb hts hnw hown hw d_M_byRules_64 ?_
            refine lv_iload_n hx hb d_M_byRules_67 rfl (lv_at hl 2 rfl) ?_
            obtain ⟨x68, g_68, e_68, h⟩ := sk_rI_some h
            refine al_M2 hx hb hw g_68 e_68 d_M_byRules_68 ?_
            refine lv_if_ne (tgt := 77) hx hb d_M_byRules_69 (by decide) (fun c_69 => ?_) (fun c_69 => ?_)
            · have h := (if_neg c_69).symm.trans h
              refine lv_iinc (v := v2 + 1) (lv' := [(2, .int (v2 + 1)), (0, .ref (a 0)), (1, .int v1)]) hx hb d_M_byRules_77 hl (k := 2) rfl rfl (by decide) rfl (fun ls hl => ?_)
              refine lv_goto (tgt := 12) hx hb d_M_byRules_80 (by decide) ?_
              exact hself12 (st51, v1, (v2 + 1)) h _ _ _ hw (lv_sub hl [1, 2, 0] rfl)
            · have h := (if_pos c_69).symm.trans h
              refine lv_aload_n hx hb d_M_byRules_72 rfl (lv_at hl 0 rfl) ?_
              refine lv_iload_n hx hb d_M_byRules_73 rfl (lv_at hl 2 rfl) ?_
              obtain ⟨st74, q_74, h⟩ := sk_oR_some h
              refine sk_callVv (As := [.int v2]) (rest := []) ⟨hx, hb, hml, hown, hts⟩ hw hnw hok (c_M_make hok q_74) (cw_M_234 hts hnw (by decide)) (rc_M hw) rfl hl.1 rfl (Nat.le_of_ble_eq_true rfl) d_M_byRules_74 (fun H locs hw => ?_)
              refine lv_iinc (v := v2 + 1) (lv' := [(2, .int (v2 + 1)), (0, .ref (a 0)), (1, .int v1)]) hx hb d_M_byRules_77 hl (k := 2) rfl rfl (by decide) rfl (fun ls hl => ?_)
              refine lv_goto (tgt := 12) hx hb d_M_byRules_80 (by decide) ?_
              exact hself12 (st74, v1, (v2 + 1)) h _ _ _ hw (lv_sub hl [1, 2, 0] rfl)
        · have h := (if_neg c_38).symm.trans h
          refine lv_goto (tgt := 77) hx hb d_M_byRules_41 (by decide) ?_
          refine lv_iinc (v := v2 + 1) (lv' := [(2, .int (v2 + 1)), (0, .ref (a 0)), (1, .int v1)]) hx hb d_M_byRules_77 hl (k := 2) rfl rfl (by decide) rfl (fun ls hl => ?_)
          refine lv_goto (tgt := 12) hx hb d_M_byRules_80 (by decide) ?_
          exact hself12 (st, v1, (v2 + 1)) h _ _ _ hw (lv_sub hl [1, 2, 0] rfl)
set_option maxHeartbeats 4000000 in
set_option maxRecDepth 100000 in
theorem c_M_byClasses {l : Launch} {D : va_G} {A : Nat → Prop} {a : Nat → Nat} {cI cZ : ClassId} {nw : State → Prop} {N : Nat} {st : sk_M} {res : sk_M} (hok : sk_ok A nw) (h : M_byClasses N st = some res) : sk_Cv l y_M_byClasses w_M_byClasses rm_M_byClasses D (tyM cI cZ) A (ceM a cI cZ) nw [.ref (a 0)] st res := by
  refine sk_headv (by decide) rfl (Nat.le_of_ble_eq_true rfl) ?_
  intro p e s m args below meth c Q hx hb hml hown hts0 hnw hret ls hl hw
  have hts : ∀ w ∈ TB, w.before args s = true := fun w h => hts0 w (List.mem_cons_of_mem _ h)
  have hown : s.vm.findClass R_M = some m.cls := hown
  have hl : lv_has ls 4 [(0, .ref (a 0))] := hl
  unfold M_byClasses at h
  refine lv_iconst (v := 0) hx hb d_M_byClasses_0 (by decide) ?_
  refine lv_istore_n (lv' := [(1, .int (0 : Int32)), (0, .ref (a 0))]) hx hb d_M_byClasses_1 rfl hl (by decide) rfl (fun ls hl => ?_)
  have hJ138 : ∀ (st : sk_M) (H : Heap) (locs : List Loc) (ls : Array Slot), M_byClasses_J138 N st = some res → sk_w D (tyM cI cZ) A (ceM a cI cZ) s st H locs → lv_has ls 4 [(0, .ref (a 0))] → W p l e rm_M_byClasses s m args below meth c H locs 0 0 Q (F0 m 138 ls []) := by
    intro st H locs ls h hw hl
    unfold M_byClasses_J138 at h
    refine lv_iconst (v := 0) hx hb d_M_byClasses_138 (by decide) ?_
    refine lv_istore_n (lv' := [(1, .int (0 : Int32)), (0, .ref (a 0))]) hx hb d_M_byClasses_139 rfl hl (by decide) rfl (fun ls hl => ?_)
    refine sk_lp_run (G := fun (z : sk_M × Int32) => ∀ (H : Heap) (locs : List Loc) (ls : Array Slot), sk_w D (tyM cI cZ) A (ceM a cI cZ) s z.1 H locs → lv_has ls 4 [(0, .ref (a 0)), (1, .int z.2)] → W p l e rm_M_byClasses s m args below meth c H locs 0 0 Q (F0 m 140 ls [])) ?_ N _ h _ _ _ hw (lv_sub hl [1, 0] rfl)
    rintro self140 ⟨st, v1⟩ hself140 h H locs ls hw hl
    unfold M_byClasses_L140 at h
    refine lv_iload_n hx hb d_M_byClasses_140 rfl (lv_at hl 1 rfl) ?_
    refine lv_aload_n hx hb d_M_byClasses_141 rfl (lv_at hl 0 rfl) ?_
    refine gf_M_47 hx hb hts hnw hown hw d_M_byClasses_142 ?_
    refine lv_icmp_ge (tgt := 173) hx hb d_M_byClasses_145 (by decide) (fun c_145 => ?_) (fun c_145 => ?_)
    · have h := (if_pos c_145).symm.trans h
      exact hret _ _ _ _ _ (Option.some.inj h) hw d_M_byClasses_173
    · have h := (if_neg c_145).symm.trans h
      refine lv_aload_n hx hb d_M_byClasses_148 rfl (lv_at hl 0 rfl) ?_
      refine gf_M_126 hx hb hts hnw hown hw d_M_byClasses_149 ?_
      refine lv_iload_n hx hb d_M_byClasses_152 rfl (lv_at hl 1 rfl) ?_
      obtain ⟨x153, g_153, e_153, h⟩ := sk_rI_some h
      refine al_M38 hx hb hw g_153 e_153 d_M_byClasses_153 ?_
      refine lv_if_eq (tgt := 167) hx hb d_M_byClasses_154 (by decide) (fun c_154 => ?_) (fun c_154 => ?_)
      · have h := (if_pos c_154).symm.trans h
        refine lv_iinc (v := v1 + 1) (lv' := [(1, .int (v1 + 1)), (0, .ref (a 0))]) hx hb d_M_byClasses_167 hl (k := 1) rfl rfl (by decide) rfl (fun ls hl => ?_)
        refine lv_goto (tgt := 140) hx hb d_M_byClasses_170 (by decide) ?_
        exact hself140 (st, (v1 + 1)) h _ _ _ hw (lv_sub hl [1, 0] rfl)
      · have h := (if_neg c_154).symm.trans h
        refine lv_aload_n hx hb d_M_byClasses_157 rfl (lv_at hl 0 rfl) ?_
        refine lv_aload_n hx hb d_M_byClasses_158 rfl (lv_at hl 0 rfl) ?_
        refine gf_M_32 hx hb hts hnw hown hw d_M_byClasses_159 ?_
        refine lv_iload_n hx hb d_M_byClasses_162 rfl (lv_at hl 1 rfl) ?_
        obtain ⟨x163, g_163, e_163, h⟩ := sk_rI_some h
        refine al_M8 hx hb hw g_163 e_163 d_M_byClasses_163 ?_
        obtain ⟨st164, q_164, h⟩ := sk_oR_some h
        refine sk_callVv (As := [.int x163]) (rest := []) ⟨hx, hb, hml, hown, hts⟩ hw hnw hok (c_M_needClass hok q_164) (cw_M_228 hts hnw (by decide)) (rc_M hw) rfl hl.1 rfl (Nat.le_of_ble_eq_true rfl) d_M_byClasses_164 (fun H locs hw => ?_)
        refine lv_iinc (v := v1 + 1) (lv' := [(1, .int (v1 + 1)), (0, .ref (a 0))]) hx hb d_M_byClasses_167 hl (k := 1) rfl rfl (by decide) rfl (fun ls hl => ?_)
        refine lv_goto (tgt := 140) hx hb d_M_byClasses_170 (by decide) ?_
        exact hself140 (st164, (v1 + 1)) h _ _ _ hw (lv_sub hl [1, 0] rfl)
  refine sk_lp_run (G := fun (z : sk_M × Int32) => ∀ (H : Heap) (locs : List Loc) (ls : Array Slot), sk_w D (tyM cI cZ) A (ceM a cI cZ) s z.1 H locs → lv_has ls 4 [(0, .ref (a 0)), (1, .int z.2)] → W p l e rm_M_byClasses s m args below meth c H locs 0 0 Q (F0 m 2 ls [])) ?_ N _ h _ _ _ hw (lv_sub hl [1, 0] rfl)
  rintro self2 ⟨st, v1⟩ hself2 h H locs ls hw hl
  unfold M_byClasses_L2 at h
  refine lv_iload_n hx hb d_M_byClasses_2 rfl (lv_at hl 1 rfl) ?_
  refine lv_bipush (v := 10) hx hb d_M_byClasses_3 (by decide) ?_
  refine lv_icmp_ge (tgt := 138) hx hb d_M_byClasses_5 (by decide) (fun c_5 => ?_) (fun c_5 => ?_)
  · have h := (if_pos c_5).symm.trans h
    exact hJ138 _ _ _ _ h hw (lv_sub hl [0] rfl)
  · have h := (if_neg c_5).symm.trans h
    refine lv_aload_n hx hb d_M_byClasses_8 rfl (lv_at hl 0 rfl) ?_
    refine lv_iload_n hx hb d_M_byClasses_9 rfl (lv_at hl 1 rfl) ?_
    obtain ⟨x10, q_10, h⟩ := sk_oR_some h
    refine sk_callVi (As := [.int v1]) (rest := []) ⟨hx, hb, hml, hown, hts⟩ hw hnw hok (c_M_superOf hok q_10) (cw_M_214 hts hnw (by decide)) (rc_M hw) rfl hl.1 rfl (Nat.le_of_ble_eq_true rfl) d_M_byClasses_10 (fun H locs hw => ?_)
    refine lv_istore_n (lv' := [(2, .int x10), (0, .ref (a 0)), (1, .int v1)]) hx hb d_M_byClasses_13 rfl hl (by decide) rfl (fun ls hl => ?_)
    refine lv_aload_n hx hb d_M_byClasses_14 rfl (lv_at hl 1 rfl) ?_
    refine gf_M_117 hx hb hts hnw hown hw d_M_byClasses_15 ?_
    refine lv_iload_n hx hb d_M_byClasses_18 rfl (lv_at hl 2 rfl) ?_
    obtain ⟨x19, g_19, e_19, h⟩ := sk_rI_some h
    refine al_M35 hx hb hw g_19 e_19 d_M_byClasses_19 ?_
    have hJ59 : ∀ (st : sk_M) (v1 : Int32) (v2 : Int32) (H : Heap) (locs : List Loc) (ls : Array Slot), M_byClasses_J59 N (fun st => M_byClasses_J138 N st) self2 st v1 v2 = some res → sk_w D (tyM cI cZ) A (ceM a cI cZ) s st H locs → lv_has ls 4 [(0, .ref (a 0)), (1, .int v1), (2, .int v2)] → W p l e rm_M_byClasses s m args below meth c H locs 0 0 Q (F0 m 59 ls []) := by
      intro st v1 v2 H locs ls h hw hl
      unfold M_byClasses_J59 at h
      refine lv_aload_n hx hb d_M_byClasses_59 rfl (lv_at hl 0 rfl) ?_
      refine gf_M_123 hx hb hts hnw hown hw d_M_byClasses_60 ?_
      refine lv_iload_n hx hb d_M_byClasses_63 rfl (lv_at hl 1 rfl) ?_
      obtain ⟨x64, g_64, e_64, h⟩ := sk_rI_some h
      refine al_M37 hx hb hw g_64 e_64 d_M_byClasses_64 ?_
      have hJ107 : ∀ (st : sk_M) (v1 : Int32) (H : Heap) (locs : List Loc) (ls : Array Slot), M_byClasses_J107 N (fun st => M_byClasses_J138 N st) self2 st v1 = some res → sk_w D (tyM cI cZ) A (ceM a cI cZ) s st H locs → lv_has ls 4 [(0, .ref (a 0)), (1, .int v1)] → W p l e rm_M_byClasses s m args below meth c H locs 0 0 Q (F0 m 107 ls []) := by
        intro st v1 H locs ls h hw hl
        unfold M_byClasses_J107 at h
        refine lv_aload_n hx hb d_M_byClasses_107 rfl (lv_at hl 0 rfl) ?_
        refine gf_M_120 hx hb hts hnw hown hw d_M_byClasses_108 ?_
        refine lv_iload_n hx hb d_M_byClasses_111 rfl (lv_at hl 1 rfl) ?_
        obtain ⟨x112, g_112, e_112, h⟩ := sk_rI_some h
        refine al_M36 hx hb hw g_112 e_112 d_M_byClasses_112 ?_
        refine lv_if_eq (tgt := 132) hx hb d_M_byClasses_113 (by decide) (fun c_113 => ?_) (fun c_113 => ?_)
        · have h := (if_pos c_113).symm.trans h
          refine lv_iinc (v := v1 + 1) (lv' := [(1, .int (v1 + 1)), (0, .ref (a 0))]) hx hb d_M_byClasses_132 hl (k := 1) rfl rfl (by decide) rfl (fun ls hl => ?_)
          refine lv_goto (tgt := 2) hx hb d_M_byClasses_135 (by decide) ?_
          exact hself2 (st, (v1 + 1)) h _ _ _ hw (lv_sub hl [1, 0] rfl)
        · have h := (if_neg c_113).symm.trans h
          refine lv_aload_n hx hb d_M_byClasses_116 rfl (lv_at hl 0 rfl) ?_
          refine lv_iload_n hx hb d_M_byClasses_117 rfl (lv_at hl 1 rfl) ?_
          refine lv_iconst (v := 1) hx hb d_M_byClasses_118 (by decide) ?_
          refine lv_iconst (v := 0) hx hb d_M_byClasses_119 (by decide) ?_
          refine lv_iconst (v := 0) hx hb d_M_byClasses_120 (by decide) ?_
          refine lv_iconst (v := 1) hx hb d_M_byClasses_121 (by decide) ?_
          refine lv_iconst (v := 0) hx hb d_M_byClasses_122 (by decide) ?_
          obtain ⟨x123, q_123, h⟩ := sk_oR_some h
          refine sk_callVi (As := [.int v1, .int (1 : Int32), .int (0 : Int32), .int (0 : Int32), .int (1 : Int32), .int (0 : Int32)]) (rest := []) ⟨hx, hb, hml, hown, hts⟩ hw hnw hok (c_M_look hok q_123) (cw_M_243 hts hnw (by decide)) (rc_M hw) rfl hl.1 rfl (Nat.le_of_ble_eq_true rfl) d_M_byClasses_123 (fun H locs hw => ?_)
          refine lv_istore_n (lv' := [(3, .int x123), (0, .ref (a 0)), (1, .int v1)]) hx hb d_M_byClasses_126 rfl hl (by decide) rfl (fun ls hl => ?_)
          refine lv_aload_n hx hb d_M_byClasses_127 rfl (lv_at hl 1 rfl) ?_
          refine lv_iload_n hx hb d_M_byClasses_128 rfl (lv_at hl 0 rfl) ?_
          obtain ⟨st129, q_129, h⟩ := sk_oR_some h
          refine sk_callVv (As := [.int x123]) (rest := []) ⟨hx, hb, hml, hown, hts⟩ hw hnw hok (c_M_needMember hok q_129) (cw_M_240 hts hnw (by decide)) (rc_M hw) rfl hl.1 rfl (Nat.le_of_ble_eq_true rfl) d_M_byClasses_129 (fun H locs hw => ?_)
          refine lv_iinc (v := v1 + 1) (lv' := [(1, .int (v1 + 1)), (3, .int x123), (0, .ref (a 0))]) hx hb d_M_byClasses_132 hl (k := 2) rfl rfl (by decide) rfl (fun ls hl => ?_)
          refine lv_goto (tgt := 2) hx hb d_M_byClasses_135 (by decide) ?_
          exact hself2 (st129, (v1 + 1)) h _ _ _ hw (lv_sub hl [2, 0] rfl)
      refine lv_if_eq (tgt := 107) hx hb d_M_byClasses_65 (by decide) (fun c_65 => ?_) (fun c_65 => ?_)
      · have h := (if_pos c_65).symm.trans h
        exact hJ107 _ _ _ _ _ h hw (lv_sub hl [0, 1] rfl)
      · have h := (if_neg c_65).symm.trans h
        refine lv_iload_n hx hb d_M_byClasses_68 rfl (lv_at hl 1 rfl) ?_
        have hJ77 : ∀ (st : sk_M) (v1 : Int32) (H : Heap) (locs : List Loc) (ls : Array Slot), M_byClasses_J77 N (fun st => M_byClasses_J138 N st) self2 st v1 = some res → sk_w D (tyM cI cZ) A (ceM a cI cZ) s st H locs → lv_has ls 4 [(0, .ref (a 0)), (1, .int v1)] → W p l e rm_M_byClasses s m args below meth c H locs 0 0 Q (F0 m 77 ls []) := by
          intro st v1 H locs ls h hw hl
          unfold M_byClasses_J77 at h
          refine lv_aload_n hx hb d_M_byClasses_77 rfl (lv_at hl 0 rfl) ?_
          refine lv_iload_n hx hb d_M_byClasses_78 rfl (lv_at hl 1 rfl) ?_
          refine lv_iconst (v := 1) hx hb d_M_byClasses_79 (by decide) ?_
          refine lv_bipush (v := 7) hx hb d_M_byClasses_80 (by decide) ?_
          refine lv_iconst (v := 0) hx hb d_M_byClasses_82 (by decide) ?_
          obtain ⟨x83, q_83, h⟩ := sk_oR_some h
          refine sk_callVi (As := [.int v1, .int (1 : Int32), .int (7 : Int32), .int (0 : Int32)]) (rest := []) ⟨hx, hb, hml, hown, hts⟩ hw hnw hok (c_M_own hok q_83) (cw_M_139 hts hnw (by decide)) (rc_M hw) rfl hl.1 rfl (Nat.le_of_ble_eq_true rfl) d_M_byClasses_83 (fun H locs hw => ?_)
          refine lv_istore_n (lv' := [(3, .int x83), (0, .ref (a 0)), (1, .int v1)]) hx hb d_M_byClasses_86 rfl hl (by decide) rfl (fun ls hl => ?_)
          refine lv_iload_n hx hb d_M_byClasses_87 rfl (lv_at hl 0 rfl) ?_
          refine lv_if_lt (tgt := 107) hx hb d_M_byClasses_88 (by decide) (fun c_88 => ?_) (fun c_88 => ?_)
          · have h := (if_pos c_88).symm.trans h
            exact hJ107 _ _ _ _ _ h hw (lv_sub hl [1, 2] rfl)
          · have h := (if_neg c_88).symm.trans h
            refine lv_aload_n hx hb d_M_byClasses_91 rfl (lv_at hl 1 rfl) ?_
            refine gf_M_41 hx hb hts hnw hown hw d_M_byClasses_92 ?_
            refine lv_iload_n hx hb d_M_byClasses_95 rfl (lv_at hl 0 rfl) ?_
            obtain ⟨x96, g_96, e_96, h⟩ := sk_rI_some h
            refine al_M11 hx hb hw g_96 e_96 d_M_byClasses_96 ?_
            refine lv_iconst (v := 2) hx hb d_M_byClasses_97 (by decide) ?_
            refine lv_iand hx hb d_M_byClasses_98 ?_
            refine lv_if_eq (tgt := 107) hx hb d_M_byClasses_99 (by decide) (fun c_99 => ?_) (fun c_99 => ?_)
            · have h := (if_pos c_99).symm.trans h
              exact hJ107 _ _ _ _ _ h hw (lv_sub hl [1, 2] rfl)
            · have h := (if_neg c_99).symm.trans h
              refine lv_aload_n hx hb d_M_byClasses_102 rfl (lv_at hl 1 rfl) ?_
              refine lv_iload_n hx hb d_M_byClasses_103 rfl (lv_at hl 0 rfl) ?_
              obtain ⟨st104, q_104, h⟩ := sk_oR_some h
              refine sk_callVv (As := [.int x83]) (rest := []) ⟨hx, hb, hml, hown, hts⟩ hw hnw hok (c_M_needMember hok q_104) (cw_M_240 hts hnw (by decide)) (rc_M hw) rfl hl.1 rfl (Nat.le_of_ble_eq_true rfl) d_M_byClasses_104 (fun H locs hw => ?_)
              exact hJ107 _ _ _ _ _ h hw (lv_sub hl [1, 2] rfl)
        refine lv_if_le (tgt := 77) hx hb d_M_byClasses_69 (by decide) (fun c_69 => ?_) (fun c_69 => ?_)
        · have h := (if_pos c_69).symm.trans h
          exact hJ77 _ _ _ _ _ h hw (lv_sub hl [0, 1] rfl)
        · have h := (if_neg c_69).symm.trans h
          refine lv_aload_n hx hb d_M_byClasses_72 rfl (lv_at hl 0 rfl) ?_
          refine lv_iload_n hx hb d_M_byClasses_73 rfl (lv_at hl 2 rfl) ?_
          obtain ⟨st74, q_74, h⟩ := sk_oR_some h
          refine sk_callVv (As := [.int v2]) (rest := []) ⟨hx, hb, hml, hown, hts⟩ hw hnw hok (c_M_start hok q_74) (cw_M_231 hts hnw (by decide)) (rc_M hw) rfl hl.1 rfl (Nat.le_of_ble_eq_true rfl) d_M_byClasses_74 (fun H locs hw => ?_)
          exact hJ77 _ _ _ _ _ h hw (lv_sub hl [0, 1] rfl)
    refine lv_if_eq (tgt := 59) hx hb d_M_byClasses_20 (by decide) (fun c_20 => ?_) (fun c_20 => ?_)
    · have h := (if_pos c_20).symm.trans h
      exact hJ59 _ _ _ _ _ _ h hw (lv_sub hl [1, 2, 0] rfl)
    · have h := (if_neg c_20).symm.trans h
      refine lv_iload_n hx hb d_M_byClasses_23 rfl (lv_at hl 2 rfl) ?_
      refine lv_if_le (tgt := 59) hx hb d_M_byClasses_24 (by decide) (fun c_24 => ?_) (fun c_24 => ?_)
      · have h := (if_pos c_24).symm.trans h
        exact hJ59 _ _ _ _ _ _ h hw (lv_sub hl [1, 2, 0] rfl)
      · have h := (if_neg c_24).symm.trans h
        refine lv_aload_n hx hb d_M_byClasses_27 rfl (lv_at hl 1 rfl) ?_
        refine lv_iload_n hx hb d_M_byClasses_28 rfl (lv_at hl 0 rfl) ?_
        obtain ⟨st29, q_29, h⟩ := sk_oR_some h
        refine sk_callVv (As := [.int x10]) (rest := []) ⟨hx, hb, hml, hown, hts⟩ hw hnw hok (c_M_needClass hok q_29) (cw_M_228 hts hnw (by decide)) (rc_M hw) rfl hl.1 rfl (Nat.le_of_ble_eq_true rfl) d_M_byClasses_29 (fun H locs hw => ?_)
        refine lv_iconst (v := 1) hx hb d_M_byClasses_32 (by decide) ?_
        refine lv_istore_n (lv' := [(3, .int (1 : Int32)), (2, .int x10), (0, .ref (a 0)), (1, .int v1)]) hx hb d_M_byClasses_33 rfl hl (by decide) rfl (fun ls hl => ?_)
        refine sk_lp_run (G := fun (z : sk_M × Int32 × Int32 × Int32) => ∀ (H : Heap) (locs : List Loc) (ls : Array Slot), sk_w D (tyM cI cZ) A (ceM a cI cZ) s z.1 H locs → lv_has ls 4 [(0, .ref (a 0)), (1, .int z.2.1), (2, .int z.2.2.1), (3, .int z.2.2.2)] → W p l e rm_M_byClasses s m args below meth c H locs 0 0 Q (F0 m 34 ls [])) ?_ N _ h _ _ _ hw (lv_sub hl [2, 3, 1, 0] rfl)
        rintro self34 ⟨st, v1, v2, v3⟩ hself34 h H locs ls hw hl
        unfold M_byClasses_L34 at h
        refine lv_iload_n hx hb d_M_byClasses_34 rfl (lv_at hl 3 rfl) ?_
        refine lv_iload_n hx hb d_M_byClasses_35 rfl (lv_at hl 1 rfl) ?_
        refine lv_icmp_ge (tgt := 59) hx hb d_M_byClasses_36 (by decide) (fun c_36 => ?_) (fun c_36 => ?_)
        · have h := (if_pos c_36).symm.trans h
          exact hJ59 _ _ _ _ _ _ h hw (lv_sub hl [0, 1, 2] rfl)
        · have h := (if_neg c_36).symm.trans h
          refine lv_aload_n hx hb d_M_byClasses_39 rfl (lv_at hl 0 rfl) ?_
          refine lv_iload_n hx hb d_M_byClasses_40 rfl (lv_at hl 1 rfl) ?_
          refine lv_iload_n hx hb d_M_byClasses_41 rfl (lv_at hl 3 rfl) ?_
          obtain ⟨x42, q_42, h⟩ := sk_oR_some h
          refine sk_callVi (As := [.int v1, .int v3]) (rest := []) ⟨hx, hb, hml, hown, hts⟩ hw hnw hok (c_M_hasFace hok q_42) (cw_M_217 hts hnw (by decide)) (rc_M hw) rfl hl.1 rfl (Nat.le_of_ble_eq_true rfl) d_M_byClasses_42 (fun H locs hw => ?_)
          refine lv_if_eq (tgt := 53) hx hb d_M_byClasses_45 (by decide) (fun c_45 => ?_) (fun c_45 => ?_)
          · have h := (if_pos c_45).symm.trans h
            refine lv_iinc (v := v3 + 1) (lv' := [(3, .int (v3 + 1)), (0, .ref (a 0)), (1, .int v1), (2, .int v2)]) hx hb d_M_byClasses_53 hl (k := 3) rfl rfl (by decide) rfl (fun ls hl => ?_)
            refine lv_goto (tgt := 34) hx hb d_M_byClasses_56 (by decide) ?_
            exact hself34 (st, v1, v2, (v3 + 1)) h _ _ _ hw (lv_sub hl [1, 2, 3, 0] rfl)
          · have h := (if_neg c_45).symm.trans h
            refine lv_aload_n hx hb d_M_byClasses_48 rfl (lv_at hl 0 rfl) ?_
            refine lv_iload_n hx hb d_M_byClasses_49 rfl (lv_at hl 3 rfl) ?_
            obtain ⟨st50, q_50, h⟩ := sk_oR_some h
            refine sk_callVv (As := [.int v3]) (rest := []) ⟨hx, hb, hml, hown, hts⟩ hw hnw hok (c_M_needClass hok q_50) (cw_M_228 hts hnw (by decide)) (rc_M hw) rfl hl.1 rfl (Nat.le_of_ble_eq_true rfl) d_M_byClasses_50 (fun H locs hw => ?_)
            refine lv_iinc (v := v3 + 1) (lv' := [(3, .int (v3 + 1)), (0, .ref (a 0)), (1, .int v1), (2, .int v2)]) hx hb d_M_byClasses_53 hl (k := 3) rfl rfl (by decide) rfl (fun ls hl => ?_)
            refine lv_goto (tgt := 34) hx hb d_M_byClasses_56 (by decide) ?_
            exact hself34 (st50, v1, v2, (v3 + 1)) h _ _ _ hw (lv_sub hl [1, 2, 3, 0] rfl)
set_option maxHeartbeats 4000000 in
set_option maxRecDepth 100000 in
theorem c_M_byReference {l : Launch} {D : va_G} {A : Nat → Prop} {a : Nat → Nat} {cI cZ : ClassId} {nw : State → Prop} {N : Nat} {st : sk_M} {v1 : Int32} {res : sk_M} (hok : sk_ok A nw) (h : M_byReference N st v1 = some res) : sk_Cv l y_M_byReference w_M_byReference rm_M_byReference D (tyM cI cZ) A (ceM a cI cZ) nw [.ref (a 0), .int v1] st res := by
  refine sk_headv (by decide) rfl (Nat.le_of_ble_eq_true rfl) ?_
  intro p e s m args below meth c Q hx hb hml hown hts0 hnw hret ls hl hw
  have hts : ∀ w ∈ TB, w.before args s = true := fun w h => hts0 w (List.mem_cons_of_mem _ h)
  have hown : s.vm.findClass R_M = some m.cls := hown
  have hl : lv_has ls 7 [(0, .ref (a 0)), (1, .int v1)] := hl
  unfold M_byReference at h
  refine lv_aload_n hx hb d_M_byReference_0 rfl (lv_at hl 0 rfl) ?_
  refine gf_M_57 hx hb hts hnw hown hw d_M_byReference_1 ?_
  refine lv_iload_n hx hb d_M_byReference_4 rfl (lv_at hl 1 rfl) ?_
  obtain ⟨x5, g_5, e_5, h⟩ := sk_rI_some h
  refine al_M15 hx hb hw g_5 e_5 d_M_byReference_5 ?_
  refine lv_istore_n (lv' := [(2, .int x5), (0, .ref (a 0)), (1, .int v1)]) hx hb d_M_byReference_6 rfl hl (by decide) rfl (fun ls hl => ?_)
  refine lv_aload_n hx hb d_M_byReference_7 rfl (lv_at hl 1 rfl) ?_
  refine gf_M_54 hx hb hts hnw hown hw d_M_byReference_8 ?_
  refine lv_iload_n hx hb d_M_byReference_11 rfl (lv_at hl 2 rfl) ?_
  obtain ⟨x12, g_12, e_12, h⟩ := sk_rI_some h
  refine al_M14 hx hb hw g_12 e_12 d_M_byReference_12 ?_
  refine lv_istore_n (lv' := [(3, .int x12), (2, .int x5), (0, .ref (a 0)), (1, .int v1)]) hx hb d_M_byReference_13 rfl hl (by decide) rfl (fun ls hl => ?_)
  refine lv_aload_n hx hb d_M_byReference_14 rfl (lv_at hl 2 rfl) ?_
  refine lv_iload_n hx hb d_M_byReference_15 rfl (lv_at hl 1 rfl) ?_
  obtain ⟨st16, q_16, h⟩ := sk_oR_some h
  refine sk_callVv (As := [.int x5]) (rest := []) ⟨hx, hb, hml, hown, hts⟩ hw hnw hok (c_M_needClass hok q_16) (cw_M_228 hts hnw (by decide)) (rc_M hw) rfl hl.1 rfl (Nat.le_of_ble_eq_true rfl) d_M_byReference_16 (fun H locs hw => ?_)
  refine lv_iload_n hx hb d_M_byReference_19 rfl (lv_at hl 0 rfl) ?_
  have hJ51 : ∀ (st : sk_M) (v1 : Int32) (v2 : Int32) (v3 : Int32) (H : Heap) (locs : List Loc) (ls : Array Slot), M_byReference_J51 N st v1 v2 v3 = some res → sk_w D (tyM cI cZ) A (ceM a cI cZ) s st H locs → lv_has ls 7 [(0, .ref (a 0)), (1, .int v1), (2, .int v2), (3, .int v3)] → W p l e rm_M_byReference s m args below meth c H locs 0 0 Q (F0 m 51 ls []) := by
    intro st v1 v2 v3 H locs ls h hw hl
    unfold M_byReference_J51 at h
    refine lv_iload_n hx hb d_M_byReference_51 rfl (lv_at hl 3 rfl) ?_
    refine lv_iconst (v := 2) hx hb d_M_byReference_52 (by decide) ?_
    refine lv_icmp_ge (tgt := 57) hx hb d_M_byReference_53 (by decide) (fun c_53 => ?_) (fun c_53 => ?_)
    · have h := (if_pos c_53).symm.trans h
      refine lv_aload_n hx hb d_M_byReference_57 rfl (lv_at hl 0 rfl) ?_
      refine lv_iload_n hx hb d_M_byReference_58 rfl (lv_at hl 2 rfl) ?_
      refine lv_iload_n hx hb d_M_byReference_59 rfl (lv_at hl 3 rfl) ?_
      refine lv_iconst (v := 2) hx hb d_M_byReference_60 (by decide) ?_
      have hJ69 : ∀ (st : sk_M) (v1 : Int32) (v2 : Int32) (v3 : Int32) (s1 : Int32) (s2 : Int32) (H : Heap) (locs : List Loc) (ls : Array Slot), M_byReference_J69 N st v1 v2 v3 s1 s2 = some res → sk_w D (tyM cI cZ) A (ceM a cI cZ) s st H locs → lv_has ls 7 [(0, .ref (a 0)), (1, .int v1), (2, .int v2), (3, .int v3)] → W p l e rm_M_byReference s m args below meth c H locs 0 0 Q (F0 m 69 ls [.int s2, .int s1, .ref (a 0)]) := by
        intro st v1 v2 v3 s1 s2 H locs ls h hw hl
        unfold M_byReference_J69 at h
        refine lv_aload_n hx hb d_M_byReference_69 rfl (lv_at hl 0 rfl) ?_
        refine gf_M_60 hx hb hts hnw hown hw d_M_byReference_70 ?_
        refine lv_iload_n hx hb d_M_byReference_73 rfl (lv_at hl 1 rfl) ?_
        obtain ⟨x74, g_74, e_74, h⟩ := sk_rI_some h
        refine al_M16 hx hb hw g_74 e_74 d_M_byReference_74 ?_
        refine lv_aload_n hx hb d_M_byReference_75 rfl (lv_at hl 0 rfl) ?_
        refine gf_M_63 hx hb hts hnw hown hw d_M_byReference_76 ?_
        refine lv_iload_n hx hb d_M_byReference_79 rfl (lv_at hl 1 rfl) ?_
        obtain ⟨x80, g_80, e_80, h⟩ := sk_rI_some h
        refine al_M17 hx hb hw g_80 e_80 d_M_byReference_80 ?_
        refine lv_iconst (v := 0) hx hb d_M_byReference_81 (by decide) ?_
        refine lv_iconst (v := 0) hx hb d_M_byReference_82 (by decide) ?_
        obtain ⟨x83, q_83, h⟩ := sk_oR_some h
        refine sk_callVi (As := [.int s1, .int s2, .int x74, .int x80, .int (0 : Int32), .int (0 : Int32)]) (rest := []) ⟨hx, hb, hml, hown, hts⟩ hw hnw hok (c_M_look hok q_83) (cw_M_243 hts hnw (by decide)) (rc_M hw) rfl hl.1 rfl (Nat.le_of_ble_eq_true rfl) d_M_byReference_83 (fun H locs hw => ?_)
        refine lv_istore (lv' := [(4, .int x83), (0, .ref (a 0)), (1, .int v1), (2, .int v2), (3, .int v3)]) hx hb d_M_byReference_86 hl (by decide) rfl (fun ls hl => ?_)
        refine lv_aload_n hx hb d_M_byReference_88 rfl (lv_at hl 1 rfl) ?_
        refine lv_iload hx hb d_M_byReference_89 (lv_at hl 0 rfl) ?_
        obtain ⟨st91, q_91, h⟩ := sk_oR_some h
        refine sk_callVv (As := [.int x83]) (rest := []) ⟨hx, hb, hml, hown, hts⟩ hw hnw hok (c_M_needMember hok q_91) (cw_M_240 hts hnw (by decide)) (rc_M hw) rfl hl.1 rfl (Nat.le_of_ble_eq_true rfl) d_M_byReference_91 (fun H locs hw => ?_)
        refine lv_iload hx hb d_M_byReference_94 (lv_at hl 0 rfl) ?_
        have hJ122 : ∀ (st : sk_M) (v1 : Int32) (v2 : Int32) (v3 : Int32) (H : Heap) (locs : List Loc) (ls : Array Slot), M_byReference_J122 N st v1 v2 v3 = some res → sk_w D (tyM cI cZ) A (ceM a cI cZ) s st H locs → lv_has ls 7 [(0, .ref (a 0)), (1, .int v1), (2, .int v2), (3, .int v3)] → W p l e rm_M_byReference s m args below meth c H locs 0 0 Q (F0 m 122 ls []) := by
          intro st v1 v2 v3 H locs ls h hw hl
          unfold M_byReference_J122 at h
          refine lv_iconst (v := 0) hx hb d_M_byReference_122 (by decide) ?_
          refine lv_istore (lv' := [(5, .int (0 : Int32)), (0, .ref (a 0)), (1, .int v1), (2, .int v2), (3, .int v3)]) hx hb d_M_byReference_123 hl (by decide) rfl (fun ls hl => ?_)
          refine sk_lp_run (G := fun (z : sk_M × Int32 × Int32 × Int32 × Int32) => ∀ (H : Heap) (locs : List Loc) (ls : Array Slot), sk_w D (tyM cI cZ) A (ceM a cI cZ) s z.1 H locs → lv_has ls 7 [(0, .ref (a 0)), (1, .int z.2.1), (2, .int z.2.2.1), (3, .int z.2.2.2.1), (5, .int z.2.2.2.2)] → W p l e rm_M_byReference s m args below meth c H locs 0 0 Q (F0 m 125 ls [])) ?_ N _ h _ _ _ hw (lv_sub hl [1, 2, 3, 4, 0] rfl)
          rintro self125 ⟨st, v1, v2, v3, v5⟩ hself125 h H locs ls hw hl
          unfold M_byReference_L125 at h
          refine lv_iload hx hb d_M_byReference_125 (lv_at hl 4 rfl) ?_
          refine lv_bipush (v := 10) hx hb d_M_byReference_127 (by decide) ?_
          refine lv_icmp_ge (tgt := 205) hx hb d_M_byReference_129 (by decide) (fun c_129 => ?_) (fun c_129 => ?_)
          · have h := (if_pos c_129).symm.trans h
            exact hret _ _ _ _ _ (Option.some.inj h) hw d_M_byReference_205
          · have h := (if_neg c_129).symm.trans h
            refine lv_iload_n hx hb d_M_byReference_132 rfl (lv_at hl 3 rfl) ?_
            refine lv_iconst (v := 5) hx hb d_M_byReference_133 (by decide) ?_
            refine lv_icmp_ne (tgt := 205) hx hb d_M_byReference_134 (by decide) (fun c_134 => ?_) (fun c_134 => ?_)
            · have h := (if_neg c_134).symm.trans h
              exact hret _ _ _ _ _ (Option.some.inj h) hw d_M_byReference_205
            · have h := (if_pos c_134).symm.trans h
              refine lv_aload_n hx hb d_M_byReference_137 rfl (lv_at hl 0 rfl) ?_
              refine gf_M_120 hx hb hts hnw hown hw d_M_byReference_138 ?_
              refine lv_iload hx hb d_M_byReference_141 (lv_at hl 4 rfl) ?_
              obtain ⟨x143, g_143, e_143, h⟩ := sk_rI_some h
              refine al_M36 hx hb hw g_143 e_143 d_M_byReference_143 ?_
              refine lv_if_eq (tgt := 199) hx hb d_M_byReference_144 (by decide) (fun c_144 => ?_) (fun c_144 => ?_)
              · have h := (if_pos c_144).symm.trans h
                refine lv_iinc (v := v5 + 1) (lv' := [(5, .int (v5 + 1)), (0, .ref (a 0)), (1, .int v1), (2, .int v2), (3, .int v3)]) hx hb d_M_byReference_199 hl (k := 4) rfl rfl (by decide) rfl (fun ls hl => ?_)
                refine lv_goto (tgt := 125) hx hb d_M_byReference_202 (by decide) ?_
                exact hself125 (st, v1, v2, v3, (v5 + 1)) h _ _ _ hw (lv_sub hl [1, 2, 3, 4, 0] rfl)
              · have h := (if_neg c_144).symm.trans h
                refine lv_iload hx hb d_M_byReference_147 (lv_at hl 4 rfl) ?_
                refine lv_iload_n hx hb d_M_byReference_149 rfl (lv_at hl 2 rfl) ?_
                have hJ170 : ∀ (st : sk_M) (v1 : Int32) (v2 : Int32) (v3 : Int32) (v5 : Int32) (H : Heap) (locs : List Loc) (ls : Array Slot), M_byReference_J170 N self125 st v1 v2 v3 v5 = some res → sk_w D (tyM cI cZ) A (ceM a cI cZ) s st H locs → lv_has ls 7 [(0, .ref (a 0)), (1, .int v1), (2, .int v2), (3, .int v3), (5, .int v5)] → W p l e rm_M_byReference s m args below meth c H locs 0 0 Q (F0 m 170 ls []) := by
                  intro st v1 v2 v3 v5 H locs ls h hw hl
                  unfold M_byReference_J170 at h
                  refine lv_aload_n hx hb d_M_byReference_170 rfl (lv_at hl 0 rfl) ?_
                  refine lv_iload hx hb d_M_byReference_171 (lv_at hl 4 rfl) ?_
                  refine lv_iconst (v := 1) hx hb d_M_byReference_173 (by decide) ?_
                  refine lv_aload_n hx hb d_M_byReference_174 rfl (lv_at hl 0 rfl) ?_
                  refine gf_M_60 hx hb hts hnw hown hw d_M_byReference_175 ?_
                  refine lv_iload_n hx hb d_M_byReference_178 rfl (lv_at hl 1 rfl) ?_
                  obtain ⟨x179, g_179, e_179, h⟩ := sk_rI_some h
                  refine al_M16 hx hb hw g_179 e_179 d_M_byReference_179 ?_
                  refine lv_aload_n hx hb d_M_byReference_180 rfl (lv_at hl 0 rfl) ?_
                  refine gf_M_63 hx hb hts hnw hown hw d_M_byReference_181 ?_
                  refine lv_iload_n hx hb d_M_byReference_184 rfl (lv_at hl 1 rfl) ?_
                  obtain ⟨x185, g_185, e_185, h⟩ := sk_rI_some h
                  refine al_M17 hx hb hw g_185 e_185 d_M_byReference_185 ?_
                  refine lv_iconst (v := 1) hx hb d_M_byReference_186 (by decide) ?_
                  refine lv_iconst (v := 0) hx hb d_M_byReference_187 (by decide) ?_
                  obtain ⟨x188, q_188, h⟩ := sk_oR_some h
                  refine sk_callVi (As := [.int v5, .int (1 : Int32), .int x179, .int x185, .int (1 : Int32), .int (0 : Int32)]) (rest := []) ⟨hx, hb, hml, hown, hts⟩ hw hnw hok (c_M_look hok q_188) (cw_M_243 hts hnw (by decide)) (rc_M hw) rfl hl.1 rfl (Nat.le_of_ble_eq_true rfl) d_M_byReference_188 (fun H locs hw => ?_)
                  refine lv_istore (lv' := [(6, .int x188), (0, .ref (a 0)), (1, .int v1), (2, .int v2), (3, .int v3), (5, .int v5)]) hx hb d_M_byReference_191 hl (by decide) rfl (fun ls hl => ?_)
                  refine lv_aload_n hx hb d_M_byReference_193 rfl (lv_at hl 1 rfl) ?_
                  refine lv_iload hx hb d_M_byReference_194 (lv_at hl 0 rfl) ?_
                  obtain ⟨st196, q_196, h⟩ := sk_oR_some h
                  refine sk_callVv (As := [.int x188]) (rest := []) ⟨hx, hb, hml, hown, hts⟩ hw hnw hok (c_M_needMember hok q_196) (cw_M_240 hts hnw (by decide)) (rc_M hw) rfl hl.1 rfl (Nat.le_of_ble_eq_true rfl) d_M_byReference_196 (fun H locs hw => ?_)
                  refine lv_iinc (v := v5 + 1) (lv' := [(5, .int (v5 + 1)), (6, .int x188), (0, .ref (a 0)), (1, .int v1), (2, .int v2), (3, .int v3)]) hx hb d_M_byReference_199 hl (k := 5) rfl rfl (by decide) rfl (fun ls hl => ?_)
                  refine lv_goto (tgt := 125) hx hb d_M_byReference_202 (by decide) ?_
                  exact hself125 (st196, v1, v2, v3, (v5 + 1)) h _ _ _ hw (lv_sub hl [2, 3, 4, 5, 0] rfl)
                refine lv_icmp_eq (tgt := 170) hx hb d_M_byReference_150 (by decide) (fun c_150 => ?_) (fun c_150 => ?_)
                · have h := (if_pos c_150).symm.trans h
                  exact hJ170 _ _ _ _ _ _ _ _ h hw (lv_sub hl [0, 1, 2, 3, 4] rfl)
                · have h := (if_neg c_150).symm.trans h
                  refine lv_aload_n hx hb d_M_byReference_153 rfl (lv_at hl 0 rfl) ?_
                  refine gf_M_29 hx hb hts hnw hown hw d_M_byReference_154 ?_
                  refine lv_iload hx hb d_M_byReference_157 (lv_at hl 4 rfl) ?_
                  obtain ⟨x159, g_159, e_159, h⟩ := sk_rI_some h
                  refine al_M7 hx hb hw g_159 e_159 d_M_byReference_159 ?_
                  refine lv_iload_n hx hb d_M_byReference_160 rfl (lv_at hl 2 rfl) ?_
                  refine lv_ishr hx hb d_M_byReference_161 ?_
                  refine lv_iconst (v := 1) hx hb d_M_byReference_162 (by decide) ?_
                  refine lv_iand hx hb d_M_byReference_163 ?_
                  refine lv_if_ne (tgt := 170) hx hb d_M_byReference_164 (by decide) (fun c_164 => ?_) (fun c_164 => ?_)
                  · have h := (if_neg c_164).symm.trans h
                    exact hJ170 _ _ _ _ _ _ _ _ h hw (lv_sub hl [0, 1, 2, 3, 4] rfl)
                  · have h := (if_pos c_164).symm.trans h
                    refine lv_goto (tgt := 199) hx hb d_M_byReference_167 (by decide) ?_
                    refine lv_iinc (v := v5 + 1) (lv' := [(5, .int (v5 + 1)), (0, .ref (a 0)), (1, .int v1), (2, .int v2), (3, .int v3)]) hx hb d_M_byReference_199 hl (k := 4) rfl rfl (by decide) rfl (fun ls hl => ?_)
                    refine lv_goto (tgt := 125) hx hb d_M_byReference_202 (by decide) ?_
                    exact hself125 (st, v1, v2, v3, (v5 + 1)) h _ _ _ hw (lv_sub hl [1, 2, 3, 4, 0] rfl)
        refine lv_if_lt (tgt := 122) hx hb d_M_byReference_96 (by decide) (fun c_96 => ?_) (fun c_96 => ?_)
        · have h := (if_pos c_96).symm.trans h
          exact hJ122 _ _ _ _ _ _ _ h hw (lv_sub hl [1, 2, 3, 4] rfl)
        · have h := (if_neg c_96).symm.trans h
          refine lv_aload_n hx hb d_M_byReference_99 rfl (lv_at hl 1 rfl) ?_
          refine gf_M_41 hx hb hts hnw hown hw d_M_byReference_100 ?_
          refine lv_iload hx hb d_M_byReference_103 (lv_at hl 0 rfl) ?_
          obtain ⟨x105, g_105, e_105, h⟩ := sk_rI_some h
          refine al_M11 hx hb hw g_105 e_105 d_M_byReference_105 ?_
          refine lv_iconst (v := 2) hx hb d_M_byReference_106 (by decide) ?_
          refine lv_iand hx hb d_M_byReference_107 ?_
          refine lv_if_eq (tgt := 122) hx hb d_M_byReference_108 (by decide) (fun c_108 => ?_) (fun c_108 => ?_)
          · have h := (if_pos c_108).symm.trans h
            exact hJ122 _ _ _ _ _ _ _ h hw (lv_sub hl [1, 2, 3, 4] rfl)
          · have h := (if_neg c_108).symm.trans h
            refine lv_aload_n hx hb d_M_byReference_111 rfl (lv_at hl 1 rfl) ?_
            refine lv_aload_n hx hb d_M_byReference_112 rfl (lv_at hl 1 rfl) ?_
            refine gf_M_32 hx hb hts hnw hown hw d_M_byReference_113 ?_
            refine lv_iload hx hb d_M_byReference_116 (lv_at hl 0 rfl) ?_
            obtain ⟨x118, g_118, e_118, h⟩ := sk_rI_some h
            refine al_M8 hx hb hw g_118 e_118 d_M_byReference_118 ?_
            obtain ⟨st119, q_119, h⟩ := sk_oR_some h
            refine sk_callVv (As := [.int x118]) (rest := []) ⟨hx, hb, hml, hown, hts⟩ hw hnw hok (c_M_start hok q_119) (cw_M_231 hts hnw (by decide)) (rc_M hw) rfl hl.1 rfl (Nat.le_of_ble_eq_true rfl) d_M_byReference_119 (fun H locs hw => ?_)
            exact hJ122 _ _ _ _ _ _ _ h hw (lv_sub hl [1, 2, 3, 4] rfl)
      refine lv_icmp_ne (tgt := 68) hx hb d_M_byReference_61 (by decide) (fun c_61 => ?_) (fun c_61 => ?_)
      · have h := (if_neg c_61).symm.trans h
        refine lv_iconst (v := 1) hx hb d_M_byReference_68 (by decide) ?_
        exact hJ69 _ _ _ _ _ _ _ _ _ h hw (lv_sub hl [0, 1, 2, 3] rfl)
      · have h := (if_pos c_61).symm.trans h
        refine lv_iconst (v := 0) hx hb d_M_byReference_64 (by decide) ?_
        refine lv_goto (tgt := 69) hx hb d_M_byReference_65 (by decide) ?_
        exact hJ69 _ _ _ _ _ _ _ _ _ h hw (lv_sub hl [0, 1, 2, 3] rfl)
    · have h := (if_neg c_53).symm.trans h
      exact hret _ _ _ _ _ (Option.some.inj h) hw d_M_byReference_56
  refine lv_if_ne (tgt := 51) hx hb d_M_byReference_20 (by decide) (fun c_20 => ?_) (fun c_20 => ?_)
  · have h := (if_neg c_20).symm.trans h
    exact hJ51 _ _ _ _ _ _ _ h hw (lv_sub hl [2, 3, 1, 0] rfl)
  · have h := (if_pos c_20).symm.trans h
    refine lv_aload_n hx hb d_M_byReference_23 rfl (lv_at hl 2 rfl) ?_
    refine gf_M_16 hx hb hts hnw hown hw d_M_byReference_24 ?_
    refine lv_iload_n hx hb d_M_byReference_27 rfl (lv_at hl 1 rfl) ?_
    obtain ⟨x28, g_28, e_28, h⟩ := sk_rI_some h
    refine al_M3 hx hb hw g_28 e_28 d_M_byReference_28 ?_
    refine lv_if_ne (tgt := 51) hx hb d_M_byReference_29 (by decide) (fun c_29 => ?_) (fun c_29 => ?_)
    · have h := (if_neg c_29).symm.trans h
      exact hJ51 _ _ _ _ _ _ _ h hw (lv_sub hl [2, 3, 1, 0] rfl)
    · have h := (if_pos c_29).symm.trans h
      refine lv_aload_n hx hb d_M_byReference_32 rfl (lv_at hl 2 rfl) ?_
      refine gf_M_13 hx hb hts hnw hown hw d_M_byReference_33 ?_
      refine lv_iload_n hx hb d_M_byReference_36 rfl (lv_at hl 1 rfl) ?_
      obtain ⟨x37, g_37, e_37, h⟩ := sk_rI_some h
      refine al_M2 hx hb hw g_37 e_37 d_M_byReference_37 ?_
      refine lv_if_ne (tgt := 51) hx hb d_M_byReference_38 (by decide) (fun c_38 => ?_) (fun c_38 => ?_)
      · have h := (if_neg c_38).symm.trans h
        exact hJ51 _ _ _ _ _ _ _ h hw (lv_sub hl [2, 3, 1, 0] rfl)
      · have h := (if_pos c_38).symm.trans h
        refine lv_aload_n hx hb d_M_byReference_41 rfl (lv_at hl 2 rfl) ?_
        refine lv_iload_n hx hb d_M_byReference_42 rfl (lv_at hl 1 rfl) ?_
        obtain ⟨st43, q_43, h⟩ := sk_oR_some h
        refine sk_callVv (As := [.int x5]) (rest := []) ⟨hx, hb, hml, hown, hts⟩ hw hnw hok (c_M_make hok q_43) (cw_M_234 hts hnw (by decide)) (rc_M hw) rfl hl.1 rfl (Nat.le_of_ble_eq_true rfl) d_M_byReference_43 (fun H locs hw => ?_)
        refine lv_aload_n hx hb d_M_byReference_46 rfl (lv_at hl 2 rfl) ?_
        refine lv_iload_n hx hb d_M_byReference_47 rfl (lv_at hl 1 rfl) ?_
        obtain ⟨st48, q_48, h⟩ := sk_oR_some h
        refine sk_callVv (As := [.int x5]) (rest := []) ⟨hx, hb, hml, hown, hts⟩ hw hnw hok (c_M_start hok q_48) (cw_M_231 hts hnw (by decide)) (rc_M hw) rfl hl.1 rfl (Nat.le_of_ble_eq_true rfl) d_M_byReference_48 (fun H locs hw => ?_)
        exact hJ51 _ _ _ _ _ _ _ h hw (lv_sub hl [2, 3, 1, 0] rfl)
