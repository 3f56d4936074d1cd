set_option maxHeartbeats 4000000 in
set_option maxRecDepth 100000 in
theorem c_K_RuleReader_afterOne {l : Launch} {D : va_G} {A : Nat → Prop} {a : Nat → Nat} {cI cJ cC : ClassId} {adK adV : Nat → Nat} {N : Nat} {st : sk_M} {v1 : Int32} {v2 : Int32} {res : Int32} (hok : sk_ok A (nwK A adK adV)) (h : K_RuleReader_afterOne N st v1 v2 = some res) : sk_Ci l y_K_RuleReader_afterOne w_K_RuleReader_afterOne rm_K_RuleReader_afterOne D (tyK cI cJ cC) A (ceK a cI cJ cC) (nwK A adK adV) [.ref (a 8), .int v1, .int v2] st res st := by
  refine sk_headi .int (by decide) rfl (Nat.le_of_ble_eq_true rfl) ?_
  intro p e s m args below meth c Q hx hb hml hown hts0 hnw hret ls hl hw
  have hts : ∀ w ∈ TB, w.before args s = true := fun w h => hts0 w (List.mem_cons_of_mem _ h)
  have hown : s.vm.findClass R_RuleReader = some m.cls := hown
  have hl : lv_has ls 7 [(0, .ref (a 8)), (1, .int v1), (2, .int v2)] := hl
  unfold K_RuleReader_afterOne at h
  refine lv_iconst (v := 0) hx hb d_K_RuleReader_afterOne_0 (by decide) ?_
  refine lv_istore_n (lv' := [(3, .int (0 : Int32)), (0, .ref (a 8)), (1, .int v1), (2, .int v2)]) hx hb d_K_RuleReader_afterOne_1 rfl hl (by decide) rfl (fun ls hl => ?_)
  refine lv_iconst (v := 0) hx hb d_K_RuleReader_afterOne_2 (by decide) ?_
  refine lv_istore (lv' := [(4, .int (0 : Int32)), (3, .int (0 : Int32)), (0, .ref (a 8)), (1, .int v1), (2, .int v2)]) hx hb d_K_RuleReader_afterOne_3 hl (by decide) rfl (fun ls hl => ?_)
  refine sk_lp_run (G := fun (z : Int32 × Int32 × Int32 × Int32) => ∀ (H : Heap) (locs : List Loc) (ls : Array Slot), sk_w D (tyK cI cJ cC) A (ceK a cI cJ cC) s st H locs → lv_has ls 7 [(0, .ref (a 8)), (1, .int z.1), (2, .int z.2.1), (3, .int z.2.2.1), (4, .int z.2.2.2)] → W p l e rm_K_RuleReader_afterOne s m args below meth c H locs 0 0 Q (F0 m 5 ls [])) ?_ N _ h _ _ _ hw (lv_sub hl [2, 3, 4, 1, 0] rfl)
  rintro self5 ⟨v1, v2, v3, v4⟩ hself5 h H locs ls hw hl
  unfold K_RuleReader_afterOne_L5 at h
  refine lv_iload hx hb d_K_RuleReader_afterOne_5 (lv_at hl 4 rfl) ?_
  refine lv_aload_n hx hb d_K_RuleReader_afterOne_7 rfl (lv_at hl 0 rfl) ?_
  refine gf_RuleReader_23 hx hb hts hnw hown hw d_K_RuleReader_afterOne_8 ?_
  refine gf_RuleReader_76 (i := 2) hx hb hts hnw hown hw (by decide) d_K_RuleReader_afterOne_11 ?_
  refine lv_icmp_ge (tgt := 90) hx hb d_K_RuleReader_afterOne_14 (by decide) (fun c_14 => ?_) (fun c_14 => ?_)
  · have h := (if_pos c_14).symm.trans h
    refine lv_iload_n hx hb d_K_RuleReader_afterOne_90 rfl (lv_at hl 3 rfl) ?_
    exact hret _ _ _ _ _ _ (Option.some.inj h) rfl (vp_nar_int _) hw d_K_RuleReader_afterOne_91
  · have h := (if_neg c_14).symm.trans h
    refine lv_aload_n hx hb d_K_RuleReader_afterOne_17 rfl (lv_at hl 0 rfl) ?_
    refine gf_RuleReader_23 hx hb hts hnw hown hw d_K_RuleReader_afterOne_18 ?_
    refine gf_RuleReader_79 (i := 2) hx hb hts hnw hown hw (by decide) d_K_RuleReader_afterOne_21 ?_
    refine lv_iload hx hb d_K_RuleReader_afterOne_24 (lv_at hl 4 rfl) ?_
    obtain ⟨x26, g_26, e_26, h⟩ := sk_rI_some h
    refine al_K15 hx hb hw g_26 e_26 d_K_RuleReader_afterOne_26 ?_
    refine lv_istore (lv' := [(5, .int x26), (0, .ref (a 8)), (1, .int v1), (2, .int v2), (3, .int v3), (4, .int v4)]) hx hb d_K_RuleReader_afterOne_27 hl (by decide) rfl (fun ls hl => ?_)
    refine lv_iload_n hx hb d_K_RuleReader_afterOne_29 rfl (lv_at hl 3 rfl) ?_
    refine lv_bipush (v := 63) hx hb d_K_RuleReader_afterOne_30 (by decide) ?_
    have hJ61 : ∀ (v1 : Int32) (v2 : Int32) (v3 : Int32) (v4 : Int32) (s0 : Int32) (H : Heap) (locs : List Loc) (ls : Array Slot), K_RuleReader_afterOne_J61 N st self5 v1 v2 v3 v4 s0 = some res → sk_w D (tyK cI cJ cC) A (ceK a cI cJ cC) s st H locs → lv_has ls 7 [(0, .ref (a 8)), (1, .int v1), (2, .int v2), (3, .int v3), (4, .int v4)] → W p l e rm_K_RuleReader_afterOne s m args below meth c H locs 0 0 Q (F0 m 61 ls [.int s0]) := by
      intro v1 v2 v3 v4 s0 H locs ls h hw hl
      unfold K_RuleReader_afterOne_J61 at h
      refine lv_istore (lv' := [(6, .int s0), (0, .ref (a 8)), (1, .int v1), (2, .int v2), (3, .int v3), (4, .int v4)]) hx hb d_K_RuleReader_afterOne_61 hl (by decide) rfl (fun ls hl => ?_)
      refine lv_iload hx hb d_K_RuleReader_afterOne_63 (lv_at hl 0 rfl) ?_
      refine lv_if_eq (tgt := 84) hx hb d_K_RuleReader_afterOne_65 (by decide) (fun c_65 => ?_) (fun c_65 => ?_)
      · have h := (if_pos c_65).symm.trans h
        refine lv_iinc (v := v4 + 1) (lv' := [(4, .int (v4 + 1)), (6, .int s0), (0, .ref (a 8)), (1, .int v1), (2, .int v2), (3, .int v3)]) hx hb d_K_RuleReader_afterOne_84 hl (k := 5) rfl rfl (by decide) rfl (fun ls hl => ?_)
        refine lv_goto (tgt := 5) hx hb d_K_RuleReader_afterOne_87 (by decide) ?_
        exact hself5 (v1, v2, v3, (v4 + 1)) h _ _ _ hw (lv_sub hl [2, 3, 4, 5, 0] rfl)
      · have h := (if_neg c_65).symm.trans h
        refine lv_iload_n hx hb d_K_RuleReader_afterOne_68 rfl (lv_at hl 2 rfl) ?_
        refine lv_iload hx hb d_K_RuleReader_afterOne_69 (lv_at hl 5 rfl) ?_
        refine lv_ishr hx hb d_K_RuleReader_afterOne_71 ?_
        refine lv_iconst (v := 1) hx hb d_K_RuleReader_afterOne_72 (by decide) ?_
        refine lv_iand hx hb d_K_RuleReader_afterOne_73 ?_
        refine lv_if_eq (tgt := 84) hx hb d_K_RuleReader_afterOne_74 (by decide) (fun c_74 => ?_) (fun c_74 => ?_)
        · have h := (if_pos c_74).symm.trans h
          refine lv_iinc (v := v4 + 1) (lv' := [(4, .int (v4 + 1)), (6, .int s0), (0, .ref (a 8)), (1, .int v1), (2, .int v2), (3, .int v3)]) hx hb d_K_RuleReader_afterOne_84 hl (k := 5) rfl rfl (by decide) rfl (fun ls hl => ?_)
          refine lv_goto (tgt := 5) hx hb d_K_RuleReader_afterOne_87 (by decide) ?_
          exact hself5 (v1, v2, v3, (v4 + 1)) h _ _ _ hw (lv_sub hl [2, 3, 4, 5, 0] rfl)
        · have h := (if_neg c_74).symm.trans h
          refine lv_iload_n hx hb d_K_RuleReader_afterOne_77 rfl (lv_at hl 4 rfl) ?_
          refine lv_iconst (v := 2) hx hb d_K_RuleReader_afterOne_78 (by decide) ?_
          refine lv_iload hx hb d_K_RuleReader_afterOne_79 (lv_at hl 5 rfl) ?_
          refine lv_ishl hx hb d_K_RuleReader_afterOne_81 ?_
          refine lv_ior hx hb d_K_RuleReader_afterOne_82 ?_
          refine lv_istore_n (lv' := [(3, .int (v3 ||| ((2 : Int32) <<< (v4 &&& 31)))), (6, .int s0), (0, .ref (a 8)), (1, .int v1), (2, .int v2), (4, .int v4)]) hx hb d_K_RuleReader_afterOne_83 rfl hl (by decide) rfl (fun ls hl => ?_)
          refine lv_iinc (v := v4 + 1) (lv' := [(4, .int (v4 + 1)), (3, .int (v3 ||| ((2 : Int32) <<< (v4 &&& 31)))), (6, .int s0), (0, .ref (a 8)), (1, .int v1), (2, .int v2)]) hx hb d_K_RuleReader_afterOne_84 hl (k := 5) rfl rfl (by decide) rfl (fun ls hl => ?_)
          refine lv_goto (tgt := 5) hx hb d_K_RuleReader_afterOne_87 (by decide) ?_
          exact hself5 (v1, v2, (v3 ||| ((2 : Int32) <<< (v4 &&& 31))), (v4 + 1)) h _ _ _ hw (lv_sub hl [3, 4, 5, 1, 0] rfl)
    refine lv_icmp_ne (tgt := 50) hx hb d_K_RuleReader_afterOne_32 (by decide) (fun c_32 => ?_) (fun c_32 => ?_)
    · have h := (if_neg c_32).symm.trans h
      refine lv_iload hx hb d_K_RuleReader_afterOne_50 (lv_at hl 0 rfl) ?_
      refine lv_iload_n hx hb d_K_RuleReader_afterOne_52 rfl (lv_at hl 3 rfl) ?_
      refine lv_icmp_ne (tgt := 60) hx hb d_K_RuleReader_afterOne_53 (by decide) (fun c_53 => ?_) (fun c_53 => ?_)
      · have h := (if_neg c_53).symm.trans h
        refine lv_iconst (v := 0) hx hb d_K_RuleReader_afterOne_60 (by decide) ?_
        exact hJ61 _ _ _ _ _ _ _ _ h hw (lv_sub hl [1, 2, 3, 4, 5] rfl)
      · have h := (if_pos c_53).symm.trans h
        refine lv_iconst (v := 1) hx hb d_K_RuleReader_afterOne_56 (by decide) ?_
        refine lv_goto (tgt := 61) hx hb d_K_RuleReader_afterOne_57 (by decide) ?_
        exact hJ61 _ _ _ _ _ _ _ _ h hw (lv_sub hl [1, 2, 3, 4, 5] rfl)
    · have h := (if_pos c_32).symm.trans h
      refine lv_iload hx hb d_K_RuleReader_afterOne_35 (lv_at hl 0 rfl) ?_
      refine lv_bipush (v := 46) hx hb d_K_RuleReader_afterOne_37 (by decide) ?_
      refine lv_icmp_eq (tgt := 46) hx hb d_K_RuleReader_afterOne_39 (by decide) (fun c_39 => ?_) (fun c_39 => ?_)
      · have h := (if_pos c_39).symm.trans h
        refine lv_iconst (v := 0) hx hb d_K_RuleReader_afterOne_46 (by decide) ?_
        refine lv_goto (tgt := 61) hx hb d_K_RuleReader_afterOne_47 (by decide) ?_
        exact hJ61 _ _ _ _ _ _ _ _ h hw (lv_sub hl [1, 2, 3, 4, 5] rfl)
      · have h := (if_neg c_39).symm.trans h
        refine lv_iconst (v := 1) hx hb d_K_RuleReader_afterOne_42 (by decide) ?_
        refine lv_goto (tgt := 61) hx hb d_K_RuleReader_afterOne_43 (by decide) ?_
        exact hJ61 _ _ _ _ _ _ _ _ h hw (lv_sub hl [1, 2, 3, 4, 5] rfl)
set_option maxHeartbeats 4000000 in
set_option maxRecDepth 100000 in
theorem c_K_RuleReader_afterMany {l : Launch} {D : va_G} {A : Nat → Prop} {a : Nat → Nat} {cI cJ cC : ClassId} {adK adV : Nat → Nat} {N : Nat} {st : sk_M} {v1 : Int32} {v2 : Int32} {res : Int32} (hok : sk_ok A (nwK A adK adV)) (h : K_RuleReader_afterMany N st v1 v2 = some res) : sk_Ci l y_K_RuleReader_afterMany w_K_RuleReader_afterMany rm_K_RuleReader_afterMany D (tyK cI cJ cC) A (ceK a cI cJ cC) (nwK A adK adV) [.ref (a 8), .int v1, .int v2] st res st := by
  refine sk_headi .int (by decide) rfl (Nat.le_of_ble_eq_true rfl) ?_
  intro p e s m args below meth c Q hx hb hml hown hts0 hnw hret ls hl hw
  have hts : ∀ w ∈ TB, w.before args s = true := fun w h => hts0 w (List.mem_cons_of_mem _ h)
  have hown : s.vm.findClass R_RuleReader = some m.cls := hown
  have hl : lv_has ls 5 [(0, .ref (a 8)), (1, .int v1), (2, .int v2)] := hl
  unfold K_RuleReader_afterMany at h
  refine lv_iload_n hx hb d_K_RuleReader_afterMany_0 rfl (lv_at hl 1 rfl) ?_
  refine lv_istore_n (lv' := [(3, .int v1), (0, .ref (a 8)), (1, .int v1), (2, .int v2)]) hx hb d_K_RuleReader_afterMany_1 rfl hl (by decide) rfl (fun ls hl => ?_)
  refine lv_iconst (v := 0) hx hb d_K_RuleReader_afterMany_2 (by decide) ?_
  refine lv_istore (lv' := [(4, .int (0 : Int32)), (3, .int v1), (0, .ref (a 8)), (1, .int v1), (2, .int v2)]) hx hb d_K_RuleReader_afterMany_3 hl (by decide) rfl (fun ls hl => ?_)
  refine sk_lp_run (G := fun (z : Int32 × Int32 × Int32) => ∀ (H : Heap) (locs : List Loc) (ls : Array Slot), sk_w D (tyK cI cJ cC) A (ceK a cI cJ cC) s st H locs → lv_has ls 5 [(0, .ref (a 8)), (2, .int z.1), (3, .int z.2.1), (4, .int z.2.2)] → W p l e rm_K_RuleReader_afterMany s m args below meth c H locs 0 0 Q (F0 m 5 ls [])) ?_ N _ h _ _ _ hw (lv_sub hl [2, 4, 1, 0] rfl)
  rintro self5 ⟨v2, v3, v4⟩ hself5 h H locs ls hw hl
  unfold K_RuleReader_afterMany_L5 at h
  refine lv_iload hx hb d_K_RuleReader_afterMany_5 (lv_at hl 3 rfl) ?_
  refine lv_aload_n hx hb d_K_RuleReader_afterMany_7 rfl (lv_at hl 0 rfl) ?_
  refine gf_RuleReader_23 hx hb hts hnw hown hw d_K_RuleReader_afterMany_8 ?_
  refine gf_RuleReader_76 (i := 2) hx hb hts hnw hown hw (by decide) d_K_RuleReader_afterMany_11 ?_
  refine lv_icmp_ge (tgt := 58) hx hb d_K_RuleReader_afterMany_14 (by decide) (fun c_14 => ?_) (fun c_14 => ?_)
  · have h := (if_pos c_14).symm.trans h
    refine lv_iload_n hx hb d_K_RuleReader_afterMany_58 rfl (lv_at hl 2 rfl) ?_
    exact hret _ _ _ _ _ _ (Option.some.inj h) rfl (vp_nar_int _) hw d_K_RuleReader_afterMany_59
  · have h := (if_neg c_14).symm.trans h
    refine lv_iload_n hx hb d_K_RuleReader_afterMany_17 rfl (lv_at hl 1 rfl) ?_
    have hJ36 : ∀ (v2 : Int32) (v3 : Int32) (v4 : Int32) (H : Heap) (locs : List Loc) (ls : Array Slot), K_RuleReader_afterMany_J36 N st self5 v2 v3 v4 = some res → sk_w D (tyK cI cJ cC) A (ceK a cI cJ cC) s st H locs → lv_has ls 5 [(0, .ref (a 8)), (2, .int v2), (3, .int v3), (4, .int v4)] → W p l e rm_K_RuleReader_afterMany s m args below meth c H locs 0 0 Q (F0 m 36 ls []) := by
      intro v2 v3 v4 H locs ls h hw hl
      unfold K_RuleReader_afterMany_J36 at h
      refine lv_iload_n hx hb d_K_RuleReader_afterMany_36 rfl (lv_at hl 2 rfl) ?_
      refine lv_iload hx hb d_K_RuleReader_afterMany_37 (lv_at hl 3 rfl) ?_
      refine lv_ishr hx hb d_K_RuleReader_afterMany_39 ?_
      refine lv_iconst (v := 1) hx hb d_K_RuleReader_afterMany_40 (by decide) ?_
      refine lv_iand hx hb d_K_RuleReader_afterMany_41 ?_
      refine lv_if_eq (tgt := 52) hx hb d_K_RuleReader_afterMany_42 (by decide) (fun c_42 => ?_) (fun c_42 => ?_)
      · have h := (if_pos c_42).symm.trans h
        refine lv_iinc (v := v4 + 1) (lv' := [(4, .int (v4 + 1)), (0, .ref (a 8)), (2, .int v2), (3, .int v3)]) hx hb d_K_RuleReader_afterMany_52 hl (k := 3) rfl rfl (by decide) rfl (fun ls hl => ?_)
        refine lv_goto (tgt := 5) hx hb d_K_RuleReader_afterMany_55 (by decide) ?_
        exact hself5 (v2, v3, (v4 + 1)) h _ _ _ hw (lv_sub hl [1, 2, 3, 0] rfl)
      · have h := (if_neg c_42).symm.trans h
        refine lv_iload_n hx hb d_K_RuleReader_afterMany_45 rfl (lv_at hl 2 rfl) ?_
        refine lv_iconst (v := 2) hx hb d_K_RuleReader_afterMany_46 (by decide) ?_
        refine lv_iload hx hb d_K_RuleReader_afterMany_47 (lv_at hl 3 rfl) ?_
        refine lv_ishl hx hb d_K_RuleReader_afterMany_49 ?_
        refine lv_ior hx hb d_K_RuleReader_afterMany_50 ?_
        refine lv_istore_n (lv' := [(3, .int (v3 ||| ((2 : Int32) <<< (v4 &&& 31)))), (0, .ref (a 8)), (2, .int v2), (4, .int v4)]) hx hb d_K_RuleReader_afterMany_51 rfl hl (by decide) rfl (fun ls hl => ?_)
        refine lv_iinc (v := v4 + 1) (lv' := [(4, .int (v4 + 1)), (3, .int (v3 ||| ((2 : Int32) <<< (v4 &&& 31)))), (0, .ref (a 8)), (2, .int v2)]) hx hb d_K_RuleReader_afterMany_52 hl (k := 3) rfl rfl (by decide) rfl (fun ls hl => ?_)
        refine lv_goto (tgt := 5) hx hb d_K_RuleReader_afterMany_55 (by decide) ?_
        exact hself5 (v2, (v3 ||| ((2 : Int32) <<< (v4 &&& 31))), (v4 + 1)) h _ _ _ hw (lv_sub hl [2, 3, 1, 0] rfl)
    refine lv_if_ne (tgt := 36) hx hb d_K_RuleReader_afterMany_18 (by decide) (fun c_18 => ?_) (fun c_18 => ?_)
    · have h := (if_neg c_18).symm.trans h
      exact hJ36 _ _ _ _ _ _ h hw (lv_sub hl [0, 1, 2, 3] rfl)
    · have h := (if_pos c_18).symm.trans h
      refine lv_aload_n hx hb d_K_RuleReader_afterMany_21 rfl (lv_at hl 0 rfl) ?_
      refine gf_RuleReader_23 hx hb hts hnw hown hw d_K_RuleReader_afterMany_22 ?_
      refine gf_RuleReader_79 (i := 2) hx hb hts hnw hown hw (by decide) d_K_RuleReader_afterMany_25 ?_
      refine lv_iload hx hb d_K_RuleReader_afterMany_28 (lv_at hl 3 rfl) ?_
      obtain ⟨x30, g_30, e_30, h⟩ := sk_rI_some h
      refine al_K15 hx hb hw g_30 e_30 d_K_RuleReader_afterMany_30 ?_
      refine lv_bipush (v := 46) hx hb d_K_RuleReader_afterMany_31 (by decide) ?_
      refine lv_icmp_eq (tgt := 52) hx hb d_K_RuleReader_afterMany_33 (by decide) (fun c_33 => ?_) (fun c_33 => ?_)
      · have h := (if_pos c_33).symm.trans h
        refine lv_iinc (v := v4 + 1) (lv' := [(4, .int (v4 + 1)), (0, .ref (a 8)), (2, .int v2), (3, .int v3)]) hx hb d_K_RuleReader_afterMany_52 hl (k := 3) rfl rfl (by decide) rfl (fun ls hl => ?_)
        refine lv_goto (tgt := 5) hx hb d_K_RuleReader_afterMany_55 (by decide) ?_
        exact hself5 (v2, v3, (v4 + 1)) h _ _ _ hw (lv_sub hl [1, 2, 3, 0] rfl)
      · have h := (if_neg c_33).symm.trans h
        exact hJ36 _ _ _ _ _ _ h hw (lv_sub hl [0, 1, 2, 3] rfl)
set_option maxHeartbeats 4000000 in
set_option maxRecDepth 100000 in
theorem c_K_RuleReader_fits {l : Launch} {D : va_G} {A : Nat → Prop} {a : Nat → Nat} {cI cJ cC : ClassId} {adK adV : Nat → Nat} {N : Nat} {st : sk_M} {v1 : Int32} {v2 : Int32} {res : Int32} (hok : sk_ok A (nwK A adK adV)) (h : K_RuleReader_fits N st v1 v2 = some res) : sk_Ci l y_K_RuleReader_fits w_K_RuleReader_fits rm_K_RuleReader_fits D (tyK cI cJ cC) A (ceK a cI cJ cC) (nwK A adK adV) [.ref (a 8), .int v1, .int v2] st res st := by
  refine sk_headi .boolean (by decide) rfl (Nat.le_of_ble_eq_true rfl) ?_
  intro p e s m args below meth c Q hx hb hml hown hts0 hnw hret ls hl hw
  have hts : ∀ w ∈ TB, w.before args s = true := fun w h => hts0 w (List.mem_cons_of_mem _ h)
  have hown : s.vm.findClass R_RuleReader = some m.cls := hown
  have hl : lv_has ls 5 [(0, .ref (a 8)), (1, .int v1), (2, .int v2)] := hl
  unfold K_RuleReader_fits at h
  refine lv_iconst (v := 1) hx hb d_K_RuleReader_fits_0 (by decide) ?_
  refine lv_istore_n (lv' := [(3, .int (1 : Int32)), (0, .ref (a 8)), (1, .int v1), (2, .int v2)]) hx hb d_K_RuleReader_fits_1 rfl hl (by decide) rfl (fun ls hl => ?_)
  refine lv_iload_n hx hb d_K_RuleReader_fits_2 rfl (lv_at hl 2 rfl) ?_
  refine lv_istore (lv' := [(4, .int v1), (3, .int (1 : Int32)), (0, .ref (a 8)), (1, .int v1), (2, .int v2)]) hx hb d_K_RuleReader_fits_3 hl (by decide) rfl (fun ls hl => ?_)
  have hJ96 : ∀ (v3 : Int32) (H : Heap) (locs : List Loc) (ls : Array Slot), K_RuleReader_fits_J96 N st v3 = some res → sk_w D (tyK cI cJ cC) A (ceK a cI cJ cC) s st H locs → lv_has ls 5 [(0, .ref (a 8)), (3, .int v3)] → W p l e rm_K_RuleReader_fits s m args below meth c H locs 0 0 Q (F0 m 96 ls []) := by
    intro v3 H locs ls h hw hl
    unfold K_RuleReader_fits_J96 at h
    refine lv_iload_n hx hb d_K_RuleReader_fits_96 rfl (lv_at hl 1 rfl) ?_
    refine lv_aload_n hx hb d_K_RuleReader_fits_97 rfl (lv_at hl 0 rfl) ?_
    refine gf_RuleReader_23 hx hb hts hnw hown hw d_K_RuleReader_fits_98 ?_
    refine gf_RuleReader_76 (i := 2) hx hb hts hnw hown hw (by decide) d_K_RuleReader_fits_101 ?_
    refine lv_ishr hx hb d_K_RuleReader_fits_104 ?_
    refine lv_iconst (v := 1) hx hb d_K_RuleReader_fits_105 (by decide) ?_
    refine lv_iand hx hb d_K_RuleReader_fits_106 ?_
    refine lv_if_eq (tgt := 114) hx hb d_K_RuleReader_fits_107 (by decide) (fun c_107 => ?_) (fun c_107 => ?_)
    · have h := (if_pos c_107).symm.trans h
      refine lv_iconst (v := 0) hx hb d_K_RuleReader_fits_114 (by decide) ?_
      exact hret _ _ _ _ _ _ (Option.some.inj h) rfl rfl hw d_K_RuleReader_fits_115
    · have h := (if_neg c_107).symm.trans h
      refine lv_iconst (v := 1) hx hb d_K_RuleReader_fits_110 (by decide) ?_
      refine lv_goto (tgt := 115) hx hb d_K_RuleReader_fits_111 (by decide) ?_
      exact hret _ _ _ _ _ _ (Option.some.inj h) rfl rfl hw d_K_RuleReader_fits_115
  refine sk_lp_run (G := fun (z : Int32 × Int32 × Int32) => ∀ (H : Heap) (locs : List Loc) (ls : Array Slot), sk_w D (tyK cI cJ cC) A (ceK a cI cJ cC) s st H locs → lv_has ls 5 [(0, .ref (a 8)), (2, .int z.1), (3, .int z.2.1), (4, .int z.2.2)] → W p l e rm_K_RuleReader_fits s m args below meth c H locs 0 0 Q (F0 m 5 ls [])) ?_ N _ h _ _ _ hw (lv_sub hl [2, 4, 1, 0] rfl)
  rintro self5 ⟨v2, v3, v4⟩ hself5 h H locs ls hw hl
  unfold K_RuleReader_fits_L5 at h
  refine lv_iload hx hb d_K_RuleReader_fits_5 (lv_at hl 3 rfl) ?_
  refine lv_iload_n hx hb d_K_RuleReader_fits_7 rfl (lv_at hl 1 rfl) ?_
  refine lv_icmp_ge (tgt := 96) hx hb d_K_RuleReader_fits_8 (by decide) (fun c_8 => ?_) (fun c_8 => ?_)
  · have h := (if_pos c_8).symm.trans h
    exact hJ96 _ _ _ _ h hw (lv_sub hl [0, 2] rfl)
  · have h := (if_neg c_8).symm.trans h
    refine lv_aload_n hx hb d_K_RuleReader_fits_11 rfl (lv_at hl 0 rfl) ?_
    refine gf_RuleReader_27 hx hb hts hnw hown hw d_K_RuleReader_fits_12 ?_
    refine gf_RuleReader_79 (i := 0) hx hb hts hnw hown hw (by decide) d_K_RuleReader_fits_15 ?_
    refine lv_iload hx hb d_K_RuleReader_fits_18 (lv_at hl 3 rfl) ?_
    obtain ⟨x20, g_20, e_20, h⟩ := sk_rI_some h
    refine al_K13 hx hb hw g_20 e_20 d_K_RuleReader_fits_20 ?_
    refine lv_bipush (v := 42) hx hb d_K_RuleReader_fits_21 (by decide) ?_
    refine lv_icmp_eq (tgt := 45) hx hb d_K_RuleReader_fits_23 (by decide) (fun c_23 => ?_) (fun c_23 => ?_)
    · have h := (if_pos c_23).symm.trans h
      refine lv_iload hx hb d_K_RuleReader_fits_45 (lv_at hl 3 rfl) ?_
      refine lv_iconst (v := 1) hx hb d_K_RuleReader_fits_47 (by decide) ?_
      refine lv_iadd hx hb d_K_RuleReader_fits_48 ?_
      refine lv_iload_n hx hb d_K_RuleReader_fits_49 rfl (lv_at hl 1 rfl) ?_
      have hJ83 : ∀ (v2 : Int32) (v3 : Int32) (v4 : Int32) (H : Heap) (locs : List Loc) (ls : Array Slot), K_RuleReader_fits_J83 N st (fun v3 => K_RuleReader_fits_J96 N st v3) self5 v2 v3 v4 = some res → sk_w D (tyK cI cJ cC) A (ceK a cI cJ cC) s st H locs → lv_has ls 5 [(0, .ref (a 8)), (2, .int v2), (3, .int v3), (4, .int v4)] → W p l e rm_K_RuleReader_fits s m args below meth c H locs 0 0 Q (F0 m 83 ls []) := by
        intro v2 v3 v4 H locs ls h hw hl
        unfold K_RuleReader_fits_J83 at h
        refine lv_aload_n hx hb d_K_RuleReader_fits_83 rfl (lv_at hl 0 rfl) ?_
        refine lv_iload_n hx hb d_K_RuleReader_fits_84 rfl (lv_at hl 2 rfl) ?_
        refine lv_iconst (v := 0) hx hb d_K_RuleReader_fits_85 (by decide) ?_
        obtain ⟨x86, q_86, h⟩ := sk_oR_some h
        refine sk_callVi (As := [.int v3, .int (0 : Int32)]) (rest := []) ⟨hx, hb, hml, hown, hts⟩ hw hnw hok (c_K_RuleReader_afterMany hok q_86) (cw_RuleReader_140 hts hnw (by decide)) (rc_K8 hw) rfl hl.1 rfl (Nat.le_of_ble_eq_true rfl) d_K_RuleReader_fits_86 (fun H locs hw => ?_)
        refine lv_istore_n (lv' := [(3, .int x86), (0, .ref (a 8)), (2, .int v2), (4, .int v4)]) hx hb d_K_RuleReader_fits_89 rfl hl (by decide) rfl (fun ls hl => ?_)
        refine lv_iinc (v := v4 + 1) (lv' := [(4, .int (v4 + 1)), (3, .int x86), (0, .ref (a 8)), (2, .int v2)]) hx hb d_K_RuleReader_fits_90 hl (k := 3) rfl rfl (by decide) rfl (fun ls hl => ?_)
        refine lv_goto (tgt := 5) hx hb d_K_RuleReader_fits_93 (by decide) ?_
        exact hself5 (v2, x86, (v4 + 1)) h _ _ _ hw (lv_sub hl [2, 3, 1, 0] rfl)
      refine lv_icmp_ge (tgt := 83) hx hb d_K_RuleReader_fits_50 (by decide) (fun c_50 => ?_) (fun c_50 => ?_)
      · have h := (if_pos c_50).symm.trans h
        exact hJ83 _ _ _ _ _ _ h hw (lv_sub hl [0, 1, 2, 3] rfl)
      · have h := (if_neg c_50).symm.trans h
        refine lv_aload_n hx hb d_K_RuleReader_fits_53 rfl (lv_at hl 0 rfl) ?_
        refine gf_RuleReader_27 hx hb hts hnw hown hw d_K_RuleReader_fits_54 ?_
        refine gf_RuleReader_79 (i := 0) hx hb hts hnw hown hw (by decide) d_K_RuleReader_fits_57 ?_
        refine lv_iload hx hb d_K_RuleReader_fits_60 (lv_at hl 3 rfl) ?_
        refine lv_iconst (v := 1) hx hb d_K_RuleReader_fits_62 (by decide) ?_
        refine lv_iadd hx hb d_K_RuleReader_fits_63 ?_
        obtain ⟨x64, g_64, e_64, h⟩ := sk_rI_some h
        refine al_K13 hx hb hw g_64 e_64 d_K_RuleReader_fits_64 ?_
        refine lv_bipush (v := 42) hx hb d_K_RuleReader_fits_65 (by decide) ?_
        refine lv_icmp_ne (tgt := 83) hx hb d_K_RuleReader_fits_67 (by decide) (fun c_67 => ?_) (fun c_67 => ?_)
        · have h := (if_neg c_67).symm.trans h
          exact hJ83 _ _ _ _ _ _ h hw (lv_sub hl [0, 1, 2, 3] rfl)
        · have h := (if_pos c_67).symm.trans h
          refine lv_aload_n hx hb d_K_RuleReader_fits_70 rfl (lv_at hl 0 rfl) ?_
          refine lv_iload_n hx hb d_K_RuleReader_fits_71 rfl (lv_at hl 2 rfl) ?_
          refine lv_iconst (v := 1) hx hb d_K_RuleReader_fits_72 (by decide) ?_
          obtain ⟨x73, q_73, h⟩ := sk_oR_some h
          refine sk_callVi (As := [.int v3, .int (1 : Int32)]) (rest := []) ⟨hx, hb, hml, hown, hts⟩ hw hnw hok (c_K_RuleReader_afterMany hok q_73) (cw_RuleReader_140 hts hnw (by decide)) (rc_K8 hw) rfl hl.1 rfl (Nat.le_of_ble_eq_true rfl) d_K_RuleReader_fits_73 (fun H locs hw => ?_)
          refine lv_istore_n (lv' := [(3, .int x73), (0, .ref (a 8)), (2, .int v2), (4, .int v4)]) hx hb d_K_RuleReader_fits_76 rfl hl (by decide) rfl (fun ls hl => ?_)
          refine lv_iinc (v := v4 + 1) (lv' := [(4, .int (v4 + 1)), (3, .int x73), (0, .ref (a 8)), (2, .int v2)]) hx hb d_K_RuleReader_fits_77 hl (k := 3) rfl rfl (by decide) rfl (fun ls hl => ?_)
          refine lv_goto (tgt := 90) hx hb d_K_RuleReader_fits_80 (by decide) ?_
          refine lv_iinc (v := (v4 + 1) + 1) (lv' := [(4, .int ((v4 + 1) + 1)), (3, .int x73), (0, .ref (a 8)), (2, .int v2)]) hx hb d_K_RuleReader_fits_90 hl (k := 0) rfl rfl (by decide) rfl (fun ls hl => ?_)
          refine lv_goto (tgt := 5) hx hb d_K_RuleReader_fits_93 (by decide) ?_
          exact hself5 (v2, x73, ((v4 + 1) + 1)) h _ _ _ hw (lv_sub hl [2, 3, 1, 0] rfl)
    · have h := (if_neg c_23).symm.trans h
      refine lv_aload_n hx hb d_K_RuleReader_fits_26 rfl (lv_at hl 0 rfl) ?_
      refine lv_iload_n hx hb d_K_RuleReader_fits_27 rfl (lv_at hl 2 rfl) ?_
      refine lv_aload_n hx hb d_K_RuleReader_fits_28 rfl (lv_at hl 0 rfl) ?_
      refine gf_RuleReader_27 hx hb hts hnw hown hw d_K_RuleReader_fits_29 ?_
      refine gf_RuleReader_79 (i := 0) hx hb hts hnw hown hw (by decide) d_K_RuleReader_fits_32 ?_
      refine lv_iload hx hb d_K_RuleReader_fits_35 (lv_at hl 3 rfl) ?_
      obtain ⟨x37, g_37, e_37, h⟩ := sk_rI_some h
      refine al_K13 hx hb hw g_37 e_37 d_K_RuleReader_fits_37 ?_
      obtain ⟨x38, q_38, h⟩ := sk_oR_some h
      refine sk_callVi (As := [.int v3, .int x37]) (rest := []) ⟨hx, hb, hml, hown, hts⟩ hw hnw hok (c_K_RuleReader_afterOne hok q_38) (cw_RuleReader_136 hts hnw (by decide)) (rc_K8 hw) rfl hl.1 rfl (Nat.le_of_ble_eq_true rfl) d_K_RuleReader_fits_38 (fun H locs hw => ?_)
      refine lv_istore_n (lv' := [(3, .int x38), (0, .ref (a 8)), (2, .int v2), (4, .int v4)]) hx hb d_K_RuleReader_fits_41 rfl hl (by decide) rfl (fun ls hl => ?_)
      refine lv_goto (tgt := 90) hx hb d_K_RuleReader_fits_42 (by decide) ?_
      refine lv_iinc (v := v4 + 1) (lv' := [(4, .int (v4 + 1)), (3, .int x38), (0, .ref (a 8)), (2, .int v2)]) hx hb d_K_RuleReader_fits_90 hl (k := 3) rfl rfl (by decide) rfl (fun ls hl => ?_)
      refine lv_goto (tgt := 5) hx hb d_K_RuleReader_fits_93 (by decide) ?_
      exact hself5 (v2, x38, (v4 + 1)) h _ _ _ hw (lv_sub hl [2, 3, 1, 0] rfl)
set_option maxHeartbeats 4000000 in
set_option maxRecDepth 100000 in
theorem c_K_RuleReader_namesThatFit {l : Launch} {D : va_G} {A : Nat → Prop} {a : Nat → Nat} {cI cJ cC : ClassId} {adK adV : Nat → Nat} {N : Nat} {st : sk_M} {v1 : Int32} {res : Int64 × sk_M} (hok : sk_ok A (nwK A adK adV)) (h : K_RuleReader_namesThatFit N st v1 = some res) : sk_Cl l y_K_RuleReader_namesThatFit w_K_RuleReader_namesThatFit rm_K_RuleReader_namesThatFit D (tyK cI cJ cC) A (ceK a cI cJ cC) (nwK A adK adV) [.ref (a 8), .int v1] st res.1 res.2 := by
  refine sk_headl (by decide) rfl (Nat.le_of_ble_eq_true rfl) ?_
  intro p e s m args below meth c Q hx hb hml hown hts0 hnw hret ls hl hw
  have hts : ∀ w ∈ TB, w.before args s = true := fun w h => hts0 w (List.mem_cons_of_mem _ h)
  have hown : s.vm.findClass R_RuleReader = some m.cls := hown
  have hl : lv_has ls 5 [(0, .ref (a 8)), (1, .int v1)] := hl
  unfold K_RuleReader_namesThatFit at h
  refine lv_lconst (v := 0) hx hb d_K_RuleReader_namesThatFit_0 (by decide) ?_
  refine lv_lstore_n (lv' := [(2, .long (0 : Int64)), (0, .ref (a 8)), (1, .int v1)]) hx hb d_K_RuleReader_namesThatFit_1 rfl hl (by decide) rfl (fun ls hl => ?_)
  refine lv_iconst (v := 0) hx hb d_K_RuleReader_namesThatFit_2 (by decide) ?_
  refine lv_istore (lv' := [(4, .int (0 : Int32)), (2, .long (0 : Int64)), (0, .ref (a 8)), (1, .int v1)]) hx hb d_K_RuleReader_namesThatFit_3 hl (by decide) rfl (fun ls hl => ?_)
  refine sk_lp_run (G := fun (z : sk_M × Int32 × Int64 × Int32) => ∀ (H : Heap) (locs : List Loc) (ls : Array Slot), sk_w D (tyK cI cJ cC) A (ceK a cI cJ cC) s z.1 H locs → lv_has ls 5 [(0, .ref (a 8)), (1, .int z.2.1), (2, .long z.2.2.1), (4, .int z.2.2.2)] → W p l e rm_K_RuleReader_namesThatFit s m args below meth c H locs 0 0 Q (F0 m 5 ls [])) ?_ N _ h _ _ _ hw (lv_sub hl [2, 3, 1, 0] rfl)
  rintro self5 ⟨st, v1, v2, v4⟩ hself5 h H locs ls hw hl
  unfold K_RuleReader_namesThatFit_L5 at h
  refine lv_iload hx hb d_K_RuleReader_namesThatFit_5 (lv_at hl 3 rfl) ?_
  refine lv_bipush (v := 30) hx hb d_K_RuleReader_namesThatFit_7 (by decide) ?_
  refine lv_icmp_ge (tgt := 69) hx hb d_K_RuleReader_namesThatFit_9 (by decide) (fun c_9 => ?_) (fun c_9 => ?_)
  · have h := (if_pos c_9).symm.trans h
    refine lv_lload_n hx hb d_K_RuleReader_namesThatFit_69 rfl (lv_at hl 2 rfl) ?_
    exact hret _ _ _ _ _ _ (sk_p1 h) (sk_p2 h) hw d_K_RuleReader_namesThatFit_70
  · have h := (if_neg c_9).symm.trans h
    refine lv_aload_n hx hb d_K_RuleReader_namesThatFit_12 rfl (lv_at hl 0 rfl) ?_
    refine gf_RuleReader_23 hx hb hts hnw hown hw d_K_RuleReader_namesThatFit_13 ?_
    obtain ⟨st16, q_16, h⟩ := sk_oR_some h
    refine sk_callVv (As := []) (rest := []) ⟨hx, hb, hml, hown, hts⟩ hw hnw hok (c_K_Text_wipe hok (by decide) q_16) (cw_RuleReader_114 hts hnw (by decide)) (rc_T (i := 2) hw (by decide)) rfl hl.1 rfl (Nat.le_of_ble_eq_true rfl) d_K_RuleReader_namesThatFit_16 (fun H locs hw => ?_)
    refine lv_aload_n hx hb d_K_RuleReader_namesThatFit_19 rfl (lv_at hl 0 rfl) ?_
    refine gf_RuleReader_23 hx hb hts hnw hown hw d_K_RuleReader_namesThatFit_20 ?_
    refine lv_iload hx hb d_K_RuleReader_namesThatFit_23 (lv_at hl 3 rfl) ?_
    refine lv_bipush (v := 10) hx hb d_K_RuleReader_namesThatFit_25 (by decide) ?_
    refine lv_idiv hx hb d_K_RuleReader_namesThatFit_27 (by decide) ?_
    refine lv_iload hx hb d_K_RuleReader_namesThatFit_28 (lv_at hl 3 rfl) ?_
    refine lv_bipush (v := 10) hx hb d_K_RuleReader_namesThatFit_30 (by decide) ?_
    refine lv_irem hx hb d_K_RuleReader_namesThatFit_32 (by decide) ?_
    obtain ⟨st33, q_33, h⟩ := sk_oR_some h
    refine sk_callVv (As := [.int (v4 / (10 : Int32)), .int (v4 - v4 / (10 : Int32) * (10 : Int32))]) (rest := []) ⟨hx, hb, hml, hown, hts⟩ hw hnw hok (c_K_Text_putOldName hok (by decide) q_33) (cw_RuleReader_117 hts hnw (by decide)) (rc_T (i := 2) hw (by decide)) rfl hl.1 rfl (Nat.le_of_ble_eq_true rfl) d_K_RuleReader_namesThatFit_33 (fun H locs hw => ?_)
    refine lv_aload_n hx hb d_K_RuleReader_namesThatFit_36 rfl (lv_at hl 0 rfl) ?_
    refine lv_aload_n hx hb d_K_RuleReader_namesThatFit_37 rfl (lv_at hl 0 rfl) ?_
    refine gf_RuleReader_9 hx hb hts hnw hown hw d_K_RuleReader_namesThatFit_38 ?_
    refine lv_iload_n hx hb d_K_RuleReader_namesThatFit_41 rfl (lv_at hl 1 rfl) ?_
    obtain ⟨x42, g_42, e_42, h⟩ := sk_rI_some h
    refine al_K33 hx hb hw g_42 e_42 d_K_RuleReader_namesThatFit_42 ?_
    refine lv_aload_n hx hb d_K_RuleReader_namesThatFit_43 rfl (lv_at hl 0 rfl) ?_
    refine gf_RuleReader_15 hx hb hts hnw hown hw d_K_RuleReader_namesThatFit_44 ?_
    refine lv_iload_n hx hb d_K_RuleReader_namesThatFit_47 rfl (lv_at hl 1 rfl) ?_
    obtain ⟨x48, g_48, e_48, h⟩ := sk_rI_some h
    refine al_K34 hx hb hw g_48 e_48 d_K_RuleReader_namesThatFit_48 ?_
    obtain ⟨x49, q_49, h⟩ := sk_oR_some h
    refine sk_callVi (As := [.int x42, .int x48]) (rest := []) ⟨hx, hb, hml, hown, hts⟩ hw hnw hok (c_K_RuleReader_fits hok q_49) (cw_RuleReader_121 hts hnw (by decide)) (rc_K8 hw) rfl hl.1 rfl (Nat.le_of_ble_eq_true rfl) d_K_RuleReader_namesThatFit_49 (fun H locs hw => ?_)
    refine lv_if_eq (tgt := 63) hx hb d_K_RuleReader_namesThatFit_52 (by decide) (fun c_52 => ?_) (fun c_52 => ?_)
    · have h := (if_pos c_52).symm.trans h
      refine lv_iinc (v := v4 + 1) (lv' := [(4, .int (v4 + 1)), (0, .ref (a 8)), (1, .int v1), (2, .long v2)]) hx hb d_K_RuleReader_namesThatFit_63 hl (k := 3) rfl rfl (by decide) rfl (fun ls hl => ?_)
      refine lv_goto (tgt := 5) hx hb d_K_RuleReader_namesThatFit_66 (by decide) ?_
      exact hself5 (st33, v1, v2, (v4 + 1)) h _ _ _ hw (lv_sub hl [1, 2, 3, 0] rfl)
    · have h := (if_neg c_52).symm.trans h
      refine lv_lload_n hx hb d_K_RuleReader_namesThatFit_55 rfl (lv_at hl 2 rfl) ?_
      refine lv_iload hx hb d_K_RuleReader_namesThatFit_56 (lv_at hl 3 rfl) ?_
      refine sk_callSNl (As := [.int v4]) (rest := [.long v2]) ⟨hx, hb, hml, hown, hts⟩ hw hnw hok (c_K_SF_bit hok rfl) (cw_RuleReader_124 hts hnw (by decide)) rfl hl.1 rfl (Nat.le_of_ble_eq_true rfl) d_K_RuleReader_namesThatFit_58 (fun H locs hw => ?_)
      refine lv_lor hx hb d_K_RuleReader_namesThatFit_61 ?_
      refine lv_lstore_n (lv' := [(2, .long (v2 ||| (K_SF_bit v4))), (0, .ref (a 8)), (1, .int v1), (4, .int v4)]) hx hb d_K_RuleReader_namesThatFit_62 rfl hl (by decide) rfl (fun ls hl => ?_)
      refine lv_iinc (v := v4 + 1) (lv' := [(4, .int (v4 + 1)), (2, .long (v2 ||| (K_SF_bit v4))), (0, .ref (a 8)), (1, .int v1)]) hx hb d_K_RuleReader_namesThatFit_63 hl (k := 3) rfl rfl (by decide) rfl (fun ls hl => ?_)
      refine lv_goto (tgt := 5) hx hb d_K_RuleReader_namesThatFit_66 (by decide) ?_
      exact hself5 (st33, v1, (v2 ||| (K_SF_bit v4)), (v4 + 1)) h _ _ _ hw (lv_sub hl [2, 3, 1, 0] rfl)
set_option maxHeartbeats 4000000 in
set_option maxRecDepth 100000 in
theorem c_K_RuleReader_endsClause {l : Launch} {D : va_G} {A : Nat → Prop} {a : Nat → Nat} {cI cJ cC : ClassId} {adK adV : Nat → Nat} {st : sk_M} {v1 : Int32} {res : Int32} (hok : sk_ok A (nwK A adK adV)) (h : K_RuleReader_endsClause st v1 = some res) : sk_Ci l y_K_RuleReader_endsClause w_K_RuleReader_endsClause rm_K_RuleReader_endsClause D (tyK cI cJ cC) A (ceK a cI cJ cC) (nwK A adK adV) [.ref (a 8), .int v1] st res st := by
  refine sk_headi .boolean (by decide) rfl (Nat.le_of_ble_eq_true rfl) ?_
  intro p e s m args below meth c Q hx hb hml hown hts0 hnw hret ls hl hw
  have hts : ∀ w ∈ TB, w.before args s = true := fun w h => hts0 w (List.mem_cons_of_mem _ h)
  have hown : s.vm.findClass R_RuleReader = some m.cls := hown
  have hl : lv_has ls 2 [(0, .ref (a 8)), (1, .int v1)] := hl
  unfold K_RuleReader_endsClause at h
  refine lv_iload_n hx hb d_K_RuleReader_endsClause_0 rfl (lv_at hl 1 rfl) ?_
  refine lv_aload_n hx hb d_K_RuleReader_endsClause_1 rfl (lv_at hl 0 rfl) ?_
  refine gf_RuleReader_73 hx hb hts hnw hown hw d_K_RuleReader_endsClause_2 ?_
  refine lv_icmp_gt (tgt := 48) hx hb d_K_RuleReader_endsClause_5 (by decide) (fun c_5 => ?_) (fun c_5 => ?_)
  · have h := (if_pos c_5).symm.trans h
    refine lv_iconst (v := 0) hx hb d_K_RuleReader_endsClause_48 (by decide) ?_
    exact hret _ _ _ _ _ _ (Option.some.inj h) rfl rfl hw d_K_RuleReader_endsClause_49
  · have h := (if_neg c_5).symm.trans h
    refine lv_aload_n hx hb d_K_RuleReader_endsClause_8 rfl (lv_at hl 0 rfl) ?_
    refine gf_RuleReader_15 hx hb hts hnw hown hw d_K_RuleReader_endsClause_9 ?_
    refine lv_iload_n hx hb d_K_RuleReader_endsClause_12 rfl (lv_at hl 1 rfl) ?_
    obtain ⟨x13, g_13, e_13, h⟩ := sk_rI_some h
    refine al_K34 hx hb hw g_13 e_13 d_K_RuleReader_endsClause_13 ?_
    refine lv_aload_n hx hb d_K_RuleReader_endsClause_14 rfl (lv_at hl 0 rfl) ?_
    refine gf_RuleReader_9 hx hb hts hnw hown hw d_K_RuleReader_endsClause_15 ?_
    refine lv_iload_n hx hb d_K_RuleReader_endsClause_18 rfl (lv_at hl 1 rfl) ?_
    obtain ⟨x19, g_19, e_19, h⟩ := sk_rI_some h
    refine al_K33 hx hb hw g_19 e_19 d_K_RuleReader_endsClause_19 ?_
    refine lv_icmp_le (tgt := 48) hx hb d_K_RuleReader_endsClause_20 (by decide) (fun c_20 => ?_) (fun c_20 => ?_)
    · have h := (if_pos c_20).symm.trans h
      refine lv_iconst (v := 0) hx hb d_K_RuleReader_endsClause_48 (by decide) ?_
      exact hret _ _ _ _ _ _ (Option.some.inj h) rfl rfl hw d_K_RuleReader_endsClause_49
    · have h := (if_neg c_20).symm.trans h
      refine lv_aload_n hx hb d_K_RuleReader_endsClause_23 rfl (lv_at hl 0 rfl) ?_
      refine gf_RuleReader_27 hx hb hts hnw hown hw d_K_RuleReader_endsClause_24 ?_
      refine gf_RuleReader_79 (i := 0) hx hb hts hnw hown hw (by decide) d_K_RuleReader_endsClause_27 ?_
      refine lv_aload_n hx hb d_K_RuleReader_endsClause_30 rfl (lv_at hl 0 rfl) ?_
      refine gf_RuleReader_15 hx hb hts hnw hown hw d_K_RuleReader_endsClause_31 ?_
      refine lv_iload_n hx hb d_K_RuleReader_endsClause_34 rfl (lv_at hl 1 rfl) ?_
      obtain ⟨x35, g_35, e_35, h⟩ := sk_rI_some h
      refine al_K34 hx hb hw g_35 e_35 d_K_RuleReader_endsClause_35 ?_
      refine lv_iconst (v := 1) hx hb d_K_RuleReader_endsClause_36 (by decide) ?_
      refine lv_isub hx hb d_K_RuleReader_endsClause_37 ?_
      obtain ⟨x38, g_38, e_38, h⟩ := sk_rI_some h
      refine al_K13 hx hb hw g_38 e_38 d_K_RuleReader_endsClause_38 ?_
      refine lv_bipush (v := 59) hx hb d_K_RuleReader_endsClause_39 (by decide) ?_
      refine lv_icmp_ne (tgt := 48) hx hb d_K_RuleReader_endsClause_41 (by decide) (fun c_41 => ?_) (fun c_41 => ?_)
      · have h := (if_neg c_41).symm.trans h
        refine lv_iconst (v := 0) hx hb d_K_RuleReader_endsClause_48 (by decide) ?_
        exact hret _ _ _ _ _ _ (Option.some.inj h) rfl rfl hw d_K_RuleReader_endsClause_49
      · have h := (if_pos c_41).symm.trans h
        refine lv_iconst (v := 1) hx hb d_K_RuleReader_endsClause_44 (by decide) ?_
        refine lv_goto (tgt := 49) hx hb d_K_RuleReader_endsClause_45 (by decide) ?_
        exact hret _ _ _ _ _ _ (Option.some.inj h) rfl rfl hw d_K_RuleReader_endsClause_49
set_option maxHeartbeats 4000000 in
set_option maxRecDepth 100000 in
theorem c_K_RuleReader_textsThatFit {l : Launch} {D : va_G} {A : Nat → Prop} {a : Nat → Nat} {cI cJ cC : ClassId} {adK adV : Nat → Nat} {N : Nat} {st : sk_M} {v1 : Int32} {res : Int64 × sk_M} (hok : sk_ok A (nwK A adK adV)) (h : K_RuleReader_textsThatFit N st v1 = some res) : sk_Cl l y_K_RuleReader_textsThatFit w_K_RuleReader_textsThatFit rm_K_RuleReader_textsThatFit D (tyK cI cJ cC) A (ceK a cI cJ cC) (nwK A adK adV) [.ref (a 8), .int v1] st res.1 res.2 := by
  refine sk_headl (by decide) rfl (Nat.le_of_ble_eq_true rfl) ?_
  intro p e s m args below meth c Q hx hb hml hown hts0 hnw hret ls hl hw
  have hts : ∀ w ∈ TB, w.before args s = true := fun w h => hts0 w (List.mem_cons_of_mem _ h)
  have hown : s.vm.findClass R_RuleReader = some m.cls := hown
  have hl : lv_has ls 7 [(0, .ref (a 8)), (1, .int v1)] := hl
  unfold K_RuleReader_textsThatFit at h
  refine lv_aload_n hx hb d_K_RuleReader_textsThatFit_0 rfl (lv_at hl 0 rfl) ?_
  refine gf_RuleReader_27 hx hb hts hnw hown hw d_K_RuleReader_textsThatFit_1 ?_
  refine gf_RuleReader_79 (i := 0) hx hb hts hnw hown hw (by decide) d_K_RuleReader_textsThatFit_4 ?_
  refine lv_aload_n hx hb d_K_RuleReader_textsThatFit_7 rfl (lv_at hl 0 rfl) ?_
  refine gf_RuleReader_9 hx hb hts hnw hown hw d_K_RuleReader_textsThatFit_8 ?_
  refine lv_iload_n hx hb d_K_RuleReader_textsThatFit_11 rfl (lv_at hl 1 rfl) ?_
  obtain ⟨x12, g_12, e_12, h⟩ := sk_rI_some h
  refine al_K33 hx hb hw g_12 e_12 d_K_RuleReader_textsThatFit_12 ?_
  obtain ⟨x13, g_13, e_13, h⟩ := sk_rI_some h
  refine al_K13 hx hb hw g_13 e_13 d_K_RuleReader_textsThatFit_13 ?_
  refine lv_istore_n (lv' := [(2, .int x13), (0, .ref (a 8)), (1, .int v1)]) hx hb d_K_RuleReader_textsThatFit_14 rfl hl (by decide) rfl (fun ls hl => ?_)
  refine lv_lconst (v := 0) hx hb d_K_RuleReader_textsThatFit_15 (by decide) ?_
  refine lv_lstore_n (lv' := [(3, .long (0 : Int64)), (2, .int x13), (0, .ref (a 8)), (1, .int v1)]) hx hb d_K_RuleReader_textsThatFit_16 rfl hl (by decide) rfl (fun ls hl => ?_)
  refine lv_iconst (v := 0) hx hb d_K_RuleReader_textsThatFit_17 (by decide) ?_
  refine lv_istore (lv' := [(5, .int (0 : Int32)), (3, .long (0 : Int64)), (2, .int x13), (0, .ref (a 8)), (1, .int v1)]) hx hb d_K_RuleReader_textsThatFit_18 hl (by decide) rfl (fun ls hl => ?_)
  refine sk_lp_run (G := fun (z : sk_M × Int32 × Int32 × Int64 × Int32) => ∀ (H : Heap) (locs : List Loc) (ls : Array Slot), sk_w D (tyK cI cJ cC) A (ceK a cI cJ cC) s z.1 H locs → lv_has ls 7 [(0, .ref (a 8)), (1, .int z.2.1), (2, .int z.2.2.1), (3, .long z.2.2.2.1), (5, .int z.2.2.2.2)] → W p l e rm_K_RuleReader_textsThatFit s m args below meth c H locs 0 0 Q (F0 m 20 ls [])) ?_ N _ h _ _ _ hw (lv_sub hl [3, 4, 2, 1, 0] rfl)
  rintro self20 ⟨st, v1, v2, v3, v5⟩ hself20 h H locs ls hw hl
  unfold K_RuleReader_textsThatFit_L20 at h
  refine lv_iload hx hb d_K_RuleReader_textsThatFit_20 (lv_at hl 4 rfl) ?_
  refine lv_bipush (v := 32) hx hb d_K_RuleReader_textsThatFit_22 (by decide) ?_
  refine lv_icmp_ge (tgt := 122) hx hb d_K_RuleReader_textsThatFit_24 (by decide) (fun c_24 => ?_) (fun c_24 => ?_)
  · have h := (if_pos c_24).symm.trans h
    refine lv_lload_n hx hb d_K_RuleReader_textsThatFit_122 rfl (lv_at hl 3 rfl) ?_
    exact hret _ _ _ _ _ _ (sk_p1 h) (sk_p2 h) hw d_K_RuleReader_textsThatFit_123
  · have h := (if_neg c_24).symm.trans h
    refine lv_aload_n hx hb d_K_RuleReader_textsThatFit_27 rfl (lv_at hl 0 rfl) ?_
    refine gf_RuleReader_23 hx hb hts hnw hown hw d_K_RuleReader_textsThatFit_28 ?_
    obtain ⟨st31, q_31, h⟩ := sk_oR_some h
    refine sk_callVv (As := []) (rest := []) ⟨hx, hb, hml, hown, hts⟩ hw hnw hok (c_K_Text_wipe hok (by decide) q_31) (cw_RuleReader_114 hts hnw (by decide)) (rc_T (i := 2) hw (by decide)) rfl hl.1 rfl (Nat.le_of_ble_eq_true rfl) d_K_RuleReader_textsThatFit_31 (fun H locs hw => ?_)
    refine lv_aload_n hx hb d_K_RuleReader_textsThatFit_34 rfl (lv_at hl 0 rfl) ?_
    refine gf_RuleReader_23 hx hb hts hnw hown hw d_K_RuleReader_textsThatFit_35 ?_
    refine lv_iload hx hb d_K_RuleReader_textsThatFit_38 (lv_at hl 4 rfl) ?_
    refine sk_callSNi (As := [.int v5]) (rest := [.ref (a 6)]) ⟨hx, hb, hml, hown, hts⟩ hw hnw hok (c_K_SF_wordOf hok rfl) (cw_RuleReader_127 hts hnw (by decide)) rfl hl.1 rfl (Nat.le_of_ble_eq_true rfl) d_K_RuleReader_textsThatFit_40 (fun H locs hw => ?_)
    obtain ⟨st43, q_43, h⟩ := sk_oR_some h
    refine sk_callVv (As := [.int (K_SF_wordOf v5)]) (rest := []) ⟨hx, hb, hml, hown, hts⟩ hw hnw hok (c_K_Text_putOldText hok (by decide) q_43) (cw_RuleReader_130 hts hnw (by decide)) (rc_T (i := 2) hw (by decide)) rfl hl.1 rfl (Nat.le_of_ble_eq_true rfl) d_K_RuleReader_textsThatFit_43 (fun H locs hw => ?_)
    refine lv_iload_n hx hb d_K_RuleReader_textsThatFit_46 rfl (lv_at hl 2 rfl) ?_
    refine lv_bipush (v := 120) hx hb d_K_RuleReader_textsThatFit_47 (by decide) ?_
    have hJ76 : ∀ (st : sk_M) (v1 : Int32) (v2 : Int32) (v3 : Int64) (v5 : Int32) (s0 : Int32) (H : Heap) (locs : List Loc) (ls : Array Slot), K_RuleReader_textsThatFit_J76 N self20 st v1 v2 v3 v5 s0 = some res → sk_w D (tyK cI cJ cC) A (ceK a cI cJ cC) s st H locs → lv_has ls 7 [(0, .ref (a 8)), (1, .int v1), (2, .int v2), (3, .long v3), (5, .int v5)] → W p l e rm_K_RuleReader_textsThatFit s m args below meth c H locs 0 0 Q (F0 m 76 ls [.int s0]) := by
      intro st v1 v2 v3 v5 s0 H locs ls h hw hl
      unfold K_RuleReader_textsThatFit_J76 at h
      refine lv_istore (lv' := [(6, .int s0), (0, .ref (a 8)), (1, .int v1), (2, .int v2), (3, .long v3), (5, .int v5)]) hx hb d_K_RuleReader_textsThatFit_76 hl (by decide) rfl (fun ls hl => ?_)
      refine lv_iload hx hb d_K_RuleReader_textsThatFit_78 (lv_at hl 0 rfl) ?_
      refine lv_if_eq (tgt := 116) hx hb d_K_RuleReader_textsThatFit_80 (by decide) (fun c_80 => ?_) (fun c_80 => ?_)
      · have h := (if_pos c_80).symm.trans h
        refine lv_iinc (v := v5 + 1) (lv' := [(5, .int (v5 + 1)), (6, .int s0), (0, .ref (a 8)), (1, .int v1), (2, .int v2), (3, .long v3)]) hx hb d_K_RuleReader_textsThatFit_116 hl (k := 5) rfl rfl (by decide) rfl (fun ls hl => ?_)
        refine lv_goto (tgt := 20) hx hb d_K_RuleReader_textsThatFit_119 (by decide) ?_
        exact hself20 (st, v1, v2, v3, (v5 + 1)) h _ _ _ hw (lv_sub hl [2, 3, 4, 5, 0] rfl)
      · have h := (if_neg c_80).symm.trans h
        refine lv_aload_n hx hb d_K_RuleReader_textsThatFit_83 rfl (lv_at hl 1 rfl) ?_
        refine lv_aload_n hx hb d_K_RuleReader_textsThatFit_84 rfl (lv_at hl 1 rfl) ?_
        refine gf_RuleReader_9 hx hb hts hnw hown hw d_K_RuleReader_textsThatFit_85 ?_
        refine lv_iload_n hx hb d_K_RuleReader_textsThatFit_88 rfl (lv_at hl 2 rfl) ?_
        refine lv_iconst (v := 1) hx hb d_K_RuleReader_textsThatFit_89 (by decide) ?_
        refine lv_iadd hx hb d_K_RuleReader_textsThatFit_90 ?_
        obtain ⟨x91, g_91, e_91, h⟩ := sk_rI_some h
        refine al_K33 hx hb hw g_91 e_91 d_K_RuleReader_textsThatFit_91 ?_
        refine lv_aload_n hx hb d_K_RuleReader_textsThatFit_92 rfl (lv_at hl 1 rfl) ?_
        refine gf_RuleReader_15 hx hb hts hnw hown hw d_K_RuleReader_textsThatFit_93 ?_
        refine lv_iload_n hx hb d_K_RuleReader_textsThatFit_96 rfl (lv_at hl 2 rfl) ?_
        refine lv_iconst (v := 1) hx hb d_K_RuleReader_textsThatFit_97 (by decide) ?_
        refine lv_iadd hx hb d_K_RuleReader_textsThatFit_98 ?_
        obtain ⟨x99, g_99, e_99, h⟩ := sk_rI_some h
        refine al_K34 hx hb hw g_99 e_99 d_K_RuleReader_textsThatFit_99 ?_
        refine lv_iconst (v := 1) hx hb d_K_RuleReader_textsThatFit_100 (by decide) ?_
        refine lv_isub hx hb d_K_RuleReader_textsThatFit_101 ?_
        obtain ⟨x102, q_102, h⟩ := sk_oR_some h
        refine sk_callVi (As := [.int x91, .int (x99 - (1 : Int32))]) (rest := []) ⟨hx, hb, hml, hown, hts⟩ hw hnw hok (c_K_RuleReader_fits hok q_102) (cw_RuleReader_121 hts hnw (by decide)) (rc_K8 hw) rfl hl.1 rfl (Nat.le_of_ble_eq_true rfl) d_K_RuleReader_textsThatFit_102 (fun H locs hw => ?_)
        refine lv_if_eq (tgt := 116) hx hb d_K_RuleReader_textsThatFit_105 (by decide) (fun c_105 => ?_) (fun c_105 => ?_)
        · have h := (if_pos c_105).symm.trans h
          refine lv_iinc (v := v5 + 1) (lv' := [(5, .int (v5 + 1)), (6, .int s0), (0, .ref (a 8)), (1, .int v1), (2, .int v2), (3, .long v3)]) hx hb d_K_RuleReader_textsThatFit_116 hl (k := 5) rfl rfl (by decide) rfl (fun ls hl => ?_)
          refine lv_goto (tgt := 20) hx hb d_K_RuleReader_textsThatFit_119 (by decide) ?_
          exact hself20 (st, v1, v2, v3, (v5 + 1)) h _ _ _ hw (lv_sub hl [2, 3, 4, 5, 0] rfl)
        · have h := (if_neg c_105).symm.trans h
          refine lv_lload_n hx hb d_K_RuleReader_textsThatFit_108 rfl (lv_at hl 4 rfl) ?_
          refine lv_iload hx hb d_K_RuleReader_textsThatFit_109 (lv_at hl 5 rfl) ?_
          refine sk_callSNl (As := [.int v5]) (rest := [.long v3]) ⟨hx, hb, hml, hown, hts⟩ hw hnw hok (c_K_SF_bit hok rfl) (cw_RuleReader_124 hts hnw (by decide)) rfl hl.1 rfl (Nat.le_of_ble_eq_true rfl) d_K_RuleReader_textsThatFit_111 (fun H locs hw => ?_)
          refine lv_lor hx hb d_K_RuleReader_textsThatFit_114 ?_
          refine lv_lstore_n (lv' := [(3, .long (v3 ||| (K_SF_bit v5))), (6, .int s0), (0, .ref (a 8)), (1, .int v1), (2, .int v2), (5, .int v5)]) hx hb d_K_RuleReader_textsThatFit_115 rfl hl (by decide) rfl (fun ls hl => ?_)
          refine lv_iinc (v := v5 + 1) (lv' := [(5, .int (v5 + 1)), (3, .long (v3 ||| (K_SF_bit v5))), (6, .int s0), (0, .ref (a 8)), (1, .int v1), (2, .int v2)]) hx hb d_K_RuleReader_textsThatFit_116 hl (k := 5) rfl rfl (by decide) rfl (fun ls hl => ?_)
          refine lv_goto (tgt := 20) hx hb d_K_RuleReader_textsThatFit_119 (by decide) ?_
          exact hself20 (st, v1, v2, (v3 ||| (K_SF_bit v5)), (v5 + 1)) h _ _ _ hw (lv_sub hl [3, 4, 5, 1, 0] rfl)
    have hJ71 : ∀ (st : sk_M) (v1 : Int32) (v2 : Int32) (v3 : Int64) (v5 : Int32) (H : Heap) (locs : List Loc) (ls : Array Slot), K_RuleReader_textsThatFit_J71 N self20 st v1 v2 v3 v5 = some res → sk_w D (tyK cI cJ cC) A (ceK a cI cJ cC) s st H locs → lv_has ls 7 [(0, .ref (a 8)), (1, .int v1), (2, .int v2), (3, .long v3), (5, .int v5)] → W p l e rm_K_RuleReader_textsThatFit s m args below meth c H locs 0 0 Q (F0 m 71 ls []) := by
      intro st v1 v2 v3 v5 H locs ls h hw hl
      unfold K_RuleReader_textsThatFit_J71 at h
      refine lv_iconst (v := 1) hx hb d_K_RuleReader_textsThatFit_71 (by decide) ?_
      refine lv_goto (tgt := 76) hx hb d_K_RuleReader_textsThatFit_72 (by decide) ?_
      exact hJ76 _ _ _ _ _ _ _ _ _ h hw (lv_sub hl [0, 1, 2, 3, 4] rfl)
    refine lv_icmp_eq (tgt := 71) hx hb d_K_RuleReader_textsThatFit_49 (by decide) (fun c_49 => ?_) (fun c_49 => ?_)
    · have h := (if_pos c_49).symm.trans h
      exact hJ71 _ _ _ _ _ _ _ _ h hw (lv_sub hl [0, 1, 2, 3, 4] rfl)
    · have h := (if_neg c_49).symm.trans h
      refine lv_iload_n hx hb d_K_RuleReader_textsThatFit_52 rfl (lv_at hl 2 rfl) ?_
      refine lv_bipush (v := 109) hx hb d_K_RuleReader_textsThatFit_53 (by decide) ?_
      have hJ63 : ∀ (st : sk_M) (v1 : Int32) (v2 : Int32) (v3 : Int64) (v5 : Int32) (s0 : Int32) (H : Heap) (locs : List Loc) (ls : Array Slot), K_RuleReader_textsThatFit_J63 N self20 st v1 v2 v3 v5 s0 = some res → sk_w D (tyK cI cJ cC) A (ceK a cI cJ cC) s st H locs → lv_has ls 7 [(0, .ref (a 8)), (1, .int v1), (2, .int v2), (3, .long v3), (5, .int v5)] → W p l e rm_K_RuleReader_textsThatFit s m args below meth c H locs 0 0 Q (F0 m 63 ls [.int s0]) := by
        intro st v1 v2 v3 v5 s0 H locs ls h hw hl
        unfold K_RuleReader_textsThatFit_J63 at h
        refine lv_iload hx hb d_K_RuleReader_textsThatFit_63 (lv_at hl 4 rfl) ?_
        refine sk_callSNi (As := [.int v5]) (rest := [.int s0]) ⟨hx, hb, hml, hown, hts⟩ hw hnw hok (c_K_SF_isMethod hok rfl) (cw_RuleReader_133 hts hnw (by decide)) rfl hl.1 rfl (Nat.le_of_ble_eq_true rfl) d_K_RuleReader_textsThatFit_65 (fun H locs hw => ?_)
        refine lv_icmp_ne (tgt := 75) hx hb d_K_RuleReader_textsThatFit_68 (by decide) (fun c_68 => ?_) (fun c_68 => ?_)
        · have h := (if_neg c_68).symm.trans h
          refine lv_iconst (v := 0) hx hb d_K_RuleReader_textsThatFit_75 (by decide) ?_
          exact hJ76 _ _ _ _ _ _ _ _ _ h hw (lv_sub hl [0, 1, 2, 3, 4] rfl)
        · have h := (if_pos c_68).symm.trans h
          exact hJ71 _ _ _ _ _ _ _ _ h hw (lv_sub hl [0, 1, 2, 3, 4] rfl)
      refine lv_icmp_ne (tgt := 62) hx hb d_K_RuleReader_textsThatFit_55 (by decide) (fun c_55 => ?_) (fun c_55 => ?_)
      · have h := (if_neg c_55).symm.trans h
        refine lv_iconst (v := 0) hx hb d_K_RuleReader_textsThatFit_62 (by decide) ?_
        exact hJ63 _ _ _ _ _ _ _ _ _ h hw (lv_sub hl [0, 1, 2, 3, 4] rfl)
      · have h := (if_pos c_55).symm.trans h
        refine lv_iconst (v := 1) hx hb d_K_RuleReader_textsThatFit_58 (by decide) ?_
        refine lv_goto (tgt := 63) hx hb d_K_RuleReader_textsThatFit_59 (by decide) ?_
        exact hJ63 _ _ _ _ _ _ _ _ _ h hw (lv_sub hl [0, 1, 2, 3, 4] rfl)
set_option maxHeartbeats 4000000 in
set_option maxRecDepth 100000 in
theorem c_K_RuleReader_readBody {l : Launch} {D : va_G} {A : Nat → Prop} {a : Nat → Nat} {cI cJ cC : ClassId} {adK adV : Nat → Nat} {N : Nat} {st : sk_M} {v1 : Int32} {res : Int32 × sk_M} (hok : sk_ok A (nwK A adK adV)) (h : K_RuleReader_readBody N st v1 = some res) : sk_Ci l y_K_RuleReader_readBody w_K_RuleReader_readBody rm_K_RuleReader_readBody D (tyK cI cJ cC) A (ceK a cI cJ cC) (nwK A adK adV) [.ref (a 8), .int v1] st res.1 res.2 := by
  refine sk_headi .int (by decide) rfl (Nat.le_of_ble_eq_true rfl) ?_
  intro p e s m args below meth c Q hx hb hml hown hts0 hnw hret ls hl hw
  have hts : ∀ w ∈ TB, w.before args s = true := fun w h => hts0 w (List.mem_cons_of_mem _ h)
  have hown : s.vm.findClass R_RuleReader = some m.cls := hown
  have hl : lv_has ls 4 [(0, .ref (a 8)), (1, .int v1)] := hl
  unfold K_RuleReader_readBody at h
  refine lv_iload_n hx hb d_K_RuleReader_readBody_0 rfl (lv_at hl 1 rfl) ?_
  refine lv_aload_n hx hb d_K_RuleReader_readBody_1 rfl (lv_at hl 0 rfl) ?_
  refine gf_RuleReader_73 hx hb hts hnw hown hw d_K_RuleReader_readBody_2 ?_
  refine lv_icmp_le (tgt := 10) hx hb d_K_RuleReader_readBody_5 (by decide) (fun c_5 => ?_) (fun c_5 => ?_)
  · have h := (if_pos c_5).symm.trans h
    refine lv_aload_n hx hb d_K_RuleReader_readBody_10 rfl (lv_at hl 0 rfl) ?_
    refine lv_iload_n hx hb d_K_RuleReader_readBody_11 rfl (lv_at hl 1 rfl) ?_
    refine va_ldcS hx hb hown (hnw.2.1 _ _ _ _ ks_RuleReader_89) d_K_RuleReader_readBody_12 ?_
    obtain ⟨x14, q_14, h⟩ := sk_oR_some h
    refine sk_callVi (As := [.int v1, .ref (adK 5)]) (rest := []) ⟨hx, hb, hml, hown, hts⟩ hw hnw hok (c_K_RuleReader_reads hok (by decide) q_14) (cw_RuleReader_43 hts hnw (by decide)) (rc_K8 hw) rfl hl.1 rfl (Nat.le_of_ble_eq_true rfl) d_K_RuleReader_readBody_14 (fun H locs hw => ?_)
    refine lv_if_ne (tgt := 22) hx hb d_K_RuleReader_readBody_17 (by decide) (fun c_17 => ?_) (fun c_17 => ?_)
    · have h := (if_neg c_17).symm.trans h
      refine lv_iload_n hx hb d_K_RuleReader_readBody_22 rfl (lv_at hl 1 rfl) ?_
      refine lv_iconst (v := 1) hx hb d_K_RuleReader_readBody_23 (by decide) ?_
      refine lv_iadd hx hb d_K_RuleReader_readBody_24 ?_
      refine lv_istore_n (lv' := [(2, .int (v1 + (1 : Int32))), (0, .ref (a 8)), (1, .int v1)]) hx hb d_K_RuleReader_readBody_25 rfl hl (by decide) rfl (fun ls hl => ?_)
      refine lv_iload_n hx hb d_K_RuleReader_readBody_26 rfl (lv_at hl 0 rfl) ?_
      refine lv_istore_n (lv' := [(3, .int (v1 + (1 : Int32))), (2, .int (v1 + (1 : Int32))), (0, .ref (a 8)), (1, .int v1)]) hx hb d_K_RuleReader_readBody_27 rfl hl (by decide) rfl (fun ls hl => ?_)
      have hJ51 : ∀ (st : sk_M) (v3 : Int32) (H : Heap) (locs : List Loc) (ls : Array Slot), K_RuleReader_readBody_J51 N st v3 = some res → sk_w D (tyK cI cJ cC) A (ceK a cI cJ cC) s st H locs → lv_has ls 4 [(0, .ref (a 8)), (3, .int v3)] → W p l e rm_K_RuleReader_readBody s m args below meth c H locs 0 0 Q (F0 m 51 ls []) := by
        intro st v3 H locs ls h hw hl
        unfold K_RuleReader_readBody_J51 at h
        refine lv_iload_n hx hb d_K_RuleReader_readBody_51 rfl (lv_at hl 1 rfl) ?_
        refine lv_aload_n hx hb d_K_RuleReader_readBody_52 rfl (lv_at hl 0 rfl) ?_
        refine gf_RuleReader_73 hx hb hts hnw hown hw d_K_RuleReader_readBody_53 ?_
        refine lv_icmp_ge (tgt := 65) hx hb d_K_RuleReader_readBody_56 (by decide) (fun c_56 => ?_) (fun c_56 => ?_)
        · have h := (if_pos c_56).symm.trans h
          refine lv_iconst (v := 0) hx hb d_K_RuleReader_readBody_65 (by decide) ?_
          exact hret _ _ _ _ _ _ (sk_p1 h) (sk_p2 h) (vp_nar_int _) hw d_K_RuleReader_readBody_66
        · have h := (if_neg c_56).symm.trans h
          refine lv_iload_n hx hb d_K_RuleReader_readBody_59 rfl (lv_at hl 1 rfl) ?_
          refine lv_iconst (v := 1) hx hb d_K_RuleReader_readBody_60 (by decide) ?_
          refine lv_iadd hx hb d_K_RuleReader_readBody_61 ?_
          refine lv_goto (tgt := 66) hx hb d_K_RuleReader_readBody_62 (by decide) ?_
          exact hret _ _ _ _ _ _ (sk_p1 h) (sk_p2 h) (vp_nar_int _) hw d_K_RuleReader_readBody_66
      refine sk_lp_run (G := fun (z : sk_M × Int32 × Int32) => ∀ (H : Heap) (locs : List Loc) (ls : Array Slot), sk_w D (tyK cI cJ cC) A (ceK a cI cJ cC) s z.1 H locs → lv_has ls 4 [(0, .ref (a 8)), (2, .int z.2.1), (3, .int z.2.2)] → W p l e rm_K_RuleReader_readBody s m args below meth c H locs 0 0 Q (F0 m 28 ls [])) ?_ N _ h _ _ _ hw (lv_sub hl [2, 1, 0] rfl)
      rintro self28 ⟨st, v2, v3⟩ hself28 h H locs ls hw hl
      unfold K_RuleReader_readBody_L28 at h
      refine lv_iload_n hx hb d_K_RuleReader_readBody_28 rfl (lv_at hl 2 rfl) ?_
      refine lv_aload_n hx hb d_K_RuleReader_readBody_29 rfl (lv_at hl 0 rfl) ?_
      refine gf_RuleReader_73 hx hb hts hnw hown hw d_K_RuleReader_readBody_30 ?_
      refine lv_icmp_gt (tgt := 144) hx hb d_K_RuleReader_readBody_33 (by decide) (fun c_33 => ?_) (fun c_33 => ?_)
      · have h := (if_pos c_33).symm.trans h
        refine lv_aload_n hx hb d_K_RuleReader_readBody_144 rfl (lv_at hl 0 rfl) ?_
        refine gf_RuleReader_73 hx hb hts hnw hown hw d_K_RuleReader_readBody_145 ?_
        refine lv_iconst (v := 1) hx hb d_K_RuleReader_readBody_148 (by decide) ?_
        refine lv_iadd hx hb d_K_RuleReader_readBody_149 ?_
        exact hret _ _ _ _ _ _ (sk_p1 h) (sk_p2 h) (vp_nar_int _) hw d_K_RuleReader_readBody_150
      · have h := (if_neg c_33).symm.trans h
        refine lv_iload_n hx hb d_K_RuleReader_readBody_36 rfl (lv_at hl 2 rfl) ?_
        refine lv_iload_n hx hb d_K_RuleReader_readBody_37 rfl (lv_at hl 1 rfl) ?_
        have hJ67 : ∀ (st : sk_M) (v2 : Int32) (v3 : Int32) (H : Heap) (locs : List Loc) (ls : Array Slot), K_RuleReader_readBody_J67 N (fun st v3 => K_RuleReader_readBody_J51 N st v3) self28 st v2 v3 = some res → sk_w D (tyK cI cJ cC) A (ceK a cI cJ cC) s st H locs → lv_has ls 4 [(0, .ref (a 8)), (2, .int v2), (3, .int v3)] → W p l e rm_K_RuleReader_readBody s m args below meth c H locs 0 0 Q (F0 m 67 ls []) := by
          intro st v2 v3 H locs ls h hw hl
          unfold K_RuleReader_readBody_J67 at h
          refine lv_aload_n hx hb d_K_RuleReader_readBody_67 rfl (lv_at hl 0 rfl) ?_
          refine lv_iload_n hx hb d_K_RuleReader_readBody_68 rfl (lv_at hl 2 rfl) ?_
          refine va_ldcS hx hb hown (hnw.2.1 _ _ _ _ ks_RuleReader_93) d_K_RuleReader_readBody_69 ?_
          obtain ⟨x71, q_71, h⟩ := sk_oR_some h
          refine sk_callVi (As := [.int v3, .ref (adK 7)]) (rest := []) ⟨hx, hb, hml, hown, hts⟩ hw hnw hok (c_K_RuleReader_reads hok (by decide) q_71) (cw_RuleReader_43 hts hnw (by decide)) (rc_K8 hw) rfl hl.1 rfl (Nat.le_of_ble_eq_true rfl) d_K_RuleReader_readBody_71 (fun H locs hw => ?_)
          have hJ99 : ∀ (st : sk_M) (v2 : Int32) (v3 : Int32) (H : Heap) (locs : List Loc) (ls : Array Slot), K_RuleReader_readBody_J99 N (fun st v3 => K_RuleReader_readBody_J51 N st v3) self28 st v2 v3 = some res → sk_w D (tyK cI cJ cC) A (ceK a cI cJ cC) s st H locs → lv_has ls 4 [(0, .ref (a 8)), (2, .int v2), (3, .int v3)] → W p l e rm_K_RuleReader_readBody s m args below meth c H locs 0 0 Q (F0 m 99 ls []) := by
            intro st v2 v3 H locs ls h hw hl
            unfold K_RuleReader_readBody_J99 at h
            refine lv_aload_n hx hb d_K_RuleReader_readBody_99 rfl (lv_at hl 0 rfl) ?_
            refine lv_iload_n hx hb d_K_RuleReader_readBody_100 rfl (lv_at hl 2 rfl) ?_
            refine lv_iconst (v := 1) hx hb d_K_RuleReader_readBody_101 (by decide) ?_
            refine lv_iadd hx hb d_K_RuleReader_readBody_102 ?_
            obtain ⟨x103, q_103, h⟩ := sk_oR_some h
            refine sk_callVi (As := [.int (v3 + (1 : Int32))]) (rest := []) ⟨hx, hb, hml, hown, hts⟩ hw hnw hok (c_K_RuleReader_endsClause hok q_103) (cw_RuleReader_99 hts hnw (by decide)) (rc_K8 hw) rfl hl.1 rfl (Nat.le_of_ble_eq_true rfl) d_K_RuleReader_readBody_103 (fun H locs hw => ?_)
            refine lv_if_eq (tgt := 120) hx hb d_K_RuleReader_readBody_106 (by decide) (fun c_106 => ?_) (fun c_106 => ?_)
            · have h := (if_pos c_106).symm.trans h
              refine lv_iload_n hx hb d_K_RuleReader_readBody_120 rfl (lv_at hl 2 rfl) ?_
              refine lv_iconst (v := 1) hx hb d_K_RuleReader_readBody_121 (by decide) ?_
              refine lv_iadd hx hb d_K_RuleReader_readBody_122 ?_
              exact hret _ _ _ _ _ _ (sk_p1 h) (sk_p2 h) (vp_nar_int _) hw d_K_RuleReader_readBody_123
            · have h := (if_neg c_106).symm.trans h
              refine lv_aload_n hx hb d_K_RuleReader_readBody_109 rfl (lv_at hl 0 rfl) ?_
              refine lv_iload_n hx hb d_K_RuleReader_readBody_110 rfl (lv_at hl 2 rfl) ?_
              refine lv_iconst (v := 1) hx hb d_K_RuleReader_readBody_111 (by decide) ?_
              refine lv_iadd hx hb d_K_RuleReader_readBody_112 ?_
              refine lv_iconst (v := 1) hx hb d_K_RuleReader_readBody_113 (by decide) ?_
              obtain ⟨x114, q_114, h⟩ := sk_oR_some h
              refine sk_callVi (As := [.int (v3 + (1 : Int32)), .int (1 : Int32)]) (rest := []) ⟨hx, hb, hml, hown, hts⟩ hw hnw hok (c_K_RuleReader_isPattern hok q_114) (cw_RuleReader_47 hts hnw (by decide)) (rc_K8 hw) rfl hl.1 rfl (Nat.le_of_ble_eq_true rfl) d_K_RuleReader_readBody_114 (fun H locs hw => ?_)
              refine lv_if_ne (tgt := 124) hx hb d_K_RuleReader_readBody_117 (by decide) (fun c_117 => ?_) (fun c_117 => ?_)
              · have h := (if_neg c_117).symm.trans h
                refine lv_aload_n hx hb d_K_RuleReader_readBody_124 rfl (lv_at hl 0 rfl) ?_
                refine lv_dup hx hb d_K_RuleReader_readBody_125 rfl ?_
                refine gf_RuleReader_66 hx hb hts hnw hown hw d_K_RuleReader_readBody_126 ?_
                refine lv_aload_n hx hb d_K_RuleReader_readBody_129 rfl (lv_at hl 0 rfl) ?_
                refine lv_iload_n hx hb d_K_RuleReader_readBody_130 rfl (lv_at hl 2 rfl) ?_
                obtain ⟨x131, st131, q_131, h⟩ := sk_oW_some h
                refine sk_callVl (As := [.int v3]) (rest := [.long (st.2 0 10), .ref (a 8)]) ⟨hx, hb, hml, hown, hts⟩ hw hnw hok (c_K_RuleReader_textsThatFit hok q_131) (cw_RuleReader_103 hts hnw (by decide)) (rc_K8 hw) rfl hl.1 rfl (Nat.le_of_ble_eq_true rfl) d_K_RuleReader_readBody_131 (fun H locs hw => ?_)
                refine lv_lor hx hb d_K_RuleReader_readBody_134 ?_
                obtain ⟨st135, e_135, h⟩ := sk_fL_some h
                refine pf_RuleReader_66 hx hb hts hnw hown hw e_135 d_K_RuleReader_readBody_135 (fun H locs hw => ?_)
                refine lv_iinc (v := v3 + 2) (lv' := [(3, .int (v3 + 2)), (0, .ref (a 8)), (2, .int v2)]) hx hb d_K_RuleReader_readBody_138 hl (k := 2) rfl rfl (by decide) rfl (fun ls hl => ?_)
                refine lv_goto (tgt := 28) hx hb d_K_RuleReader_readBody_141 (by decide) ?_
                exact hself28 (st135, v2, (v3 + 2)) h _ _ _ hw (lv_sub hl [1, 2, 0] rfl)
              · have h := (if_pos c_117).symm.trans h
                refine lv_iload_n hx hb d_K_RuleReader_readBody_120 rfl (lv_at hl 2 rfl) ?_
                refine lv_iconst (v := 1) hx hb d_K_RuleReader_readBody_121 (by decide) ?_
                refine lv_iadd hx hb d_K_RuleReader_readBody_122 ?_
                exact hret _ _ _ _ _ _ (sk_p1 h) (sk_p2 h) (vp_nar_int _) hw d_K_RuleReader_readBody_123
          refine lv_if_ne (tgt := 99) hx hb d_K_RuleReader_readBody_74 (by decide) (fun c_74 => ?_) (fun c_74 => ?_)
          · have h := (if_neg c_74).symm.trans h
            exact hJ99 _ _ _ _ _ _ h hw (lv_sub hl [0, 1, 2] rfl)
          · have h := (if_pos c_74).symm.trans h
            refine lv_aload_n hx hb d_K_RuleReader_readBody_77 rfl (lv_at hl 0 rfl) ?_
            refine lv_iload_n hx hb d_K_RuleReader_readBody_78 rfl (lv_at hl 2 rfl) ?_
            refine va_ldcS hx hb hown (hnw.2.1 _ _ _ _ ks_RuleReader_95) d_K_RuleReader_readBody_79 ?_
            obtain ⟨x81, q_81, h⟩ := sk_oR_some h
            refine sk_callVi (As := [.int v3, .ref (adK 8)]) (rest := []) ⟨hx, hb, hml, hown, hts⟩ hw hnw hok (c_K_RuleReader_reads hok (by decide) q_81) (cw_RuleReader_43 hts hnw (by decide)) (rc_K8 hw) rfl hl.1 rfl (Nat.le_of_ble_eq_true rfl) d_K_RuleReader_readBody_81 (fun H locs hw => ?_)
            refine lv_if_ne (tgt := 99) hx hb d_K_RuleReader_readBody_84 (by decide) (fun c_84 => ?_) (fun c_84 => ?_)
            · have h := (if_neg c_84).symm.trans h
              exact hJ99 _ _ _ _ _ _ h hw (lv_sub hl [0, 1, 2] rfl)
            · have h := (if_pos c_84).symm.trans h
              refine lv_aload_n hx hb d_K_RuleReader_readBody_87 rfl (lv_at hl 0 rfl) ?_
              refine lv_iload_n hx hb d_K_RuleReader_readBody_88 rfl (lv_at hl 2 rfl) ?_
              refine va_ldcS hx hb hown (hnw.2.1 _ _ _ _ ks_RuleReader_97) d_K_RuleReader_readBody_89 ?_
              obtain ⟨x91, q_91, h⟩ := sk_oR_some h
              refine sk_callVi (As := [.int v3, .ref (adK 9)]) (rest := []) ⟨hx, hb, hml, hown, hts⟩ hw hnw hok (c_K_RuleReader_reads hok (by decide) q_91) (cw_RuleReader_43 hts hnw (by decide)) (rc_K8 hw) rfl hl.1 rfl (Nat.le_of_ble_eq_true rfl) d_K_RuleReader_readBody_91 (fun H locs hw => ?_)
              refine lv_if_ne (tgt := 99) hx hb d_K_RuleReader_readBody_94 (by decide) (fun c_94 => ?_) (fun c_94 => ?_)
              · have h := (if_neg c_94).symm.trans h
                exact hJ99 _ _ _ _ _ _ h hw (lv_sub hl [0, 1, 2] rfl)
              · have h := (if_pos c_94).symm.trans h
                refine lv_iload_n hx hb d_K_RuleReader_readBody_97 rfl (lv_at hl 2 rfl) ?_
                exact hret _ _ _ _ _ _ (sk_p1 h) (sk_p2 h) (vp_nar_int _) hw d_K_RuleReader_readBody_98
        refine lv_icmp_le (tgt := 67) hx hb d_K_RuleReader_readBody_38 (by decide) (fun c_38 => ?_) (fun c_38 => ?_)
        · have h := (if_pos c_38).symm.trans h
          exact hJ67 _ _ _ _ _ _ h hw (lv_sub hl [0, 1, 2] rfl)
        · have h := (if_neg c_38).symm.trans h
          refine lv_aload_n hx hb d_K_RuleReader_readBody_41 rfl (lv_at hl 0 rfl) ?_
          refine lv_iload_n hx hb d_K_RuleReader_readBody_42 rfl (lv_at hl 2 rfl) ?_
          refine va_ldcS hx hb hown (hnw.2.1 _ _ _ _ ks_RuleReader_91) d_K_RuleReader_readBody_43 ?_
          obtain ⟨x45, q_45, h⟩ := sk_oR_some h
          refine sk_callVi (As := [.int v3, .ref (adK 6)]) (rest := []) ⟨hx, hb, hml, hown, hts⟩ hw hnw hok (c_K_RuleReader_reads hok (by decide) q_45) (cw_RuleReader_43 hts hnw (by decide)) (rc_K8 hw) rfl hl.1 rfl (Nat.le_of_ble_eq_true rfl) d_K_RuleReader_readBody_45 (fun H locs hw => ?_)
          refine lv_if_eq (tgt := 67) hx hb d_K_RuleReader_readBody_48 (by decide) (fun c_48 => ?_) (fun c_48 => ?_)
          · have h := (if_pos c_48).symm.trans h
            exact hJ67 _ _ _ _ _ _ h hw (lv_sub hl [0, 1, 2] rfl)
          · have h := (if_neg c_48).symm.trans h
            exact hJ51 _ _ _ _ _ h hw (lv_sub hl [0, 2] rfl)
    · have h := (if_pos c_17).symm.trans h
      refine lv_iload_n hx hb d_K_RuleReader_readBody_20 rfl (lv_at hl 1 rfl) ?_
      exact hret _ _ _ _ _ _ (sk_p1 h) (sk_p2 h) (vp_nar_int _) hw d_K_RuleReader_readBody_21
  · have h := (if_neg c_5).symm.trans h
    refine lv_iconst (v := 0) hx hb d_K_RuleReader_readBody_8 (by decide) ?_
    exact hret _ _ _ _ _ _ (sk_p1 h) (sk_p2 h) (vp_nar_int _) hw d_K_RuleReader_readBody_9
set_option maxHeartbeats 4000000 in
set_option maxRecDepth 100000 in
theorem c_K_RuleReader_read {l : Launch} {D : va_G} {A : Nat → Prop} {a : Nat → Nat} {cI cJ cC : ClassId} {adK adV : Nat → Nat} {N : Nat} {st : sk_M} {res : Int32 × sk_M} (hok : sk_ok A (nwK A adK adV)) (h : K_RuleReader_read N st = some res) : sk_Ci l y_K_RuleReader_read w_K_RuleReader_read rm_K_RuleReader_read D (tyK cI cJ cC) A (ceK a cI cJ cC) (nwK A adK adV) [.ref (a 8)] st res.1 res.2 := by
  refine sk_headi .int (by decide) rfl (Nat.le_of_ble_eq_true rfl) ?_
  intro p e s m args below meth c Q hx hb hml hown hts0 hnw hret ls hl hw
  have hts : ∀ w ∈ TB, w.before args s = true := fun w h => hts0 w (List.mem_cons_of_mem _ h)
  have hown : s.vm.findClass R_RuleReader = some m.cls := hown
  have hl : lv_has ls 2 [(0, .ref (a 8))] := hl
  unfold K_RuleReader_read at h
  refine lv_aload_n hx hb d_K_RuleReader_read_0 rfl (lv_at hl 0 rfl) ?_
  obtain ⟨st1, q_1, h⟩ := sk_oR_some h
  refine sk_callVv (As := []) (rest := []) ⟨hx, hb, hml, hown, hts⟩ hw hnw hok (c_K_RuleReader_cut hok q_1) (cw_RuleReader_30 hts hnw (by decide)) (rc_K8 hw) rfl hl.1 rfl (Nat.le_of_ble_eq_true rfl) d_K_RuleReader_read_1 (fun H locs hw => ?_)
  refine lv_aload_n hx hb d_K_RuleReader_read_4 rfl (lv_at hl 0 rfl) ?_
  refine lv_aload_n hx hb d_K_RuleReader_read_5 rfl (lv_at hl 0 rfl) ?_
  obtain ⟨x6, q_6, h⟩ := sk_oR_some h
  refine sk_callVi (As := []) (rest := [.ref (a 8)]) ⟨hx, hb, hml, hown, hts⟩ hw hnw hok (c_K_RuleReader_sortOfRule hok q_6) (cw_RuleReader_33 hts hnw (by decide)) (rc_K8 hw) rfl hl.1 rfl (Nat.le_of_ble_eq_true rfl) d_K_RuleReader_read_6 (fun H locs hw => ?_)
  obtain ⟨st9, e_9, h⟩ := sk_fI_some h
  refine pf_RuleReader_37 hx hb hts hnw hown hw e_9 d_K_RuleReader_read_9 (fun H locs hw => ?_)
  refine lv_aload_n hx hb d_K_RuleReader_read_12 rfl (lv_at hl 0 rfl) ?_
  refine gf_RuleReader_37 hx hb hts hnw hown hw d_K_RuleReader_read_13 ?_
  refine lv_if_ne (tgt := 21) hx hb d_K_RuleReader_read_16 (by decide) (fun c_16 => ?_) (fun c_16 => ?_)
  · have h := (if_neg c_16).symm.trans h
    refine lv_aload_n hx hb d_K_RuleReader_read_21 rfl (lv_at hl 0 rfl) ?_
    refine lv_iconst (v := 2) hx hb d_K_RuleReader_read_22 (by decide) ?_
    refine va_ldcS hx hb hown (hnw.2.1 _ _ _ _ ks_RuleReader_41) d_K_RuleReader_read_23 ?_
    obtain ⟨x25, q_25, h⟩ := sk_oR_some h
    refine sk_callVi (As := [.int (2 : Int32), .ref (adK 3)]) (rest := []) ⟨hx, hb, hml, hown, hts⟩ hw hnw hok (c_K_RuleReader_reads hok (by decide) q_25) (cw_RuleReader_43 hts hnw (by decide)) (rc_K8 hw) rfl hl.1 rfl (Nat.le_of_ble_eq_true rfl) d_K_RuleReader_read_25 (fun H locs hw => ?_)
    refine lv_if_ne (tgt := 33) hx hb d_K_RuleReader_read_28 (by decide) (fun c_28 => ?_) (fun c_28 => ?_)
    · have h := (if_neg c_28).symm.trans h
      refine lv_aload_n hx hb d_K_RuleReader_read_33 rfl (lv_at hl 0 rfl) ?_
      refine lv_iconst (v := 3) hx hb d_K_RuleReader_read_34 (by decide) ?_
      refine lv_iconst (v := 0) hx hb d_K_RuleReader_read_35 (by decide) ?_
      obtain ⟨x36, q_36, h⟩ := sk_oR_some h
      refine sk_callVi (As := [.int (3 : Int32), .int (0 : Int32)]) (rest := []) ⟨hx, hb, hml, hown, hts⟩ hw hnw hok (c_K_RuleReader_isPattern hok q_36) (cw_RuleReader_47 hts hnw (by decide)) (rc_K8 hw) rfl hl.1 rfl (Nat.le_of_ble_eq_true rfl) d_K_RuleReader_read_36 (fun H locs hw => ?_)
      refine lv_if_ne (tgt := 44) hx hb d_K_RuleReader_read_39 (by decide) (fun c_39 => ?_) (fun c_39 => ?_)
      · have h := (if_neg c_39).symm.trans h
        refine lv_aload_n hx hb d_K_RuleReader_read_44 rfl (lv_at hl 0 rfl) ?_
        refine lv_iconst (v := 4) hx hb d_K_RuleReader_read_45 (by decide) ?_
        refine va_ldcS hx hb hown (hnw.2.1 _ _ _ _ ks_RuleReader_51) d_K_RuleReader_read_46 ?_
        obtain ⟨x48, q_48, h⟩ := sk_oR_some h
        refine sk_callVi (As := [.int (4 : Int32), .ref (adK 4)]) (rest := []) ⟨hx, hb, hml, hown, hts⟩ hw hnw hok (c_K_RuleReader_reads hok (by decide) q_48) (cw_RuleReader_43 hts hnw (by decide)) (rc_K8 hw) rfl hl.1 rfl (Nat.le_of_ble_eq_true rfl) d_K_RuleReader_read_48 (fun H locs hw => ?_)
        refine lv_istore_n (lv' := [(1, .int x48), (0, .ref (a 8))]) hx hb d_K_RuleReader_read_51 rfl hl (by decide) rfl (fun ls hl => ?_)
        refine lv_iload_n hx hb d_K_RuleReader_read_52 rfl (lv_at hl 0 rfl) ?_
        have hJ67 : ∀ (st : sk_M) (v1 : Int32) (H : Heap) (locs : List Loc) (ls : Array Slot), K_RuleReader_read_J67 N st v1 = some res → sk_w D (tyK cI cJ cC) A (ceK a cI cJ cC) s st H locs → lv_has ls 2 [(0, .ref (a 8)), (1, .int v1)] → W p l e rm_K_RuleReader_read s m args below meth c H locs 0 0 Q (F0 m 67 ls []) := by
          intro st v1 H locs ls h hw hl
          unfold K_RuleReader_read_J67 at h
          refine lv_aload_n hx hb d_K_RuleReader_read_67 rfl (lv_at hl 0 rfl) ?_
          refine lv_aload_n hx hb d_K_RuleReader_read_68 rfl (lv_at hl 0 rfl) ?_
          refine lv_iconst (v := 3) hx hb d_K_RuleReader_read_69 (by decide) ?_
          obtain ⟨x70, st70, q_70, h⟩ := sk_oW_some h
          refine sk_callVl (As := [.int (3 : Int32)]) (rest := [.ref (a 8)]) ⟨hx, hb, hml, hown, hts⟩ hw hnw hok (c_K_RuleReader_namesThatFit hok q_70) (cw_RuleReader_53 hts hnw (by decide)) (rc_K8 hw) rfl hl.1 rfl (Nat.le_of_ble_eq_true rfl) d_K_RuleReader_read_70 (fun H locs hw => ?_)
          obtain ⟨st73, e_73, h⟩ := sk_fL_some h
          refine pf_RuleReader_57 hx hb hts hnw hown hw e_73 d_K_RuleReader_read_73 (fun H locs hw => ?_)
          refine lv_aload_n hx hb d_K_RuleReader_read_76 rfl (lv_at hl 0 rfl) ?_
          refine lv_iload_n hx hb d_K_RuleReader_read_77 rfl (lv_at hl 1 rfl) ?_
          have hJ92 : ∀ (st : sk_M) (v1 : Int32) (s1 : Int64) (H : Heap) (locs : List Loc) (ls : Array Slot), K_RuleReader_read_J92 N st v1 s1 = some res → sk_w D (tyK cI cJ cC) A (ceK a cI cJ cC) s st H locs → lv_has ls 2 [(0, .ref (a 8)), (1, .int v1)] → W p l e rm_K_RuleReader_read s m args below meth c H locs 0 0 Q (F0 m 92 ls [.long s1, .ref (a 8)]) := by
            intro st v1 s1 H locs ls h hw hl
            unfold K_RuleReader_read_J92 at h
            obtain ⟨st92, e_92, h⟩ := sk_fL_some h
            refine pf_RuleReader_63 hx hb hts hnw hown hw e_92 d_K_RuleReader_read_92 (fun H locs hw => ?_)
            refine lv_aload_n hx hb d_K_RuleReader_read_95 rfl (lv_at hl 0 rfl) ?_
            refine lv_lconst (v := 0) hx hb d_K_RuleReader_read_96 (by decide) ?_
            obtain ⟨st97, e_97, h⟩ := sk_fL_some h
            refine pf_RuleReader_66 hx hb hts hnw hown hw e_97 d_K_RuleReader_read_97 (fun H locs hw => ?_)
            refine lv_aload_n hx hb d_K_RuleReader_read_100 rfl (lv_at hl 0 rfl) ?_
            refine lv_iload_n hx hb d_K_RuleReader_read_101 rfl (lv_at hl 1 rfl) ?_
            have hJ111 : ∀ (st : sk_M) (s1 : Int32) (H : Heap) (locs : List Loc) (ls : Array Slot), K_RuleReader_read_J111 N st s1 = some res → sk_w D (tyK cI cJ cC) A (ceK a cI cJ cC) s st H locs → lv_has ls 2 [] → W p l e rm_K_RuleReader_read s m args below meth c H locs 0 0 Q (F0 m 111 ls [.int s1, .ref (a 8)]) := by
              intro st s1 H locs ls h hw hl
              unfold K_RuleReader_read_J111 at h
              obtain ⟨x111, st111, q_111, h⟩ := sk_oW_some h
              refine sk_callVi (As := [.int s1]) (rest := []) ⟨hx, hb, hml, hown, hts⟩ hw hnw hok (c_K_RuleReader_readBody hok q_111) (cw_RuleReader_69 hts hnw (by decide)) (rc_K8 hw) rfl hl.1 rfl (Nat.le_of_ble_eq_true rfl) d_K_RuleReader_read_111 (fun H locs hw => ?_)
              exact hret _ _ _ _ _ _ (sk_p1 h) (sk_p2 h) (vp_nar_int _) hw d_K_RuleReader_read_114
            refine lv_if_eq (tgt := 110) hx hb d_K_RuleReader_read_102 (by decide) (fun c_102 => ?_) (fun c_102 => ?_)
            · have h := (if_pos c_102).symm.trans h
              refine lv_iconst (v := 4) hx hb d_K_RuleReader_read_110 (by decide) ?_
              exact hJ111 _ _ _ _ _ h hw (lv_sub hl [] rfl)
            · have h := (if_neg c_102).symm.trans h
              refine lv_bipush (v := 6) hx hb d_K_RuleReader_read_105 (by decide) ?_
              refine lv_goto (tgt := 111) hx hb d_K_RuleReader_read_107 (by decide) ?_
              exact hJ111 _ _ _ _ _ h hw (lv_sub hl [] rfl)
          refine lv_if_eq (tgt := 89) hx hb d_K_RuleReader_read_78 (by decide) (fun c_78 => ?_) (fun c_78 => ?_)
          · have h := (if_pos c_78).symm.trans h
            refine lv_ldc2 (v := -1) hx hb hown (hts _ kl_RuleReader_61) d_K_RuleReader_read_89 ?_
            exact hJ92 _ _ _ _ _ _ h hw (lv_sub hl [0, 1] rfl)
          · have h := (if_neg c_78).symm.trans h
            refine lv_aload_n hx hb d_K_RuleReader_read_81 rfl (lv_at hl 0 rfl) ?_
            refine lv_iconst (v := 5) hx hb d_K_RuleReader_read_82 (by decide) ?_
            obtain ⟨x83, st83, q_83, h⟩ := sk_oW_some h
            refine sk_callVl (As := [.int (5 : Int32)]) (rest := [.ref (a 8)]) ⟨hx, hb, hml, hown, hts⟩ hw hnw hok (c_K_RuleReader_namesThatFit hok q_83) (cw_RuleReader_53 hts hnw (by decide)) (rc_K8 hw) rfl hl.1 rfl (Nat.le_of_ble_eq_true rfl) d_K_RuleReader_read_83 (fun H locs hw => ?_)
            refine lv_goto (tgt := 92) hx hb d_K_RuleReader_read_86 (by decide) ?_
            exact hJ92 _ _ _ _ _ _ h hw (lv_sub hl [0, 1] rfl)
        refine lv_if_eq (tgt := 67) hx hb d_K_RuleReader_read_53 (by decide) (fun c_53 => ?_) (fun c_53 => ?_)
        · have h := (if_pos c_53).symm.trans h
          exact hJ67 _ _ _ _ _ h hw (lv_sub hl [1, 0] rfl)
        · have h := (if_neg c_53).symm.trans h
          refine lv_aload_n hx hb d_K_RuleReader_read_56 rfl (lv_at hl 1 rfl) ?_
          refine lv_iconst (v := 5) hx hb d_K_RuleReader_read_57 (by decide) ?_
          refine lv_iconst (v := 0) hx hb d_K_RuleReader_read_58 (by decide) ?_
          obtain ⟨x59, q_59, h⟩ := sk_oR_some h
          refine sk_callVi (As := [.int (5 : Int32), .int (0 : Int32)]) (rest := []) ⟨hx, hb, hml, hown, hts⟩ hw hnw hok (c_K_RuleReader_isPattern hok q_59) (cw_RuleReader_47 hts hnw (by decide)) (rc_K8 hw) rfl hl.1 rfl (Nat.le_of_ble_eq_true rfl) d_K_RuleReader_read_59 (fun H locs hw => ?_)
          refine lv_if_ne (tgt := 67) hx hb d_K_RuleReader_read_62 (by decide) (fun c_62 => ?_) (fun c_62 => ?_)
          · have h := (if_neg c_62).symm.trans h
            exact hJ67 _ _ _ _ _ h hw (lv_sub hl [1, 0] rfl)
          · have h := (if_pos c_62).symm.trans h
            refine lv_iconst (v := 5) hx hb d_K_RuleReader_read_65 (by decide) ?_
            exact hret _ _ _ _ _ _ (sk_p1 h) (sk_p2 h) (vp_nar_int _) hw d_K_RuleReader_read_66
      · have h := (if_pos c_39).symm.trans h
        refine lv_iconst (v := 3) hx hb d_K_RuleReader_read_42 (by decide) ?_
        exact hret _ _ _ _ _ _ (sk_p1 h) (sk_p2 h) (vp_nar_int _) hw d_K_RuleReader_read_43
    · have h := (if_pos c_28).symm.trans h
      refine lv_iconst (v := 2) hx hb d_K_RuleReader_read_31 (by decide) ?_
      exact hret _ _ _ _ _ _ (sk_p1 h) (sk_p2 h) (vp_nar_int _) hw d_K_RuleReader_read_32
  · have h := (if_pos c_16).symm.trans h
    refine lv_iconst (v := 1) hx hb d_K_RuleReader_read_19 (by decide) ?_
    exact hret _ _ _ _ _ _ (sk_p1 h) (sk_p2 h) (vp_nar_int _) hw d_K_RuleReader_read_20
set_option maxHeartbeats 4000000 in
set_option maxRecDepth 100000 in
theorem c_K_Text_isSame {l : Launch} {D : va_G} {A : Nat → Prop} {a : Nat → Nat} {cI cJ cC : ClassId} {adK adV : Nat → Nat} {N : Nat} {i0 : Nat} {i1 : Nat} {st : sk_M} {res : Int32} (hok : sk_ok A (nwK A adK adV)) (hi0 : i0 < 4) (hi1 : i1 < 4) (h : K_Text_isSame N i0 i1 st = some res) : sk_Ci l y_K_Text_isSame w_K_Text_isSame rm_K_Text_isSame D (tyK cI cJ cC) A (ceK a cI cJ cC) (nwK A adK adV) [.ref (a (4 + i0)), .ref (a (4 + i1))] st res st := by
  refine sk_headi .boolean (by decide) rfl (Nat.le_of_ble_eq_true rfl) ?_
  intro p e s m args below meth c Q hx hb hml hown hts0 hnw hret ls hl hw
  have hts : ∀ w ∈ TB, w.before args s = true := fun w h => hts0 w (List.mem_cons_of_mem _ h)
  have hown : s.vm.findClass R_Text = some m.cls := hown
  have hl : lv_has ls 4 [(0, .ref (a (4 + i0))), (1, .ref (a (4 + i1)))] := hl
  unfold K_Text_isSame at h
  refine lv_aload_n hx hb d_K_Text_isSame_0 rfl (lv_at hl 0 rfl) ?_
  refine gf_Text_15 (i := i0) hx hb hts hnw hown hw hi0 d_K_Text_isSame_1 ?_
  refine lv_aload_n hx hb d_K_Text_isSame_4 rfl (lv_at hl 1 rfl) ?_
  refine gf_Text_15 (i := i1) hx hb hts hnw hown hw hi1 d_K_Text_isSame_5 ?_
  have hJ16 : ∀ (s0 : Int32) (H : Heap) (locs : List Loc) (ls : Array Slot), K_Text_isSame_J16 N i0 i1 st s0 = some res → sk_w D (tyK cI cJ cC) A (ceK a cI cJ cC) s st H locs → lv_has ls 4 [(0, .ref (a (4 + i0))), (1, .ref (a (4 + i1)))] → W p l e rm_K_Text_isSame s m args below meth c H locs 0 0 Q (F0 m 16 ls [.int s0]) := by
    intro s0 H locs ls h hw hl
    unfold K_Text_isSame_J16 at h
    refine lv_istore_n (lv' := [(2, .int s0), (0, .ref (a (4 + i0))), (1, .ref (a (4 + i1)))]) hx hb d_K_Text_isSame_16 rfl hl (by decide) rfl (fun ls hl => ?_)
    refine lv_iconst (v := 0) hx hb d_K_Text_isSame_17 (by decide) ?_
    refine lv_istore_n (lv' := [(3, .int (0 : Int32)), (2, .int s0), (0, .ref (a (4 + i0))), (1, .ref (a (4 + i1)))]) hx hb d_K_Text_isSame_18 rfl hl (by decide) rfl (fun ls hl => ?_)
    refine sk_lp_run (G := fun (z : Int32 × Int32) => ∀ (H : Heap) (locs : List Loc) (ls : Array Slot), sk_w D (tyK cI cJ cC) A (ceK a cI cJ cC) s st H locs → lv_has ls 4 [(0, .ref (a (4 + i0))), (1, .ref (a (4 + i1))), (2, .int z.1), (3, .int z.2)] → W p l e rm_K_Text_isSame s m args below meth c H locs 0 0 Q (F0 m 19 ls [])) ?_ N _ h _ _ _ hw (lv_sub hl [2, 3, 1, 0] rfl)
    rintro self19 ⟨v2, v3⟩ hself19 h H locs ls hw hl
    unfold K_Text_isSame_L19 at h
    refine lv_iload_n hx hb d_K_Text_isSame_19 rfl (lv_at hl 2 rfl) ?_
    refine lv_if_eq (tgt := 58) hx hb d_K_Text_isSame_20 (by decide) (fun c_20 => ?_) (fun c_20 => ?_)
    · have h := (if_pos c_20).symm.trans h
      refine lv_iload_n hx hb d_K_Text_isSame_58 rfl (lv_at hl 2 rfl) ?_
      obtain ⟨hz, h⟩ := sk_ck_some h
      exact hret _ _ _ _ _ _ (Option.some.inj h) rfl (congrArg Value.int hz) hw d_K_Text_isSame_59
    · have h := (if_neg c_20).symm.trans h
      refine lv_iload_n hx hb d_K_Text_isSame_23 rfl (lv_at hl 3 rfl) ?_
      refine lv_aload_n hx hb d_K_Text_isSame_24 rfl (lv_at hl 0 rfl) ?_
      refine gf_Text_15 (i := i0) hx hb hts hnw hown hw hi0 d_K_Text_isSame_25 ?_
      refine lv_icmp_ge (tgt := 58) hx hb d_K_Text_isSame_28 (by decide) (fun c_28 => ?_) (fun c_28 => ?_)
      · have h := (if_pos c_28).symm.trans h
        refine lv_iload_n hx hb d_K_Text_isSame_58 rfl (lv_at hl 2 rfl) ?_
        obtain ⟨hz, h⟩ := sk_ck_some h
        exact hret _ _ _ _ _ _ (Option.some.inj h) rfl (congrArg Value.int hz) hw d_K_Text_isSame_59
      · have h := (if_neg c_28).symm.trans h
        refine lv_aload_n hx hb d_K_Text_isSame_31 rfl (lv_at hl 0 rfl) ?_
        refine gf_Text_9 (i := i0) hx hb hts hnw hown hw hi0 d_K_Text_isSame_32 ?_
        refine lv_iload_n hx hb d_K_Text_isSame_35 rfl (lv_at hl 3 rfl) ?_
        obtain ⟨x36, g_36, e_36, h⟩ := sk_rI_some h
        refine al_T (i := i0) hx hb hw hi0 g_36 e_36 d_K_Text_isSame_36 ?_
        refine lv_aload_n hx hb d_K_Text_isSame_37 rfl (lv_at hl 1 rfl) ?_
        refine gf_Text_9 (i := i1) hx hb hts hnw hown hw hi1 d_K_Text_isSame_38 ?_
        refine lv_iload_n hx hb d_K_Text_isSame_41 rfl (lv_at hl 3 rfl) ?_
        obtain ⟨x42, g_42, e_42, h⟩ := sk_rI_some h
        refine al_T (i := i1) hx hb hw hi1 g_42 e_42 d_K_Text_isSame_42 ?_
        refine lv_icmp_ne (tgt := 50) hx hb d_K_Text_isSame_43 (by decide) (fun c_43 => ?_) (fun c_43 => ?_)
        · have h := (if_neg c_43).symm.trans h
          refine lv_iconst (v := 0) hx hb d_K_Text_isSame_50 (by decide) ?_
          refine lv_istore_n (lv' := [(2, .int (0 : Int32)), (0, .ref (a (4 + i0))), (1, .ref (a (4 + i1))), (3, .int v3)]) hx hb d_K_Text_isSame_51 rfl hl (by decide) rfl (fun ls hl => ?_)
          refine lv_iinc (v := v3 + 1) (lv' := [(3, .int (v3 + 1)), (2, .int (0 : Int32)), (0, .ref (a (4 + i0))), (1, .ref (a (4 + i1)))]) hx hb d_K_Text_isSame_52 hl (k := 3) rfl rfl (by decide) rfl (fun ls hl => ?_)
          refine lv_goto (tgt := 19) hx hb d_K_Text_isSame_55 (by decide) ?_
          exact hself19 ((0 : Int32), (v3 + 1)) h _ _ _ hw (lv_sub hl [2, 3, 1, 0] rfl)
        · have h := (if_pos c_43).symm.trans h
          refine lv_iconst (v := 1) hx hb d_K_Text_isSame_46 (by decide) ?_
          refine lv_goto (tgt := 51) hx hb d_K_Text_isSame_47 (by decide) ?_
          refine lv_istore_n (lv' := [(2, .int (1 : Int32)), (0, .ref (a (4 + i0))), (1, .ref (a (4 + i1))), (3, .int v3)]) hx hb d_K_Text_isSame_51 rfl hl (by decide) rfl (fun ls hl => ?_)
          refine lv_iinc (v := v3 + 1) (lv' := [(3, .int (v3 + 1)), (2, .int (1 : Int32)), (0, .ref (a (4 + i0))), (1, .ref (a (4 + i1)))]) hx hb d_K_Text_isSame_52 hl (k := 3) rfl rfl (by decide) rfl (fun ls hl => ?_)
          refine lv_goto (tgt := 19) hx hb d_K_Text_isSame_55 (by decide) ?_
          exact hself19 ((1 : Int32), (v3 + 1)) h _ _ _ hw (lv_sub hl [2, 3, 1, 0] rfl)
  refine lv_icmp_ne (tgt := 15) hx hb d_K_Text_isSame_8 (by decide) (fun c_8 => ?_) (fun c_8 => ?_)
  · have h := (if_neg c_8).symm.trans h
    refine lv_iconst (v := 0) hx hb d_K_Text_isSame_15 (by decide) ?_
    exact hJ16 _ _ _ _ h hw (lv_sub hl [0, 1] rfl)
  · have h := (if_pos c_8).symm.trans h
    refine lv_iconst (v := 1) hx hb d_K_Text_isSame_11 (by decide) ?_
    refine lv_goto (tgt := 16) hx hb d_K_Text_isSame_12 (by decide) ?_
    exact hJ16 _ _ _ _ h hw (lv_sub hl [0, 1] rfl)
set_option maxHeartbeats 4000000 in
set_option maxRecDepth 100000 in
theorem c_K_SF_within {l : Launch} {D : va_G} {A : Nat → Prop} {a : Nat → Nat} {cI cJ cC : ClassId} {adK adV : Nat → Nat} {st : sk_M} {v0 : Int32} {v1 : Int32} {v2 : Int32} {res : Int32} (hok : sk_ok A (nwK A adK adV)) (h : K_SF_within v0 v1 v2 = res) : sk_Ci l y_K_SF_within w_K_SF_within rm_K_SF_within D (tyK cI cJ cC) A (ceK a cI cJ cC) (nwK A adK adV) [.int v0, .int v1, .int v2] st res st := by
  refine sk_headi .boolean (by decide) rfl (Nat.le_of_ble_eq_true rfl) ?_
  intro p e s m args below meth c Q hx hb hml hown hts0 hnw hret ls hl hw
  have hts : ∀ w ∈ TB, w.before args s = true := fun w h => hts0 w (List.mem_cons_of_mem _ h)
  have hown : s.vm.findClass R_SF = some m.cls := hown
  have hl : lv_has ls 3 [(0, .int v0), (1, .int v1), (2, .int v2)] := hl
  unfold K_SF_within at h
  refine lv_iload_n hx hb d_K_SF_within_0 rfl (lv_at hl 0 rfl) ?_
  refine lv_iload_n hx hb d_K_SF_within_1 rfl (lv_at hl 1 rfl) ?_
  refine lv_icmp_lt (tgt := 14) hx hb d_K_SF_within_2 (by decide) (fun c_2 => ?_) (fun c_2 => ?_)
  · have h := (if_pos c_2).symm.trans h
    refine lv_iconst (v := 0) hx hb d_K_SF_within_14 (by decide) ?_
    exact hret _ _ _ _ _ _ h rfl rfl hw d_K_SF_within_15
  · have h := (if_neg c_2).symm.trans h
    refine lv_iload_n hx hb d_K_SF_within_5 rfl (lv_at hl 0 rfl) ?_
    refine lv_iload_n hx hb d_K_SF_within_6 rfl (lv_at hl 2 rfl) ?_
    refine lv_icmp_gt (tgt := 14) hx hb d_K_SF_within_7 (by decide) (fun c_7 => ?_) (fun c_7 => ?_)
    · have h := (if_pos c_7).symm.trans h
      refine lv_iconst (v := 0) hx hb d_K_SF_within_14 (by decide) ?_
      exact hret _ _ _ _ _ _ h rfl rfl hw d_K_SF_within_15
    · have h := (if_neg c_7).symm.trans h
      refine lv_iconst (v := 1) hx hb d_K_SF_within_10 (by decide) ?_
      refine lv_goto (tgt := 15) hx hb d_K_SF_within_11 (by decide) ?_
      exact hret _ _ _ _ _ _ h rfl rfl hw d_K_SF_within_15
set_option maxHeartbeats 4000000 in
set_option maxRecDepth 100000 in
theorem c_K_Text_answer {l : Launch} {D : va_G} {A : Nat → Prop} {a : Nat → Nat} {cI cJ cC : ClassId} {adK adV : Nat → Nat} {i0 : Nat} {st : sk_M} {v1 : Int32} {res : Int32} (hok : sk_ok A (nwK A adK adV)) (hi0 : i0 < 4) (h : K_Text_answer i0 st v1 = some res) : sk_Ci l y_K_Text_answer w_K_Text_answer rm_K_Text_answer D (tyK cI cJ cC) A (ceK a cI cJ cC) (nwK A adK adV) [.ref (a (4 + i0)), .int v1] st res st := by
  refine sk_headi .int (by decide) rfl (Nat.le_of_ble_eq_true rfl) ?_
  intro p e s m args below meth c Q hx hb hml hown hts0 hnw hret ls hl hw
  have hts : ∀ w ∈ TB, w.before args s = true := fun w h => hts0 w (List.mem_cons_of_mem _ h)
  have hown : s.vm.findClass R_Text = some m.cls := hown
  have hl : lv_has ls 2 [(0, .ref (a (4 + i0))), (1, .int v1)] := hl
  unfold K_Text_answer at h
  refine lv_iload_n hx hb d_K_Text_answer_0 rfl (lv_at hl 1 rfl) ?_
  refine lv_iconst (v := -1) hx hb d_K_Text_answer_1 (by decide) ?_
  refine lv_icmp_ne (tgt := 10) hx hb d_K_Text_answer_2 (by decide) (fun c_2 => ?_) (fun c_2 => ?_)
  · have h := (if_neg c_2).symm.trans h
    refine lv_iload_n hx hb d_K_Text_answer_10 rfl (lv_at hl 1 rfl) ?_
    refine lv_iconst (v := 0) hx hb d_K_Text_answer_11 (by decide) ?_
    refine lv_aload_n hx hb d_K_Text_answer_12 rfl (lv_at hl 0 rfl) ?_
    refine gf_Text_15 (i := i0) hx hb hts hnw hown hw hi0 d_K_Text_answer_13 ?_
    refine lv_iconst (v := 1) hx hb d_K_Text_answer_16 (by decide) ?_
    refine lv_isub hx hb d_K_Text_answer_17 ?_
    refine sk_callSNi (As := [.int v1, .int (0 : Int32), .int ((st.1 0 i0) - (1 : Int32))]) (rest := []) ⟨hx, hb, hml, hown, hts⟩ hw hnw hok (c_K_SF_within hok rfl) (cw_Text_39 hts hnw (by decide)) rfl hl.1 rfl (Nat.le_of_ble_eq_true rfl) d_K_Text_answer_18 (fun H locs hw => ?_)
    refine lv_if_eq (tgt := 33) hx hb d_K_Text_answer_21 (by decide) (fun c_21 => ?_) (fun c_21 => ?_)
    · have h := (if_pos c_21).symm.trans h
      refine lv_bipush (v := -2) hx hb d_K_Text_answer_33 (by decide) ?_
      exact hret _ _ _ _ _ _ (Option.some.inj h) rfl (vp_nar_int _) hw d_K_Text_answer_35
    · have h := (if_neg c_21).symm.trans h
      refine lv_aload_n hx hb d_K_Text_answer_24 rfl (lv_at hl 0 rfl) ?_
      refine gf_Text_9 (i := i0) hx hb hts hnw hown hw hi0 d_K_Text_answer_25 ?_
      refine lv_iload_n hx hb d_K_Text_answer_28 rfl (lv_at hl 1 rfl) ?_
      obtain ⟨x29, g_29, e_29, h⟩ := sk_rI_some h
      refine al_T (i := i0) hx hb hw hi0 g_29 e_29 d_K_Text_answer_29 ?_
      refine lv_goto (tgt := 35) hx hb d_K_Text_answer_30 (by decide) ?_
      exact hret _ _ _ _ _ _ (Option.some.inj h) rfl (vp_nar_int _) hw d_K_Text_answer_35
  · have h := (if_pos c_2).symm.trans h
    refine lv_aload_n hx hb d_K_Text_answer_5 rfl (lv_at hl 0 rfl) ?_
    refine gf_Text_15 (i := i0) hx hb hts hnw hown hw hi0 d_K_Text_answer_6 ?_
    exact hret _ _ _ _ _ _ (Option.some.inj h) rfl (vp_nar_int _) hw d_K_Text_answer_9
set_option maxHeartbeats 4000000 in
set_option maxRecDepth 100000 in
theorem c_K_Types_relateOne {l : Launch} {D : va_G} {A : Nat → Prop} {a : Nat → Nat} {cI cJ cC : ClassId} {adK adV : Nat → Nat} {N : Nat} {st : sk_M} {v1 : Int32} {res : sk_M} (hok : sk_ok A (nwK A adK adV)) (h : K_Types_relateOne N st v1 = some res) : sk_Cv l y_K_Types_relateOne w_K_Types_relateOne rm_K_Types_relateOne D (tyK cI cJ cC) A (ceK a cI cJ cC) (nwK A adK adV) [.ref (a 1), .int v1] st res := by
  refine sk_headv (by decide) rfl (Nat.le_of_ble_eq_true rfl) ?_
  intro p e s m args below meth c Q hx hb hml hown hts0 hnw hret ls hl hw
  have hts : ∀ w ∈ TB, w.before args s = true := fun w h => hts0 w (List.mem_cons_of_mem _ h)
  have hown : s.vm.findClass R_Types = some m.cls := hown
  have hl : lv_has ls 5 [(0, .ref (a 1)), (1, .int v1)] := hl
  unfold K_Types_relateOne at h
  refine lv_aload_n hx hb d_K_Types_relateOne_0 rfl (lv_at hl 0 rfl) ?_
  refine gf_Types_18 hx hb hts hnw hown hw d_K_Types_relateOne_1 ?_
  refine lv_iload_n hx hb d_K_Types_relateOne_4 rfl (lv_at hl 1 rfl) ?_
  obtain ⟨x5, g_5, e_5, h⟩ := sk_rI_some h
  refine al_K37 hx hb hw g_5 e_5 d_K_Types_relateOne_5 ?_
  refine lv_istore_n (lv' := [(2, .int x5), (0, .ref (a 1)), (1, .int v1)]) hx hb d_K_Types_relateOne_6 rfl hl (by decide) rfl (fun ls hl => ?_)
  refine lv_aload_n hx hb d_K_Types_relateOne_7 rfl (lv_at hl 1 rfl) ?_
  refine lv_iload_n hx hb d_K_Types_relateOne_8 rfl (lv_at hl 0 rfl) ?_
  refine sk_callVi (As := [.int x5]) (rest := []) ⟨hx, hb, hml, hown, hts⟩ hw hnw hok (c_K_Types_isThere hok rfl) (cw_Types_63 hts hnw (by decide)) (rc_K1 hw) rfl hl.1 rfl (Nat.le_of_ble_eq_true rfl) d_K_Types_relateOne_9 (fun H locs hw => ?_)
  have hJ42 : ∀ (st : sk_M) (v1 : Int32) (v2 : Int32) (s0 : Int32) (H : Heap) (locs : List Loc) (ls : Array Slot), K_Types_relateOne_J42 N st v1 v2 s0 = some res → sk_w D (tyK cI cJ cC) A (ceK a cI cJ cC) s st H locs → lv_has ls 5 [(0, .ref (a 1)), (1, .int v1), (2, .int v2)] → W p l e rm_K_Types_relateOne s m args below meth c H locs 0 0 Q (F0 m 42 ls [.int s0]) := by
    intro st v1 v2 s0 H locs ls h hw hl
    unfold K_Types_relateOne_J42 at h
    refine lv_istore_n (lv' := [(3, .int s0), (0, .ref (a 1)), (1, .int v1), (2, .int v2)]) hx hb d_K_Types_relateOne_42 rfl hl (by decide) rfl (fun ls hl => ?_)
    refine lv_aload_n hx hb d_K_Types_relateOne_43 rfl (lv_at hl 1 rfl) ?_
    refine gf_Types_24 hx hb hts hnw hown hw d_K_Types_relateOne_44 ?_
    refine lv_iload_n hx hb d_K_Types_relateOne_47 rfl (lv_at hl 2 rfl) ?_
    refine lv_iload_n hx hb d_K_Types_relateOne_48 rfl (lv_at hl 0 rfl) ?_
    have hJ57 : ∀ (st : sk_M) (v1 : Int32) (s1 : Int32) (s2 : Int32) (H : Heap) (locs : List Loc) (ls : Array Slot), K_Types_relateOne_J57 N st v1 s1 s2 = some res → sk_w D (tyK cI cJ cC) A (ceK a cI cJ cC) s st H locs → lv_has ls 5 [(0, .ref (a 1)), (1, .int v1)] → W p l e rm_K_Types_relateOne s m args below meth c H locs 0 0 Q (F0 m 57 ls [.int s2, .int s1, .ref (a 39)]) := by
      intro st v1 s1 s2 H locs ls h hw hl
      unfold K_Types_relateOne_J57 at h
      obtain ⟨st57, g_57, e_57, h⟩ := sk_wI_some h
      refine as_K39 hx hb hw g_57 e_57 d_K_Types_relateOne_57 (fun H locs hw => ?_)
      refine lv_aload_n hx hb d_K_Types_relateOne_58 rfl (lv_at hl 0 rfl) ?_
      refine gf_Types_27 hx hb hts hnw hown hw d_K_Types_relateOne_59 ?_
      refine lv_iload_n hx hb d_K_Types_relateOne_62 rfl (lv_at hl 1 rfl) ?_
      refine lv_aload_n hx hb d_K_Types_relateOne_63 rfl (lv_at hl 0 rfl) ?_
      refine gf_Types_21 hx hb hts hnw hown hw d_K_Types_relateOne_64 ?_
      refine lv_iload_n hx hb d_K_Types_relateOne_67 rfl (lv_at hl 1 rfl) ?_
      obtain ⟨x68, g_68, e_68, h⟩ := sk_rI_some h
      refine al_K38 hx hb hw g_68 e_68 d_K_Types_relateOne_68 ?_
      refine lv_i2l hx hb d_K_Types_relateOne_69 rfl ?_
      refine lv_iload_n hx hb d_K_Types_relateOne_70 rfl (lv_at hl 1 rfl) ?_
      refine sk_callSNl (As := [.int v1]) (rest := [.long x68.toInt64, .int v1, .ref (a 40)]) ⟨hx, hb, hml, hown, hts⟩ hw hnw hok (c_K_SF_bit hok rfl) (cw_Types_40 hts hnw (by decide)) rfl hl.1 rfl (Nat.le_of_ble_eq_true rfl) d_K_Types_relateOne_71 (fun H locs hw => ?_)
      refine lv_lconst (v := 1) hx hb d_K_Types_relateOne_74 (by decide) ?_
      refine lv_lsub hx hb d_K_Types_relateOne_75 ?_
      refine lv_land hx hb d_K_Types_relateOne_76 ?_
      refine lv_aload_n hx hb d_K_Types_relateOne_77 rfl (lv_at hl 0 rfl) ?_
      refine gf_Types_57 hx hb hts hnw hown hw d_K_Types_relateOne_78 ?_
      refine lv_land hx hb d_K_Types_relateOne_81 ?_
      obtain ⟨st82, g_82, e_82, h⟩ := sk_wL_some h
      refine as_K40 hx hb hw g_82 e_82 d_K_Types_relateOne_82 (fun H locs hw => ?_)
      refine lv_aload_n hx hb d_K_Types_relateOne_83 rfl (lv_at hl 0 rfl) ?_
      refine gf_Types_31 hx hb hts hnw hown hw d_K_Types_relateOne_84 ?_
      refine lv_iload_n hx hb d_K_Types_relateOne_87 rfl (lv_at hl 1 rfl) ?_
      refine lv_iload_n hx hb d_K_Types_relateOne_88 rfl (lv_at hl 1 rfl) ?_
      refine sk_callSNl (As := [.int v1]) (rest := [.int v1, .ref (a 41)]) ⟨hx, hb, hml, hown, hts⟩ hw hnw hok (c_K_SF_bit hok rfl) (cw_Types_40 hts hnw (by decide)) rfl hl.1 rfl (Nat.le_of_ble_eq_true rfl) d_K_Types_relateOne_89 (fun H locs hw => ?_)
      refine lv_aload_n hx hb d_K_Types_relateOne_92 rfl (lv_at hl 0 rfl) ?_
      refine gf_Types_31 hx hb hts hnw hown hw d_K_Types_relateOne_93 ?_
      refine lv_aload_n hx hb d_K_Types_relateOne_96 rfl (lv_at hl 0 rfl) ?_
      refine gf_Types_24 hx hb hts hnw hown hw d_K_Types_relateOne_97 ?_
      refine lv_iload_n hx hb d_K_Types_relateOne_100 rfl (lv_at hl 1 rfl) ?_
      obtain ⟨x101, g_101, e_101, h⟩ := sk_rI_some h
      refine al_K39 hx hb hw g_101 e_101 d_K_Types_relateOne_101 ?_
      obtain ⟨x102, g_102, e_102, h⟩ := sk_rL_some h
      refine al_K41 hx hb hw g_102 e_102 d_K_Types_relateOne_102 ?_
      refine lv_lor hx hb d_K_Types_relateOne_103 ?_
      obtain ⟨st104, g_104, e_104, h⟩ := sk_wL_some h
      refine as_K41 hx hb hw g_104 e_104 d_K_Types_relateOne_104 (fun H locs hw => ?_)
      refine lv_aload_n hx hb d_K_Types_relateOne_105 rfl (lv_at hl 0 rfl) ?_
      refine gf_Types_34 hx hb hts hnw hown hw d_K_Types_relateOne_106 ?_
      refine lv_iload_n hx hb d_K_Types_relateOne_109 rfl (lv_at hl 1 rfl) ?_
      refine lv_aload_n hx hb d_K_Types_relateOne_110 rfl (lv_at hl 0 rfl) ?_
      refine gf_Types_24 hx hb hts hnw hown hw d_K_Types_relateOne_111 ?_
      refine lv_iload_n hx hb d_K_Types_relateOne_114 rfl (lv_at hl 1 rfl) ?_
      obtain ⟨x115, g_115, e_115, h⟩ := sk_rI_some h
      refine al_K39 hx hb hw g_115 e_115 d_K_Types_relateOne_115 ?_
      refine sk_callSNl (As := [.int x115]) (rest := [.int v1, .ref (a 42)]) ⟨hx, hb, hml, hown, hts⟩ hw hnw hok (c_K_SF_bit hok rfl) (cw_Types_40 hts hnw (by decide)) rfl hl.1 rfl (Nat.le_of_ble_eq_true rfl) d_K_Types_relateOne_116 (fun H locs hw => ?_)
      refine lv_aload_n hx hb d_K_Types_relateOne_119 rfl (lv_at hl 0 rfl) ?_
      refine gf_Types_34 hx hb hts hnw hown hw d_K_Types_relateOne_120 ?_
      refine lv_aload_n hx hb d_K_Types_relateOne_123 rfl (lv_at hl 0 rfl) ?_
      refine gf_Types_24 hx hb hts hnw hown hw d_K_Types_relateOne_124 ?_
      refine lv_iload_n hx hb d_K_Types_relateOne_127 rfl (lv_at hl 1 rfl) ?_
      obtain ⟨x128, g_128, e_128, h⟩ := sk_rI_some h
      refine al_K39 hx hb hw g_128 e_128 d_K_Types_relateOne_128 ?_
      obtain ⟨x129, g_129, e_129, h⟩ := sk_rL_some h
      refine al_K42 hx hb hw g_129 e_129 d_K_Types_relateOne_129 ?_
      refine lv_lor hx hb d_K_Types_relateOne_130 ?_
      refine lv_aload_n hx hb d_K_Types_relateOne_131 rfl (lv_at hl 0 rfl) ?_
      refine gf_Types_27 hx hb hts hnw hown hw d_K_Types_relateOne_132 ?_
      refine lv_iload_n hx hb d_K_Types_relateOne_135 rfl (lv_at hl 1 rfl) ?_
      obtain ⟨x136, g_136, e_136, h⟩ := sk_rL_some h
      refine al_K40 hx hb hw g_136 e_136 d_K_Types_relateOne_136 ?_
      refine lv_lor hx hb d_K_Types_relateOne_137 ?_
      obtain ⟨st138, g_138, e_138, h⟩ := sk_wL_some h
      refine as_K42 hx hb hw g_138 e_138 d_K_Types_relateOne_138 (fun H locs hw => ?_)
      refine lv_iconst (v := 0) hx hb d_K_Types_relateOne_139 (by decide) ?_
      refine lv_istore (lv' := [(4, .int (0 : Int32)), (0, .ref (a 1)), (1, .int v1)]) hx hb d_K_Types_relateOne_140 hl (by decide) rfl (fun ls hl => ?_)
      refine sk_lp_run (G := fun (z : sk_M × Int32 × Int32) => ∀ (H : Heap) (locs : List Loc) (ls : Array Slot), sk_w D (tyK cI cJ cC) A (ceK a cI cJ cC) s z.1 H locs → lv_has ls 5 [(0, .ref (a 1)), (1, .int z.2.1), (4, .int z.2.2)] → W p l e rm_K_Types_relateOne s m args below meth c H locs 0 0 Q (F0 m 142 ls [])) ?_ N _ h _ _ _ hw (lv_sub hl [1, 2, 0] rfl)
      rintro self142 ⟨st, v1, v4⟩ hself142 h H locs ls hw hl
      unfold K_Types_relateOne_L142 at h
      refine lv_iload hx hb d_K_Types_relateOne_142 (lv_at hl 2 rfl) ?_
      refine lv_iload_n hx hb d_K_Types_relateOne_144 rfl (lv_at hl 1 rfl) ?_
      refine lv_icmp_ge (tgt := 184) hx hb d_K_Types_relateOne_145 (by decide) (fun c_145 => ?_) (fun c_145 => ?_)
      · have h := (if_pos c_145).symm.trans h
        exact hret _ _ _ _ _ (Option.some.inj h) hw d_K_Types_relateOne_184
      · have h := (if_neg c_145).symm.trans h
        refine lv_aload_n hx hb d_K_Types_relateOne_148 rfl (lv_at hl 0 rfl) ?_
        refine gf_Types_27 hx hb hts hnw hown hw d_K_Types_relateOne_149 ?_
        refine lv_iload_n hx hb d_K_Types_relateOne_152 rfl (lv_at hl 1 rfl) ?_
        obtain ⟨x153, g_153, e_153, h⟩ := sk_rL_some h
        refine al_K40 hx hb hw g_153 e_153 d_K_Types_relateOne_153 ?_
        refine lv_iload hx hb d_K_Types_relateOne_154 (lv_at hl 2 rfl) ?_
        refine sk_callSNi (As := [.long x153, .int v4]) (rest := []) ⟨hx, hb, hml, hown, hts⟩ hw hnw hok (c_K_SF_has hok rfl) (cw_Types_53 hts hnw (by decide)) rfl hl.1 rfl (Nat.le_of_ble_eq_true rfl) d_K_Types_relateOne_156 (fun H locs hw => ?_)
        refine lv_if_eq (tgt := 178) hx hb d_K_Types_relateOne_159 (by decide) (fun c_159 => ?_) (fun c_159 => ?_)
        · have h := (if_pos c_159).symm.trans h
          refine lv_iinc (v := v4 + 1) (lv' := [(4, .int (v4 + 1)), (0, .ref (a 1)), (1, .int v1)]) hx hb d_K_Types_relateOne_178 hl (k := 2) rfl rfl (by decide) rfl (fun ls hl => ?_)
          refine lv_goto (tgt := 142) hx hb d_K_Types_relateOne_181 (by decide) ?_
          exact hself142 (st, v1, (v4 + 1)) h _ _ _ hw (lv_sub hl [1, 2, 0] rfl)
        · have h := (if_neg c_159).symm.trans h
          refine lv_aload_n hx hb d_K_Types_relateOne_162 rfl (lv_at hl 0 rfl) ?_
          refine gf_Types_34 hx hb hts hnw hown hw d_K_Types_relateOne_163 ?_
          refine lv_iload_n hx hb d_K_Types_relateOne_166 rfl (lv_at hl 1 rfl) ?_
          refine lv_dup2_11 hx hb d_K_Types_relateOne_167 rfl rfl ?_
          obtain ⟨x168, g_168, e_168, h⟩ := sk_rL_some h
          refine al_K42 hx hb hw g_168 e_168 d_K_Types_relateOne_168 ?_
          refine lv_aload_n hx hb d_K_Types_relateOne_169 rfl (lv_at hl 0 rfl) ?_
          refine gf_Types_34 hx hb hts hnw hown hw d_K_Types_relateOne_170 ?_
          refine lv_iload hx hb d_K_Types_relateOne_173 (lv_at hl 2 rfl) ?_
          obtain ⟨x175, g_175, e_175, h⟩ := sk_rL_some h
          refine al_K42 hx hb hw g_175 e_175 d_K_Types_relateOne_175 ?_
          refine lv_lor hx hb d_K_Types_relateOne_176 ?_
          obtain ⟨st177, g_177, e_177, h⟩ := sk_wL_some h
          refine as_K42 hx hb hw g_177 e_177 d_K_Types_relateOne_177 (fun H locs hw => ?_)
          refine lv_iinc (v := v4 + 1) (lv' := [(4, .int (v4 + 1)), (0, .ref (a 1)), (1, .int v1)]) hx hb d_K_Types_relateOne_178 hl (k := 2) rfl rfl (by decide) rfl (fun ls hl => ?_)
          refine lv_goto (tgt := 142) hx hb d_K_Types_relateOne_181 (by decide) ?_
          exact hself142 (st177, v1, (v4 + 1)) h _ _ _ hw (lv_sub hl [1, 2, 0] rfl)
    refine lv_if_eq (tgt := 56) hx hb d_K_Types_relateOne_49 (by decide) (fun c_49 => ?_) (fun c_49 => ?_)
    · have h := (if_pos c_49).symm.trans h
      refine lv_iconst (v := 0) hx hb d_K_Types_relateOne_56 (by decide) ?_
      exact hJ57 _ _ _ _ _ _ _ h hw (lv_sub hl [1, 2] rfl)
    · have h := (if_neg c_49).symm.trans h
      refine lv_iload_n hx hb d_K_Types_relateOne_52 rfl (lv_at hl 3 rfl) ?_
      refine lv_goto (tgt := 57) hx hb d_K_Types_relateOne_53 (by decide) ?_
      exact hJ57 _ _ _ _ _ _ _ h hw (lv_sub hl [1, 2] rfl)
  have hJ41 : ∀ (st : sk_M) (v1 : Int32) (v2 : Int32) (H : Heap) (locs : List Loc) (ls : Array Slot), K_Types_relateOne_J41 N st v1 v2 = some res → sk_w D (tyK cI cJ cC) A (ceK a cI cJ cC) s st H locs → lv_has ls 5 [(0, .ref (a 1)), (1, .int v1), (2, .int v2)] → W p l e rm_K_Types_relateOne s m args below meth c H locs 0 0 Q (F0 m 41 ls []) := by
    intro st v1 v2 H locs ls h hw hl
    unfold K_Types_relateOne_J41 at h
    refine lv_iconst (v := 0) hx hb d_K_Types_relateOne_41 (by decide) ?_
    exact hJ42 _ _ _ _ _ _ _ h hw (lv_sub hl [0, 1, 2] rfl)
  refine lv_if_eq (tgt := 41) hx hb d_K_Types_relateOne_12 (by decide) (fun c_12 => ?_) (fun c_12 => ?_)
  · have h := (if_pos c_12).symm.trans h
    exact hJ41 _ _ _ _ _ _ h hw (lv_sub hl [1, 2, 0] rfl)
  · have h := (if_neg c_12).symm.trans h
    refine lv_aload_n hx hb d_K_Types_relateOne_15 rfl (lv_at hl 1 rfl) ?_
    refine gf_Types_57 hx hb hts hnw hown hw d_K_Types_relateOne_16 ?_
    refine lv_iload_n hx hb d_K_Types_relateOne_19 rfl (lv_at hl 0 rfl) ?_
    refine sk_callSNi (As := [.long (st.2 0 12), .int x5]) (rest := []) ⟨hx, hb, hml, hown, hts⟩ hw hnw hok (c_K_SF_has hok rfl) (cw_Types_53 hts hnw (by decide)) rfl hl.1 rfl (Nat.le_of_ble_eq_true rfl) d_K_Types_relateOne_20 (fun H locs hw => ?_)
    refine lv_if_ne (tgt := 41) hx hb d_K_Types_relateOne_23 (by decide) (fun c_23 => ?_) (fun c_23 => ?_)
    · have h := (if_neg c_23).symm.trans h
      exact hJ41 _ _ _ _ _ _ h hw (lv_sub hl [1, 2, 0] rfl)
    · have h := (if_pos c_23).symm.trans h
      refine lv_aload_n hx hb d_K_Types_relateOne_26 rfl (lv_at hl 1 rfl) ?_
      refine gf_Types_57 hx hb hts hnw hown hw d_K_Types_relateOne_27 ?_
      refine lv_iload_n hx hb d_K_Types_relateOne_30 rfl (lv_at hl 2 rfl) ?_
      refine sk_callSNi (As := [.long (st.2 0 12), .int v1]) (rest := []) ⟨hx, hb, hml, hown, hts⟩ hw hnw hok (c_K_SF_has hok rfl) (cw_Types_53 hts hnw (by decide)) rfl hl.1 rfl (Nat.le_of_ble_eq_true rfl) d_K_Types_relateOne_31 (fun H locs hw => ?_)
      refine lv_if_ne (tgt := 41) hx hb d_K_Types_relateOne_34 (by decide) (fun c_34 => ?_) (fun c_34 => ?_)
      · have h := (if_neg c_34).symm.trans h
        exact hJ41 _ _ _ _ _ _ h hw (lv_sub hl [1, 2, 0] rfl)
      · have h := (if_pos c_34).symm.trans h
        refine lv_iconst (v := 1) hx hb d_K_Types_relateOne_37 (by decide) ?_
        refine lv_goto (tgt := 42) hx hb d_K_Types_relateOne_38 (by decide) ?_
        exact hJ42 _ _ _ _ _ _ _ h hw (lv_sub hl [1, 2, 0] rfl)
set_option maxHeartbeats 4000000 in
set_option maxRecDepth 100000 in
theorem c_K_Types_relate {l : Launch} {D : va_G} {A : Nat → Prop} {a : Nat → Nat} {cI cJ cC : ClassId} {adK adV : Nat → Nat} {N : Nat} {st : sk_M} {res : sk_M} (hok : sk_ok A (nwK A adK adV)) (h : K_Types_relate N st = some res) : sk_Cv l y_K_Types_relate w_K_Types_relate rm_K_Types_relate D (tyK cI cJ cC) A (ceK a cI cJ cC) (nwK A adK adV) [.ref (a 1)] st res := by
  refine sk_headv (by decide) rfl (Nat.le_of_ble_eq_true rfl) ?_
  intro p e s m args below meth c Q hx hb hml hown hts0 hnw hret ls hl hw
  have hts : ∀ w ∈ TB, w.before args s = true := fun w h => hts0 w (List.mem_cons_of_mem _ h)
  have hown : s.vm.findClass R_Types = some m.cls := hown
  have hl : lv_has ls 2 [(0, .ref (a 1))] := hl
  unfold K_Types_relate at h
  refine lv_aload_n hx hb d_K_Types_relate_0 rfl (lv_at hl 0 rfl) ?_
  refine lv_lconst (v := 0) hx hb d_K_Types_relate_1 (by decide) ?_
  obtain ⟨st2, e_2, h⟩ := sk_fL_some h
  refine pf_Types_57 hx hb hts hnw hown hw e_2 d_K_Types_relate_2 (fun H locs hw => ?_)
  refine lv_aload_n hx hb d_K_Types_relate_5 rfl (lv_at hl 0 rfl) ?_
  refine lv_lconst (v := 0) hx hb d_K_Types_relate_6 (by decide) ?_
  obtain ⟨st7, e_7, h⟩ := sk_fL_some h
  refine pf_Types_60 hx hb hts hnw hown hw e_7 d_K_Types_relate_7 (fun H locs hw => ?_)
  refine lv_aload_n hx hb d_K_Types_relate_10 rfl (lv_at hl 0 rfl) ?_
  refine gf_Types_31 hx hb hts hnw hown hw d_K_Types_relate_11 ?_
  refine lv_iconst (v := 0) hx hb d_K_Types_relate_14 (by decide) ?_
  refine lv_iconst (v := 0) hx hb d_K_Types_relate_15 (by decide) ?_
  refine sk_callSNl (As := [.int (0 : Int32)]) (rest := [.int (0 : Int32), .ref (a 41)]) ⟨hx, hb, hml, hown, hts⟩ hw hnw hok (c_K_SF_bit hok rfl) (cw_Types_40 hts hnw (by decide)) rfl hl.1 rfl (Nat.le_of_ble_eq_true rfl) d_K_Types_relate_16 (fun H locs hw => ?_)
  obtain ⟨st19, g_19, e_19, h⟩ := sk_wL_some h
  refine as_K41 hx hb hw g_19 e_19 d_K_Types_relate_19 (fun H locs hw => ?_)
  refine lv_iconst (v := 0) hx hb d_K_Types_relate_20 (by decide) ?_
  refine lv_istore_n (lv' := [(1, .int (0 : Int32)), (0, .ref (a 1))]) hx hb d_K_Types_relate_21 rfl hl (by decide) rfl (fun ls hl => ?_)
  refine sk_lp_run (G := fun (z : sk_M × Int32) => ∀ (H : Heap) (locs : List Loc) (ls : Array Slot), sk_w D (tyK cI cJ cC) A (ceK a cI cJ cC) s z.1 H locs → lv_has ls 2 [(0, .ref (a 1)), (1, .int z.2)] → W p l e rm_K_Types_relate s m args below meth c H locs 0 0 Q (F0 m 22 ls [])) ?_ N _ h _ _ _ hw (lv_sub hl [1, 0] rfl)
  rintro self22 ⟨st, v1⟩ hself22 h H locs ls hw hl
  unfold K_Types_relate_L22 at h
  refine lv_iload_n hx hb d_K_Types_relate_22 rfl (lv_at hl 1 rfl) ?_
  refine lv_bipush (v := 10) hx hb d_K_Types_relate_23 (by decide) ?_
  refine lv_icmp_ge (tgt := 97) hx hb d_K_Types_relate_25 (by decide) (fun c_25 => ?_) (fun c_25 => ?_)
  · have h := (if_pos c_25).symm.trans h
    exact hret _ _ _ _ _ (Option.some.inj h) hw d_K_Types_relate_97
  · have h := (if_neg c_25).symm.trans h
    refine lv_aload_n hx hb d_K_Types_relate_28 rfl (lv_at hl 0 rfl) ?_
    refine lv_iload_n hx hb d_K_Types_relate_29 rfl (lv_at hl 1 rfl) ?_
    refine sk_callVi (As := [.int v1]) (rest := []) ⟨hx, hb, hml, hown, hts⟩ hw hnw hok (c_K_Types_isThere hok rfl) (cw_Types_63 hts hnw (by decide)) (rc_K1 hw) rfl hl.1 rfl (Nat.le_of_ble_eq_true rfl) d_K_Types_relate_30 (fun H locs hw => ?_)
    refine lv_if_eq (tgt := 91) hx hb d_K_Types_relate_33 (by decide) (fun c_33 => ?_) (fun c_33 => ?_)
    · have h := (if_pos c_33).symm.trans h
      refine lv_iinc (v := v1 + 1) (lv' := [(1, .int (v1 + 1)), (0, .ref (a 1))]) hx hb d_K_Types_relate_91 hl (k := 1) rfl rfl (by decide) rfl (fun ls hl => ?_)
      refine lv_goto (tgt := 22) hx hb d_K_Types_relate_94 (by decide) ?_
      exact hself22 (st, (v1 + 1)) h _ _ _ hw (lv_sub hl [1, 0] rfl)
    · have h := (if_neg c_33).symm.trans h
      refine lv_aload_n hx hb d_K_Types_relate_36 rfl (lv_at hl 0 rfl) ?_
      refine gf_Types_15 hx hb hts hnw hown hw d_K_Types_relate_37 ?_
      refine lv_iload_n hx hb d_K_Types_relate_40 rfl (lv_at hl 1 rfl) ?_
      obtain ⟨x41, g_41, e_41, h⟩ := sk_rI_some h
      refine al_K36 hx hb hw g_41 e_41 d_K_Types_relate_41 ?_
      refine lv_iconst (v := 1) hx hb d_K_Types_relate_42 (by decide) ?_
      refine lv_iand hx hb d_K_Types_relate_43 ?_
      have hJ60 : ∀ (st : sk_M) (v1 : Int32) (H : Heap) (locs : List Loc) (ls : Array Slot), K_Types_relate_J60 N self22 st v1 = some res → sk_w D (tyK cI cJ cC) A (ceK a cI cJ cC) s st H locs → lv_has ls 2 [(0, .ref (a 1)), (1, .int v1)] → W p l e rm_K_Types_relate s m args below meth c H locs 0 0 Q (F0 m 60 ls []) := by
        intro st v1 H locs ls h hw hl
        unfold K_Types_relate_J60 at h
        refine lv_aload_n hx hb d_K_Types_relate_60 rfl (lv_at hl 0 rfl) ?_
        refine gf_Types_15 hx hb hts hnw hown hw d_K_Types_relate_61 ?_
        refine lv_iload_n hx hb d_K_Types_relate_64 rfl (lv_at hl 1 rfl) ?_
        obtain ⟨x65, g_65, e_65, h⟩ := sk_rI_some h
        refine al_K36 hx hb hw g_65 e_65 d_K_Types_relate_65 ?_
        have hJ82 : ∀ (st : sk_M) (v1 : Int32) (H : Heap) (locs : List Loc) (ls : Array Slot), K_Types_relate_J82 N self22 st v1 = some res → sk_w D (tyK cI cJ cC) A (ceK a cI cJ cC) s st H locs → lv_has ls 2 [(0, .ref (a 1)), (1, .int v1)] → W p l e rm_K_Types_relate s m args below meth c H locs 0 0 Q (F0 m 82 ls []) := by
          intro st v1 H locs ls h hw hl
          unfold K_Types_relate_J82 at h
          refine lv_iload_n hx hb d_K_Types_relate_82 rfl (lv_at hl 1 rfl) ?_
          refine lv_if_le (tgt := 91) hx hb d_K_Types_relate_83 (by decide) (fun c_83 => ?_) (fun c_83 => ?_)
          · have h := (if_pos c_83).symm.trans h
            refine lv_iinc (v := v1 + 1) (lv' := [(1, .int (v1 + 1)), (0, .ref (a 1))]) hx hb d_K_Types_relate_91 hl (k := 1) rfl rfl (by decide) rfl (fun ls hl => ?_)
            refine lv_goto (tgt := 22) hx hb d_K_Types_relate_94 (by decide) ?_
            exact hself22 (st, (v1 + 1)) h _ _ _ hw (lv_sub hl [1, 0] rfl)
          · have h := (if_neg c_83).symm.trans h
            refine lv_aload_n hx hb d_K_Types_relate_86 rfl (lv_at hl 0 rfl) ?_
            refine lv_iload_n hx hb d_K_Types_relate_87 rfl (lv_at hl 1 rfl) ?_
            obtain ⟨st88, q_88, h⟩ := sk_oR_some h
            refine sk_callVv (As := [.int v1]) (rest := []) ⟨hx, hb, hml, hown, hts⟩ hw hnw hok (c_K_Types_relateOne hok q_88) (cw_Types_67 hts hnw (by decide)) (rc_K1 hw) rfl hl.1 rfl (Nat.le_of_ble_eq_true rfl) d_K_Types_relate_88 (fun H locs hw => ?_)
            refine lv_iinc (v := v1 + 1) (lv' := [(1, .int (v1 + 1)), (0, .ref (a 1))]) hx hb d_K_Types_relate_91 hl (k := 1) rfl rfl (by decide) rfl (fun ls hl => ?_)
            refine lv_goto (tgt := 22) hx hb d_K_Types_relate_94 (by decide) ?_
            exact hself22 (st88, (v1 + 1)) h _ _ _ hw (lv_sub hl [1, 0] rfl)
        refine lv_if_ne (tgt := 82) hx hb d_K_Types_relate_66 (by decide) (fun c_66 => ?_) (fun c_66 => ?_)
        · have h := (if_neg c_66).symm.trans h
          exact hJ82 _ _ _ _ _ h hw (lv_sub hl [0, 1] rfl)
        · have h := (if_pos c_66).symm.trans h
          refine lv_aload_n hx hb d_K_Types_relate_69 rfl (lv_at hl 0 rfl) ?_
          refine lv_dup hx hb d_K_Types_relate_70 rfl ?_
          refine gf_Types_60 hx hb hts hnw hown hw d_K_Types_relate_71 ?_
          refine lv_iload_n hx hb d_K_Types_relate_74 rfl (lv_at hl 1 rfl) ?_
          refine sk_callSNl (As := [.int v1]) (rest := [.long (st.2 0 13), .ref (a 1)]) ⟨hx, hb, hml, hown, hts⟩ hw hnw hok (c_K_SF_bit hok rfl) (cw_Types_40 hts hnw (by decide)) rfl hl.1 rfl (Nat.le_of_ble_eq_true rfl) d_K_Types_relate_75 (fun H locs hw => ?_)
          refine lv_lor hx hb d_K_Types_relate_78 ?_
          obtain ⟨st79, e_79, h⟩ := sk_fL_some h
          refine pf_Types_60 hx hb hts hnw hown hw e_79 d_K_Types_relate_79 (fun H locs hw => ?_)
          exact hJ82 _ _ _ _ _ h hw (lv_sub hl [0, 1] rfl)
      refine lv_if_eq (tgt := 60) hx hb d_K_Types_relate_44 (by decide) (fun c_44 => ?_) (fun c_44 => ?_)
      · have h := (if_pos c_44).symm.trans h
        exact hJ60 _ _ _ _ _ h hw (lv_sub hl [0, 1] rfl)
      · have h := (if_neg c_44).symm.trans h
        refine lv_aload_n hx hb d_K_Types_relate_47 rfl (lv_at hl 0 rfl) ?_
        refine lv_dup hx hb d_K_Types_relate_48 rfl ?_
        refine gf_Types_57 hx hb hts hnw hown hw d_K_Types_relate_49 ?_
        refine lv_iload_n hx hb d_K_Types_relate_52 rfl (lv_at hl 1 rfl) ?_
        refine sk_callSNl (As := [.int v1]) (rest := [.long (st.2 0 12), .ref (a 1)]) ⟨hx, hb, hml, hown, hts⟩ hw hnw hok (c_K_SF_bit hok rfl) (cw_Types_40 hts hnw (by decide)) rfl hl.1 rfl (Nat.le_of_ble_eq_true rfl) d_K_Types_relate_53 (fun H locs hw => ?_)
        refine lv_lor hx hb d_K_Types_relate_56 ?_
        obtain ⟨st57, e_57, h⟩ := sk_fL_some h
        refine pf_Types_57 hx hb hts hnw hown hw e_57 d_K_Types_relate_57 (fun H locs hw => ?_)
        exact hJ60 _ _ _ _ _ h hw (lv_sub hl [0, 1] rfl)
set_option maxHeartbeats 4000000 in
set_option maxRecDepth 100000 in
theorem c_K_Types_reset {l : Launch} {D : va_G} {A : Nat → Prop} {a : Nat → Nat} {cI cJ cC : ClassId} {adK adV : Nat → Nat} {N : Nat} {st : sk_M} {res : sk_M} (hok : sk_ok A (nwK A adK adV)) (h : K_Types_reset N st = some res) : sk_Cv l y_K_Types_reset w_K_Types_reset rm_K_Types_reset D (tyK cI cJ cC) A (ceK a cI cJ cC) (nwK A adK adV) [.ref (a 1)] st res := by
  refine sk_headv (by decide) rfl (Nat.le_of_ble_eq_true rfl) ?_
  intro p e s m args below meth c Q hx hb hml hown hts0 hnw hret ls hl hw
  have hts : ∀ w ∈ TB, w.before args s = true := fun w h => hts0 w (List.mem_cons_of_mem _ h)
  have hown : s.vm.findClass R_Types = some m.cls := hown
  have hl : lv_has ls 1 [(0, .ref (a 1))] := hl
  unfold K_Types_reset at h
  refine lv_aload_n hx hb d_K_Types_reset_0 rfl (lv_at hl 0 rfl) ?_
  refine lv_iconst (v := 0) hx hb d_K_Types_reset_1 (by decide) ?_
  refine sk_callSNl (As := [.int (0 : Int32)]) (rest := [.ref (a 1)]) ⟨hx, hb, hml, hown, hts⟩ hw hnw hok (c_K_SF_bit hok rfl) (cw_Types_40 hts hnw (by decide)) rfl hl.1 rfl (Nat.le_of_ble_eq_true rfl) d_K_Types_reset_2 (fun H locs hw => ?_)
  obtain ⟨st5, e_5, h⟩ := sk_fL_some h
  refine pf_Types_44 hx hb hts hnw hown hw e_5 d_K_Types_reset_5 (fun H locs hw => ?_)
  refine lv_aload_n hx hb d_K_Types_reset_8 rfl (lv_at hl 0 rfl) ?_
  obtain ⟨st9, q_9, h⟩ := sk_oR_some h
  refine sk_callVv (As := []) (rest := []) ⟨hx, hb, hml, hown, hts⟩ hw hnw hok (c_K_Types_relate hok q_9) (cw_Types_48 hts hnw (by decide)) (rc_K1 hw) rfl hl.1 rfl (Nat.le_of_ble_eq_true rfl) d_K_Types_reset_9 (fun H locs hw => ?_)
  exact hret _ _ _ _ _ (Option.some.inj h) hw d_K_Types_reset_12
set_option maxHeartbeats 4000000 in
set_option maxRecDepth 100000 in
theorem c_K_Types_declare {l : Launch} {D : va_G} {A : Nat → Prop} {a : Nat → Nat} {cI cJ cC : ClassId} {adK adV : Nat → Nat} {N : Nat} {st : sk_M} {v1 : Int32} {v2 : Int32} {v3 : Int32} {v4 : Int32} {v5 : Int32} {res : sk_M} (hok : sk_ok A (nwK A adK adV)) (h : K_Types_declare N st v1 v2 v3 v4 v5 = some res) : sk_Cv l y_K_Types_declare w_K_Types_declare rm_K_Types_declare D (tyK cI cJ cC) A (ceK a cI cJ cC) (nwK A adK adV) [.ref (a 1), .int v1, .int v2, .int v3, .int v4, .int v5] st res := by
  refine sk_headv (by decide) rfl (Nat.le_of_ble_eq_true rfl) ?_
  intro p e s m args below meth c Q hx hb hml hown hts0 hnw hret ls hl hw
  have hts : ∀ w ∈ TB, w.before args s = true := fun w h => hts0 w (List.mem_cons_of_mem _ h)
  have hown : s.vm.findClass R_Types = some m.cls := hown
  have hl : lv_has ls 6 [(0, .ref (a 1)), (1, .int v1), (2, .int v2), (3, .int v3), (4, .int v4), (5, .int v5)] := hl
  unfold K_Types_declare at h
  refine lv_aload_n hx hb d_K_Types_declare_0 rfl (lv_at hl 0 rfl) ?_
  refine gf_Types_9 hx hb hts hnw hown hw d_K_Types_declare_1 ?_
  refine lv_iload_n hx hb d_K_Types_declare_4 rfl (lv_at hl 1 rfl) ?_
  refine lv_iload_n hx hb d_K_Types_declare_5 rfl (lv_at hl 2 rfl) ?_
  obtain ⟨st6, g_6, e_6, h⟩ := sk_wI_some h
  refine as_K35 hx hb hw g_6 e_6 d_K_Types_declare_6 (fun H locs hw => ?_)
  refine lv_aload_n hx hb d_K_Types_declare_7 rfl (lv_at hl 0 rfl) ?_
  refine gf_Types_15 hx hb hts hnw hown hw d_K_Types_declare_8 ?_
  refine lv_iload_n hx hb d_K_Types_declare_11 rfl (lv_at hl 1 rfl) ?_
  refine lv_iload_n hx hb d_K_Types_declare_12 rfl (lv_at hl 3 rfl) ?_
  obtain ⟨st13, g_13, e_13, h⟩ := sk_wI_some h
  refine as_K36 hx hb hw g_13 e_13 d_K_Types_declare_13 (fun H locs hw => ?_)
  refine lv_aload_n hx hb d_K_Types_declare_14 rfl (lv_at hl 0 rfl) ?_
  refine gf_Types_18 hx hb hts hnw hown hw d_K_Types_declare_15 ?_
  refine lv_iload_n hx hb d_K_Types_declare_18 rfl (lv_at hl 1 rfl) ?_
  refine lv_iload hx hb d_K_Types_declare_19 (lv_at hl 4 rfl) ?_
  obtain ⟨st21, g_21, e_21, h⟩ := sk_wI_some h
  refine as_K37 hx hb hw g_21 e_21 d_K_Types_declare_21 (fun H locs hw => ?_)
  refine lv_aload_n hx hb d_K_Types_declare_22 rfl (lv_at hl 0 rfl) ?_
  refine gf_Types_21 hx hb hts hnw hown hw d_K_Types_declare_23 ?_
  refine lv_iload_n hx hb d_K_Types_declare_26 rfl (lv_at hl 1 rfl) ?_
  refine lv_iload hx hb d_K_Types_declare_27 (lv_at hl 5 rfl) ?_
  obtain ⟨st29, g_29, e_29, h⟩ := sk_wI_some h
  refine as_K38 hx hb hw g_29 e_29 d_K_Types_declare_29 (fun H locs hw => ?_)
  refine lv_aload_n hx hb d_K_Types_declare_30 rfl (lv_at hl 0 rfl) ?_
  refine lv_dup hx hb d_K_Types_declare_31 rfl ?_
  refine gf_Types_44 hx hb hts hnw hown hw d_K_Types_declare_32 ?_
  refine lv_iload_n hx hb d_K_Types_declare_35 rfl (lv_at hl 1 rfl) ?_
  refine sk_callSNl (As := [.int v1]) (rest := [.long (st29.2 0 11), .ref (a 1)]) ⟨hx, hb, hml, hown, hts⟩ hw hnw hok (c_K_SF_bit hok rfl) (cw_Types_40 hts hnw (by decide)) rfl hl.1 rfl (Nat.le_of_ble_eq_true rfl) d_K_Types_declare_36 (fun H locs hw => ?_)
  refine lv_lor hx hb d_K_Types_declare_39 ?_
  obtain ⟨st40, e_40, h⟩ := sk_fL_some h
  refine pf_Types_44 hx hb hts hnw hown hw e_40 d_K_Types_declare_40 (fun H locs hw => ?_)
  refine lv_aload_n hx hb d_K_Types_declare_43 rfl (lv_at hl 0 rfl) ?_
  obtain ⟨st44, q_44, h⟩ := sk_oR_some h
  refine sk_callVv (As := []) (rest := []) ⟨hx, hb, hml, hown, hts⟩ hw hnw hok (c_K_Types_relate hok q_44) (cw_Types_48 hts hnw (by decide)) (rc_K1 hw) rfl hl.1 rfl (Nat.le_of_ble_eq_true rfl) d_K_Types_declare_44 (fun H locs hw => ?_)
  exact hret _ _ _ _ _ (Option.some.inj h) hw d_K_Types_declare_47
set_option maxHeartbeats 4000000 in
set_option maxRecDepth 100000 in
theorem c_K_Types_forget {l : Launch} {D : va_G} {A : Nat → Prop} {a : Nat → Nat} {cI cJ cC : ClassId} {adK adV : Nat → Nat} {N : Nat} {st : sk_M} {v1 : Int32} {res : sk_M} (hok : sk_ok A (nwK A adK adV)) (h : K_Types_forget N st v1 = some res) : sk_Cv l y_K_Types_forget w_K_Types_forget rm_K_Types_forget D (tyK cI cJ cC) A (ceK a cI cJ cC) (nwK A adK adV) [.ref (a 1), .int v1] st res := by
  refine sk_headv (by decide) rfl (Nat.le_of_ble_eq_true rfl) ?_
  intro p e s m args below meth c Q hx hb hml hown hts0 hnw hret ls hl hw
  have hts : ∀ w ∈ TB, w.before args s = true := fun w h => hts0 w (List.mem_cons_of_mem _ h)
  have hown : s.vm.findClass R_Types = some m.cls := hown
  have hl : lv_has ls 2 [(0, .ref (a 1)), (1, .int v1)] := hl
  unfold K_Types_forget at h
  refine lv_aload_n hx hb d_K_Types_forget_0 rfl (lv_at hl 0 rfl) ?_
  refine lv_dup hx hb d_K_Types_forget_1 rfl ?_
  refine gf_Types_44 hx hb hts hnw hown hw d_K_Types_forget_2 ?_
  refine lv_iload_n hx hb d_K_Types_forget_5 rfl (lv_at hl 1 rfl) ?_
  refine sk_callSNl (As := [.int v1]) (rest := [.long (st.2 0 11), .ref (a 1)]) ⟨hx, hb, hml, hown, hts⟩ hw hnw hok (c_K_SF_bit hok rfl) (cw_Types_40 hts hnw (by decide)) rfl hl.1 rfl (Nat.le_of_ble_eq_true rfl) d_K_Types_forget_6 (fun H locs hw => ?_)
  refine lv_ldc2 (v := -1) hx hb hown (hts _ kl_Types_51) d_K_Types_forget_9 ?_
  refine lv_lxor hx hb d_K_Types_forget_12 ?_
  refine lv_land hx hb d_K_Types_forget_13 ?_
  obtain ⟨st14, e_14, h⟩ := sk_fL_some h
  refine pf_Types_44 hx hb hts hnw hown hw e_14 d_K_Types_forget_14 (fun H locs hw => ?_)
  refine lv_aload_n hx hb d_K_Types_forget_17 rfl (lv_at hl 0 rfl) ?_
  obtain ⟨st18, q_18, h⟩ := sk_oR_some h
  refine sk_callVv (As := []) (rest := []) ⟨hx, hb, hml, hown, hts⟩ hw hnw hok (c_K_Types_relate hok q_18) (cw_Types_48 hts hnw (by decide)) (rc_K1 hw) rfl hl.1 rfl (Nat.le_of_ble_eq_true rfl) d_K_Types_forget_18 (fun H locs hw => ?_)
  exact hret _ _ _ _ _ (Option.some.inj h) hw d_K_Types_forget_21
set_option maxHeartbeats 4000000 in
set_option maxRecDepth 100000 in
theorem c_K_SF_type {l : Launch} {D : va_G} {A : Nat → Prop} {a : Nat → Nat} {cI cJ cC : ClassId} {adK adV : Nat → Nat} {N : Nat} {st : sk_M} {v1 : Int32} {v2 : Int32} {v3 : Int32} {v4 : Int32} {v5 : Int32} {res : Int32 × sk_M} (hok : sk_ok A (nwK A adK adV)) (h : K_SF_type N st v1 v2 v3 v4 v5 = some res) : sk_Ci l y_K_SF_type w_K_SF_type rm_K_SF_type D (tyK cI cJ cC) A (ceK a cI cJ cC) (nwK A adK adV) [.ref (a 0), .int v1, .int v2, .int v3, .int v4, .int v5] st res.1 res.2 := by
  refine sk_headi .boolean (by decide) rfl (Nat.le_of_ble_eq_true rfl) ?_
  intro p e s m args below meth c Q hx hb hml hown hts0 hnw hret ls hl hw
  have hts : ∀ w ∈ TB, w.before args s = true := fun w h => hts0 w (List.mem_cons_of_mem _ h)
  have hown : s.vm.findClass R_SF = some m.cls := hown
  have hl : lv_has ls 6 [(0, .ref (a 0)), (1, .int v1), (2, .int v2), (3, .int v3), (4, .int v4), (5, .int v5)] := hl
  unfold K_SF_type at h
  refine lv_iload_n hx hb d_K_SF_type_0 rfl (lv_at hl 1 rfl) ?_
  refine lv_iconst (v := 1) hx hb d_K_SF_type_1 (by decide) ?_
  refine lv_bipush (v := 9) hx hb d_K_SF_type_2 (by decide) ?_
  refine sk_callSi (As := [.int v1, .int (1 : Int32), .int (9 : Int32)]) (rest := []) ⟨hx, hb, hml, hown, hts⟩ hw hnw hok (c_K_SF_within hok rfl) (cw_SF_87 hts hnw (by decide)) rfl hl.1 rfl (Nat.le_of_ble_eq_true rfl) d_K_SF_type_4 (fun H locs hw => ?_)
  refine lv_if_eq (tgt := 19) hx hb d_K_SF_type_7 (by decide) (fun c_7 => ?_) (fun c_7 => ?_)
  · have h := (if_pos c_7).symm.trans h
    refine lv_iconst (v := 0) hx hb d_K_SF_type_19 (by decide) ?_
    exact hret _ _ _ _ _ _ (sk_p1 h) (sk_p2 h) rfl hw d_K_SF_type_20
  · have h := (if_neg c_7).symm.trans h
    refine lv_iload_n hx hb d_K_SF_type_10 rfl (lv_at hl 2 rfl) ?_
    refine lv_iconst (v := 0) hx hb d_K_SF_type_11 (by decide) ?_
    refine lv_iconst (v := 2) hx hb d_K_SF_type_12 (by decide) ?_
    refine sk_callSi (As := [.int v2, .int (0 : Int32), .int (2 : Int32)]) (rest := []) ⟨hx, hb, hml, hown, hts⟩ hw hnw hok (c_K_SF_within hok rfl) (cw_SF_87 hts hnw (by decide)) rfl hl.1 rfl (Nat.le_of_ble_eq_true rfl) d_K_SF_type_13 (fun H locs hw => ?_)
    refine lv_if_ne (tgt := 21) hx hb d_K_SF_type_16 (by decide) (fun c_16 => ?_) (fun c_16 => ?_)
    · have h := (if_neg c_16).symm.trans h
      refine lv_iload_n hx hb d_K_SF_type_21 rfl (lv_at hl 3 rfl) ?_
      refine lv_iconst (v := 0) hx hb d_K_SF_type_22 (by decide) ?_
      refine lv_iconst (v := 3) hx hb d_K_SF_type_23 (by decide) ?_
      refine sk_callSi (As := [.int v3, .int (0 : Int32), .int (3 : Int32)]) (rest := []) ⟨hx, hb, hml, hown, hts⟩ hw hnw hok (c_K_SF_within hok rfl) (cw_SF_87 hts hnw (by decide)) rfl hl.1 rfl (Nat.le_of_ble_eq_true rfl) d_K_SF_type_24 (fun H locs hw => ?_)
      refine lv_if_eq (tgt := 42) hx hb d_K_SF_type_27 (by decide) (fun c_27 => ?_) (fun c_27 => ?_)
      · have h := (if_pos c_27).symm.trans h
        refine lv_iconst (v := 0) hx hb d_K_SF_type_42 (by decide) ?_
        exact hret _ _ _ _ _ _ (sk_p1 h) (sk_p2 h) rfl hw d_K_SF_type_43
      · have h := (if_neg c_27).symm.trans h
        refine lv_iload hx hb d_K_SF_type_30 (lv_at hl 4 rfl) ?_
        refine lv_iconst (v := 0) hx hb d_K_SF_type_32 (by decide) ?_
        refine lv_iload_n hx hb d_K_SF_type_33 rfl (lv_at hl 1 rfl) ?_
        refine lv_iconst (v := 1) hx hb d_K_SF_type_34 (by decide) ?_
        refine lv_isub hx hb d_K_SF_type_35 ?_
        refine sk_callSi (As := [.int v4, .int (0 : Int32), .int (v1 - (1 : Int32))]) (rest := []) ⟨hx, hb, hml, hown, hts⟩ hw hnw hok (c_K_SF_within hok rfl) (cw_SF_87 hts hnw (by decide)) rfl hl.1 rfl (Nat.le_of_ble_eq_true rfl) d_K_SF_type_36 (fun H locs hw => ?_)
        refine lv_if_ne (tgt := 44) hx hb d_K_SF_type_39 (by decide) (fun c_39 => ?_) (fun c_39 => ?_)
        · have h := (if_neg c_39).symm.trans h
          refine lv_iload hx hb d_K_SF_type_44 (lv_at hl 5 rfl) ?_
          refine lv_iconst (v := 0) hx hb d_K_SF_type_46 (by decide) ?_
          refine lv_sipush (v := 1023) hx hb d_K_SF_type_47 (by decide) ?_
          refine sk_callSi (As := [.int v5, .int (0 : Int32), .int (1023 : Int32)]) (rest := []) ⟨hx, hb, hml, hown, hts⟩ hw hnw hok (c_K_SF_within hok rfl) (cw_SF_87 hts hnw (by decide)) rfl hl.1 rfl (Nat.le_of_ble_eq_true rfl) d_K_SF_type_50 (fun H locs hw => ?_)
          refine lv_if_ne (tgt := 58) hx hb d_K_SF_type_53 (by decide) (fun c_53 => ?_) (fun c_53 => ?_)
          · have h := (if_neg c_53).symm.trans h
            refine lv_aload_n hx hb d_K_SF_type_58 rfl (lv_at hl 0 rfl) ?_
            refine gf_SF_12 hx hb hts hnw hown hw d_K_SF_type_59 ?_
            refine lv_iload_n hx hb d_K_SF_type_62 rfl (lv_at hl 1 rfl) ?_
            refine lv_iload_n hx hb d_K_SF_type_63 rfl (lv_at hl 2 rfl) ?_
            refine lv_iload_n hx hb d_K_SF_type_64 rfl (lv_at hl 3 rfl) ?_
            refine lv_iload hx hb d_K_SF_type_65 (lv_at hl 4 rfl) ?_
            refine lv_iload hx hb d_K_SF_type_67 (lv_at hl 5 rfl) ?_
            obtain ⟨st69, q_69, h⟩ := sk_oR_some h
            refine sk_callVv (As := [.int v1, .int v2, .int v3, .int v4, .int v5]) (rest := []) ⟨hx, hb, hml, hown, hts⟩ hw hnw hok (c_K_Types_declare hok q_69) (cw_SF_91 hts hnw (by decide)) (rc_K1 hw) rfl hl.1 rfl (Nat.le_of_ble_eq_true rfl) d_K_SF_type_69 (fun H locs hw => ?_)
            refine lv_aload_n hx hb d_K_SF_type_72 rfl (lv_at hl 0 rfl) ?_
            refine lv_iconst (v := 0) hx hb d_K_SF_type_73 (by decide) ?_
            obtain ⟨st74, e_74, h⟩ := sk_fI_some h
            refine pf_SF_95 hx hb hts hnw hown hw (by decide) e_74 d_K_SF_type_74 (fun H locs hw => ?_)
            refine lv_iconst (v := 1) hx hb d_K_SF_type_77 (by decide) ?_
            exact hret _ _ _ _ _ _ (sk_p1 h) (sk_p2 h) rfl hw d_K_SF_type_78
          · have h := (if_pos c_53).symm.trans h
            refine lv_iconst (v := 0) hx hb d_K_SF_type_56 (by decide) ?_
            exact hret _ _ _ _ _ _ (sk_p1 h) (sk_p2 h) rfl hw d_K_SF_type_57
        · have h := (if_pos c_39).symm.trans h
          refine lv_iconst (v := 0) hx hb d_K_SF_type_42 (by decide) ?_
          exact hret _ _ _ _ _ _ (sk_p1 h) (sk_p2 h) rfl hw d_K_SF_type_43
    · have h := (if_pos c_16).symm.trans h
      refine lv_iconst (v := 0) hx hb d_K_SF_type_19 (by decide) ?_
      exact hret _ _ _ _ _ _ (sk_p1 h) (sk_p2 h) rfl hw d_K_SF_type_20
set_option maxHeartbeats 4000000 in
set_option maxRecDepth 100000 in
theorem c_K_SF_drop {l : Launch} {D : va_G} {A : Nat → Prop} {a : Nat → Nat} {cI cJ cC : ClassId} {adK adV : Nat → Nat} {N : Nat} {st : sk_M} {v1 : Int32} {res : Int32 × sk_M} (hok : sk_ok A (nwK A adK adV)) (h : K_SF_drop N st v1 = some res) : sk_Ci l y_K_SF_drop w_K_SF_drop rm_K_SF_drop D (tyK cI cJ cC) A (ceK a cI cJ cC) (nwK A adK adV) [.ref (a 0), .int v1] st res.1 res.2 := by
  refine sk_headi .boolean (by decide) rfl (Nat.le_of_ble_eq_true rfl) ?_
  intro p e s m args below meth c Q hx hb hml hown hts0 hnw hret ls hl hw
  have hts : ∀ w ∈ TB, w.before args s = true := fun w h => hts0 w (List.mem_cons_of_mem _ h)
  have hown : s.vm.findClass R_SF = some m.cls := hown
  have hl : lv_has ls 2 [(0, .ref (a 0)), (1, .int v1)] := hl
  unfold K_SF_drop at h
  refine lv_iload_n hx hb d_K_SF_drop_0 rfl (lv_at hl 1 rfl) ?_
  refine lv_if_eq (tgt := 15) hx hb d_K_SF_drop_1 (by decide) (fun c_1 => ?_) (fun c_1 => ?_)
  · have h := (if_pos c_1).symm.trans h
    refine lv_iconst (v := 0) hx hb d_K_SF_drop_15 (by decide) ?_
    exact hret _ _ _ _ _ _ (sk_p1 h) (sk_p2 h) rfl hw d_K_SF_drop_16
  · have h := (if_neg c_1).symm.trans h
    refine lv_aload_n hx hb d_K_SF_drop_4 rfl (lv_at hl 0 rfl) ?_
    refine gf_SF_12 hx hb hts hnw hown hw d_K_SF_drop_5 ?_
    refine lv_iload_n hx hb d_K_SF_drop_8 rfl (lv_at hl 1 rfl) ?_
    refine sk_callVi (As := [.int v1]) (rest := []) ⟨hx, hb, hml, hown, hts⟩ hw hnw hok (c_K_Types_isThere hok rfl) (cw_SF_99 hts hnw (by decide)) (rc_K1 hw) rfl hl.1 rfl (Nat.le_of_ble_eq_true rfl) d_K_SF_drop_9 (fun H locs hw => ?_)
    refine lv_if_ne (tgt := 17) hx hb d_K_SF_drop_12 (by decide) (fun c_12 => ?_) (fun c_12 => ?_)
    · have h := (if_neg c_12).symm.trans h
      refine lv_aload_n hx hb d_K_SF_drop_17 rfl (lv_at hl 0 rfl) ?_
      refine gf_SF_12 hx hb hts hnw hown hw d_K_SF_drop_18 ?_
      refine lv_iload_n hx hb d_K_SF_drop_21 rfl (lv_at hl 1 rfl) ?_
      obtain ⟨st22, q_22, h⟩ := sk_oR_some h
      refine sk_callVv (As := [.int v1]) (rest := []) ⟨hx, hb, hml, hown, hts⟩ hw hnw hok (c_K_Types_forget hok q_22) (cw_SF_103 hts hnw (by decide)) (rc_K1 hw) rfl hl.1 rfl (Nat.le_of_ble_eq_true rfl) d_K_SF_drop_22 (fun H locs hw => ?_)
      refine lv_aload_n hx hb d_K_SF_drop_25 rfl (lv_at hl 0 rfl) ?_
      refine gf_SF_21 hx hb hts hnw hown hw d_K_SF_drop_26 ?_
      refine lv_iload_n hx hb d_K_SF_drop_29 rfl (lv_at hl 1 rfl) ?_
      obtain ⟨st30, q_30, h⟩ := sk_oR_some h
      refine sk_callVv (As := [.int v1]) (rest := []) ⟨hx, hb, hml, hown, hts⟩ hw hnw hok (c_K_Members_discardAllOf hok q_30) (cw_SF_106 hts hnw (by decide)) (rc_K2 hw) rfl hl.1 rfl (Nat.le_of_ble_eq_true rfl) d_K_SF_drop_30 (fun H locs hw => ?_)
      refine lv_aload_n hx hb d_K_SF_drop_33 rfl (lv_at hl 0 rfl) ?_
      refine lv_iconst (v := 0) hx hb d_K_SF_drop_34 (by decide) ?_
      obtain ⟨st35, e_35, h⟩ := sk_fI_some h
      refine pf_SF_95 hx hb hts hnw hown hw (by decide) e_35 d_K_SF_drop_35 (fun H locs hw => ?_)
      refine lv_iconst (v := 1) hx hb d_K_SF_drop_38 (by decide) ?_
      exact hret _ _ _ _ _ _ (sk_p1 h) (sk_p2 h) rfl hw d_K_SF_drop_39
    · have h := (if_pos c_12).symm.trans h
      refine lv_iconst (v := 0) hx hb d_K_SF_drop_15 (by decide) ?_
      exact hret _ _ _ _ _ _ (sk_p1 h) (sk_p2 h) rfl hw d_K_SF_drop_16
set_option maxHeartbeats 4000000 in
set_option maxRecDepth 100000 in
theorem c_K_SF_member {l : Launch} {D : va_G} {A : Nat → Prop} {a : Nat → Nat} {cI cJ cC : ClassId} {adK adV : Nat → Nat} {st : sk_M} {v1 : Int32} {v2 : Int32} {v3 : Int32} {v4 : Int32} {res : Int32 × sk_M} (hok : sk_ok A (nwK A adK adV)) (h : K_SF_member st v1 v2 v3 v4 = some res) : sk_Ci l y_K_SF_member w_K_SF_member rm_K_SF_member D (tyK cI cJ cC) A (ceK a cI cJ cC) (nwK A adK adV) [.ref (a 0), .int v1, .int v2, .int v3, .int v4] st res.1 res.2 := by
  refine sk_headi .int (by decide) rfl (Nat.le_of_ble_eq_true rfl) ?_
  intro p e s m args below meth c Q hx hb hml hown hts0 hnw hret ls hl hw
  have hts : ∀ w ∈ TB, w.before args s = true := fun w h => hts0 w (List.mem_cons_of_mem _ h)
  have hown : s.vm.findClass R_SF = some m.cls := hown
  have hl : lv_has ls 7 [(0, .ref (a 0)), (1, .int v1), (2, .int v2), (3, .int v3), (4, .int v4)] := hl
  unfold K_SF_member at h
  refine lv_iload_n hx hb d_K_SF_member_0 rfl (lv_at hl 1 rfl) ?_
  refine lv_if_eq (tgt := 26) hx hb d_K_SF_member_1 (by decide) (fun c_1 => ?_) (fun c_1 => ?_)
  · have h := (if_pos c_1).symm.trans h
    refine lv_iconst (v := -1) hx hb d_K_SF_member_26 (by decide) ?_
    exact hret _ _ _ _ _ _ (sk_p1 h) (sk_p2 h) (vp_nar_int _) hw d_K_SF_member_27
  · have h := (if_neg c_1).symm.trans h
    refine lv_aload_n hx hb d_K_SF_member_4 rfl (lv_at hl 0 rfl) ?_
    refine gf_SF_12 hx hb hts hnw hown hw d_K_SF_member_5 ?_
    refine lv_iload_n hx hb d_K_SF_member_8 rfl (lv_at hl 1 rfl) ?_
    refine sk_callVi (As := [.int v1]) (rest := []) ⟨hx, hb, hml, hown, hts⟩ hw hnw hok (c_K_Types_isThere hok rfl) (cw_SF_99 hts hnw (by decide)) (rc_K1 hw) rfl hl.1 rfl (Nat.le_of_ble_eq_true rfl) d_K_SF_member_9 (fun H locs hw => ?_)
    refine lv_if_eq (tgt := 26) hx hb d_K_SF_member_12 (by decide) (fun c_12 => ?_) (fun c_12 => ?_)
    · have h := (if_pos c_12).symm.trans h
      refine lv_iconst (v := -1) hx hb d_K_SF_member_26 (by decide) ?_
      exact hret _ _ _ _ _ _ (sk_p1 h) (sk_p2 h) (vp_nar_int _) hw d_K_SF_member_27
    · have h := (if_neg c_12).symm.trans h
      refine lv_iload hx hb d_K_SF_member_15 (lv_at hl 4 rfl) ?_
      refine lv_iconst (v := 0) hx hb d_K_SF_member_17 (by decide) ?_
      refine lv_bipush (v := 7) hx hb d_K_SF_member_18 (by decide) ?_
      refine sk_callSi (As := [.int v4, .int (0 : Int32), .int (7 : Int32)]) (rest := []) ⟨hx, hb, hml, hown, hts⟩ hw hnw hok (c_K_SF_within hok rfl) (cw_SF_87 hts hnw (by decide)) rfl hl.1 rfl (Nat.le_of_ble_eq_true rfl) d_K_SF_member_20 (fun H locs hw => ?_)
      refine lv_if_ne (tgt := 28) hx hb d_K_SF_member_23 (by decide) (fun c_23 => ?_) (fun c_23 => ?_)
      · have h := (if_neg c_23).symm.trans h
        refine lv_iload hx hb d_K_SF_member_28 (lv_at hl 4 rfl) ?_
        refine lv_iconst (v := 1) hx hb d_K_SF_member_30 (by decide) ?_
        refine lv_iand hx hb d_K_SF_member_31 ?_
        have hJ40 : ∀ (st : sk_M) (v1 : Int32) (v2 : Int32) (v3 : Int32) (v4 : Int32) (s0 : Int32) (H : Heap) (locs : List Loc) (ls : Array Slot), K_SF_member_J40 st v1 v2 v3 v4 s0 = some res → sk_w D (tyK cI cJ cC) A (ceK a cI cJ cC) s st H locs → lv_has ls 7 [(0, .ref (a 0)), (1, .int v1), (2, .int v2), (3, .int v3), (4, .int v4)] → W p l e rm_K_SF_member s m args below meth c H locs 0 0 Q (F0 m 40 ls [.int s0]) := by
          intro st v1 v2 v3 v4 s0 H locs ls h hw hl
          unfold K_SF_member_J40 at h
          refine lv_istore (lv' := [(5, .int s0), (0, .ref (a 0)), (1, .int v1), (2, .int v2), (3, .int v3), (4, .int v4)]) hx hb d_K_SF_member_40 hl (by decide) rfl (fun ls hl => ?_)
          refine lv_iload_n hx hb d_K_SF_member_42 rfl (lv_at hl 3 rfl) ?_
          refine lv_iconst (v := 0) hx hb d_K_SF_member_43 (by decide) ?_
          refine lv_iload hx hb d_K_SF_member_44 (lv_at hl 0 rfl) ?_
          have hJ56 : ∀ (st : sk_M) (v1 : Int32) (v2 : Int32) (v3 : Int32) (v4 : Int32) (v5 : Int32) (s0 : Int32) (s1 : Int32) (s2 : Int32) (H : Heap) (locs : List Loc) (ls : Array Slot), K_SF_member_J56 st v1 v2 v3 v4 v5 s0 s1 s2 = some res → sk_w D (tyK cI cJ cC) A (ceK a cI cJ cC) s st H locs → lv_has ls 7 [(0, .ref (a 0)), (1, .int v1), (2, .int v2), (3, .int v3), (4, .int v4), (5, .int v5)] → W p l e rm_K_SF_member s m args below meth c H locs 0 0 Q (F0 m 56 ls [.int s2, .int s1, .int s0]) := by
            intro st v1 v2 v3 v4 v5 s0 s1 s2 H locs ls h hw hl
            unfold K_SF_member_J56 at h
            refine lv_iconst (v := 1) hx hb d_K_SF_member_56 (by decide) ?_
            refine lv_isub hx hb d_K_SF_member_57 ?_
            refine sk_callSi (As := [.int s0, .int s1, .int (s2 - (1 : Int32))]) (rest := []) ⟨hx, hb, hml, hown, hts⟩ hw hnw hok (c_K_SF_within hok rfl) (cw_SF_87 hts hnw (by decide)) rfl hl.1 rfl (Nat.le_of_ble_eq_true rfl) d_K_SF_member_58 (fun H locs hw => ?_)
            refine lv_if_eq (tgt := 73) hx hb d_K_SF_member_61 (by decide) (fun c_61 => ?_) (fun c_61 => ?_)
            · have h := (if_pos c_61).symm.trans h
              refine lv_iconst (v := -1) hx hb d_K_SF_member_73 (by decide) ?_
              exact hret _ _ _ _ _ _ (sk_p1 h) (sk_p2 h) (vp_nar_int _) hw d_K_SF_member_74
            · have h := (if_neg c_61).symm.trans h
              refine lv_iload_n hx hb d_K_SF_member_64 rfl (lv_at hl 3 rfl) ?_
              refine lv_iconst (v := 0) hx hb d_K_SF_member_65 (by decide) ?_
              refine lv_iconst (v := 1) hx hb d_K_SF_member_66 (by decide) ?_
              refine sk_callSi (As := [.int v3, .int (0 : Int32), .int (1 : Int32)]) (rest := []) ⟨hx, hb, hml, hown, hts⟩ hw hnw hok (c_K_SF_within hok rfl) (cw_SF_87 hts hnw (by decide)) rfl hl.1 rfl (Nat.le_of_ble_eq_true rfl) d_K_SF_member_67 (fun H locs hw => ?_)
              refine lv_if_ne (tgt := 75) hx hb d_K_SF_member_70 (by decide) (fun c_70 => ?_) (fun c_70 => ?_)
              · have h := (if_neg c_70).symm.trans h
                refine lv_iload hx hb d_K_SF_member_75 (lv_at hl 5 rfl) ?_
                refine lv_iload_n hx hb d_K_SF_member_77 rfl (lv_at hl 2 rfl) ?_
                refine lv_iload_n hx hb d_K_SF_member_78 rfl (lv_at hl 3 rfl) ?_
                refine sk_callSi (As := [.int v5, .int v2, .int v3]) (rest := []) ⟨hx, hb, hml, hown, hts⟩ hw hnw hok (c_K_SF_signature hok rfl) (cw_SF_109 hts hnw (by decide)) rfl hl.1 rfl (Nat.le_of_ble_eq_true rfl) d_K_SF_member_79 (fun H locs hw => ?_)
                refine lv_istore (lv' := [(6, .int (K_SF_signature v5 v2 v3)), (0, .ref (a 0)), (1, .int v1), (2, .int v2), (3, .int v3), (4, .int v4), (5, .int v5)]) hx hb d_K_SF_member_82 hl (by decide) rfl (fun ls hl => ?_)
                refine lv_aload_n hx hb d_K_SF_member_84 rfl (lv_at hl 1 rfl) ?_
                refine gf_SF_21 hx hb hts hnw hown hw d_K_SF_member_85 ?_
                refine lv_iload_n hx hb d_K_SF_member_88 rfl (lv_at hl 2 rfl) ?_
                refine lv_iload hx hb d_K_SF_member_89 (lv_at hl 0 rfl) ?_
                obtain ⟨x91, q_91, h⟩ := sk_oR_some h
                refine sk_callVi (As := [.int v1, .int (K_SF_signature v5 v2 v3)]) (rest := []) ⟨hx, hb, hml, hown, hts⟩ hw hnw hok (c_K_Members_at hok q_91) (cw_SF_113 hts hnw (by decide)) (rc_K2 hw) rfl hl.1 rfl (Nat.le_of_ble_eq_true rfl) d_K_SF_member_91 (fun H locs hw => ?_)
                refine lv_bipush (v := -2) hx hb d_K_SF_member_94 (by decide) ?_
                refine lv_icmp_eq (tgt := 101) hx hb d_K_SF_member_96 (by decide) (fun c_96 => ?_) (fun c_96 => ?_)
                · have h := (if_pos c_96).symm.trans h
                  refine lv_aload_n hx hb d_K_SF_member_101 rfl (lv_at hl 1 rfl) ?_
                  refine lv_iconst (v := 0) hx hb d_K_SF_member_102 (by decide) ?_
                  obtain ⟨st103, e_103, h⟩ := sk_fI_some h
                  refine pf_SF_95 hx hb hts hnw hown hw (by decide) e_103 d_K_SF_member_103 (fun H locs hw => ?_)
                  refine lv_aload_n hx hb d_K_SF_member_106 rfl (lv_at hl 1 rfl) ?_
                  refine gf_SF_21 hx hb hts hnw hown hw d_K_SF_member_107 ?_
                  refine lv_iload_n hx hb d_K_SF_member_110 rfl (lv_at hl 2 rfl) ?_
                  refine lv_iload hx hb d_K_SF_member_111 (lv_at hl 0 rfl) ?_
                  refine lv_iload hx hb d_K_SF_member_113 (lv_at hl 5 rfl) ?_
                  obtain ⟨x115, st115, q_115, h⟩ := sk_oW_some h
                  refine sk_callVi (As := [.int v1, .int (K_SF_signature v5 v2 v3), .int v4]) (rest := []) ⟨hx, hb, hml, hown, hts⟩ hw hnw hok (c_K_Members_add hok q_115) (cw_SF_117 hts hnw (by decide)) (rc_K2 hw) rfl hl.1 rfl (Nat.le_of_ble_eq_true rfl) d_K_SF_member_115 (fun H locs hw => ?_)
                  exact hret _ _ _ _ _ _ (sk_p1 h) (sk_p2 h) (vp_nar_int _) hw d_K_SF_member_118
                · have h := (if_neg c_96).symm.trans h
                  refine lv_iconst (v := -1) hx hb d_K_SF_member_99 (by decide) ?_
                  exact hret _ _ _ _ _ _ (sk_p1 h) (sk_p2 h) (vp_nar_int _) hw d_K_SF_member_100
              · have h := (if_pos c_70).symm.trans h
                refine lv_iconst (v := -1) hx hb d_K_SF_member_73 (by decide) ?_
                exact hret _ _ _ _ _ _ (sk_p1 h) (sk_p2 h) (vp_nar_int _) hw d_K_SF_member_74
          refine lv_if_eq (tgt := 54) hx hb d_K_SF_member_46 (by decide) (fun c_46 => ?_) (fun c_46 => ?_)
          · have h := (if_pos c_46).symm.trans h
            refine lv_bipush (v := 6) hx hb d_K_SF_member_54 (by decide) ?_
            exact hJ56 _ _ _ _ _ _ _ _ _ _ _ _ h hw (lv_sub hl [1, 2, 3, 4, 5, 0] rfl)
          · have h := (if_neg c_46).symm.trans h
            refine lv_bipush (v := 8) hx hb d_K_SF_member_49 (by decide) ?_
            refine lv_goto (tgt := 56) hx hb d_K_SF_member_51 (by decide) ?_
            exact hJ56 _ _ _ _ _ _ _ _ _ _ _ _ h hw (lv_sub hl [1, 2, 3, 4, 5, 0] rfl)
        refine lv_if_eq (tgt := 39) hx hb d_K_SF_member_32 (by decide) (fun c_32 => ?_) (fun c_32 => ?_)
        · have h := (if_pos c_32).symm.trans h
          refine lv_iconst (v := 0) hx hb d_K_SF_member_39 (by decide) ?_
          exact hJ40 _ _ _ _ _ _ _ _ _ h hw (lv_sub hl [0, 1, 2, 3, 4] rfl)
        · have h := (if_neg c_32).symm.trans h
          refine lv_iconst (v := 1) hx hb d_K_SF_member_35 (by decide) ?_
          refine lv_goto (tgt := 40) hx hb d_K_SF_member_36 (by decide) ?_
          exact hJ40 _ _ _ _ _ _ _ _ _ h hw (lv_sub hl [0, 1, 2, 3, 4] rfl)
      · have h := (if_pos c_23).symm.trans h
        refine lv_iconst (v := -1) hx hb d_K_SF_member_26 (by decide) ?_
        exact hret _ _ _ _ _ _ (sk_p1 h) (sk_p2 h) (vp_nar_int _) hw d_K_SF_member_27
set_option maxHeartbeats 4000000 in
set_option maxRecDepth 100000 in
theorem c_K_SF_remove {l : Launch} {D : va_G} {A : Nat → Prop} {a : Nat → Nat} {cI cJ cC : ClassId} {adK adV : Nat → Nat} {st : sk_M} {v1 : Int32} {res : Int32 × sk_M} (hok : sk_ok A (nwK A adK adV)) (h : K_SF_remove st v1 = some res) : sk_Ci l y_K_SF_remove w_K_SF_remove rm_K_SF_remove D (tyK cI cJ cC) A (ceK a cI cJ cC) (nwK A adK adV) [.ref (a 0), .int v1] st res.1 res.2 := by
  refine sk_headi .boolean (by decide) rfl (Nat.le_of_ble_eq_true rfl) ?_
  intro p e s m args below meth c Q hx hb hml hown hts0 hnw hret ls hl hw
  have hts : ∀ w ∈ TB, w.before args s = true := fun w h => hts0 w (List.mem_cons_of_mem _ h)
  have hown : s.vm.findClass R_SF = some m.cls := hown
  have hl : lv_has ls 2 [(0, .ref (a 0)), (1, .int v1)] := hl
  unfold K_SF_remove at h
  refine lv_iload_n hx hb d_K_SF_remove_0 rfl (lv_at hl 1 rfl) ?_
  refine lv_if_eq (tgt := 15) hx hb d_K_SF_remove_1 (by decide) (fun c_1 => ?_) (fun c_1 => ?_)
  · have h := (if_pos c_1).symm.trans h
    refine lv_iconst (v := 0) hx hb d_K_SF_remove_15 (by decide) ?_
    exact hret _ _ _ _ _ _ (sk_p1 h) (sk_p2 h) rfl hw d_K_SF_remove_16
  · have h := (if_neg c_1).symm.trans h
    refine lv_aload_n hx hb d_K_SF_remove_4 rfl (lv_at hl 0 rfl) ?_
    refine gf_SF_21 hx hb hts hnw hown hw d_K_SF_remove_5 ?_
    refine lv_iload_n hx hb d_K_SF_remove_8 rfl (lv_at hl 1 rfl) ?_
    refine sk_callVi (As := [.int v1]) (rest := []) ⟨hx, hb, hml, hown, hts⟩ hw hnw hok (c_K_Members_isAlive hok rfl) (cw_SF_121 hts hnw (by decide)) (rc_K2 hw) rfl hl.1 rfl (Nat.le_of_ble_eq_true rfl) d_K_SF_remove_9 (fun H locs hw => ?_)
    refine lv_if_ne (tgt := 17) hx hb d_K_SF_remove_12 (by decide) (fun c_12 => ?_) (fun c_12 => ?_)
    · have h := (if_neg c_12).symm.trans h
      refine lv_aload_n hx hb d_K_SF_remove_17 rfl (lv_at hl 0 rfl) ?_
      refine gf_SF_21 hx hb hts hnw hown hw d_K_SF_remove_18 ?_
      refine lv_iload_n hx hb d_K_SF_remove_21 rfl (lv_at hl 1 rfl) ?_
      obtain ⟨st22, q_22, h⟩ := sk_oR_some h
      refine sk_callVv (As := [.int v1]) (rest := []) ⟨hx, hb, hml, hown, hts⟩ hw hnw hok (c_K_Members_discard hok q_22) (cw_SF_124 hts hnw (by decide)) (rc_K2 hw) rfl hl.1 rfl (Nat.le_of_ble_eq_true rfl) d_K_SF_remove_22 (fun H locs hw => ?_)
      refine lv_aload_n hx hb d_K_SF_remove_25 rfl (lv_at hl 0 rfl) ?_
      refine lv_iconst (v := 0) hx hb d_K_SF_remove_26 (by decide) ?_
      obtain ⟨st27, e_27, h⟩ := sk_fI_some h
      refine pf_SF_95 hx hb hts hnw hown hw (by decide) e_27 d_K_SF_remove_27 (fun H locs hw => ?_)
      refine lv_iconst (v := 1) hx hb d_K_SF_remove_30 (by decide) ?_
      exact hret _ _ _ _ _ _ (sk_p1 h) (sk_p2 h) rfl hw d_K_SF_remove_31
    · have h := (if_pos c_12).symm.trans h
      refine lv_iconst (v := 0) hx hb d_K_SF_remove_15 (by decide) ?_
      exact hret _ _ _ _ _ _ (sk_p1 h) (sk_p2 h) rfl hw d_K_SF_remove_16
set_option maxHeartbeats 4000000 in
set_option maxRecDepth 100000 in
theorem c_K_SF_isWanted {l : Launch} {D : va_G} {A : Nat → Prop} {a : Nat → Nat} {cI cJ cC : ClassId} {adK adV : Nat → Nat} {st : sk_M} {v0 : Int32} {v1 : Int32} {v2 : Int32} {res : Int32} (hok : sk_ok A (nwK A adK adV)) (h : K_SF_isWanted v0 v1 v2 = res) : sk_Ci l y_K_SF_isWanted w_K_SF_isWanted rm_K_SF_isWanted D (tyK cI cJ cC) A (ceK a cI cJ cC) (nwK A adK adV) [.int v0, .int v1, .int v2] st res st := by
  refine sk_headi .boolean (by decide) rfl (Nat.le_of_ble_eq_true rfl) ?_
  intro p e s m args below meth c Q hx hb hml hown hts0 hnw hret ls hl hw
  have hts : ∀ w ∈ TB, w.before args s = true := fun w h => hts0 w (List.mem_cons_of_mem _ h)
  have hown : s.vm.findClass R_SF = some m.cls := hown
  have hl : lv_has ls 3 [(0, .int v0), (1, .int v1), (2, .int v2)] := hl
  unfold K_SF_isWanted at h
  refine lv_iload_n hx hb d_K_SF_isWanted_0 rfl (lv_at hl 0 rfl) ?_
  refine lv_iconst (v := 0) hx hb d_K_SF_isWanted_1 (by decide) ?_
  refine lv_bipush (v := 9) hx hb d_K_SF_isWanted_2 (by decide) ?_
  refine sk_callSi (As := [.int v0, .int (0 : Int32), .int (9 : Int32)]) (rest := []) ⟨hx, hb, hml, hown, hts⟩ hw hnw hok (c_K_SF_within hok rfl) (cw_SF_87 hts hnw (by decide)) rfl hl.1 rfl (Nat.le_of_ble_eq_true rfl) d_K_SF_isWanted_4 (fun H locs hw => ?_)
  refine lv_if_eq (tgt := 33) hx hb d_K_SF_isWanted_7 (by decide) (fun c_7 => ?_) (fun c_7 => ?_)
  · have h := (if_pos c_7).symm.trans h
    refine lv_iconst (v := 0) hx hb d_K_SF_isWanted_33 (by decide) ?_
    exact hret _ _ _ _ _ _ h rfl rfl hw d_K_SF_isWanted_34
  · have h := (if_neg c_7).symm.trans h
    refine lv_iload_n hx hb d_K_SF_isWanted_10 rfl (lv_at hl 1 rfl) ?_
    refine lv_iconst (v := 0) hx hb d_K_SF_isWanted_11 (by decide) ?_
    refine lv_bipush (v := 7) hx hb d_K_SF_isWanted_12 (by decide) ?_
    refine sk_callSi (As := [.int v1, .int (0 : Int32), .int (7 : Int32)]) (rest := []) ⟨hx, hb, hml, hown, hts⟩ hw hnw hok (c_K_SF_within hok rfl) (cw_SF_87 hts hnw (by decide)) rfl hl.1 rfl (Nat.le_of_ble_eq_true rfl) d_K_SF_isWanted_14 (fun H locs hw => ?_)
    refine lv_if_eq (tgt := 33) hx hb d_K_SF_isWanted_17 (by decide) (fun c_17 => ?_) (fun c_17 => ?_)
    · have h := (if_pos c_17).symm.trans h
      refine lv_iconst (v := 0) hx hb d_K_SF_isWanted_33 (by decide) ?_
      exact hret _ _ _ _ _ _ h rfl rfl hw d_K_SF_isWanted_34
    · have h := (if_neg c_17).symm.trans h
      refine lv_iload_n hx hb d_K_SF_isWanted_20 rfl (lv_at hl 2 rfl) ?_
      refine lv_iconst (v := 0) hx hb d_K_SF_isWanted_21 (by decide) ?_
      refine lv_iconst (v := 1) hx hb d_K_SF_isWanted_22 (by decide) ?_
      refine sk_callSi (As := [.int v2, .int (0 : Int32), .int (1 : Int32)]) (rest := []) ⟨hx, hb, hml, hown, hts⟩ hw hnw hok (c_K_SF_within hok rfl) (cw_SF_87 hts hnw (by decide)) rfl hl.1 rfl (Nat.le_of_ble_eq_true rfl) d_K_SF_isWanted_23 (fun H locs hw => ?_)
      refine lv_if_eq (tgt := 33) hx hb d_K_SF_isWanted_26 (by decide) (fun c_26 => ?_) (fun c_26 => ?_)
      · have h := (if_pos c_26).symm.trans h
        refine lv_iconst (v := 0) hx hb d_K_SF_isWanted_33 (by decide) ?_
        exact hret _ _ _ _ _ _ h rfl rfl hw d_K_SF_isWanted_34
      · have h := (if_neg c_26).symm.trans h
        refine lv_iconst (v := 1) hx hb d_K_SF_isWanted_29 (by decide) ?_
        refine lv_goto (tgt := 34) hx hb d_K_SF_isWanted_30 (by decide) ?_
        exact hret _ _ _ _ _ _ h rfl rfl hw d_K_SF_isWanted_34
set_option maxHeartbeats 4000000 in
set_option maxRecDepth 100000 in
theorem c_K_SF_refer {l : Launch} {D : va_G} {A : Nat → Prop} {a : Nat → Nat} {cI cJ cC : ClassId} {adK adV : Nat → Nat} {st : sk_M} {v1 : Int32} {v2 : Int32} {v3 : Int32} {v4 : Int32} {v5 : Int32} {res : Int32 × sk_M} (hok : sk_ok A (nwK A adK adV)) (h : K_SF_refer st v1 v2 v3 v4 v5 = some res) : sk_Ci l y_K_SF_refer w_K_SF_refer rm_K_SF_refer D (tyK cI cJ cC) A (ceK a cI cJ cC) (nwK A adK adV) [.ref (a 0), .int v1, .int v2, .int v3, .int v4, .int v5] st res.1 res.2 := by
  refine sk_headi .int (by decide) rfl (Nat.le_of_ble_eq_true rfl) ?_
  intro p e s m args below meth c Q hx hb hml hown hts0 hnw hret ls hl hw
  have hts : ∀ w ∈ TB, w.before args s = true := fun w h => hts0 w (List.mem_cons_of_mem _ h)
  have hown : s.vm.findClass R_SF = some m.cls := hown
  have hl : lv_has ls 6 [(0, .ref (a 0)), (1, .int v1), (2, .int v2), (3, .int v3), (4, .int v4), (5, .int v5)] := hl
  unfold K_SF_refer at h
  refine lv_iload_n hx hb d_K_SF_refer_0 rfl (lv_at hl 1 rfl) ?_
  refine lv_if_eq (tgt := 27) hx hb d_K_SF_refer_1 (by decide) (fun c_1 => ?_) (fun c_1 => ?_)
  · have h := (if_pos c_1).symm.trans h
    refine lv_iconst (v := -1) hx hb d_K_SF_refer_27 (by decide) ?_
    exact hret _ _ _ _ _ _ (sk_p1 h) (sk_p2 h) (vp_nar_int _) hw d_K_SF_refer_28
  · have h := (if_neg c_1).symm.trans h
    refine lv_aload_n hx hb d_K_SF_refer_4 rfl (lv_at hl 0 rfl) ?_
    refine gf_SF_21 hx hb hts hnw hown hw d_K_SF_refer_5 ?_
    refine lv_iload_n hx hb d_K_SF_refer_8 rfl (lv_at hl 1 rfl) ?_
    refine sk_callVi (As := [.int v1]) (rest := []) ⟨hx, hb, hml, hown, hts⟩ hw hnw hok (c_K_Members_isAlive hok rfl) (cw_SF_121 hts hnw (by decide)) (rc_K2 hw) rfl hl.1 rfl (Nat.le_of_ble_eq_true rfl) d_K_SF_refer_9 (fun H locs hw => ?_)
    refine lv_if_eq (tgt := 27) hx hb d_K_SF_refer_12 (by decide) (fun c_12 => ?_) (fun c_12 => ?_)
    · have h := (if_pos c_12).symm.trans h
      refine lv_iconst (v := -1) hx hb d_K_SF_refer_27 (by decide) ?_
      exact hret _ _ _ _ _ _ (sk_p1 h) (sk_p2 h) (vp_nar_int _) hw d_K_SF_refer_28
    · have h := (if_neg c_12).symm.trans h
      refine lv_aload_n hx hb d_K_SF_refer_15 rfl (lv_at hl 0 rfl) ?_
      refine gf_SF_21 hx hb hts hnw hown hw d_K_SF_refer_16 ?_
      refine lv_iload_n hx hb d_K_SF_refer_19 rfl (lv_at hl 1 rfl) ?_
      refine lv_iconst (v := 1) hx hb d_K_SF_refer_20 (by decide) ?_
      obtain ⟨x21, q_21, h⟩ := sk_oR_some h
      refine sk_callVi (As := [.int v1, .int (1 : Int32)]) (rest := []) ⟨hx, hb, hml, hown, hts⟩ hw hnw hok (c_K_Members_hasFlag hok q_21) (cw_SF_127 hts hnw (by decide)) (rc_K2 hw) rfl hl.1 rfl (Nat.le_of_ble_eq_true rfl) d_K_SF_refer_21 (fun H locs hw => ?_)
      refine lv_if_ne (tgt := 29) hx hb d_K_SF_refer_24 (by decide) (fun c_24 => ?_) (fun c_24 => ?_)
      · have h := (if_neg c_24).symm.trans h
        refine lv_iload_n hx hb d_K_SF_refer_29 rfl (lv_at hl 2 rfl) ?_
        refine lv_iconst (v := 0) hx hb d_K_SF_refer_30 (by decide) ?_
        refine lv_iconst (v := 5) hx hb d_K_SF_refer_31 (by decide) ?_
        refine sk_callSi (As := [.int v2, .int (0 : Int32), .int (5 : Int32)]) (rest := []) ⟨hx, hb, hml, hown, hts⟩ hw hnw hok (c_K_SF_within hok rfl) (cw_SF_87 hts hnw (by decide)) rfl hl.1 rfl (Nat.le_of_ble_eq_true rfl) d_K_SF_refer_32 (fun H locs hw => ?_)
        refine lv_if_eq (tgt := 49) hx hb d_K_SF_refer_35 (by decide) (fun c_35 => ?_) (fun c_35 => ?_)
        · have h := (if_pos c_35).symm.trans h
          refine lv_iconst (v := -1) hx hb d_K_SF_refer_49 (by decide) ?_
          exact hret _ _ _ _ _ _ (sk_p1 h) (sk_p2 h) (vp_nar_int _) hw d_K_SF_refer_50
        · have h := (if_neg c_35).symm.trans h
          refine lv_iload_n hx hb d_K_SF_refer_38 rfl (lv_at hl 3 rfl) ?_
          refine lv_iload hx hb d_K_SF_refer_39 (lv_at hl 4 rfl) ?_
          refine lv_iload hx hb d_K_SF_refer_41 (lv_at hl 5 rfl) ?_
          refine sk_callSi (As := [.int v3, .int v4, .int v5]) (rest := []) ⟨hx, hb, hml, hown, hts⟩ hw hnw hok (c_K_SF_isWanted hok rfl) (cw_SF_131 hts hnw (by decide)) rfl hl.1 rfl (Nat.le_of_ble_eq_true rfl) d_K_SF_refer_43 (fun H locs hw => ?_)
          refine lv_if_ne (tgt := 51) hx hb d_K_SF_refer_46 (by decide) (fun c_46 => ?_) (fun c_46 => ?_)
          · have h := (if_neg c_46).symm.trans h
            refine lv_aload_n hx hb d_K_SF_refer_51 rfl (lv_at hl 0 rfl) ?_
            refine lv_iconst (v := 0) hx hb d_K_SF_refer_52 (by decide) ?_
            obtain ⟨st53, e_53, h⟩ := sk_fI_some h
            refine pf_SF_95 hx hb hts hnw hown hw (by decide) e_53 d_K_SF_refer_53 (fun H locs hw => ?_)
            refine lv_aload_n hx hb d_K_SF_refer_56 rfl (lv_at hl 0 rfl) ?_
            refine gf_SF_28 hx hb hts hnw hown hw d_K_SF_refer_57 ?_
            refine lv_iload_n hx hb d_K_SF_refer_60 rfl (lv_at hl 1 rfl) ?_
            refine lv_iload_n hx hb d_K_SF_refer_61 rfl (lv_at hl 2 rfl) ?_
            refine lv_iload_n hx hb d_K_SF_refer_62 rfl (lv_at hl 3 rfl) ?_
            refine lv_iload_n hx hb d_K_SF_refer_63 rfl (lv_at hl 2 rfl) ?_
            refine lv_iconst (v := 2) hx hb d_K_SF_refer_64 (by decide) ?_
            have hJ73 : ∀ (st : sk_M) (v4 : Int32) (v5 : Int32) (s1 : Int32) (s2 : Int32) (s3 : Int32) (s4 : Int32) (H : Heap) (locs : List Loc) (ls : Array Slot), K_SF_refer_J73 st v4 v5 s1 s2 s3 s4 = some res → sk_w D (tyK cI cJ cC) A (ceK a cI cJ cC) s st H locs → lv_has ls 6 [(4, .int v4), (5, .int v5)] → W p l e rm_K_SF_refer s m args below meth c H locs 0 0 Q (F0 m 73 ls [.int s4, .int s3, .int s2, .int s1, .ref (a 3)]) := by
              intro st v4 v5 s1 s2 s3 s4 H locs ls h hw hl
              unfold K_SF_refer_J73 at h
              refine lv_iload hx hb d_K_SF_refer_73 (lv_at hl 0 rfl) ?_
              refine lv_iload hx hb d_K_SF_refer_75 (lv_at hl 1 rfl) ?_
              refine sk_callSi (As := [.int s4, .int v4, .int v5]) (rest := [.int s3, .int s2, .int s1, .ref (a 3)]) ⟨hx, hb, hml, hown, hts⟩ hw hnw hok (c_K_SF_signature hok rfl) (cw_SF_109 hts hnw (by decide)) rfl hl.1 rfl (Nat.le_of_ble_eq_true rfl) d_K_SF_refer_77 (fun H locs hw => ?_)
              obtain ⟨x80, st80, q_80, h⟩ := sk_oW_some h
              refine sk_callVi (As := [.int s1, .int s2, .int s3, .int (K_SF_signature s4 v4 v5)]) (rest := []) ⟨hx, hb, hml, hown, hts⟩ hw hnw hok (c_K_References_add hok q_80) (cw_SF_134 hts hnw (by decide)) (rc_K3 hw) rfl hl.1 rfl (Nat.le_of_ble_eq_true rfl) d_K_SF_refer_80 (fun H locs hw => ?_)
              exact hret _ _ _ _ _ _ (sk_p1 h) (sk_p2 h) (vp_nar_int _) hw d_K_SF_refer_83
            refine lv_icmp_eq (tgt := 72) hx hb d_K_SF_refer_65 (by decide) (fun c_65 => ?_) (fun c_65 => ?_)
            · have h := (if_pos c_65).symm.trans h
              refine lv_iconst (v := 0) hx hb d_K_SF_refer_72 (by decide) ?_
              exact hJ73 _ _ _ _ _ _ _ _ _ _ h hw (lv_sub hl [4, 5] rfl)
            · have h := (if_neg c_65).symm.trans h
              refine lv_iconst (v := 1) hx hb d_K_SF_refer_68 (by decide) ?_
              refine lv_goto (tgt := 73) hx hb d_K_SF_refer_69 (by decide) ?_
              exact hJ73 _ _ _ _ _ _ _ _ _ _ h hw (lv_sub hl [4, 5] rfl)
          · have h := (if_pos c_46).symm.trans h
            refine lv_iconst (v := -1) hx hb d_K_SF_refer_49 (by decide) ?_
            exact hret _ _ _ _ _ _ (sk_p1 h) (sk_p2 h) (vp_nar_int _) hw d_K_SF_refer_50
      · have h := (if_pos c_24).symm.trans h
        refine lv_iconst (v := -1) hx hb d_K_SF_refer_27 (by decide) ?_
        exact hret _ _ _ _ _ _ (sk_p1 h) (sk_p2 h) (vp_nar_int _) hw d_K_SF_refer_28
