set_option maxHeartbeats 4000000 in
set_option maxRecDepth 100000 in
theorem c_J_bitCount {l : Launch} {D : va_G} {A : Nat → Prop} {a : Nat → Nat} {cI cJ cC : ClassId} {adK adV : Nat → Nat} {st : sk_M} {v0 : Int64} {res : Int32} (hok : sk_ok A (nwK A adK adV)) (h : J_bitCount v0 = res) : sk_Ci l y_J_bitCount w_J_bitCount rm_J_bitCount D (tyK cI cJ cC) A (ceK a cI cJ cC) (nwK A adK adV) [.long v0] st res st := by
  refine sk_headi .int (by decide) rfl (Nat.le_of_ble_eq_true rfl) ?_
  intro p e s m args below meth c Q hx hb hml hown hts0 hnw hret ls hl hw
  have hts : ∀ w ∈ TB, w.before args s = true := fun w h => hts0 w (List.mem_cons_of_mem _ h)
  have hown : s.vm.findClass R_Long = some m.cls := hown
  have hl : lv_has ls 2 [(0, .long v0)] := hl
  unfold J_bitCount at h
  refine lv_lload_n hx hb d_J_bitCount_0 rfl (lv_at hl 0 rfl) ?_
  refine lv_lload_n hx hb d_J_bitCount_1 rfl (lv_at hl 0 rfl) ?_
  refine lv_iconst (v := 1) hx hb d_J_bitCount_2 (by decide) ?_
  refine lv_lushr hx hb d_J_bitCount_3 rfl ?_
  refine lv_ldc2 (v := 6148914691236517205) hx hb hown (hts _ kl_Long_314) d_J_bitCount_4 ?_
  refine lv_land hx hb d_J_bitCount_7 ?_
  refine lv_lsub hx hb d_J_bitCount_8 ?_
  refine lv_lstore_n (lv' := [(0, .long (v0 - ((v0.toUInt64 >>> ((1 : Int32).toInt64.toUInt64 &&& Int64.toUInt64 63)).toInt64 &&& (6148914691236517205 : Int64))))]) hx hb d_J_bitCount_9 rfl hl (by decide) rfl (fun ls hl => ?_)
  refine lv_lload_n hx hb d_J_bitCount_10 rfl (lv_at hl 0 rfl) ?_
  refine lv_ldc2 (v := 3689348814741910323) hx hb hown (hts _ kl_Long_316) d_J_bitCount_11 ?_
  refine lv_land hx hb d_J_bitCount_14 ?_
  refine lv_lload_n hx hb d_J_bitCount_15 rfl (lv_at hl 0 rfl) ?_
  refine lv_iconst (v := 2) hx hb d_J_bitCount_16 (by decide) ?_
  refine lv_lushr hx hb d_J_bitCount_17 rfl ?_
  refine lv_ldc2 (v := 3689348814741910323) hx hb hown (hts _ kl_Long_316) d_J_bitCount_18 ?_
  refine lv_land hx hb d_J_bitCount_21 ?_
  refine lv_ladd hx hb d_J_bitCount_22 ?_
  refine lv_lstore_n (lv' := [(0, .long (((v0 - ((v0.toUInt64 >>> ((1 : Int32).toInt64.toUInt64 &&& Int64.toUInt64 63)).toInt64 &&& (6148914691236517205 : Int64))) &&& (3689348814741910323 : Int64)) + (((v0 - ((v0.toUInt64 >>> ((1 : Int32).toInt64.toUInt64 &&& Int64.toUInt64 63)).toInt64 &&& (6148914691236517205 : Int64))).toUInt64 >>> ((2 : Int32).toInt64.toUInt64 &&& Int64.toUInt64 63)).toInt64 &&& (3689348814741910323 : Int64))))]) hx hb d_J_bitCount_23 rfl hl (by decide) rfl (fun ls hl => ?_)
  refine lv_lload_n hx hb d_J_bitCount_24 rfl (lv_at hl 0 rfl) ?_
  refine lv_lload_n hx hb d_J_bitCount_25 rfl (lv_at hl 0 rfl) ?_
  refine lv_iconst (v := 4) hx hb d_J_bitCount_26 (by decide) ?_
  refine lv_lushr hx hb d_J_bitCount_27 rfl ?_
  refine lv_ladd hx hb d_J_bitCount_28 ?_
  refine lv_ldc2 (v := 1085102592571150095) hx hb hown (hts _ kl_Long_318) d_J_bitCount_29 ?_
  refine lv_land hx hb d_J_bitCount_32 ?_
  refine lv_lstore_n (lv' := [(0, .long (((((v0 - ((v0.toUInt64 >>> ((1 : Int32).toInt64.toUInt64 &&& Int64.toUInt64 63)).toInt64 &&& (6148914691236517205 : Int64))) &&& (3689348814741910323 : Int64)) + (((v0 - ((v0.toUInt64 >>> ((1 : Int32).toInt64.toUInt64 &&& Int64.toUInt64 63)).toInt64 &&& (6148914691236517205 : Int64))).toUInt64 >>> ((2 : Int32).toInt64.toUInt64 &&& Int64.toUInt64 63)).toInt64 &&& (3689348814741910323 : Int64))) + ((((v0 - ((v0.toUInt64 >>> ((1 : Int32).toInt64.toUInt64 &&& Int64.toUInt64 63)).toInt64 &&& (6148914691236517205 : Int64))) &&& (3689348814741910323 : Int64)) + (((v0 - ((v0.toUInt64 >>> ((1 : Int32).toInt64.toUInt64 &&& Int64.toUInt64 63)).toInt64 &&& (6148914691236517205 : Int64))).toUInt64 >>> ((2 : Int32).toInt64.toUInt64 &&& Int64.toUInt64 63)).toInt64 &&& (3689348814741910323 : Int64))).toUInt64 >>> ((4 : Int32).toInt64.toUInt64 &&& Int64.toUInt64 63)).toInt64) &&& (1085102592571150095 : Int64)))]) hx hb d_J_bitCount_33 rfl hl (by decide) rfl (fun ls hl => ?_)
  refine lv_lload_n hx hb d_J_bitCount_34 rfl (lv_at hl 0 rfl) ?_
  refine lv_lload_n hx hb d_J_bitCount_35 rfl (lv_at hl 0 rfl) ?_
  refine lv_bipush (v := 8) hx hb d_J_bitCount_36 (by decide) ?_
  refine lv_lushr hx hb d_J_bitCount_38 rfl ?_
  refine lv_ladd hx hb d_J_bitCount_39 ?_
  refine lv_lstore_n (lv' := [(0, .long ((((((v0 - ((v0.toUInt64 >>> ((1 : Int32).toInt64.toUInt64 &&& Int64.toUInt64 63)).toInt64 &&& (6148914691236517205 : Int64))) &&& (3689348814741910323 : Int64)) + (((v0 - ((v0.toUInt64 >>> ((1 : Int32).toInt64.toUInt64 &&& Int64.toUInt64 63)).toInt64 &&& (6148914691236517205 : Int64))).toUInt64 >>> ((2 : Int32).toInt64.toUInt64 &&& Int64.toUInt64 63)).toInt64 &&& (3689348814741910323 : Int64))) + ((((v0 - ((v0.toUInt64 >>> ((1 : Int32).toInt64.toUInt64 &&& Int64.toUInt64 63)).toInt64 &&& (6148914691236517205 : Int64))) &&& (3689348814741910323 : Int64)) + (((v0 - ((v0.toUInt64 >>> ((1 : Int32).toInt64.toUInt64 &&& Int64.toUInt64 63)).toInt64 &&& (6148914691236517205 : Int64))).toUInt64 >>> ((2 : Int32).toInt64.toUInt64 &&& Int64.toUInt64 63)).toInt64 &&& (3689348814741910323 : Int64))).toUInt64 >>> ((4 : Int32).toInt64.toUInt64 &&& Int64.toUInt64 63)).toInt64) &&& (1085102592571150095 : Int64)) + ((((((v0 - ((v0.toUInt64 >>> ((1 : Int32).toInt64.toUInt64 &&& Int64.toUInt64 63)).toInt64 &&& (6148914691236517205 : Int64))) &&& (3689348814741910323 : Int64)) + (((v0 - ((v0.toUInt64 >>> ((1 : Int32).toInt64.toUInt64 &&& Int64.toUInt64 63)).toInt64 &&& (6148914691236517205 : Int64))).toUInt64 >>> ((2 : Int32).toInt64.toUInt64 &&& Int64.toUInt64 63)).toInt64 &&& (3689348814741910323 : Int64))) + ((((v0 - ((v0.toUInt64 >>> ((1 : Int32).toInt64.toUInt64 &&& Int64.toUInt64 63)).toInt64 &&& (6148914691236517205 : Int64))) &&& (3689348814741910323 : Int64)) + (((v0 - ((v0.toUInt64 >>> ((1 : Int32).toInt64.toUInt64 &&& Int64.toUInt64 63)).toInt64 &&& (6148914691236517205 : Int64))).toUInt64 >>> ((2 : Int32).toInt64.toUInt64 &&& Int64.toUInt64 63)).toInt64 &&& (3689348814741910323 : Int64))).toUInt64 >>> ((4 : Int32).toInt64.toUInt64 &&& Int64.toUInt64 63)).toInt64) &&& (1085102592571150095 : Int64)).toUInt64 >>> ((8 : Int32).toInt64.toUInt64 &&& Int64.toUInt64 63)).toInt64))]) hx hb d_J_bitCount_40 rfl hl (by decide) rfl (fun ls hl => ?_)
  refine lv_lload_n hx hb d_J_bitCount_41 rfl (lv_at hl 0 rfl) ?_
  refine lv_lload_n hx hb d_J_bitCount_42 rfl (lv_at hl 0 rfl) ?_
  refine lv_bipush (v := 16) hx hb d_J_bitCount_43 (by decide) ?_
  refine lv_lushr hx hb d_J_bitCount_45 rfl ?_
  refine lv_ladd hx hb d_J_bitCount_46 ?_
  refine lv_lstore_n (lv' := [(0, .long (((((((v0 - ((v0.toUInt64 >>> ((1 : Int32).toInt64.toUInt64 &&& Int64.toUInt64 63)).toInt64 &&& (6148914691236517205 : Int64))) &&& (3689348814741910323 : Int64)) + (((v0 - ((v0.toUInt64 >>> ((1 : Int32).toInt64.toUInt64 &&& Int64.toUInt64 63)).toInt64 &&& (6148914691236517205 : Int64))).toUInt64 >>> ((2 : Int32).toInt64.toUInt64 &&& Int64.toUInt64 63)).toInt64 &&& (3689348814741910323 : Int64))) + ((((v0 - ((v0.toUInt64 >>> ((1 : Int32).toInt64.toUInt64 &&& Int64.toUInt64 63)).toInt64 &&& (6148914691236517205 : Int64))) &&& (3689348814741910323 : Int64)) + (((v0 - ((v0.toUInt64 >>> ((1 : Int32).toInt64.toUInt64 &&& Int64.toUInt64 63)).toInt64 &&& (6148914691236517205 : Int64))).toUInt64 >>> ((2 : Int32).toInt64.toUInt64 &&& Int64.toUInt64 63)).toInt64 &&& (3689348814741910323 : Int64))).toUInt64 >>> ((4 : Int32).toInt64.toUInt64 &&& Int64.toUInt64 63)).toInt64) &&& (1085102592571150095 : Int64)) + ((((((v0 - ((v0.toUInt64 >>> ((1 : Int32).toInt64.toUInt64 &&& Int64.toUInt64 63)).toInt64 &&& (6148914691236517205 : Int64))) &&& (3689348814741910323 : Int64)) + (((v0 - ((v0.toUInt64 >>> ((1 : Int32).toInt64.toUInt64 &&& Int64.toUInt64 63)).toInt64 &&& (6148914691236517205 : Int64))).toUInt64 >>> ((2 : Int32).toInt64.toUInt64 &&& Int64.toUInt64 63)).toInt64 &&& (3689348814741910323 : Int64))) + ((((v0 - ((v0.toUInt64 >>> ((1 : Int32).toInt64.toUInt64 &&& Int64.toUInt64 63)).toInt64 &&& (6148914691236517205 : Int64))) &&& (3689348814741910323 : Int64)) + (((v0 - ((v0.toUInt64 >>> ((1 : Int32).toInt64.toUInt64 &&& Int64.toUInt64 63)).toInt64 &&& (6148914691236517205 : Int64))).toUInt64 >>> ((2 : Int32).toInt64.toUInt64 &&& Int64.toUInt64 63)).toInt64 &&& (3689348814741910323 : Int64))).toUInt64 >>> ((4 : Int32).toInt64.toUInt64 &&& Int64.toUInt64 63)).toInt64) &&& (1085102592571150095 : Int64)).toUInt64 >>> ((8 : Int32).toInt64.toUInt64 &&& Int64.toUInt64 63)).toInt64) + (((((((v0 - ((v0.toUInt64 >>> ((1 : Int32).toInt64.toUInt64 &&& Int64.toUInt64 63)).toInt64 &&& (6148914691236517205 : Int64))) &&& (3689348814741910323 : Int64)) + (((v0 - ((v0.toUInt64 >>> ((1 : Int32).toInt64.toUInt64 &&& Int64.toUInt64 63)).toInt64 &&& (6148914691236517205 : Int64))).toUInt64 >>> ((2 : Int32).toInt64.toUInt64 &&& Int64.toUInt64 63)).toInt64 &&& (3689348814741910323 : Int64))) + ((((v0 - ((v0.toUInt64 >>> ((1 : Int32).toInt64.toUInt64 &&& Int64.toUInt64 63)).toInt64 &&& (6148914691236517205 : Int64))) &&& (3689348814741910323 : Int64)) + (((v0 - ((v0.toUInt64 >>> ((1 : Int32).toInt64.toUInt64 &&& Int64.toUInt64 63)).toInt64 &&& (6148914691236517205 : Int64))).toUInt64 >>> ((2 : Int32).toInt64.toUInt64 &&& Int64.toUInt64 63)).toInt64 &&& (3689348814741910323 : Int64))).toUInt64 >>> ((4 : Int32).toInt64.toUInt64 &&& Int64.toUInt64 63)).toInt64) &&& (1085102592571150095 : Int64)) + ((((((v0 - ((v0.toUInt64 >>> ((1 : Int32).toInt64.toUInt64 &&& Int64.toUInt64 63)).toInt64 &&& (6148914691236517205 : Int64))) &&& (3689348814741910323 : Int64)) + (((v0 - ((v0.toUInt64 >>> ((1 : Int32).toInt64.toUInt64 &&& Int64.toUInt64 63)).toInt64 &&& (6148914691236517205 : Int64))).toUInt64 >>> ((2 : Int32).toInt64.toUInt64 &&& Int64.toUInt64 63)).toInt64 &&& (3689348814741910323 : Int64))) + ((((v0 - ((v0.toUInt64 >>> ((1 : Int32).toInt64.toUInt64 &&& Int64.toUInt64 63)).toInt64 &&& (6148914691236517205 : Int64))) &&& (3689348814741910323 : Int64)) + (((v0 - ((v0.toUInt64 >>> ((1 : Int32).toInt64.toUInt64 &&& Int64.toUInt64 63)).toInt64 &&& (6148914691236517205 : Int64))).toUInt64 >>> ((2 : Int32).toInt64.toUInt64 &&& Int64.toUInt64 63)).toInt64 &&& (3689348814741910323 : Int64))).toUInt64 >>> ((4 : Int32).toInt64.toUInt64 &&& Int64.toUInt64 63)).toInt64) &&& (1085102592571150095 : Int64)).toUInt64 >>> ((8 : Int32).toInt64.toUInt64 &&& Int64.toUInt64 63)).toInt64).toUInt64 >>> ((16 : Int32).toInt64.toUInt64 &&& Int64.toUInt64 63)).toInt64))]) hx hb d_J_bitCount_47 rfl hl (by decide) rfl (fun ls hl => ?_)
  refine lv_lload_n hx hb d_J_bitCount_48 rfl (lv_at hl 0 rfl) ?_
  refine lv_lload_n hx hb d_J_bitCount_49 rfl (lv_at hl 0 rfl) ?_
  refine lv_bipush (v := 32) hx hb d_J_bitCount_50 (by decide) ?_
  refine lv_lushr hx hb d_J_bitCount_52 rfl ?_
  refine lv_ladd hx hb d_J_bitCount_53 ?_
  refine lv_lstore_n (lv' := [(0, .long ((((((((v0 - ((v0.toUInt64 >>> ((1 : Int32).toInt64.toUInt64 &&& Int64.toUInt64 63)).toInt64 &&& (6148914691236517205 : Int64))) &&& (3689348814741910323 : Int64)) + (((v0 - ((v0.toUInt64 >>> ((1 : Int32).toInt64.toUInt64 &&& Int64.toUInt64 63)).toInt64 &&& (6148914691236517205 : Int64))).toUInt64 >>> ((2 : Int32).toInt64.toUInt64 &&& Int64.toUInt64 63)).toInt64 &&& (3689348814741910323 : Int64))) + ((((v0 - ((v0.toUInt64 >>> ((1 : Int32).toInt64.toUInt64 &&& Int64.toUInt64 63)).toInt64 &&& (6148914691236517205 : Int64))) &&& (3689348814741910323 : Int64)) + (((v0 - ((v0.toUInt64 >>> ((1 : Int32).toInt64.toUInt64 &&& Int64.toUInt64 63)).toInt64 &&& (6148914691236517205 : Int64))).toUInt64 >>> ((2 : Int32).toInt64.toUInt64 &&& Int64.toUInt64 63)).toInt64 &&& (3689348814741910323 : Int64))).toUInt64 >>> ((4 : Int32).toInt64.toUInt64 &&& Int64.toUInt64 63)).toInt64) &&& (1085102592571150095 : Int64)) + ((((((v0 - ((v0.toUInt64 >>> ((1 : Int32).toInt64.toUInt64 &&& Int64.toUInt64 63)).toInt64 &&& (6148914691236517205 : Int64))) &&& (3689348814741910323 : Int64)) + (((v0 - ((v0.toUInt64 >>> ((1 : Int32).toInt64.toUInt64 &&& Int64.toUInt64 63)).toInt64 &&& (6148914691236517205 : Int64))).toUInt64 >>> ((2 : Int32).toInt64.toUInt64 &&& Int64.toUInt64 63)).toInt64 &&& (3689348814741910323 : Int64))) + ((((v0 - ((v0.toUInt64 >>> ((1 : Int32).toInt64.toUInt64 &&& Int64.toUInt64 63)).toInt64 &&& (6148914691236517205 : Int64))) &&& (3689348814741910323 : Int64)) + (((v0 - ((v0.toUInt64 >>> ((1 : Int32).toInt64.toUInt64 &&& Int64.toUInt64 63)).toInt64 &&& (6148914691236517205 : Int64))).toUInt64 >>> ((2 : Int32).toInt64.toUInt64 &&& Int64.toUInt64 63)).toInt64 &&& (3689348814741910323 : Int64))).toUInt64 >>> ((4 : Int32).toInt64.toUInt64 &&& Int64.toUInt64 63)).toInt64) &&& (1085102592571150095 : Int64)).toUInt64 >>> ((8 : Int32).toInt64.toUInt64 &&& Int64.toUInt64 63)).toInt64) + (((((((v0 - ((v0.toUInt64 >>> ((1 : Int32).toInt64.toUInt64 &&& Int64.toUInt64 63)).toInt64 &&& (6148914691236517205 : Int64))) &&& (3689348814741910323 : Int64)) + (((v0 - ((v0.toUInt64 >>> ((1 : Int32).toInt64.toUInt64 &&& Int64.toUInt64 63)).toInt64 &&& (6148914691236517205 : Int64))).toUInt64 >>> ((2 : Int32).toInt64.toUInt64 &&& Int64.toUInt64 63)).toInt64 &&& (3689348814741910323 : Int64))) + ((((v0 - ((v0.toUInt64 >>> ((1 : Int32).toInt64.toUInt64 &&& Int64.toUInt64 63)).toInt64 &&& (6148914691236517205 : Int64))) &&& (3689348814741910323 : Int64)) + (((v0 - ((v0.toUInt64 >>> ((1 : Int32).toInt64.toUInt64 &&& Int64.toUInt64 63)).toInt64 &&& (6148914691236517205 : Int64))).toUInt64 >>> ((2 : Int32).toInt64.toUInt64 &&& Int64.toUInt64 63)).toInt64 &&& (3689348814741910323 : Int64))).toUInt64 >>> ((4 : Int32).toInt64.toUInt64 &&& Int64.toUInt64 63)).toInt64) &&& (1085102592571150095 : Int64)) + ((((((v0 - ((v0.toUInt64 >>> ((1 : Int32).toInt64.toUInt64 &&& Int64.toUInt64 63)).toInt64 &&& (6148914691236517205 : Int64))) &&& (3689348814741910323 : Int64)) + (((v0 - ((v0.toUInt64 >>> ((1 : Int32).toInt64.toUInt64 &&& Int64.toUInt64 63)).toInt64 &&& (6148914691236517205 : Int64))).toUInt64 >>> ((2 : Int32).toInt64.toUInt64 &&& Int64.toUInt64 63)).toInt64 &&& (3689348814741910323 : Int64))) + ((((v0 - ((v0.toUInt64 >>> ((1 : Int32).toInt64.toUInt64 &&& Int64.toUInt64 63)).toInt64 &&& (6148914691236517205 : Int64))) &&& (3689348814741910323 : Int64)) + (((v0 - ((v0.toUInt64 >>> ((1 : Int32).toInt64.toUInt64 &&& Int64.toUInt64 63)).toInt64 &&& (6148914691236517205 : Int64))).toUInt64 >>> ((2 : Int32).toInt64.toUInt64 &&& Int64.toUInt64 63)).toInt64 &&& (3689348814741910323 : Int64))).toUInt64 >>> ((4 : Int32).toInt64.toUInt64 &&& Int64.toUInt64 63)).toInt64) &&& (1085102592571150095 : Int64)).toUInt64 >>> ((8 : Int32).toInt64.toUInt64 &&& Int64.toUInt64 63)).toInt64).toUInt64 >>> ((16 : Int32).toInt64.toUInt64 &&& Int64.toUInt64 63)).toInt64) + ((((((((v0 - ((v0.toUInt64 >>> ((1 : Int32).toInt64.toUInt64 &&& Int64.toUInt64 63)).toInt64 &&& (6148914691236517205 : Int64))) &&& (3689348814741910323 : Int64)) + (((v0 - ((v0.toUInt64 >>> ((1 : Int32).toInt64.toUInt64 &&& Int64.toUInt64 63)).toInt64 &&& (6148914691236517205 : Int64))).toUInt64 >>> ((2 : Int32).toInt64.toUInt64 &&& Int64.toUInt64 63)).toInt64 &&& (3689348814741910323 : Int64))) + ((((v0 - ((v0.toUInt64 >>> ((1 : Int32).toInt64.toUInt64 &&& Int64.toUInt64 63)).toInt64 &&& (6148914691236517205 : Int64))) &&& (3689348814741910323 : Int64)) + (((v0 - ((v0.toUInt64 >>> ((1 : Int32).toInt64.toUInt64 &&& Int64.toUInt64 63)).toInt64 &&& (6148914691236517205 : Int64))).toUInt64 >>> ((2 : Int32).toInt64.toUInt64 &&& Int64.toUInt64 63)).toInt64 &&& (3689348814741910323 : Int64))).toUInt64 >>> ((4 : Int32).toInt64.toUInt64 &&& Int64.toUInt64 63)).toInt64) &&& (1085102592571150095 : Int64)) + ((((((v0 - ((v0.toUInt64 >>> ((1 : Int32).toInt64.toUInt64 &&& Int64.toUInt64 63)).toInt64 &&& (6148914691236517205 : Int64))) &&& (3689348814741910323 : Int64)) + (((v0 - ((v0.toUInt64 >>> ((1 : Int32).toInt64.toUInt64 &&& Int64.toUInt64 63)).toInt64 &&& (6148914691236517205 : Int64))).toUInt64 >>> ((2 : Int32).toInt64.toUInt64 &&& Int64.toUInt64 63)).toInt64 &&& (3689348814741910323 : Int64))) + ((((v0 - ((v0.toUInt64 >>> ((1 : Int32).toInt64.toUInt64 &&& Int64.toUInt64 63)).toInt64 &&& (6148914691236517205 : Int64))) &&& (3689348814741910323 : Int64)) + (((v0 - ((v0.toUInt64 >>> ((1 : Int32).toInt64.toUInt64 &&& Int64.toUInt64 63)).toInt64 &&& (6148914691236517205 : Int64))).toUInt64 >>> ((2 : Int32).toInt64.toUInt64 &&& Int64.toUInt64 63)).toInt64 &&& (3689348814741910323 : Int64))).toUInt64 >>> ((4 : Int32).toInt64.toUInt64 &&& Int64.toUInt64 63)).toInt64) &&& (1085102592571150095 : Int64)).toUInt64 >>> ((8 : Int32).toInt64.toUInt64 &&& Int64.toUInt64 63)).toInt64) + (((((((v0 - ((v0.toUInt64 >>> ((1 : Int32).toInt64.toUInt64 &&& Int64.toUInt64 63)).toInt64 &&& (6148914691236517205 : Int64))) &&& (3689348814741910323 : Int64)) + (((v0 - ((v0.toUInt64 >>> ((1 : Int32).toInt64.toUInt64 &&& Int64.toUInt64 63)).toInt64 &&& (6148914691236517205 : Int64))).toUInt64 >>> ((2 : Int32).toInt64.toUInt64 &&& Int64.toUInt64 63)).toInt64 &&& (3689348814741910323 : Int64))) + ((((v0 - ((v0.toUInt64 >>> ((1 : Int32).toInt64.toUInt64 &&& Int64.toUInt64 63)).toInt64 &&& (6148914691236517205 : Int64))) &&& (3689348814741910323 : Int64)) + (((v0 - ((v0.toUInt64 >>> ((1 : Int32).toInt64.toUInt64 &&& Int64.toUInt64 63)).toInt64 &&& (6148914691236517205 : Int64))).toUInt64 >>> ((2 : Int32).toInt64.toUInt64 &&& Int64.toUInt64 63)).toInt64 &&& (3689348814741910323 : Int64))).toUInt64 >>> ((4 : Int32).toInt64.toUInt64 &&& Int64.toUInt64 63)).toInt64) &&& (1085102592571150095 : Int64)) + ((((((v0 - ((v0.toUInt64 >>> ((1 : Int32).toInt64.toUInt64 &&& Int64.toUInt64 63)).toInt64 &&& (6148914691236517205 : Int64))) &&& (3689348814741910323 : Int64)) + (((v0 - ((v0.toUInt64 >>> ((1 : Int32).toInt64.toUInt64 &&& Int64.toUInt64 63)).toInt64 &&& (6148914691236517205 : Int64))).toUInt64 >>> ((2 : Int32).toInt64.toUInt64 &&& Int64.toUInt64 63)).toInt64 &&& (3689348814741910323 : Int64))) + ((((v0 - ((v0.toUInt64 >>> ((1 : Int32).toInt64.toUInt64 &&& Int64.toUInt64 63)).toInt64 &&& (6148914691236517205 : Int64))) &&& (3689348814741910323 : Int64)) + (((v0 - ((v0.toUInt64 >>> ((1 : Int32).toInt64.toUInt64 &&& Int64.toUInt64 63)).toInt64 &&& (6148914691236517205 : Int64))).toUInt64 >>> ((2 : Int32).toInt64.toUInt64 &&& Int64.toUInt64 63)).toInt64 &&& (3689348814741910323 : Int64))).toUInt64 >>> ((4 : Int32).toInt64.toUInt64 &&& Int64.toUInt64 63)).toInt64) &&& (1085102592571150095 : Int64)).toUInt64 >>> ((8 : Int32).toInt64.toUInt64 &&& Int64.toUInt64 63)).toInt64).toUInt64 >>> ((16 : Int32).toInt64.toUInt64 &&& Int64.toUInt64 63)).toInt64).toUInt64 >>> ((32 : Int32).toInt64.toUInt64 &&& Int64.toUInt64 63)).toInt64))]) hx hb d_J_bitCount_54 rfl hl (by decide) rfl (fun ls hl => ?_)
  refine lv_lload_n hx hb d_J_bitCount_55 rfl (lv_at hl 0 rfl) ?_
  refine lv_l2i hx hb d_J_bitCount_56 rfl ?_
  refine lv_bipush (v := 127) hx hb d_J_bitCount_57 (by decide) ?_
  refine lv_iand hx hb d_J_bitCount_59 ?_
  exact hret _ _ _ _ _ _ h rfl (vp_nar_int _) hw d_J_bitCount_60
set_option maxHeartbeats 4000000 in
set_option maxRecDepth 100000 in
theorem c_K_Needs_size {l : Launch} {D : va_G} {A : Nat → Prop} {a : Nat → Nat} {cI cJ cC : ClassId} {adK adV : Nat → Nat} {st : sk_M} {res : Int32} (hok : sk_ok A (nwK A adK adV)) (h : K_Needs_size st = res) : sk_Ci l y_K_Needs_size w_K_Needs_size rm_K_Needs_size D (tyK cI cJ cC) A (ceK a cI cJ cC) (nwK A adK adV) [.ref (a 10)] st res st := by
  refine sk_headi .int (by decide) rfl (Nat.le_of_ble_eq_true rfl) ?_
  intro p e s m args below meth c Q hx hb hml hown hts0 hnw hret ls hl hw
  have hts : ∀ w ∈ TB, w.before args s = true := fun w h => hts0 w (List.mem_cons_of_mem _ h)
  have hown : s.vm.findClass R_Needs = some m.cls := hown
  have hl : lv_has ls 1 [(0, .ref (a 10))] := hl
  unfold K_Needs_size at h
  refine lv_aload_n hx hb d_K_Needs_size_0 rfl (lv_at hl 0 rfl) ?_
  refine gf_Needs_31 hx hb hts hnw hown hw d_K_Needs_size_1 ?_
  refine sk_callSi (As := [.long (st.2 0 4)]) (rest := []) ⟨hx, hb, hml, hown, hts⟩ hw hnw hok (c_J_bitCount hok rfl) (cw_Needs_109 hts hnw (by decide)) rfl hl.1 rfl (Nat.le_of_ble_eq_true rfl) d_K_Needs_size_4 (fun H locs hw => ?_)
  refine lv_aload_n hx hb d_K_Needs_size_7 rfl (lv_at hl 0 rfl) ?_
  refine gf_Needs_38 hx hb hts hnw hown hw d_K_Needs_size_8 ?_
  refine sk_callSi (As := [.long (st.2 0 5)]) (rest := [.int (J_bitCount (st.2 0 4))]) ⟨hx, hb, hml, hown, hts⟩ hw hnw hok (c_J_bitCount hok rfl) (cw_Needs_109 hts hnw (by decide)) rfl hl.1 rfl (Nat.le_of_ble_eq_true rfl) d_K_Needs_size_11 (fun H locs hw => ?_)
  refine lv_iadd hx hb d_K_Needs_size_14 ?_
  refine lv_aload_n hx hb d_K_Needs_size_15 rfl (lv_at hl 0 rfl) ?_
  refine gf_Needs_41 hx hb hts hnw hown hw d_K_Needs_size_16 ?_
  refine sk_callSi (As := [.long (st.2 0 6)]) (rest := [.int ((J_bitCount (st.2 0 4)) + (J_bitCount (st.2 0 5)))]) ⟨hx, hb, hml, hown, hts⟩ hw hnw hok (c_J_bitCount hok rfl) (cw_Needs_109 hts hnw (by decide)) rfl hl.1 rfl (Nat.le_of_ble_eq_true rfl) d_K_Needs_size_19 (fun H locs hw => ?_)
  refine lv_iadd hx hb d_K_Needs_size_22 ?_
  refine lv_aload_n hx hb d_K_Needs_size_23 rfl (lv_at hl 0 rfl) ?_
  refine gf_Needs_35 hx hb hts hnw hown hw d_K_Needs_size_24 ?_
  refine sk_callSi (As := [.long (st.2 0 7)]) (rest := [.int (((J_bitCount (st.2 0 4)) + (J_bitCount (st.2 0 5))) + (J_bitCount (st.2 0 6)))]) ⟨hx, hb, hml, hown, hts⟩ hw hnw hok (c_J_bitCount hok rfl) (cw_Needs_109 hts hnw (by decide)) rfl hl.1 rfl (Nat.le_of_ble_eq_true rfl) d_K_Needs_size_27 (fun H locs hw => ?_)
  refine lv_iadd hx hb d_K_Needs_size_30 ?_
  exact hret _ _ _ _ _ _ h rfl (vp_nar_int _) hw d_K_Needs_size_31
set_option maxHeartbeats 4000000 in
set_option maxRecDepth 100000 in
theorem c_K_Needs_addByKeepMembers {l : Launch} {D : va_G} {A : Nat → Prop} {a : Nat → Nat} {cI cJ cC : ClassId} {adK adV : Nat → Nat} {N : Nat} {st : sk_M} {res : sk_M} (hok : sk_ok A (nwK A adK adV)) (h : K_Needs_addByKeepMembers N st = some res) : sk_Cv l y_K_Needs_addByKeepMembers w_K_Needs_addByKeepMembers rm_K_Needs_addByKeepMembers D (tyK cI cJ cC) A (ceK a cI cJ cC) (nwK A adK adV) [.ref (a 10)] st res := by
  refine sk_headv (by decide) rfl (Nat.le_of_ble_eq_true rfl) ?_
  intro p e s m args below meth c Q hx hb hml hown hts0 hnw hret ls hl hw
  have hts : ∀ w ∈ TB, w.before args s = true := fun w h => hts0 w (List.mem_cons_of_mem _ h)
  have hown : s.vm.findClass R_Needs = some m.cls := hown
  have hl : lv_has ls 2 [(0, .ref (a 10))] := hl
  unfold K_Needs_addByKeepMembers at h
  refine lv_iconst (v := 0) hx hb d_K_Needs_addByKeepMembers_0 (by decide) ?_
  refine lv_istore_n (lv' := [(1, .int (0 : Int32)), (0, .ref (a 10))]) hx hb d_K_Needs_addByKeepMembers_1 rfl hl (by decide) rfl (fun ls hl => ?_)
  refine sk_lp_run (G := fun (z : sk_M × Int32) => ∀ (H : Heap) (locs : List Loc) (ls : Array Slot), sk_w D (tyK cI cJ cC) A (ceK a cI cJ cC) s z.1 H locs → lv_has ls 2 [(0, .ref (a 10)), (1, .int z.2)] → W p l e rm_K_Needs_addByKeepMembers s m args below meth c H locs 0 0 Q (F0 m 2 ls [])) ?_ N _ h _ _ _ hw (lv_sub hl [1, 0] rfl)
  rintro self2 ⟨st, v1⟩ hself2 h H locs ls hw hl
  unfold K_Needs_addByKeepMembers_L2 at h
  refine lv_iload_n hx hb d_K_Needs_addByKeepMembers_2 rfl (lv_at hl 1 rfl) ?_
  refine lv_aload_n hx hb d_K_Needs_addByKeepMembers_3 rfl (lv_at hl 0 rfl) ?_
  refine gf_Needs_23 hx hb hts hnw hown hw d_K_Needs_addByKeepMembers_4 ?_
  refine gf_Needs_115 hx hb hts hnw hown hw d_K_Needs_addByKeepMembers_7 ?_
  refine lv_icmp_ge (tgt := 54) hx hb d_K_Needs_addByKeepMembers_10 (by decide) (fun c_10 => ?_) (fun c_10 => ?_)
  · have h := (if_pos c_10).symm.trans h
    exact hret _ _ _ _ _ (Option.some.inj h) hw d_K_Needs_addByKeepMembers_54
  · have h := (if_neg c_10).symm.trans h
    refine lv_aload_n hx hb d_K_Needs_addByKeepMembers_13 rfl (lv_at hl 0 rfl) ?_
    refine gf_Needs_23 hx hb hts hnw hown hw d_K_Needs_addByKeepMembers_14 ?_
    refine gf_Needs_118 hx hb hts hnw hown hw d_K_Needs_addByKeepMembers_17 ?_
    refine lv_iload_n hx hb d_K_Needs_addByKeepMembers_20 rfl (lv_at hl 1 rfl) ?_
    obtain ⟨x21, g_21, e_21, h⟩ := sk_rI_some h
    refine al_K27 hx hb hw g_21 e_21 d_K_Needs_addByKeepMembers_21 ?_
    refine lv_iconst (v := 3) hx hb d_K_Needs_addByKeepMembers_22 (by decide) ?_
    refine lv_icmp_ne (tgt := 48) hx hb d_K_Needs_addByKeepMembers_23 (by decide) (fun c_23 => ?_) (fun c_23 => ?_)
    · have h := (if_neg c_23).symm.trans h
      refine lv_iinc (v := v1 + 1) (lv' := [(1, .int (v1 + 1)), (0, .ref (a 10))]) hx hb d_K_Needs_addByKeepMembers_48 hl (k := 1) rfl rfl (by decide) rfl (fun ls hl => ?_)
      refine lv_goto (tgt := 2) hx hb d_K_Needs_addByKeepMembers_51 (by decide) ?_
      exact hself2 (st, (v1 + 1)) h _ _ _ hw (lv_sub hl [1, 0] rfl)
    · have h := (if_pos c_23).symm.trans h
      refine lv_aload_n hx hb d_K_Needs_addByKeepMembers_26 rfl (lv_at hl 0 rfl) ?_
      refine lv_dup hx hb d_K_Needs_addByKeepMembers_27 rfl ?_
      refine gf_Needs_35 hx hb hts hnw hown hw d_K_Needs_addByKeepMembers_28 ?_
      refine lv_aload_n hx hb d_K_Needs_addByKeepMembers_31 rfl (lv_at hl 0 rfl) ?_
      refine lv_aload_n hx hb d_K_Needs_addByKeepMembers_32 rfl (lv_at hl 0 rfl) ?_
      refine gf_Needs_23 hx hb hts hnw hown hw d_K_Needs_addByKeepMembers_33 ?_
      refine gf_Needs_128 hx hb hts hnw hown hw d_K_Needs_addByKeepMembers_36 ?_
      refine lv_iload_n hx hb d_K_Needs_addByKeepMembers_39 rfl (lv_at hl 1 rfl) ?_
      obtain ⟨x40, g_40, e_40, h⟩ := sk_rL_some h
      refine al_K32 hx hb hw g_40 e_40 d_K_Needs_addByKeepMembers_40 ?_
      obtain ⟨x41, q_41, h⟩ := sk_oR_some h
      refine sk_callVl (As := [.long x40]) (rest := [.long (st.2 0 7), .ref (a 10)]) ⟨hx, hb, hml, hown, hts⟩ hw hnw hok (c_K_Needs_ofNeededClasses hok q_41) (cw_Needs_131 hts hnw (by decide)) (rc_K10 hw) rfl hl.1 rfl (Nat.le_of_ble_eq_true rfl) d_K_Needs_addByKeepMembers_41 (fun H locs hw => ?_)
      refine lv_lor hx hb d_K_Needs_addByKeepMembers_44 ?_
      obtain ⟨st45, e_45, h⟩ := sk_fL_some h
      refine pf_Needs_35 hx hb hts hnw hown hw e_45 d_K_Needs_addByKeepMembers_45 (fun H locs hw => ?_)
      refine lv_iinc (v := v1 + 1) (lv' := [(1, .int (v1 + 1)), (0, .ref (a 10))]) hx hb d_K_Needs_addByKeepMembers_48 hl (k := 1) rfl rfl (by decide) rfl (fun ls hl => ?_)
      refine lv_goto (tgt := 2) hx hb d_K_Needs_addByKeepMembers_51 (by decide) ?_
      exact hself2 (st45, (v1 + 1)) h _ _ _ hw (lv_sub hl [1, 0] rfl)
set_option maxHeartbeats 4000000 in
set_option maxRecDepth 100000 in
theorem c_K_Needs_addByMembers {l : Launch} {D : va_G} {A : Nat → Prop} {a : Nat → Nat} {cI cJ cC : ClassId} {adK adV : Nat → Nat} {N : Nat} {st : sk_M} {res : sk_M} (hok : sk_ok A (nwK A adK adV)) (h : K_Needs_addByMembers N st = some res) : sk_Cv l y_K_Needs_addByMembers w_K_Needs_addByMembers rm_K_Needs_addByMembers D (tyK cI cJ cC) A (ceK a cI cJ cC) (nwK A adK adV) [.ref (a 10)] st res := by
  refine sk_headv (by decide) rfl (Nat.le_of_ble_eq_true rfl) ?_
  intro p e s m args below meth c Q hx hb hml hown hts0 hnw hret ls hl hw
  have hts : ∀ w ∈ TB, w.before args s = true := fun w h => hts0 w (List.mem_cons_of_mem _ h)
  have hown : s.vm.findClass R_Needs = some m.cls := hown
  have hl : lv_has ls 2 [(0, .ref (a 10))] := hl
  unfold K_Needs_addByMembers at h
  refine lv_iconst (v := 0) hx hb d_K_Needs_addByMembers_0 (by decide) ?_
  refine lv_istore_n (lv' := [(1, .int (0 : Int32)), (0, .ref (a 10))]) hx hb d_K_Needs_addByMembers_1 rfl hl (by decide) rfl (fun ls hl => ?_)
  refine sk_lp_run (G := fun (z : sk_M × Int32) => ∀ (H : Heap) (locs : List Loc) (ls : Array Slot), sk_w D (tyK cI cJ cC) A (ceK a cI cJ cC) s z.1 H locs → lv_has ls 2 [(0, .ref (a 10)), (1, .int z.2)] → W p l e rm_K_Needs_addByMembers s m args below meth c H locs 0 0 Q (F0 m 2 ls [])) ?_ N _ h _ _ _ hw (lv_sub hl [1, 0] rfl)
  rintro self2 ⟨st, v1⟩ hself2 h H locs ls hw hl
  unfold K_Needs_addByMembers_L2 at h
  refine lv_iload_n hx hb d_K_Needs_addByMembers_2 rfl (lv_at hl 1 rfl) ?_
  refine lv_aload_n hx hb d_K_Needs_addByMembers_3 rfl (lv_at hl 0 rfl) ?_
  refine gf_Needs_15 hx hb hts hnw hown hw d_K_Needs_addByMembers_4 ?_
  refine gf_Needs_135 hx hb hts hnw hown hw d_K_Needs_addByMembers_7 ?_
  refine lv_icmp_ge (tgt := 51) hx hb d_K_Needs_addByMembers_10 (by decide) (fun c_10 => ?_) (fun c_10 => ?_)
  · have h := (if_pos c_10).symm.trans h
    exact hret _ _ _ _ _ (Option.some.inj h) hw d_K_Needs_addByMembers_51
  · have h := (if_neg c_10).symm.trans h
    refine lv_aload_n hx hb d_K_Needs_addByMembers_13 rfl (lv_at hl 0 rfl) ?_
    refine gf_Needs_35 hx hb hts hnw hown hw d_K_Needs_addByMembers_14 ?_
    refine lv_iload_n hx hb d_K_Needs_addByMembers_17 rfl (lv_at hl 1 rfl) ?_
    refine sk_callSNi (As := [.long (st.2 0 7), .int v1]) (rest := []) ⟨hx, hb, hml, hown, hts⟩ hw hnw hok (c_K_SF_has hok rfl) (cw_Needs_77 hts hnw (by decide)) rfl hl.1 rfl (Nat.le_of_ble_eq_true rfl) d_K_Needs_addByMembers_18 (fun H locs hw => ?_)
    refine lv_if_eq (tgt := 45) hx hb d_K_Needs_addByMembers_21 (by decide) (fun c_21 => ?_) (fun c_21 => ?_)
    · have h := (if_pos c_21).symm.trans h
      refine lv_iinc (v := v1 + 1) (lv' := [(1, .int (v1 + 1)), (0, .ref (a 10))]) hx hb d_K_Needs_addByMembers_45 hl (k := 1) rfl rfl (by decide) rfl (fun ls hl => ?_)
      refine lv_goto (tgt := 2) hx hb d_K_Needs_addByMembers_48 (by decide) ?_
      exact hself2 (st, (v1 + 1)) h _ _ _ hw (lv_sub hl [1, 0] rfl)
    · have h := (if_neg c_21).symm.trans h
      refine lv_aload_n hx hb d_K_Needs_addByMembers_24 rfl (lv_at hl 0 rfl) ?_
      refine lv_dup hx hb d_K_Needs_addByMembers_25 rfl ?_
      refine gf_Needs_31 hx hb hts hnw hown hw d_K_Needs_addByMembers_26 ?_
      refine lv_aload_n hx hb d_K_Needs_addByMembers_29 rfl (lv_at hl 0 rfl) ?_
      refine gf_Needs_15 hx hb hts hnw hown hw d_K_Needs_addByMembers_30 ?_
      refine gf_Needs_136 hx hb hts hnw hown hw d_K_Needs_addByMembers_33 ?_
      refine lv_iload_n hx hb d_K_Needs_addByMembers_36 rfl (lv_at hl 1 rfl) ?_
      obtain ⟨x37, g_37, e_37, h⟩ := sk_rI_some h
      refine al_K17 hx hb hw g_37 e_37 d_K_Needs_addByMembers_37 ?_
      refine sk_callSNl (As := [.int x37]) (rest := [.long (st.2 0 4), .ref (a 10)]) ⟨hx, hb, hml, hown, hts⟩ hw hnw hok (c_K_SF_bit hok rfl) (cw_Needs_27 hts hnw (by decide)) rfl hl.1 rfl (Nat.le_of_ble_eq_true rfl) d_K_Needs_addByMembers_38 (fun H locs hw => ?_)
      refine lv_lor hx hb d_K_Needs_addByMembers_41 ?_
      obtain ⟨st42, e_42, h⟩ := sk_fL_some h
      refine pf_Needs_31 hx hb hts hnw hown hw e_42 d_K_Needs_addByMembers_42 (fun H locs hw => ?_)
      refine lv_iinc (v := v1 + 1) (lv' := [(1, .int (v1 + 1)), (0, .ref (a 10))]) hx hb d_K_Needs_addByMembers_45 hl (k := 1) rfl rfl (by decide) rfl (fun ls hl => ?_)
      refine lv_goto (tgt := 2) hx hb d_K_Needs_addByMembers_48 (by decide) ?_
      exact hself2 (st42, (v1 + 1)) h _ _ _ hw (lv_sub hl [1, 0] rfl)
set_option maxHeartbeats 4000000 in
set_option maxRecDepth 100000 in
theorem c_K_Needs_addFound {l : Launch} {D : va_G} {A : Nat → Prop} {a : Nat → Nat} {cI cJ cC : ClassId} {adK adV : Nat → Nat} {N : Nat} {st : sk_M} {v1 : Int32} {v2 : Int32} {res : sk_M} (hok : sk_ok A (nwK A adK adV)) (h : K_Needs_addFound N st v1 v2 = some res) : sk_Cv l y_K_Needs_addFound w_K_Needs_addFound rm_K_Needs_addFound D (tyK cI cJ cC) A (ceK a cI cJ cC) (nwK A adK adV) [.ref (a 10), .int v1, .int v2] st res := by
  refine sk_headv (by decide) rfl (Nat.le_of_ble_eq_true rfl) ?_
  intro p e s m args below meth c Q hx hb hml hown hts0 hnw hret ls hl hw
  have hts : ∀ w ∈ TB, w.before args s = true := fun w h => hts0 w (List.mem_cons_of_mem _ h)
  have hown : s.vm.findClass R_Needs = some m.cls := hown
  have hl : lv_has ls 4 [(0, .ref (a 10)), (1, .int v1), (2, .int v2)] := hl
  unfold K_Needs_addFound at h
  refine lv_aload_n hx hb d_K_Needs_addFound_0 rfl (lv_at hl 0 rfl) ?_
  refine gf_Needs_15 hx hb hts hnw hown hw d_K_Needs_addFound_1 ?_
  refine lv_iload_n hx hb d_K_Needs_addFound_4 rfl (lv_at hl 1 rfl) ?_
  refine lv_iload_n hx hb d_K_Needs_addFound_5 rfl (lv_at hl 2 rfl) ?_
  refine lv_aload_n hx hb d_K_Needs_addFound_6 rfl (lv_at hl 0 rfl) ?_
  refine gf_Needs_15 hx hb hts hnw hown hw d_K_Needs_addFound_7 ?_
  refine gf_Needs_100 hx hb hts hnw hown hw d_K_Needs_addFound_10 ?_
  obtain ⟨x13, q_13, h⟩ := sk_oR_some h
  refine sk_callVi (As := [.int v1, .int v2, .long (st.2 0 0)]) (rest := []) ⟨hx, hb, hml, hown, hts⟩ hw hnw hok (c_K_Members_find hok q_13) (cw_Needs_105 hts hnw (by decide)) (rc_K2 hw) rfl hl.1 rfl (Nat.le_of_ble_eq_true rfl) d_K_Needs_addFound_13 (fun H locs hw => ?_)
  refine lv_istore_n (lv' := [(3, .int x13), (0, .ref (a 10)), (1, .int v1), (2, .int v2)]) hx hb d_K_Needs_addFound_16 rfl hl (by decide) rfl (fun ls hl => ?_)
  refine lv_iload_n hx hb d_K_Needs_addFound_17 rfl (lv_at hl 0 rfl) ?_
  refine lv_bipush (v := -2) hx hb d_K_Needs_addFound_18 (by decide) ?_
  refine lv_icmp_eq (tgt := 69) hx hb d_K_Needs_addFound_20 (by decide) (fun c_20 => ?_) (fun c_20 => ?_)
  · have h := (if_pos c_20).symm.trans h
    exact hret _ _ _ _ _ (Option.some.inj h) hw d_K_Needs_addFound_69
  · have h := (if_neg c_20).symm.trans h
    refine lv_aload_n hx hb d_K_Needs_addFound_23 rfl (lv_at hl 1 rfl) ?_
    refine lv_dup hx hb d_K_Needs_addFound_24 rfl ?_
    refine gf_Needs_35 hx hb hts hnw hown hw d_K_Needs_addFound_25 ?_
    refine lv_iload_n hx hb d_K_Needs_addFound_28 rfl (lv_at hl 0 rfl) ?_
    refine sk_callSNl (As := [.int x13]) (rest := [.long (st.2 0 7), .ref (a 10)]) ⟨hx, hb, hml, hown, hts⟩ hw hnw hok (c_K_SF_bit hok rfl) (cw_Needs_27 hts hnw (by decide)) rfl hl.1 rfl (Nat.le_of_ble_eq_true rfl) d_K_Needs_addFound_29 (fun H locs hw => ?_)
    refine lv_lor hx hb d_K_Needs_addFound_32 ?_
    obtain ⟨st33, e_33, h⟩ := sk_fL_some h
    refine pf_Needs_35 hx hb hts hnw hown hw e_33 d_K_Needs_addFound_33 (fun H locs hw => ?_)
    refine lv_aload_n hx hb d_K_Needs_addFound_36 rfl (lv_at hl 1 rfl) ?_
    refine gf_Needs_15 hx hb hts hnw hown hw d_K_Needs_addFound_37 ?_
    refine lv_iload_n hx hb d_K_Needs_addFound_40 rfl (lv_at hl 0 rfl) ?_
    refine lv_iconst (v := 2) hx hb d_K_Needs_addFound_41 (by decide) ?_
    obtain ⟨x42, q_42, h⟩ := sk_oR_some h
    refine sk_callVi (As := [.int x13, .int (2 : Int32)]) (rest := []) ⟨hx, hb, hml, hown, hts⟩ hw hnw hok (c_K_Members_hasFlag hok q_42) (cw_Needs_151 hts hnw (by decide)) (rc_K2 hw) rfl hl.1 rfl (Nat.le_of_ble_eq_true rfl) d_K_Needs_addFound_42 (fun H locs hw => ?_)
    refine lv_if_eq (tgt := 69) hx hb d_K_Needs_addFound_45 (by decide) (fun c_45 => ?_) (fun c_45 => ?_)
    · have h := (if_pos c_45).symm.trans h
      exact hret _ _ _ _ _ (Option.some.inj h) hw d_K_Needs_addFound_69
    · have h := (if_neg c_45).symm.trans h
      refine lv_aload_n hx hb d_K_Needs_addFound_48 rfl (lv_at hl 1 rfl) ?_
      refine lv_dup hx hb d_K_Needs_addFound_49 rfl ?_
      refine gf_Needs_41 hx hb hts hnw hown hw d_K_Needs_addFound_50 ?_
      refine lv_aload_n hx hb d_K_Needs_addFound_53 rfl (lv_at hl 1 rfl) ?_
      refine gf_Needs_15 hx hb hts hnw hown hw d_K_Needs_addFound_54 ?_
      refine gf_Needs_136 hx hb hts hnw hown hw d_K_Needs_addFound_57 ?_
      refine lv_iload_n hx hb d_K_Needs_addFound_60 rfl (lv_at hl 0 rfl) ?_
      obtain ⟨x61, g_61, e_61, h⟩ := sk_rI_some h
      refine al_K17 hx hb hw g_61 e_61 d_K_Needs_addFound_61 ?_
      refine sk_callSNl (As := [.int x61]) (rest := [.long (st33.2 0 6), .ref (a 10)]) ⟨hx, hb, hml, hown, hts⟩ hw hnw hok (c_K_SF_bit hok rfl) (cw_Needs_27 hts hnw (by decide)) rfl hl.1 rfl (Nat.le_of_ble_eq_true rfl) d_K_Needs_addFound_62 (fun H locs hw => ?_)
      refine lv_lor hx hb d_K_Needs_addFound_65 ?_
      obtain ⟨st66, e_66, h⟩ := sk_fL_some h
      refine pf_Needs_41 hx hb hts hnw hown hw e_66 d_K_Needs_addFound_66 (fun H locs hw => ?_)
      exact hret _ _ _ _ _ (Option.some.inj h) hw d_K_Needs_addFound_69
set_option maxHeartbeats 4000000 in
set_option maxRecDepth 100000 in
theorem c_K_Types_isUnder {l : Launch} {D : va_G} {A : Nat → Prop} {a : Nat → Nat} {cI cJ cC : ClassId} {adK adV : Nat → Nat} {st : sk_M} {v1 : Int32} {v2 : Int32} {res : Int32} (hok : sk_ok A (nwK A adK adV)) (h : K_Types_isUnder st v1 v2 = some res) : sk_Ci l y_K_Types_isUnder w_K_Types_isUnder rm_K_Types_isUnder D (tyK cI cJ cC) A (ceK a cI cJ cC) (nwK A adK adV) [.ref (a 1), .int v1, .int v2] st res st := by
  refine sk_headi .boolean (by decide) rfl (Nat.le_of_ble_eq_true rfl) ?_
  intro p e s m args below meth c Q hx hb hml hown hts0 hnw hret ls hl hw
  have hts : ∀ w ∈ TB, w.before args s = true := fun w h => hts0 w (List.mem_cons_of_mem _ h)
  have hown : s.vm.findClass R_Types = some m.cls := hown
  have hl : lv_has ls 3 [(0, .ref (a 1)), (1, .int v1), (2, .int v2)] := hl
  unfold K_Types_isUnder at h
  refine lv_iload_n hx hb d_K_Types_isUnder_0 rfl (lv_at hl 1 rfl) ?_
  refine lv_iload_n hx hb d_K_Types_isUnder_1 rfl (lv_at hl 2 rfl) ?_
  refine lv_icmp_eq (tgt := 18) hx hb d_K_Types_isUnder_2 (by decide) (fun c_2 => ?_) (fun c_2 => ?_)
  · have h := (if_pos c_2).symm.trans h
    refine lv_iconst (v := 1) hx hb d_K_Types_isUnder_18 (by decide) ?_
    refine lv_goto (tgt := 23) hx hb d_K_Types_isUnder_19 (by decide) ?_
    exact hret _ _ _ _ _ _ (Option.some.inj h) rfl rfl hw d_K_Types_isUnder_23
  · have h := (if_neg c_2).symm.trans h
    refine lv_aload_n hx hb d_K_Types_isUnder_5 rfl (lv_at hl 0 rfl) ?_
    refine gf_Types_34 hx hb hts hnw hown hw d_K_Types_isUnder_6 ?_
    refine lv_iload_n hx hb d_K_Types_isUnder_9 rfl (lv_at hl 1 rfl) ?_
    obtain ⟨x10, g_10, e_10, h⟩ := sk_rL_some h
    refine al_K42 hx hb hw g_10 e_10 d_K_Types_isUnder_10 ?_
    refine lv_iload_n hx hb d_K_Types_isUnder_11 rfl (lv_at hl 2 rfl) ?_
    refine sk_callSNi (As := [.long x10, .int v2]) (rest := []) ⟨hx, hb, hml, hown, hts⟩ hw hnw hok (c_K_SF_has hok rfl) (cw_Types_53 hts hnw (by decide)) rfl hl.1 rfl (Nat.le_of_ble_eq_true rfl) d_K_Types_isUnder_12 (fun H locs hw => ?_)
    refine lv_if_eq (tgt := 22) hx hb d_K_Types_isUnder_15 (by decide) (fun c_15 => ?_) (fun c_15 => ?_)
    · have h := (if_pos c_15).symm.trans h
      refine lv_iconst (v := 0) hx hb d_K_Types_isUnder_22 (by decide) ?_
      exact hret _ _ _ _ _ _ (Option.some.inj h) rfl rfl hw d_K_Types_isUnder_23
    · have h := (if_neg c_15).symm.trans h
      refine lv_iconst (v := 1) hx hb d_K_Types_isUnder_18 (by decide) ?_
      refine lv_goto (tgt := 23) hx hb d_K_Types_isUnder_19 (by decide) ?_
      exact hret _ _ _ _ _ _ (Option.some.inj h) rfl rfl hw d_K_Types_isUnder_23
set_option maxHeartbeats 4000000 in
set_option maxRecDepth 100000 in
theorem c_K_Needs_addSelected {l : Launch} {D : va_G} {A : Nat → Prop} {a : Nat → Nat} {cI cJ cC : ClassId} {adK adV : Nat → Nat} {N : Nat} {st : sk_M} {v1 : Int32} {v2 : Int32} {res : sk_M} (hok : sk_ok A (nwK A adK adV)) (h : K_Needs_addSelected N st v1 v2 = some res) : sk_Cv l y_K_Needs_addSelected w_K_Needs_addSelected rm_K_Needs_addSelected D (tyK cI cJ cC) A (ceK a cI cJ cC) (nwK A adK adV) [.ref (a 10), .int v1, .int v2] st res := by
  refine sk_headv (by decide) rfl (Nat.le_of_ble_eq_true rfl) ?_
  intro p e s m args below meth c Q hx hb hml hown hts0 hnw hret ls hl hw
  have hts : ∀ w ∈ TB, w.before args s = true := fun w h => hts0 w (List.mem_cons_of_mem _ h)
  have hown : s.vm.findClass R_Needs = some m.cls := hown
  have hl : lv_has ls 5 [(0, .ref (a 10)), (1, .int v1), (2, .int v2)] := hl
  unfold K_Needs_addSelected at h
  refine lv_iload_n hx hb d_K_Needs_addSelected_0 rfl (lv_at hl 1 rfl) ?_
  refine lv_istore_n (lv' := [(3, .int v1), (0, .ref (a 10)), (1, .int v1), (2, .int v2)]) hx hb d_K_Needs_addSelected_1 rfl hl (by decide) rfl (fun ls hl => ?_)
  refine sk_lp_run (G := fun (z : sk_M × Int32 × Int32 × Int32) => ∀ (H : Heap) (locs : List Loc) (ls : Array Slot), sk_w D (tyK cI cJ cC) A (ceK a cI cJ cC) s z.1 H locs → lv_has ls 5 [(0, .ref (a 10)), (1, .int z.2.1), (2, .int z.2.2.1), (3, .int z.2.2.2)] → W p l e rm_K_Needs_addSelected s m args below meth c H locs 0 0 Q (F0 m 2 ls [])) ?_ N _ h _ _ _ hw (lv_sub hl [1, 2, 3, 0] rfl)
  rintro self2 ⟨st, v1, v2, v3⟩ hself2 h H locs ls hw hl
  unfold K_Needs_addSelected_L2 at h
  refine lv_iload_n hx hb d_K_Needs_addSelected_2 rfl (lv_at hl 3 rfl) ?_
  refine lv_bipush (v := 10) hx hb d_K_Needs_addSelected_3 (by decide) ?_
  refine lv_icmp_ge (tgt := 76) hx hb d_K_Needs_addSelected_5 (by decide) (fun c_5 => ?_) (fun c_5 => ?_)
  · have h := (if_pos c_5).symm.trans h
    exact hret _ _ _ _ _ (Option.some.inj h) hw d_K_Needs_addSelected_76
  · have h := (if_neg c_5).symm.trans h
    refine lv_aload_n hx hb d_K_Needs_addSelected_8 rfl (lv_at hl 0 rfl) ?_
    refine gf_Needs_38 hx hb hts hnw hown hw d_K_Needs_addSelected_9 ?_
    refine lv_iload_n hx hb d_K_Needs_addSelected_12 rfl (lv_at hl 3 rfl) ?_
    refine sk_callSNi (As := [.long (st.2 0 5), .int v3]) (rest := []) ⟨hx, hb, hml, hown, hts⟩ hw hnw hok (c_K_SF_has hok rfl) (cw_Needs_77 hts hnw (by decide)) rfl hl.1 rfl (Nat.le_of_ble_eq_true rfl) d_K_Needs_addSelected_13 (fun H locs hw => ?_)
    refine lv_if_eq (tgt := 70) hx hb d_K_Needs_addSelected_16 (by decide) (fun c_16 => ?_) (fun c_16 => ?_)
    · have h := (if_pos c_16).symm.trans h
      refine lv_iinc (v := v3 + 1) (lv' := [(3, .int (v3 + 1)), (0, .ref (a 10)), (1, .int v1), (2, .int v2)]) hx hb d_K_Needs_addSelected_70 hl (k := 3) rfl rfl (by decide) rfl (fun ls hl => ?_)
      refine lv_goto (tgt := 2) hx hb d_K_Needs_addSelected_73 (by decide) ?_
      exact hself2 (st, v1, v2, (v3 + 1)) h _ _ _ hw (lv_sub hl [1, 2, 3, 0] rfl)
    · have h := (if_neg c_16).symm.trans h
      refine lv_aload_n hx hb d_K_Needs_addSelected_19 rfl (lv_at hl 0 rfl) ?_
      refine gf_Needs_9 hx hb hts hnw hown hw d_K_Needs_addSelected_20 ?_
      refine lv_iload_n hx hb d_K_Needs_addSelected_23 rfl (lv_at hl 3 rfl) ?_
      refine lv_iload_n hx hb d_K_Needs_addSelected_24 rfl (lv_at hl 1 rfl) ?_
      obtain ⟨x25, q_25, h⟩ := sk_oR_some h
      refine sk_callVi (As := [.int v3, .int v1]) (rest := []) ⟨hx, hb, hml, hown, hts⟩ hw hnw hok (c_K_Types_isUnder hok q_25) (cw_Needs_161 hts hnw (by decide)) (rc_K1 hw) rfl hl.1 rfl (Nat.le_of_ble_eq_true rfl) d_K_Needs_addSelected_25 (fun H locs hw => ?_)
      refine lv_if_eq (tgt := 70) hx hb d_K_Needs_addSelected_28 (by decide) (fun c_28 => ?_) (fun c_28 => ?_)
      · have h := (if_pos c_28).symm.trans h
        refine lv_iinc (v := v3 + 1) (lv' := [(3, .int (v3 + 1)), (0, .ref (a 10)), (1, .int v1), (2, .int v2)]) hx hb d_K_Needs_addSelected_70 hl (k := 3) rfl rfl (by decide) rfl (fun ls hl => ?_)
        refine lv_goto (tgt := 2) hx hb d_K_Needs_addSelected_73 (by decide) ?_
        exact hself2 (st, v1, v2, (v3 + 1)) h _ _ _ hw (lv_sub hl [1, 2, 3, 0] rfl)
      · have h := (if_neg c_28).symm.trans h
        refine lv_aload_n hx hb d_K_Needs_addSelected_31 rfl (lv_at hl 0 rfl) ?_
        refine gf_Needs_15 hx hb hts hnw hown hw d_K_Needs_addSelected_32 ?_
        refine lv_iload_n hx hb d_K_Needs_addSelected_35 rfl (lv_at hl 3 rfl) ?_
        refine lv_iload_n hx hb d_K_Needs_addSelected_36 rfl (lv_at hl 2 rfl) ?_
        refine lv_aload_n hx hb d_K_Needs_addSelected_37 rfl (lv_at hl 0 rfl) ?_
        refine gf_Needs_15 hx hb hts hnw hown hw d_K_Needs_addSelected_38 ?_
        refine gf_Needs_164 hx hb hts hnw hown hw d_K_Needs_addSelected_41 ?_
        obtain ⟨x44, q_44, h⟩ := sk_oR_some h
        refine sk_callVi (As := [.int v3, .int v2, .long (st.2 0 1)]) (rest := []) ⟨hx, hb, hml, hown, hts⟩ hw hnw hok (c_K_Members_find hok q_44) (cw_Needs_105 hts hnw (by decide)) (rc_K2 hw) rfl hl.1 rfl (Nat.le_of_ble_eq_true rfl) d_K_Needs_addSelected_44 (fun H locs hw => ?_)
        refine lv_istore (lv' := [(4, .int x44), (0, .ref (a 10)), (1, .int v1), (2, .int v2), (3, .int v3)]) hx hb d_K_Needs_addSelected_47 hl (by decide) rfl (fun ls hl => ?_)
        refine lv_iload hx hb d_K_Needs_addSelected_49 (lv_at hl 0 rfl) ?_
        refine lv_bipush (v := -2) hx hb d_K_Needs_addSelected_51 (by decide) ?_
        refine lv_icmp_eq (tgt := 70) hx hb d_K_Needs_addSelected_53 (by decide) (fun c_53 => ?_) (fun c_53 => ?_)
        · have h := (if_pos c_53).symm.trans h
          refine lv_iinc (v := v3 + 1) (lv' := [(3, .int (v3 + 1)), (4, .int x44), (0, .ref (a 10)), (1, .int v1), (2, .int v2)]) hx hb d_K_Needs_addSelected_70 hl (k := 4) rfl rfl (by decide) rfl (fun ls hl => ?_)
          refine lv_goto (tgt := 2) hx hb d_K_Needs_addSelected_73 (by decide) ?_
          exact hself2 (st, v1, v2, (v3 + 1)) h _ _ _ hw (lv_sub hl [2, 3, 4, 0] rfl)
        · have h := (if_neg c_53).symm.trans h
          refine lv_aload_n hx hb d_K_Needs_addSelected_56 rfl (lv_at hl 1 rfl) ?_
          refine lv_dup hx hb d_K_Needs_addSelected_57 rfl ?_
          refine gf_Needs_35 hx hb hts hnw hown hw d_K_Needs_addSelected_58 ?_
          refine lv_iload hx hb d_K_Needs_addSelected_61 (lv_at hl 0 rfl) ?_
          refine sk_callSNl (As := [.int x44]) (rest := [.long (st.2 0 7), .ref (a 10)]) ⟨hx, hb, hml, hown, hts⟩ hw hnw hok (c_K_SF_bit hok rfl) (cw_Needs_27 hts hnw (by decide)) rfl hl.1 rfl (Nat.le_of_ble_eq_true rfl) d_K_Needs_addSelected_63 (fun H locs hw => ?_)
          refine lv_lor hx hb d_K_Needs_addSelected_66 ?_
          obtain ⟨st67, e_67, h⟩ := sk_fL_some h
          refine pf_Needs_35 hx hb hts hnw hown hw e_67 d_K_Needs_addSelected_67 (fun H locs hw => ?_)
          refine lv_iinc (v := v3 + 1) (lv' := [(3, .int (v3 + 1)), (4, .int x44), (0, .ref (a 10)), (1, .int v1), (2, .int v2)]) hx hb d_K_Needs_addSelected_70 hl (k := 4) rfl rfl (by decide) rfl (fun ls hl => ?_)
          refine lv_goto (tgt := 2) hx hb d_K_Needs_addSelected_73 (by decide) ?_
          exact hself2 (st67, v1, v2, (v3 + 1)) h _ _ _ hw (lv_sub hl [2, 3, 4, 0] rfl)
set_option maxHeartbeats 4000000 in
set_option maxRecDepth 100000 in
theorem c_K_Needs_addByReferences {l : Launch} {D : va_G} {A : Nat → Prop} {a : Nat → Nat} {cI cJ cC : ClassId} {adK adV : Nat → Nat} {N : Nat} {st : sk_M} {res : sk_M} (hok : sk_ok A (nwK A adK adV)) (h : K_Needs_addByReferences N st = some res) : sk_Cv l y_K_Needs_addByReferences w_K_Needs_addByReferences rm_K_Needs_addByReferences D (tyK cI cJ cC) A (ceK a cI cJ cC) (nwK A adK adV) [.ref (a 10)] st res := by
  refine sk_headv (by decide) rfl (Nat.le_of_ble_eq_true rfl) ?_
  intro p e s m args below meth c Q hx hb hml hown hts0 hnw hret ls hl hw
  have hts : ∀ w ∈ TB, w.before args s = true := fun w h => hts0 w (List.mem_cons_of_mem _ h)
  have hown : s.vm.findClass R_Needs = some m.cls := hown
  have hl : lv_has ls 4 [(0, .ref (a 10))] := hl
  unfold K_Needs_addByReferences at h
  refine lv_iconst (v := 0) hx hb d_K_Needs_addByReferences_0 (by decide) ?_
  refine lv_istore_n (lv' := [(1, .int (0 : Int32)), (0, .ref (a 10))]) hx hb d_K_Needs_addByReferences_1 rfl hl (by decide) rfl (fun ls hl => ?_)
  refine sk_lp_run (G := fun (z : sk_M × Int32) => ∀ (H : Heap) (locs : List Loc) (ls : Array Slot), sk_w D (tyK cI cJ cC) A (ceK a cI cJ cC) s z.1 H locs → lv_has ls 4 [(0, .ref (a 10)), (1, .int z.2)] → W p l e rm_K_Needs_addByReferences s m args below meth c H locs 0 0 Q (F0 m 2 ls [])) ?_ N _ h _ _ _ hw (lv_sub hl [1, 0] rfl)
  rintro self2 ⟨st, v1⟩ hself2 h H locs ls hw hl
  unfold K_Needs_addByReferences_L2 at h
  refine lv_iload_n hx hb d_K_Needs_addByReferences_2 rfl (lv_at hl 1 rfl) ?_
  refine lv_aload_n hx hb d_K_Needs_addByReferences_3 rfl (lv_at hl 0 rfl) ?_
  refine gf_Needs_19 hx hb hts hnw hown hw d_K_Needs_addByReferences_4 ?_
  refine gf_Needs_67 hx hb hts hnw hown hw d_K_Needs_addByReferences_7 ?_
  refine lv_icmp_ge (tgt := 169) hx hb d_K_Needs_addByReferences_10 (by decide) (fun c_10 => ?_) (fun c_10 => ?_)
  · have h := (if_pos c_10).symm.trans h
    exact hret _ _ _ _ _ (Option.some.inj h) hw d_K_Needs_addByReferences_169
  · have h := (if_neg c_10).symm.trans h
    refine lv_aload_n hx hb d_K_Needs_addByReferences_13 rfl (lv_at hl 0 rfl) ?_
    refine gf_Needs_19 hx hb hts hnw hown hw d_K_Needs_addByReferences_14 ?_
    refine gf_Needs_88 hx hb hts hnw hown hw d_K_Needs_addByReferences_17 ?_
    refine lv_iload_n hx hb d_K_Needs_addByReferences_20 rfl (lv_at hl 1 rfl) ?_
    obtain ⟨x21, g_21, e_21, h⟩ := sk_rI_some h
    refine al_K25 hx hb hw g_21 e_21 d_K_Needs_addByReferences_21 ?_
    refine lv_istore_n (lv' := [(2, .int x21), (0, .ref (a 10)), (1, .int v1)]) hx hb d_K_Needs_addByReferences_22 rfl hl (by decide) rfl (fun ls hl => ?_)
    refine lv_aload_n hx hb d_K_Needs_addByReferences_23 rfl (lv_at hl 1 rfl) ?_
    refine gf_Needs_35 hx hb hts hnw hown hw d_K_Needs_addByReferences_24 ?_
    refine lv_aload_n hx hb d_K_Needs_addByReferences_27 rfl (lv_at hl 1 rfl) ?_
    refine gf_Needs_19 hx hb hts hnw hown hw d_K_Needs_addByReferences_28 ?_
    refine gf_Needs_73 hx hb hts hnw hown hw d_K_Needs_addByReferences_31 ?_
    refine lv_iload_n hx hb d_K_Needs_addByReferences_34 rfl (lv_at hl 2 rfl) ?_
    obtain ⟨x35, g_35, e_35, h⟩ := sk_rI_some h
    refine al_K23 hx hb hw g_35 e_35 d_K_Needs_addByReferences_35 ?_
    refine sk_callSNi (As := [.long (st.2 0 7), .int x35]) (rest := []) ⟨hx, hb, hml, hown, hts⟩ hw hnw hok (c_K_SF_has hok rfl) (cw_Needs_77 hts hnw (by decide)) rfl hl.1 rfl (Nat.le_of_ble_eq_true rfl) d_K_Needs_addByReferences_36 (fun H locs hw => ?_)
    refine lv_if_eq (tgt := 163) hx hb d_K_Needs_addByReferences_39 (by decide) (fun c_39 => ?_) (fun c_39 => ?_)
    · have h := (if_pos c_39).symm.trans h
      refine lv_iinc (v := v1 + 1) (lv' := [(1, .int (v1 + 1)), (2, .int x21), (0, .ref (a 10))]) hx hb d_K_Needs_addByReferences_163 hl (k := 2) rfl rfl (by decide) rfl (fun ls hl => ?_)
      refine lv_goto (tgt := 2) hx hb d_K_Needs_addByReferences_166 (by decide) ?_
      exact hself2 (st, (v1 + 1)) h _ _ _ hw (lv_sub hl [2, 0] rfl)
    · have h := (if_neg c_39).symm.trans h
      refine lv_aload_n hx hb d_K_Needs_addByReferences_42 rfl (lv_at hl 1 rfl) ?_
      refine gf_Needs_9 hx hb hts hnw hown hw d_K_Needs_addByReferences_43 ?_
      refine gf_Needs_155 hx hb hts hnw hown hw d_K_Needs_addByReferences_46 ?_
      refine lv_iload_n hx hb d_K_Needs_addByReferences_49 rfl (lv_at hl 0 rfl) ?_
      refine sk_callSNi (As := [.long (st.2 0 11), .int x21]) (rest := []) ⟨hx, hb, hml, hown, hts⟩ hw hnw hok (c_K_SF_has hok rfl) (cw_Needs_77 hts hnw (by decide)) rfl hl.1 rfl (Nat.le_of_ble_eq_true rfl) d_K_Needs_addByReferences_50 (fun H locs hw => ?_)
      refine lv_if_eq (tgt := 163) hx hb d_K_Needs_addByReferences_53 (by decide) (fun c_53 => ?_) (fun c_53 => ?_)
      · have h := (if_pos c_53).symm.trans h
        refine lv_iinc (v := v1 + 1) (lv' := [(1, .int (v1 + 1)), (2, .int x21), (0, .ref (a 10))]) hx hb d_K_Needs_addByReferences_163 hl (k := 2) rfl rfl (by decide) rfl (fun ls hl => ?_)
        refine lv_goto (tgt := 2) hx hb d_K_Needs_addByReferences_166 (by decide) ?_
        exact hself2 (st, (v1 + 1)) h _ _ _ hw (lv_sub hl [2, 0] rfl)
      · have h := (if_neg c_53).symm.trans h
        refine lv_aload_n hx hb d_K_Needs_addByReferences_56 rfl (lv_at hl 1 rfl) ?_
        refine gf_Needs_19 hx hb hts hnw hown hw d_K_Needs_addByReferences_57 ?_
        refine gf_Needs_85 hx hb hts hnw hown hw d_K_Needs_addByReferences_60 ?_
        refine lv_iload_n hx hb d_K_Needs_addByReferences_63 rfl (lv_at hl 2 rfl) ?_
        obtain ⟨x64, g_64, e_64, h⟩ := sk_rI_some h
        refine al_K24 hx hb hw g_64 e_64 d_K_Needs_addByReferences_64 ?_
        refine lv_istore_n (lv' := [(3, .int x64), (2, .int x21), (0, .ref (a 10)), (1, .int v1)]) hx hb d_K_Needs_addByReferences_65 rfl hl (by decide) rfl (fun ls hl => ?_)
        refine lv_aload_n hx hb d_K_Needs_addByReferences_66 rfl (lv_at hl 2 rfl) ?_
        refine lv_dup hx hb d_K_Needs_addByReferences_67 rfl ?_
        refine gf_Needs_31 hx hb hts hnw hown hw d_K_Needs_addByReferences_68 ?_
        refine lv_iload_n hx hb d_K_Needs_addByReferences_71 rfl (lv_at hl 1 rfl) ?_
        refine sk_callSNl (As := [.int x21]) (rest := [.long (st.2 0 4), .ref (a 10)]) ⟨hx, hb, hml, hown, hts⟩ hw hnw hok (c_K_SF_bit hok rfl) (cw_Needs_27 hts hnw (by decide)) rfl hl.1 rfl (Nat.le_of_ble_eq_true rfl) d_K_Needs_addByReferences_72 (fun H locs hw => ?_)
        refine lv_lor hx hb d_K_Needs_addByReferences_75 ?_
        obtain ⟨st76, e_76, h⟩ := sk_fL_some h
        refine pf_Needs_31 hx hb hts hnw hown hw e_76 d_K_Needs_addByReferences_76 (fun H locs hw => ?_)
        refine lv_iload_n hx hb d_K_Needs_addByReferences_79 rfl (lv_at hl 0 rfl) ?_
        have hJ125 : ∀ (st : sk_M) (v1 : Int32) (v2 : Int32) (v3 : Int32) (H : Heap) (locs : List Loc) (ls : Array Slot), K_Needs_addByReferences_J125 N self2 st v1 v2 v3 = some res → sk_w D (tyK cI cJ cC) A (ceK a cI cJ cC) s st H locs → lv_has ls 4 [(0, .ref (a 10)), (1, .int v1), (2, .int v2), (3, .int v3)] → W p l e rm_K_Needs_addByReferences s m args below meth c H locs 0 0 Q (F0 m 125 ls []) := by
          intro st v1 v2 v3 H locs ls h hw hl
          unfold K_Needs_addByReferences_J125 at h
          refine lv_iload_n hx hb d_K_Needs_addByReferences_125 rfl (lv_at hl 3 rfl) ?_
          refine lv_iconst (v := 2) hx hb d_K_Needs_addByReferences_126 (by decide) ?_
          have hJ144 : ∀ (st : sk_M) (v1 : Int32) (v2 : Int32) (v3 : Int32) (H : Heap) (locs : List Loc) (ls : Array Slot), K_Needs_addByReferences_J144 N self2 st v1 v2 v3 = some res → sk_w D (tyK cI cJ cC) A (ceK a cI cJ cC) s st H locs → lv_has ls 4 [(0, .ref (a 10)), (1, .int v1), (2, .int v2), (3, .int v3)] → W p l e rm_K_Needs_addByReferences s m args below meth c H locs 0 0 Q (F0 m 144 ls []) := by
            intro st v1 v2 v3 H locs ls h hw hl
            unfold K_Needs_addByReferences_J144 at h
            refine lv_iload_n hx hb d_K_Needs_addByReferences_144 rfl (lv_at hl 3 rfl) ?_
            refine lv_iconst (v := 5) hx hb d_K_Needs_addByReferences_145 (by decide) ?_
            refine lv_icmp_ne (tgt := 163) hx hb d_K_Needs_addByReferences_146 (by decide) (fun c_146 => ?_) (fun c_146 => ?_)
            · have h := (if_neg c_146).symm.trans h
              refine lv_iinc (v := v1 + 1) (lv' := [(1, .int (v1 + 1)), (0, .ref (a 10)), (2, .int v2), (3, .int v3)]) hx hb d_K_Needs_addByReferences_163 hl (k := 1) rfl rfl (by decide) rfl (fun ls hl => ?_)
              refine lv_goto (tgt := 2) hx hb d_K_Needs_addByReferences_166 (by decide) ?_
              exact hself2 (st, (v1 + 1)) h _ _ _ hw (lv_sub hl [1, 0] rfl)
            · have h := (if_pos c_146).symm.trans h
              refine lv_aload_n hx hb d_K_Needs_addByReferences_149 rfl (lv_at hl 0 rfl) ?_
              refine lv_iload_n hx hb d_K_Needs_addByReferences_150 rfl (lv_at hl 2 rfl) ?_
              refine lv_aload_n hx hb d_K_Needs_addByReferences_151 rfl (lv_at hl 0 rfl) ?_
              refine gf_Needs_19 hx hb hts hnw hown hw d_K_Needs_addByReferences_152 ?_
              refine gf_Needs_97 hx hb hts hnw hown hw d_K_Needs_addByReferences_155 ?_
              refine lv_iload_n hx hb d_K_Needs_addByReferences_158 rfl (lv_at hl 1 rfl) ?_
              obtain ⟨x159, g_159, e_159, h⟩ := sk_rI_some h
              refine al_K26 hx hb hw g_159 e_159 d_K_Needs_addByReferences_159 ?_
              obtain ⟨st160, q_160, h⟩ := sk_oR_some h
              refine sk_callVv (As := [.int v2, .int x159]) (rest := []) ⟨hx, hb, hml, hown, hts⟩ hw hnw hok (c_K_Needs_addSelected hok q_160) (cw_Needs_60 hts hnw (by decide)) (rc_K10 hw) rfl hl.1 rfl (Nat.le_of_ble_eq_true rfl) d_K_Needs_addByReferences_160 (fun H locs hw => ?_)
              refine lv_iinc (v := v1 + 1) (lv' := [(1, .int (v1 + 1)), (0, .ref (a 10)), (2, .int v2), (3, .int v3)]) hx hb d_K_Needs_addByReferences_163 hl (k := 1) rfl rfl (by decide) rfl (fun ls hl => ?_)
              refine lv_goto (tgt := 2) hx hb d_K_Needs_addByReferences_166 (by decide) ?_
              exact hself2 (st160, (v1 + 1)) h _ _ _ hw (lv_sub hl [1, 0] rfl)
          refine lv_icmp_lt (tgt := 144) hx hb d_K_Needs_addByReferences_127 (by decide) (fun c_127 => ?_) (fun c_127 => ?_)
          · have h := (if_pos c_127).symm.trans h
            exact hJ144 _ _ _ _ _ _ _ h hw (lv_sub hl [0, 1, 2, 3] rfl)
          · have h := (if_neg c_127).symm.trans h
            refine lv_aload_n hx hb d_K_Needs_addByReferences_130 rfl (lv_at hl 0 rfl) ?_
            refine lv_iload_n hx hb d_K_Needs_addByReferences_131 rfl (lv_at hl 2 rfl) ?_
            refine lv_aload_n hx hb d_K_Needs_addByReferences_132 rfl (lv_at hl 0 rfl) ?_
            refine gf_Needs_19 hx hb hts hnw hown hw d_K_Needs_addByReferences_133 ?_
            refine gf_Needs_97 hx hb hts hnw hown hw d_K_Needs_addByReferences_136 ?_
            refine lv_iload_n hx hb d_K_Needs_addByReferences_139 rfl (lv_at hl 1 rfl) ?_
            obtain ⟨x140, g_140, e_140, h⟩ := sk_rI_some h
            refine al_K26 hx hb hw g_140 e_140 d_K_Needs_addByReferences_140 ?_
            obtain ⟨st141, q_141, h⟩ := sk_oR_some h
            refine sk_callVv (As := [.int v2, .int x140]) (rest := []) ⟨hx, hb, hml, hown, hts⟩ hw hnw hok (c_K_Needs_addFound hok q_141) (cw_Needs_158 hts hnw (by decide)) (rc_K10 hw) rfl hl.1 rfl (Nat.le_of_ble_eq_true rfl) d_K_Needs_addByReferences_141 (fun H locs hw => ?_)
            exact hJ144 _ _ _ _ _ _ _ h hw (lv_sub hl [0, 1, 2, 3] rfl)
        refine lv_if_ne (tgt := 125) hx hb d_K_Needs_addByReferences_80 (by decide) (fun c_80 => ?_) (fun c_80 => ?_)
        · have h := (if_neg c_80).symm.trans h
          exact hJ125 _ _ _ _ _ _ _ h hw (lv_sub hl [2, 3, 1, 0] rfl)
        · have h := (if_pos c_80).symm.trans h
          refine lv_aload_n hx hb d_K_Needs_addByReferences_83 rfl (lv_at hl 2 rfl) ?_
          refine lv_dup hx hb d_K_Needs_addByReferences_84 rfl ?_
          refine gf_Needs_38 hx hb hts hnw hown hw d_K_Needs_addByReferences_85 ?_
          refine lv_iload_n hx hb d_K_Needs_addByReferences_88 rfl (lv_at hl 1 rfl) ?_
          refine sk_callSNl (As := [.int x21]) (rest := [.long (st76.2 0 5), .ref (a 10)]) ⟨hx, hb, hml, hown, hts⟩ hw hnw hok (c_K_SF_bit hok rfl) (cw_Needs_27 hts hnw (by decide)) rfl hl.1 rfl (Nat.le_of_ble_eq_true rfl) d_K_Needs_addByReferences_89 (fun H locs hw => ?_)
          refine lv_aload_n hx hb d_K_Needs_addByReferences_92 rfl (lv_at hl 2 rfl) ?_
          refine gf_Needs_9 hx hb hts hnw hown hw d_K_Needs_addByReferences_93 ?_
          refine gf_Needs_125 hx hb hts hnw hown hw d_K_Needs_addByReferences_96 ?_
          refine lv_land hx hb d_K_Needs_addByReferences_99 ?_
          refine lv_lor hx hb d_K_Needs_addByReferences_100 ?_
          obtain ⟨st101, e_101, h⟩ := sk_fL_some h
          refine pf_Needs_38 hx hb hts hnw hown hw e_101 d_K_Needs_addByReferences_101 (fun H locs hw => ?_)
          refine lv_aload_n hx hb d_K_Needs_addByReferences_104 rfl (lv_at hl 2 rfl) ?_
          refine lv_dup hx hb d_K_Needs_addByReferences_105 rfl ?_
          refine gf_Needs_41 hx hb hts hnw hown hw d_K_Needs_addByReferences_106 ?_
          refine lv_iload_n hx hb d_K_Needs_addByReferences_109 rfl (lv_at hl 1 rfl) ?_
          refine sk_callSNl (As := [.int x21]) (rest := [.long (st101.2 0 6), .ref (a 10)]) ⟨hx, hb, hml, hown, hts⟩ hw hnw hok (c_K_SF_bit hok rfl) (cw_Needs_27 hts hnw (by decide)) rfl hl.1 rfl (Nat.le_of_ble_eq_true rfl) d_K_Needs_addByReferences_110 (fun H locs hw => ?_)
          refine lv_aload_n hx hb d_K_Needs_addByReferences_113 rfl (lv_at hl 2 rfl) ?_
          refine gf_Needs_9 hx hb hts hnw hown hw d_K_Needs_addByReferences_114 ?_
          refine gf_Needs_125 hx hb hts hnw hown hw d_K_Needs_addByReferences_117 ?_
          refine lv_land hx hb d_K_Needs_addByReferences_120 ?_
          refine lv_lor hx hb d_K_Needs_addByReferences_121 ?_
          obtain ⟨st122, e_122, h⟩ := sk_fL_some h
          refine pf_Needs_41 hx hb hts hnw hown hw e_122 d_K_Needs_addByReferences_122 (fun H locs hw => ?_)
          exact hJ125 _ _ _ _ _ _ _ h hw (lv_sub hl [2, 3, 1, 0] rfl)
set_option maxHeartbeats 4000000 in
set_option maxRecDepth 100000 in
theorem c_K_Needs_addByClasses {l : Launch} {D : va_G} {A : Nat → Prop} {a : Nat → Nat} {cI cJ cC : ClassId} {adK adV : Nat → Nat} {N : Nat} {st : sk_M} {res : sk_M} (hok : sk_ok A (nwK A adK adV)) (h : K_Needs_addByClasses N st = some res) : sk_Cv l y_K_Needs_addByClasses w_K_Needs_addByClasses rm_K_Needs_addByClasses D (tyK cI cJ cC) A (ceK a cI cJ cC) (nwK A adK adV) [.ref (a 10)] st res := by
  refine sk_headv (by decide) rfl (Nat.le_of_ble_eq_true rfl) ?_
  intro p e s m args below meth c Q hx hb hml hown hts0 hnw hret ls hl hw
  have hts : ∀ w ∈ TB, w.before args s = true := fun w h => hts0 w (List.mem_cons_of_mem _ h)
  have hown : s.vm.findClass R_Needs = some m.cls := hown
  have hl : lv_has ls 3 [(0, .ref (a 10))] := hl
  unfold K_Needs_addByClasses at h
  refine lv_bipush (v := 9) hx hb d_K_Needs_addByClasses_0 (by decide) ?_
  refine lv_istore_n (lv' := [(1, .int (9 : Int32)), (0, .ref (a 10))]) hx hb d_K_Needs_addByClasses_2 rfl hl (by decide) rfl (fun ls hl => ?_)
  refine sk_lp_run (G := fun (z : sk_M × Int32) => ∀ (H : Heap) (locs : List Loc) (ls : Array Slot), sk_w D (tyK cI cJ cC) A (ceK a cI cJ cC) s z.1 H locs → lv_has ls 3 [(0, .ref (a 10)), (1, .int z.2)] → W p l e rm_K_Needs_addByClasses s m args below meth c H locs 0 0 Q (F0 m 3 ls [])) ?_ N _ h _ _ _ hw (lv_sub hl [1, 0] rfl)
  rintro self3 ⟨st, v1⟩ hself3 h H locs ls hw hl
  unfold K_Needs_addByClasses_L3 at h
  refine lv_iload_n hx hb d_K_Needs_addByClasses_3 rfl (lv_at hl 1 rfl) ?_
  refine lv_if_le (tgt := 129) hx hb d_K_Needs_addByClasses_4 (by decide) (fun c_4 => ?_) (fun c_4 => ?_)
  · have h := (if_pos c_4).symm.trans h
    exact hret _ _ _ _ _ (Option.some.inj h) hw d_K_Needs_addByClasses_129
  · have h := (if_neg c_4).symm.trans h
    refine lv_aload_n hx hb d_K_Needs_addByClasses_7 rfl (lv_at hl 0 rfl) ?_
    refine gf_Needs_31 hx hb hts hnw hown hw d_K_Needs_addByClasses_8 ?_
    refine lv_iload_n hx hb d_K_Needs_addByClasses_11 rfl (lv_at hl 1 rfl) ?_
    refine sk_callSNi (As := [.long (st.2 0 4), .int v1]) (rest := []) ⟨hx, hb, hml, hown, hts⟩ hw hnw hok (c_K_SF_has hok rfl) (cw_Needs_77 hts hnw (by decide)) rfl hl.1 rfl (Nat.le_of_ble_eq_true rfl) d_K_Needs_addByClasses_12 (fun H locs hw => ?_)
    have hJ49 : ∀ (st : sk_M) (v1 : Int32) (H : Heap) (locs : List Loc) (ls : Array Slot), K_Needs_addByClasses_J49 N self3 st v1 = some res → sk_w D (tyK cI cJ cC) A (ceK a cI cJ cC) s st H locs → lv_has ls 3 [(0, .ref (a 10)), (1, .int v1)] → W p l e rm_K_Needs_addByClasses s m args below meth c H locs 0 0 Q (F0 m 49 ls []) := by
      intro st v1 H locs ls h hw hl
      unfold K_Needs_addByClasses_J49 at h
      refine lv_aload_n hx hb d_K_Needs_addByClasses_49 rfl (lv_at hl 0 rfl) ?_
      refine gf_Needs_41 hx hb hts hnw hown hw d_K_Needs_addByClasses_50 ?_
      refine lv_iload_n hx hb d_K_Needs_addByClasses_53 rfl (lv_at hl 1 rfl) ?_
      refine sk_callSNi (As := [.long (st.2 0 6), .int v1]) (rest := []) ⟨hx, hb, hml, hown, hts⟩ hw hnw hok (c_K_SF_has hok rfl) (cw_Needs_77 hts hnw (by decide)) rfl hl.1 rfl (Nat.le_of_ble_eq_true rfl) d_K_Needs_addByClasses_54 (fun H locs hw => ?_)
      refine lv_if_eq (tgt := 123) hx hb d_K_Needs_addByClasses_57 (by decide) (fun c_57 => ?_) (fun c_57 => ?_)
      · have h := (if_pos c_57).symm.trans h
        refine lv_iinc (v := v1 + (-1)) (lv' := [(1, .int (v1 + (-1))), (0, .ref (a 10))]) hx hb d_K_Needs_addByClasses_123 hl (k := 1) rfl rfl (by decide) rfl (fun ls hl => ?_)
        refine lv_goto (tgt := 3) hx hb d_K_Needs_addByClasses_126 (by decide) ?_
        exact hself3 (st, (v1 + (-1))) h _ _ _ hw (lv_sub hl [1, 0] rfl)
      · have h := (if_neg c_57).symm.trans h
        refine lv_aload_n hx hb d_K_Needs_addByClasses_60 rfl (lv_at hl 0 rfl) ?_
        refine lv_dup hx hb d_K_Needs_addByClasses_61 rfl ?_
        refine gf_Needs_41 hx hb hts hnw hown hw d_K_Needs_addByClasses_62 ?_
        refine lv_aload_n hx hb d_K_Needs_addByClasses_65 rfl (lv_at hl 0 rfl) ?_
        refine gf_Needs_9 hx hb hts hnw hown hw d_K_Needs_addByClasses_66 ?_
        refine gf_Needs_141 hx hb hts hnw hown hw d_K_Needs_addByClasses_69 ?_
        refine lv_iload_n hx hb d_K_Needs_addByClasses_72 rfl (lv_at hl 1 rfl) ?_
        obtain ⟨x73, g_73, e_73, h⟩ := sk_rI_some h
        refine al_K39 hx hb hw g_73 e_73 d_K_Needs_addByClasses_73 ?_
        refine sk_callSNl (As := [.int x73]) (rest := [.long (st.2 0 6), .ref (a 10)]) ⟨hx, hb, hml, hown, hts⟩ hw hnw hok (c_K_SF_bit hok rfl) (cw_Needs_27 hts hnw (by decide)) rfl hl.1 rfl (Nat.le_of_ble_eq_true rfl) d_K_Needs_addByClasses_74 (fun H locs hw => ?_)
        refine lv_lor hx hb d_K_Needs_addByClasses_77 ?_
        obtain ⟨st78, e_78, h⟩ := sk_fL_some h
        refine pf_Needs_41 hx hb hts hnw hown hw e_78 d_K_Needs_addByClasses_78 (fun H locs hw => ?_)
        refine lv_aload_n hx hb d_K_Needs_addByClasses_81 rfl (lv_at hl 0 rfl) ?_
        refine gf_Needs_15 hx hb hts hnw hown hw d_K_Needs_addByClasses_82 ?_
        refine lv_iload_n hx hb d_K_Needs_addByClasses_85 rfl (lv_at hl 1 rfl) ?_
        refine lv_bipush (v := 30) hx hb d_K_Needs_addByClasses_86 (by decide) ?_
        obtain ⟨x88, q_88, h⟩ := sk_oR_some h
        refine sk_callVi (As := [.int v1, .int (30 : Int32)]) (rest := []) ⟨hx, hb, hml, hown, hts⟩ hw hnw hok (c_K_Members_at hok q_88) (cw_Needs_147 hts hnw (by decide)) (rc_K2 hw) rfl hl.1 rfl (Nat.le_of_ble_eq_true rfl) d_K_Needs_addByClasses_88 (fun H locs hw => ?_)
        refine lv_istore_n (lv' := [(2, .int x88), (0, .ref (a 10)), (1, .int v1)]) hx hb d_K_Needs_addByClasses_91 rfl hl (by decide) rfl (fun ls hl => ?_)
        refine lv_iload_n hx hb d_K_Needs_addByClasses_92 rfl (lv_at hl 0 rfl) ?_
        refine lv_bipush (v := -2) hx hb d_K_Needs_addByClasses_93 (by decide) ?_
        refine lv_icmp_eq (tgt := 123) hx hb d_K_Needs_addByClasses_95 (by decide) (fun c_95 => ?_) (fun c_95 => ?_)
        · have h := (if_pos c_95).symm.trans h
          refine lv_iinc (v := v1 + (-1)) (lv' := [(1, .int (v1 + (-1))), (2, .int x88), (0, .ref (a 10))]) hx hb d_K_Needs_addByClasses_123 hl (k := 2) rfl rfl (by decide) rfl (fun ls hl => ?_)
          refine lv_goto (tgt := 3) hx hb d_K_Needs_addByClasses_126 (by decide) ?_
          exact hself3 (st78, (v1 + (-1))) h _ _ _ hw (lv_sub hl [2, 0] rfl)
        · have h := (if_neg c_95).symm.trans h
          refine lv_aload_n hx hb d_K_Needs_addByClasses_98 rfl (lv_at hl 1 rfl) ?_
          refine gf_Needs_15 hx hb hts hnw hown hw d_K_Needs_addByClasses_99 ?_
          refine lv_iload_n hx hb d_K_Needs_addByClasses_102 rfl (lv_at hl 0 rfl) ?_
          refine lv_iconst (v := 2) hx hb d_K_Needs_addByClasses_103 (by decide) ?_
          obtain ⟨x104, q_104, h⟩ := sk_oR_some h
          refine sk_callVi (As := [.int x88, .int (2 : Int32)]) (rest := []) ⟨hx, hb, hml, hown, hts⟩ hw hnw hok (c_K_Members_hasFlag hok q_104) (cw_Needs_151 hts hnw (by decide)) (rc_K2 hw) rfl hl.1 rfl (Nat.le_of_ble_eq_true rfl) d_K_Needs_addByClasses_104 (fun H locs hw => ?_)
          refine lv_if_eq (tgt := 123) hx hb d_K_Needs_addByClasses_107 (by decide) (fun c_107 => ?_) (fun c_107 => ?_)
          · have h := (if_pos c_107).symm.trans h
            refine lv_iinc (v := v1 + (-1)) (lv' := [(1, .int (v1 + (-1))), (2, .int x88), (0, .ref (a 10))]) hx hb d_K_Needs_addByClasses_123 hl (k := 2) rfl rfl (by decide) rfl (fun ls hl => ?_)
            refine lv_goto (tgt := 3) hx hb d_K_Needs_addByClasses_126 (by decide) ?_
            exact hself3 (st78, (v1 + (-1))) h _ _ _ hw (lv_sub hl [2, 0] rfl)
          · have h := (if_neg c_107).symm.trans h
            refine lv_aload_n hx hb d_K_Needs_addByClasses_110 rfl (lv_at hl 1 rfl) ?_
            refine lv_dup hx hb d_K_Needs_addByClasses_111 rfl ?_
            refine gf_Needs_35 hx hb hts hnw hown hw d_K_Needs_addByClasses_112 ?_
            refine lv_iload_n hx hb d_K_Needs_addByClasses_115 rfl (lv_at hl 0 rfl) ?_
            refine sk_callSNl (As := [.int x88]) (rest := [.long (st78.2 0 7), .ref (a 10)]) ⟨hx, hb, hml, hown, hts⟩ hw hnw hok (c_K_SF_bit hok rfl) (cw_Needs_27 hts hnw (by decide)) rfl hl.1 rfl (Nat.le_of_ble_eq_true rfl) d_K_Needs_addByClasses_116 (fun H locs hw => ?_)
            refine lv_lor hx hb d_K_Needs_addByClasses_119 ?_
            obtain ⟨st120, e_120, h⟩ := sk_fL_some h
            refine pf_Needs_35 hx hb hts hnw hown hw e_120 d_K_Needs_addByClasses_120 (fun H locs hw => ?_)
            refine lv_iinc (v := v1 + (-1)) (lv' := [(1, .int (v1 + (-1))), (2, .int x88), (0, .ref (a 10))]) hx hb d_K_Needs_addByClasses_123 hl (k := 2) rfl rfl (by decide) rfl (fun ls hl => ?_)
            refine lv_goto (tgt := 3) hx hb d_K_Needs_addByClasses_126 (by decide) ?_
            exact hself3 (st120, (v1 + (-1))) h _ _ _ hw (lv_sub hl [2, 0] rfl)
    refine lv_if_eq (tgt := 49) hx hb d_K_Needs_addByClasses_15 (by decide) (fun c_15 => ?_) (fun c_15 => ?_)
    · have h := (if_pos c_15).symm.trans h
      exact hJ49 _ _ _ _ _ h hw (lv_sub hl [0, 1] rfl)
    · have h := (if_neg c_15).symm.trans h
      refine lv_aload_n hx hb d_K_Needs_addByClasses_18 rfl (lv_at hl 0 rfl) ?_
      refine lv_dup hx hb d_K_Needs_addByClasses_19 rfl ?_
      refine gf_Needs_31 hx hb hts hnw hown hw d_K_Needs_addByClasses_20 ?_
      refine lv_aload_n hx hb d_K_Needs_addByClasses_23 rfl (lv_at hl 0 rfl) ?_
      refine gf_Needs_9 hx hb hts hnw hown hw d_K_Needs_addByClasses_24 ?_
      refine gf_Needs_141 hx hb hts hnw hown hw d_K_Needs_addByClasses_27 ?_
      refine lv_iload_n hx hb d_K_Needs_addByClasses_30 rfl (lv_at hl 1 rfl) ?_
      obtain ⟨x31, g_31, e_31, h⟩ := sk_rI_some h
      refine al_K39 hx hb hw g_31 e_31 d_K_Needs_addByClasses_31 ?_
      refine sk_callSNl (As := [.int x31]) (rest := [.long (st.2 0 4), .ref (a 10)]) ⟨hx, hb, hml, hown, hts⟩ hw hnw hok (c_K_SF_bit hok rfl) (cw_Needs_27 hts hnw (by decide)) rfl hl.1 rfl (Nat.le_of_ble_eq_true rfl) d_K_Needs_addByClasses_32 (fun H locs hw => ?_)
      refine lv_aload_n hx hb d_K_Needs_addByClasses_35 rfl (lv_at hl 0 rfl) ?_
      refine gf_Needs_9 hx hb hts hnw hown hw d_K_Needs_addByClasses_36 ?_
      refine gf_Needs_144 hx hb hts hnw hown hw d_K_Needs_addByClasses_39 ?_
      refine lv_iload_n hx hb d_K_Needs_addByClasses_42 rfl (lv_at hl 1 rfl) ?_
      obtain ⟨x43, g_43, e_43, h⟩ := sk_rL_some h
      refine al_K40 hx hb hw g_43 e_43 d_K_Needs_addByClasses_43 ?_
      refine lv_lor hx hb d_K_Needs_addByClasses_44 ?_
      refine lv_lor hx hb d_K_Needs_addByClasses_45 ?_
      obtain ⟨st46, e_46, h⟩ := sk_fL_some h
      refine pf_Needs_31 hx hb hts hnw hown hw e_46 d_K_Needs_addByClasses_46 (fun H locs hw => ?_)
      exact hJ49 _ _ _ _ _ h hw (lv_sub hl [0, 1] rfl)
set_option maxHeartbeats 4000000 in
set_option maxRecDepth 100000 in
theorem c_K_Needs_work {l : Launch} {D : va_G} {A : Nat → Prop} {a : Nat → Nat} {cI cJ cC : ClassId} {adK adV : Nat → Nat} {N : Nat} {st : sk_M} {res : sk_M} (hok : sk_ok A (nwK A adK adV)) (h : K_Needs_work N st = some res) : sk_Cv l y_K_Needs_work w_K_Needs_work rm_K_Needs_work D (tyK cI cJ cC) A (ceK a cI cJ cC) (nwK A adK adV) [.ref (a 10)] st res := by
  refine sk_headv (by decide) rfl (Nat.le_of_ble_eq_true rfl) ?_
  intro p e s m args below meth c Q hx hb hml hown hts0 hnw hret ls hl hw
  have hts : ∀ w ∈ TB, w.before args s = true := fun w h => hts0 w (List.mem_cons_of_mem _ h)
  have hown : s.vm.findClass R_Needs = some m.cls := hown
  have hl : lv_has ls 3 [(0, .ref (a 10))] := hl
  unfold K_Needs_work at h
  refine lv_aload_n hx hb d_K_Needs_work_0 rfl (lv_at hl 0 rfl) ?_
  refine lv_iconst (v := 0) hx hb d_K_Needs_work_1 (by decide) ?_
  refine sk_callSNl (As := [.int (0 : Int32)]) (rest := [.ref (a 10)]) ⟨hx, hb, hml, hown, hts⟩ hw hnw hok (c_K_SF_bit hok rfl) (cw_Needs_27 hts hnw (by decide)) rfl hl.1 rfl (Nat.le_of_ble_eq_true rfl) d_K_Needs_work_2 (fun H locs hw => ?_)
  obtain ⟨st5, e_5, h⟩ := sk_fL_some h
  refine pf_Needs_31 hx hb hts hnw hown hw e_5 d_K_Needs_work_5 (fun H locs hw => ?_)
  refine lv_aload_n hx hb d_K_Needs_work_8 rfl (lv_at hl 0 rfl) ?_
  refine lv_iconst (v := 0) hx hb d_K_Needs_work_9 (by decide) ?_
  refine sk_callSNl (As := [.int (0 : Int32)]) (rest := [.ref (a 10)]) ⟨hx, hb, hml, hown, hts⟩ hw hnw hok (c_K_SF_bit hok rfl) (cw_Needs_27 hts hnw (by decide)) rfl hl.1 rfl (Nat.le_of_ble_eq_true rfl) d_K_Needs_work_10 (fun H locs hw => ?_)
  obtain ⟨st13, e_13, h⟩ := sk_fL_some h
  refine pf_Needs_35 hx hb hts hnw hown hw e_13 d_K_Needs_work_13 (fun H locs hw => ?_)
  refine lv_aload_n hx hb d_K_Needs_work_16 rfl (lv_at hl 0 rfl) ?_
  refine lv_lconst (v := 0) hx hb d_K_Needs_work_17 (by decide) ?_
  obtain ⟨st18, e_18, h⟩ := sk_fL_some h
  refine pf_Needs_38 hx hb hts hnw hown hw e_18 d_K_Needs_work_18 (fun H locs hw => ?_)
  refine lv_aload_n hx hb d_K_Needs_work_21 rfl (lv_at hl 0 rfl) ?_
  refine lv_lconst (v := 0) hx hb d_K_Needs_work_22 (by decide) ?_
  obtain ⟨st23, e_23, h⟩ := sk_fL_some h
  refine pf_Needs_41 hx hb hts hnw hown hw e_23 d_K_Needs_work_23 (fun H locs hw => ?_)
  refine lv_aload_n hx hb d_K_Needs_work_26 rfl (lv_at hl 0 rfl) ?_
  obtain ⟨st27, q_27, h⟩ := sk_oR_some h
  refine sk_callVv (As := []) (rest := []) ⟨hx, hb, hml, hown, hts⟩ hw hnw hok (c_K_Needs_addKept hok q_27) (cw_Needs_44 hts hnw (by decide)) (rc_K10 hw) rfl hl.1 rfl (Nat.le_of_ble_eq_true rfl) d_K_Needs_work_27 (fun H locs hw => ?_)
  refine lv_iconst (v := 0) hx hb d_K_Needs_work_30 (by decide) ?_
  refine lv_istore_n (lv' := [(1, .int (0 : Int32)), (0, .ref (a 10))]) hx hb d_K_Needs_work_31 rfl hl (by decide) rfl (fun ls hl => ?_)
  refine lv_iconst (v := 0) hx hb d_K_Needs_work_32 (by decide) ?_
  refine lv_istore_n (lv' := [(2, .int (0 : Int32)), (1, .int (0 : Int32)), (0, .ref (a 10))]) hx hb d_K_Needs_work_33 rfl hl (by decide) rfl (fun ls hl => ?_)
  refine sk_lp_run (G := fun (z : sk_M × Int32 × Int32) => ∀ (H : Heap) (locs : List Loc) (ls : Array Slot), sk_w D (tyK cI cJ cC) A (ceK a cI cJ cC) s z.1 H locs → lv_has ls 3 [(0, .ref (a 10)), (1, .int z.2.1), (2, .int z.2.2)] → W p l e rm_K_Needs_work s m args below meth c H locs 0 0 Q (F0 m 34 ls [])) ?_ N _ h _ _ _ hw (lv_sub hl [2, 1, 0] rfl)
  rintro self34 ⟨st, v1, v2⟩ hself34 h H locs ls hw hl
  unfold K_Needs_work_L34 at h
  refine lv_iload_n hx hb d_K_Needs_work_34 rfl (lv_at hl 2 rfl) ?_
  refine lv_bipush (v := 71) hx hb d_K_Needs_work_35 (by decide) ?_
  refine lv_icmp_ge (tgt := 82) hx hb d_K_Needs_work_37 (by decide) (fun c_37 => ?_) (fun c_37 => ?_)
  · have h := (if_pos c_37).symm.trans h
    exact hret _ _ _ _ _ (Option.some.inj h) hw d_K_Needs_work_82
  · have h := (if_neg c_37).symm.trans h
    refine lv_iload_n hx hb d_K_Needs_work_40 rfl (lv_at hl 1 rfl) ?_
    refine lv_aload_n hx hb d_K_Needs_work_41 rfl (lv_at hl 0 rfl) ?_
    refine sk_callVi (As := []) (rest := [.int v1]) ⟨hx, hb, hml, hown, hts⟩ hw hnw hok (c_K_Needs_size hok rfl) (cw_Needs_47 hts hnw (by decide)) (rc_K10 hw) rfl hl.1 rfl (Nat.le_of_ble_eq_true rfl) d_K_Needs_work_42 (fun H locs hw => ?_)
    refine lv_icmp_ge (tgt := 82) hx hb d_K_Needs_work_45 (by decide) (fun c_45 => ?_) (fun c_45 => ?_)
    · have h := (if_pos c_45).symm.trans h
      exact hret _ _ _ _ _ (Option.some.inj h) hw d_K_Needs_work_82
    · have h := (if_neg c_45).symm.trans h
      refine lv_aload_n hx hb d_K_Needs_work_48 rfl (lv_at hl 0 rfl) ?_
      refine sk_callVi (As := []) (rest := []) ⟨hx, hb, hml, hown, hts⟩ hw hnw hok (c_K_Needs_size hok rfl) (cw_Needs_47 hts hnw (by decide)) (rc_K10 hw) rfl hl.1 rfl (Nat.le_of_ble_eq_true rfl) d_K_Needs_work_49 (fun H locs hw => ?_)
      refine lv_istore_n (lv' := [(1, .int (K_Needs_size st)), (0, .ref (a 10)), (2, .int v2)]) hx hb d_K_Needs_work_52 rfl hl (by decide) rfl (fun ls hl => ?_)
      refine lv_aload_n hx hb d_K_Needs_work_53 rfl (lv_at hl 1 rfl) ?_
      obtain ⟨st54, q_54, h⟩ := sk_oR_some h
      refine sk_callVv (As := []) (rest := []) ⟨hx, hb, hml, hown, hts⟩ hw hnw hok (c_K_Needs_addByKeepMembers hok q_54) (cw_Needs_51 hts hnw (by decide)) (rc_K10 hw) rfl hl.1 rfl (Nat.le_of_ble_eq_true rfl) d_K_Needs_work_54 (fun H locs hw => ?_)
      refine lv_aload_n hx hb d_K_Needs_work_57 rfl (lv_at hl 1 rfl) ?_
      obtain ⟨st58, q_58, h⟩ := sk_oR_some h
      refine sk_callVv (As := []) (rest := []) ⟨hx, hb, hml, hown, hts⟩ hw hnw hok (c_K_Needs_addByMembers hok q_58) (cw_Needs_54 hts hnw (by decide)) (rc_K10 hw) rfl hl.1 rfl (Nat.le_of_ble_eq_true rfl) d_K_Needs_work_58 (fun H locs hw => ?_)
      refine lv_aload_n hx hb d_K_Needs_work_61 rfl (lv_at hl 1 rfl) ?_
      obtain ⟨st62, q_62, h⟩ := sk_oR_some h
      refine sk_callVv (As := []) (rest := []) ⟨hx, hb, hml, hown, hts⟩ hw hnw hok (c_K_Needs_addByReferences hok q_62) (cw_Needs_57 hts hnw (by decide)) (rc_K10 hw) rfl hl.1 rfl (Nat.le_of_ble_eq_true rfl) d_K_Needs_work_62 (fun H locs hw => ?_)
      refine lv_aload_n hx hb d_K_Needs_work_65 rfl (lv_at hl 1 rfl) ?_
      refine lv_iconst (v := 0) hx hb d_K_Needs_work_66 (by decide) ?_
      refine lv_bipush (v := 16) hx hb d_K_Needs_work_67 (by decide) ?_
      obtain ⟨st69, q_69, h⟩ := sk_oR_some h
      refine sk_callVv (As := [.int (0 : Int32), .int (16 : Int32)]) (rest := []) ⟨hx, hb, hml, hown, hts⟩ hw hnw hok (c_K_Needs_addSelected hok q_69) (cw_Needs_60 hts hnw (by decide)) (rc_K10 hw) rfl hl.1 rfl (Nat.le_of_ble_eq_true rfl) d_K_Needs_work_69 (fun H locs hw => ?_)
      refine lv_aload_n hx hb d_K_Needs_work_72 rfl (lv_at hl 1 rfl) ?_
      obtain ⟨st73, q_73, h⟩ := sk_oR_some h
      refine sk_callVv (As := []) (rest := []) ⟨hx, hb, hml, hown, hts⟩ hw hnw hok (c_K_Needs_addByClasses hok q_73) (cw_Needs_64 hts hnw (by decide)) (rc_K10 hw) rfl hl.1 rfl (Nat.le_of_ble_eq_true rfl) d_K_Needs_work_73 (fun H locs hw => ?_)
      refine lv_iinc (v := v2 + 1) (lv' := [(2, .int (v2 + 1)), (1, .int (K_Needs_size st)), (0, .ref (a 10))]) hx hb d_K_Needs_work_76 hl (k := 2) rfl rfl (by decide) rfl (fun ls hl => ?_)
      refine lv_goto (tgt := 34) hx hb d_K_Needs_work_79 (by decide) ?_
      exact hself34 (st73, (K_Needs_size st), (v2 + 1)) h _ _ _ hw (lv_sub hl [2, 1, 0] rfl)
set_option maxHeartbeats 4000000 in
set_option maxRecDepth 100000 in
theorem c_K_SF_asNumber {l : Launch} {D : va_G} {A : Nat → Prop} {a : Nat → Nat} {cI cJ cC : ClassId} {adK adV : Nat → Nat} {st : sk_M} {v0 : Int32} {res : Int32} (hok : sk_ok A (nwK A adK adV)) (h : K_SF_asNumber v0 = res) : sk_Ci l y_K_SF_asNumber w_K_SF_asNumber rm_K_SF_asNumber D (tyK cI cJ cC) A (ceK a cI cJ cC) (nwK A adK adV) [.int v0] st res st := by
  refine sk_headi .int (by decide) rfl (Nat.le_of_ble_eq_true rfl) ?_
  intro p e s m args below meth c Q hx hb hml hown hts0 hnw hret ls hl hw
  have hts : ∀ w ∈ TB, w.before args s = true := fun w h => hts0 w (List.mem_cons_of_mem _ h)
  have hown : s.vm.findClass R_SF = some m.cls := hown
  have hl : lv_has ls 1 [(0, .int v0)] := hl
  unfold K_SF_asNumber at h
  refine lv_iload_n hx hb d_K_SF_asNumber_0 rfl (lv_at hl 0 rfl) ?_
  refine lv_if_eq (tgt := 8) hx hb d_K_SF_asNumber_1 (by decide) (fun c_1 => ?_) (fun c_1 => ?_)
  · have h := (if_pos c_1).symm.trans h
    refine lv_iconst (v := 0) hx hb d_K_SF_asNumber_8 (by decide) ?_
    exact hret _ _ _ _ _ _ h rfl (vp_nar_int _) hw d_K_SF_asNumber_9
  · have h := (if_neg c_1).symm.trans h
    refine lv_iconst (v := 1) hx hb d_K_SF_asNumber_4 (by decide) ?_
    refine lv_goto (tgt := 9) hx hb d_K_SF_asNumber_5 (by decide) ?_
    exact hret _ _ _ _ _ _ h rfl (vp_nar_int _) hw d_K_SF_asNumber_9
set_option maxHeartbeats 4000000 in
set_option maxRecDepth 100000 in
theorem c_K_Needs_countReferences {l : Launch} {D : va_G} {A : Nat → Prop} {a : Nat → Nat} {cI cJ cC : ClassId} {adK adV : Nat → Nat} {N : Nat} {st : sk_M} {res : Int32} (hok : sk_ok A (nwK A adK adV)) (h : K_Needs_countReferences N st = some res) : sk_Ci l y_K_Needs_countReferences w_K_Needs_countReferences rm_K_Needs_countReferences D (tyK cI cJ cC) A (ceK a cI cJ cC) (nwK A adK adV) [.ref (a 10)] st res st := by
  refine sk_headi .int (by decide) rfl (Nat.le_of_ble_eq_true rfl) ?_
  intro p e s m args below meth c Q hx hb hml hown hts0 hnw hret ls hl hw
  have hts : ∀ w ∈ TB, w.before args s = true := fun w h => hts0 w (List.mem_cons_of_mem _ h)
  have hown : s.vm.findClass R_Needs = some m.cls := hown
  have hl : lv_has ls 3 [(0, .ref (a 10))] := hl
  unfold K_Needs_countReferences at h
  refine lv_iconst (v := 0) hx hb d_K_Needs_countReferences_0 (by decide) ?_
  refine lv_istore_n (lv' := [(1, .int (0 : Int32)), (0, .ref (a 10))]) hx hb d_K_Needs_countReferences_1 rfl hl (by decide) rfl (fun ls hl => ?_)
  refine lv_iconst (v := 0) hx hb d_K_Needs_countReferences_2 (by decide) ?_
  refine lv_istore_n (lv' := [(2, .int (0 : Int32)), (1, .int (0 : Int32)), (0, .ref (a 10))]) hx hb d_K_Needs_countReferences_3 rfl hl (by decide) rfl (fun ls hl => ?_)
  refine sk_lp_run (G := fun (z : Int32 × Int32) => ∀ (H : Heap) (locs : List Loc) (ls : Array Slot), sk_w D (tyK cI cJ cC) A (ceK a cI cJ cC) s st H locs → lv_has ls 3 [(0, .ref (a 10)), (1, .int z.1), (2, .int z.2)] → W p l e rm_K_Needs_countReferences s m args below meth c H locs 0 0 Q (F0 m 4 ls [])) ?_ N _ h _ _ _ hw (lv_sub hl [2, 1, 0] rfl)
  rintro self4 ⟨v1, v2⟩ hself4 h H locs ls hw hl
  unfold K_Needs_countReferences_L4 at h
  refine lv_iload_n hx hb d_K_Needs_countReferences_4 rfl (lv_at hl 2 rfl) ?_
  refine lv_aload_n hx hb d_K_Needs_countReferences_5 rfl (lv_at hl 0 rfl) ?_
  refine gf_Needs_19 hx hb hts hnw hown hw d_K_Needs_countReferences_6 ?_
  refine gf_Needs_67 hx hb hts hnw hown hw d_K_Needs_countReferences_9 ?_
  refine lv_icmp_ge (tgt := 43) hx hb d_K_Needs_countReferences_12 (by decide) (fun c_12 => ?_) (fun c_12 => ?_)
  · have h := (if_pos c_12).symm.trans h
    refine lv_iload_n hx hb d_K_Needs_countReferences_43 rfl (lv_at hl 1 rfl) ?_
    exact hret _ _ _ _ _ _ (Option.some.inj h) rfl (vp_nar_int _) hw d_K_Needs_countReferences_44
  · have h := (if_neg c_12).symm.trans h
    refine lv_iload_n hx hb d_K_Needs_countReferences_15 rfl (lv_at hl 1 rfl) ?_
    refine lv_aload_n hx hb d_K_Needs_countReferences_16 rfl (lv_at hl 0 rfl) ?_
    refine gf_Needs_35 hx hb hts hnw hown hw d_K_Needs_countReferences_17 ?_
    refine lv_aload_n hx hb d_K_Needs_countReferences_20 rfl (lv_at hl 0 rfl) ?_
    refine gf_Needs_19 hx hb hts hnw hown hw d_K_Needs_countReferences_21 ?_
    refine gf_Needs_73 hx hb hts hnw hown hw d_K_Needs_countReferences_24 ?_
    refine lv_iload_n hx hb d_K_Needs_countReferences_27 rfl (lv_at hl 2 rfl) ?_
    obtain ⟨x28, g_28, e_28, h⟩ := sk_rI_some h
    refine al_K23 hx hb hw g_28 e_28 d_K_Needs_countReferences_28 ?_
    refine sk_callSNi (As := [.long (st.2 0 7), .int x28]) (rest := [.int v1]) ⟨hx, hb, hml, hown, hts⟩ hw hnw hok (c_K_SF_has hok rfl) (cw_Needs_77 hts hnw (by decide)) rfl hl.1 rfl (Nat.le_of_ble_eq_true rfl) d_K_Needs_countReferences_29 (fun H locs hw => ?_)
    refine sk_callSNi (As := [.int (K_SF_has (st.2 0 7) x28)]) (rest := [.int v1]) ⟨hx, hb, hml, hown, hts⟩ hw hnw hok (c_K_SF_asNumber hok rfl) (cw_Needs_81 hts hnw (by decide)) rfl hl.1 rfl (Nat.le_of_ble_eq_true rfl) d_K_Needs_countReferences_32 (fun H locs hw => ?_)
    refine lv_iadd hx hb d_K_Needs_countReferences_35 ?_
    refine lv_istore_n (lv' := [(1, .int (v1 + (K_SF_asNumber (K_SF_has (st.2 0 7) x28)))), (0, .ref (a 10)), (2, .int v2)]) hx hb d_K_Needs_countReferences_36 rfl hl (by decide) rfl (fun ls hl => ?_)
    refine lv_iinc (v := v2 + 1) (lv' := [(2, .int (v2 + 1)), (1, .int (v1 + (K_SF_asNumber (K_SF_has (st.2 0 7) x28)))), (0, .ref (a 10))]) hx hb d_K_Needs_countReferences_37 hl (k := 2) rfl rfl (by decide) rfl (fun ls hl => ?_)
    refine lv_goto (tgt := 4) hx hb d_K_Needs_countReferences_40 (by decide) ?_
    exact hself4 ((v1 + (K_SF_asNumber (K_SF_has (st.2 0 7) x28))), (v2 + 1)) h _ _ _ hw (lv_sub hl [2, 1, 0] rfl)
set_option maxHeartbeats 4000000 in
set_option maxRecDepth 100000 in
theorem c_K_Types_isThere {l : Launch} {D : va_G} {A : Nat → Prop} {a : Nat → Nat} {cI cJ cC : ClassId} {adK adV : Nat → Nat} {st : sk_M} {v1 : Int32} {res : Int32} (hok : sk_ok A (nwK A adK adV)) (h : K_Types_isThere st v1 = res) : sk_Ci l y_K_Types_isThere w_K_Types_isThere rm_K_Types_isThere D (tyK cI cJ cC) A (ceK a cI cJ cC) (nwK A adK adV) [.ref (a 1), .int v1] st res st := by
  refine sk_headi .boolean (by decide) rfl (Nat.le_of_ble_eq_true rfl) ?_
  intro p e s m args below meth c Q hx hb hml hown hts0 hnw hret ls hl hw
  have hts : ∀ w ∈ TB, w.before args s = true := fun w h => hts0 w (List.mem_cons_of_mem _ h)
  have hown : s.vm.findClass R_Types = some m.cls := hown
  have hl : lv_has ls 2 [(0, .ref (a 1)), (1, .int v1)] := hl
  unfold K_Types_isThere at h
  refine lv_aload_n hx hb d_K_Types_isThere_0 rfl (lv_at hl 0 rfl) ?_
  refine gf_Types_44 hx hb hts hnw hown hw d_K_Types_isThere_1 ?_
  refine lv_iload_n hx hb d_K_Types_isThere_4 rfl (lv_at hl 1 rfl) ?_
  refine sk_callSNi (As := [.long (st.2 0 11), .int v1]) (rest := []) ⟨hx, hb, hml, hown, hts⟩ hw hnw hok (c_K_SF_has hok rfl) (cw_Types_53 hts hnw (by decide)) rfl hl.1 rfl (Nat.le_of_ble_eq_true rfl) d_K_Types_isThere_5 (fun H locs hw => ?_)
  exact hret _ _ _ _ _ _ h rfl (congrArg Value.int (bz_K_SF_has _ _)) hw d_K_Types_isThere_8
set_option maxHeartbeats 4000000 in
set_option maxRecDepth 100000 in
theorem c_K_Needs_countMisses {l : Launch} {D : va_G} {A : Nat → Prop} {a : Nat → Nat} {cI cJ cC : ClassId} {adK adV : Nat → Nat} {N : Nat} {st : sk_M} {res : Int32} (hok : sk_ok A (nwK A adK adV)) (h : K_Needs_countMisses N st = some res) : sk_Ci l y_K_Needs_countMisses w_K_Needs_countMisses rm_K_Needs_countMisses D (tyK cI cJ cC) A (ceK a cI cJ cC) (nwK A adK adV) [.ref (a 10)] st res st := by
  refine sk_headi .int (by decide) rfl (Nat.le_of_ble_eq_true rfl) ?_
  intro p e s m args below meth c Q hx hb hml hown hts0 hnw hret ls hl hw
  have hts : ∀ w ∈ TB, w.before args s = true := fun w h => hts0 w (List.mem_cons_of_mem _ h)
  have hown : s.vm.findClass R_Needs = some m.cls := hown
  have hl : lv_has ls 4 [(0, .ref (a 10))] := hl
  unfold K_Needs_countMisses at h
  refine lv_iconst (v := 0) hx hb d_K_Needs_countMisses_0 (by decide) ?_
  refine lv_istore_n (lv' := [(1, .int (0 : Int32)), (0, .ref (a 10))]) hx hb d_K_Needs_countMisses_1 rfl hl (by decide) rfl (fun ls hl => ?_)
  refine lv_iconst (v := 0) hx hb d_K_Needs_countMisses_2 (by decide) ?_
  refine lv_istore_n (lv' := [(2, .int (0 : Int32)), (1, .int (0 : Int32)), (0, .ref (a 10))]) hx hb d_K_Needs_countMisses_3 rfl hl (by decide) rfl (fun ls hl => ?_)
  refine sk_lp_run (G := fun (z : Int32 × Int32) => ∀ (H : Heap) (locs : List Loc) (ls : Array Slot), sk_w D (tyK cI cJ cC) A (ceK a cI cJ cC) s st H locs → lv_has ls 4 [(0, .ref (a 10)), (1, .int z.1), (2, .int z.2)] → W p l e rm_K_Needs_countMisses s m args below meth c H locs 0 0 Q (F0 m 4 ls [])) ?_ N _ h _ _ _ hw (lv_sub hl [2, 1, 0] rfl)
  rintro self4 ⟨v1, v2⟩ hself4 h H locs ls hw hl
  unfold K_Needs_countMisses_L4 at h
  refine lv_iload_n hx hb d_K_Needs_countMisses_4 rfl (lv_at hl 2 rfl) ?_
  refine lv_aload_n hx hb d_K_Needs_countMisses_5 rfl (lv_at hl 0 rfl) ?_
  refine gf_Needs_19 hx hb hts hnw hown hw d_K_Needs_countMisses_6 ?_
  refine gf_Needs_67 hx hb hts hnw hown hw d_K_Needs_countMisses_9 ?_
  refine lv_icmp_ge (tgt := 130) hx hb d_K_Needs_countMisses_12 (by decide) (fun c_12 => ?_) (fun c_12 => ?_)
  · have h := (if_pos c_12).symm.trans h
    refine lv_iload_n hx hb d_K_Needs_countMisses_130 rfl (lv_at hl 1 rfl) ?_
    exact hret _ _ _ _ _ _ (Option.some.inj h) rfl (vp_nar_int _) hw d_K_Needs_countMisses_131
  · have h := (if_neg c_12).symm.trans h
    refine lv_aload_n hx hb d_K_Needs_countMisses_15 rfl (lv_at hl 0 rfl) ?_
    refine gf_Needs_35 hx hb hts hnw hown hw d_K_Needs_countMisses_16 ?_
    refine lv_aload_n hx hb d_K_Needs_countMisses_19 rfl (lv_at hl 0 rfl) ?_
    refine gf_Needs_19 hx hb hts hnw hown hw d_K_Needs_countMisses_20 ?_
    refine gf_Needs_73 hx hb hts hnw hown hw d_K_Needs_countMisses_23 ?_
    refine lv_iload_n hx hb d_K_Needs_countMisses_26 rfl (lv_at hl 2 rfl) ?_
    obtain ⟨x27, g_27, e_27, h⟩ := sk_rI_some h
    refine al_K23 hx hb hw g_27 e_27 d_K_Needs_countMisses_27 ?_
    refine sk_callSNi (As := [.long (st.2 0 7), .int x27]) (rest := []) ⟨hx, hb, hml, hown, hts⟩ hw hnw hok (c_K_SF_has hok rfl) (cw_Needs_77 hts hnw (by decide)) rfl hl.1 rfl (Nat.le_of_ble_eq_true rfl) d_K_Needs_countMisses_28 (fun H locs hw => ?_)
    refine lv_if_eq (tgt := 124) hx hb d_K_Needs_countMisses_31 (by decide) (fun c_31 => ?_) (fun c_31 => ?_)
    · have h := (if_pos c_31).symm.trans h
      refine lv_iinc (v := v2 + 1) (lv' := [(2, .int (v2 + 1)), (0, .ref (a 10)), (1, .int v1)]) hx hb d_K_Needs_countMisses_124 hl (k := 2) rfl rfl (by decide) rfl (fun ls hl => ?_)
      refine lv_goto (tgt := 4) hx hb d_K_Needs_countMisses_127 (by decide) ?_
      exact hself4 (v1, (v2 + 1)) h _ _ _ hw (lv_sub hl [1, 2, 0] rfl)
    · have h := (if_neg c_31).symm.trans h
      refine lv_aload_n hx hb d_K_Needs_countMisses_34 rfl (lv_at hl 0 rfl) ?_
      refine gf_Needs_19 hx hb hts hnw hown hw d_K_Needs_countMisses_35 ?_
      refine gf_Needs_85 hx hb hts hnw hown hw d_K_Needs_countMisses_38 ?_
      refine lv_iload_n hx hb d_K_Needs_countMisses_41 rfl (lv_at hl 2 rfl) ?_
      obtain ⟨x42, g_42, e_42, h⟩ := sk_rI_some h
      refine al_K24 hx hb hw g_42 e_42 d_K_Needs_countMisses_42 ?_
      refine lv_iconst (v := 2) hx hb d_K_Needs_countMisses_43 (by decide) ?_
      have hJ108 : ∀ (v1 : Int32) (v2 : Int32) (s0 : Int32) (H : Heap) (locs : List Loc) (ls : Array Slot), K_Needs_countMisses_J108 N st self4 v1 v2 s0 = some res → sk_w D (tyK cI cJ cC) A (ceK a cI cJ cC) s st H locs → lv_has ls 4 [(0, .ref (a 10)), (1, .int v1), (2, .int v2)] → W p l e rm_K_Needs_countMisses s m args below meth c H locs 0 0 Q (F0 m 108 ls [.int s0]) := by
        intro v1 v2 s0 H locs ls h hw hl
        unfold K_Needs_countMisses_J108 at h
        refine lv_istore_n (lv' := [(3, .int s0), (0, .ref (a 10)), (1, .int v1), (2, .int v2)]) hx hb d_K_Needs_countMisses_108 rfl hl (by decide) rfl (fun ls hl => ?_)
        refine lv_iload_n hx hb d_K_Needs_countMisses_109 rfl (lv_at hl 2 rfl) ?_
        refine lv_iload_n hx hb d_K_Needs_countMisses_110 rfl (lv_at hl 0 rfl) ?_
        have hJ119 : ∀ (v2 : Int32) (s0 : Int32) (s1 : Int32) (H : Heap) (locs : List Loc) (ls : Array Slot), K_Needs_countMisses_J119 N st self4 v2 s0 s1 = some res → sk_w D (tyK cI cJ cC) A (ceK a cI cJ cC) s st H locs → lv_has ls 4 [(0, .ref (a 10)), (2, .int v2)] → W p l e rm_K_Needs_countMisses s m args below meth c H locs 0 0 Q (F0 m 119 ls [.int s1, .int s0]) := by
          intro v2 s0 s1 H locs ls h hw hl
          unfold K_Needs_countMisses_J119 at h
          refine sk_callSNi (As := [.int s1]) (rest := [.int s0]) ⟨hx, hb, hml, hown, hts⟩ hw hnw hok (c_K_SF_asNumber hok rfl) (cw_Needs_81 hts hnw (by decide)) rfl hl.1 rfl (Nat.le_of_ble_eq_true rfl) d_K_Needs_countMisses_119 (fun H locs hw => ?_)
          refine lv_iadd hx hb d_K_Needs_countMisses_122 ?_
          refine lv_istore_n (lv' := [(1, .int (s0 + (K_SF_asNumber s1))), (0, .ref (a 10)), (2, .int v2)]) hx hb d_K_Needs_countMisses_123 rfl hl (by decide) rfl (fun ls hl => ?_)
          refine lv_iinc (v := v2 + 1) (lv' := [(2, .int (v2 + 1)), (1, .int (s0 + (K_SF_asNumber s1))), (0, .ref (a 10))]) hx hb d_K_Needs_countMisses_124 hl (k := 2) rfl rfl (by decide) rfl (fun ls hl => ?_)
          refine lv_goto (tgt := 4) hx hb d_K_Needs_countMisses_127 (by decide) ?_
          exact hself4 ((s0 + (K_SF_asNumber s1)), (v2 + 1)) h _ _ _ hw (lv_sub hl [2, 1, 0] rfl)
        refine lv_if_ne (tgt := 118) hx hb d_K_Needs_countMisses_111 (by decide) (fun c_111 => ?_) (fun c_111 => ?_)
        · have h := (if_neg c_111).symm.trans h
          refine lv_iconst (v := 0) hx hb d_K_Needs_countMisses_118 (by decide) ?_
          exact hJ119 _ _ _ _ _ _ h hw (lv_sub hl [1, 3] rfl)
        · have h := (if_pos c_111).symm.trans h
          refine lv_iconst (v := 1) hx hb d_K_Needs_countMisses_114 (by decide) ?_
          refine lv_goto (tgt := 119) hx hb d_K_Needs_countMisses_115 (by decide) ?_
          exact hJ119 _ _ _ _ _ _ h hw (lv_sub hl [1, 3] rfl)
      refine lv_icmp_ge (tgt := 66) hx hb d_K_Needs_countMisses_44 (by decide) (fun c_44 => ?_) (fun c_44 => ?_)
      · have h := (if_pos c_44).symm.trans h
        refine lv_aload_n hx hb d_K_Needs_countMisses_66 rfl (lv_at hl 0 rfl) ?_
        refine gf_Needs_15 hx hb hts hnw hown hw d_K_Needs_countMisses_67 ?_
        refine lv_aload_n hx hb d_K_Needs_countMisses_70 rfl (lv_at hl 0 rfl) ?_
        refine gf_Needs_19 hx hb hts hnw hown hw d_K_Needs_countMisses_71 ?_
        refine gf_Needs_88 hx hb hts hnw hown hw d_K_Needs_countMisses_74 ?_
        refine lv_iload_n hx hb d_K_Needs_countMisses_77 rfl (lv_at hl 2 rfl) ?_
        obtain ⟨x78, g_78, e_78, h⟩ := sk_rI_some h
        refine al_K25 hx hb hw g_78 e_78 d_K_Needs_countMisses_78 ?_
        refine lv_aload_n hx hb d_K_Needs_countMisses_79 rfl (lv_at hl 0 rfl) ?_
        refine gf_Needs_19 hx hb hts hnw hown hw d_K_Needs_countMisses_80 ?_
        refine gf_Needs_97 hx hb hts hnw hown hw d_K_Needs_countMisses_83 ?_
        refine lv_iload_n hx hb d_K_Needs_countMisses_86 rfl (lv_at hl 2 rfl) ?_
        obtain ⟨x87, g_87, e_87, h⟩ := sk_rI_some h
        refine al_K26 hx hb hw g_87 e_87 d_K_Needs_countMisses_87 ?_
        refine lv_aload_n hx hb d_K_Needs_countMisses_88 rfl (lv_at hl 0 rfl) ?_
        refine gf_Needs_15 hx hb hts hnw hown hw d_K_Needs_countMisses_89 ?_
        refine gf_Needs_100 hx hb hts hnw hown hw d_K_Needs_countMisses_92 ?_
        obtain ⟨x95, q_95, h⟩ := sk_oR_some h
        refine sk_callVi (As := [.int x78, .int x87, .long (st.2 0 0)]) (rest := []) ⟨hx, hb, hml, hown, hts⟩ hw hnw hok (c_K_Members_find hok q_95) (cw_Needs_105 hts hnw (by decide)) (rc_K2 hw) rfl hl.1 rfl (Nat.le_of_ble_eq_true rfl) d_K_Needs_countMisses_95 (fun H locs hw => ?_)
        refine lv_bipush (v := -2) hx hb d_K_Needs_countMisses_98 (by decide) ?_
        refine lv_icmp_eq (tgt := 107) hx hb d_K_Needs_countMisses_100 (by decide) (fun c_100 => ?_) (fun c_100 => ?_)
        · have h := (if_pos c_100).symm.trans h
          refine lv_iconst (v := 0) hx hb d_K_Needs_countMisses_107 (by decide) ?_
          exact hJ108 _ _ _ _ _ _ h hw (lv_sub hl [0, 1, 2] rfl)
        · have h := (if_neg c_100).symm.trans h
          refine lv_iconst (v := 1) hx hb d_K_Needs_countMisses_103 (by decide) ?_
          refine lv_goto (tgt := 108) hx hb d_K_Needs_countMisses_104 (by decide) ?_
          exact hJ108 _ _ _ _ _ _ h hw (lv_sub hl [0, 1, 2] rfl)
      · have h := (if_neg c_44).symm.trans h
        refine lv_aload_n hx hb d_K_Needs_countMisses_47 rfl (lv_at hl 0 rfl) ?_
        refine gf_Needs_9 hx hb hts hnw hown hw d_K_Needs_countMisses_48 ?_
        refine lv_aload_n hx hb d_K_Needs_countMisses_51 rfl (lv_at hl 0 rfl) ?_
        refine gf_Needs_19 hx hb hts hnw hown hw d_K_Needs_countMisses_52 ?_
        refine gf_Needs_88 hx hb hts hnw hown hw d_K_Needs_countMisses_55 ?_
        refine lv_iload_n hx hb d_K_Needs_countMisses_58 rfl (lv_at hl 2 rfl) ?_
        obtain ⟨x59, g_59, e_59, h⟩ := sk_rI_some h
        refine al_K25 hx hb hw g_59 e_59 d_K_Needs_countMisses_59 ?_
        refine sk_callVi (As := [.int x59]) (rest := []) ⟨hx, hb, hml, hown, hts⟩ hw hnw hok (c_K_Types_isThere hok rfl) (cw_Needs_91 hts hnw (by decide)) (rc_K1 hw) rfl hl.1 rfl (Nat.le_of_ble_eq_true rfl) d_K_Needs_countMisses_60 (fun H locs hw => ?_)
        refine lv_goto (tgt := 108) hx hb d_K_Needs_countMisses_63 (by decide) ?_
        exact hJ108 _ _ _ _ _ _ h hw (lv_sub hl [0, 1, 2] rfl)
set_option maxHeartbeats 4000000 in
set_option maxRecDepth 100000 in
theorem c_K_References_add {l : Launch} {D : va_G} {A : Nat → Prop} {a : Nat → Nat} {cI cJ cC : ClassId} {adK adV : Nat → Nat} {st : sk_M} {v1 : Int32} {v2 : Int32} {v3 : Int32} {v4 : Int32} {res : Int32 × sk_M} (hok : sk_ok A (nwK A adK adV)) (h : K_References_add st v1 v2 v3 v4 = some res) : sk_Ci l y_K_References_add w_K_References_add rm_K_References_add D (tyK cI cJ cC) A (ceK a cI cJ cC) (nwK A adK adV) [.ref (a 3), .int v1, .int v2, .int v3, .int v4] st res.1 res.2 := by
  refine sk_headi .int (by decide) rfl (Nat.le_of_ble_eq_true rfl) ?_
  intro p e s m args below meth c Q hx hb hml hown hts0 hnw hret ls hl hw
  have hts : ∀ w ∈ TB, w.before args s = true := fun w h => hts0 w (List.mem_cons_of_mem _ h)
  have hown : s.vm.findClass R_References = some m.cls := hown
  have hl : lv_has ls 5 [(0, .ref (a 3)), (1, .int v1), (2, .int v2), (3, .int v3), (4, .int v4)] := hl
  unfold K_References_add at h
  refine lv_aload_n hx hb d_K_References_add_0 rfl (lv_at hl 0 rfl) ?_
  refine gf_References_24 hx hb hts hnw hown hw d_K_References_add_1 ?_
  refine lv_bipush (v := 60) hx hb d_K_References_add_4 (by decide) ?_
  refine lv_icmp_lt (tgt := 12) hx hb d_K_References_add_6 (by decide) (fun c_6 => ?_) (fun c_6 => ?_)
  · have h := (if_pos c_6).symm.trans h
    refine lv_aload_n hx hb d_K_References_add_12 rfl (lv_at hl 0 rfl) ?_
    refine gf_References_9 hx hb hts hnw hown hw d_K_References_add_13 ?_
    refine lv_aload_n hx hb d_K_References_add_16 rfl (lv_at hl 0 rfl) ?_
    refine gf_References_24 hx hb hts hnw hown hw d_K_References_add_17 ?_
    refine lv_iload_n hx hb d_K_References_add_20 rfl (lv_at hl 1 rfl) ?_
    obtain ⟨st21, g_21, e_21, h⟩ := sk_wI_some h
    refine as_K23 hx hb hw g_21 e_21 d_K_References_add_21 (fun H locs hw => ?_)
    refine lv_aload_n hx hb d_K_References_add_22 rfl (lv_at hl 0 rfl) ?_
    refine gf_References_15 hx hb hts hnw hown hw d_K_References_add_23 ?_
    refine lv_aload_n hx hb d_K_References_add_26 rfl (lv_at hl 0 rfl) ?_
    refine gf_References_24 hx hb hts hnw hown hw d_K_References_add_27 ?_
    refine lv_iload_n hx hb d_K_References_add_30 rfl (lv_at hl 2 rfl) ?_
    obtain ⟨st31, g_31, e_31, h⟩ := sk_wI_some h
    refine as_K24 hx hb hw g_31 e_31 d_K_References_add_31 (fun H locs hw => ?_)
    refine lv_aload_n hx hb d_K_References_add_32 rfl (lv_at hl 0 rfl) ?_
    refine gf_References_18 hx hb hts hnw hown hw d_K_References_add_33 ?_
    refine lv_aload_n hx hb d_K_References_add_36 rfl (lv_at hl 0 rfl) ?_
    refine gf_References_24 hx hb hts hnw hown hw d_K_References_add_37 ?_
    refine lv_iload_n hx hb d_K_References_add_40 rfl (lv_at hl 3 rfl) ?_
    obtain ⟨st41, g_41, e_41, h⟩ := sk_wI_some h
    refine as_K25 hx hb hw g_41 e_41 d_K_References_add_41 (fun H locs hw => ?_)
    refine lv_aload_n hx hb d_K_References_add_42 rfl (lv_at hl 0 rfl) ?_
    refine gf_References_21 hx hb hts hnw hown hw d_K_References_add_43 ?_
    refine lv_aload_n hx hb d_K_References_add_46 rfl (lv_at hl 0 rfl) ?_
    refine gf_References_24 hx hb hts hnw hown hw d_K_References_add_47 ?_
    refine lv_iload hx hb d_K_References_add_50 (lv_at hl 4 rfl) ?_
    obtain ⟨st52, g_52, e_52, h⟩ := sk_wI_some h
    refine as_K26 hx hb hw g_52 e_52 d_K_References_add_52 (fun H locs hw => ?_)
    refine lv_aload_n hx hb d_K_References_add_53 rfl (lv_at hl 0 rfl) ?_
    refine lv_dup hx hb d_K_References_add_54 rfl ?_
    refine gf_References_24 hx hb hts hnw hown hw d_K_References_add_55 ?_
    refine lv_iconst (v := 1) hx hb d_K_References_add_58 (by decide) ?_
    refine lv_iadd hx hb d_K_References_add_59 ?_
    obtain ⟨st60, e_60, h⟩ := sk_fI_some h
    refine pf_References_24 hx hb hts hnw hown hw e_60 d_K_References_add_60 (fun H locs hw => ?_)
    refine lv_aload_n hx hb d_K_References_add_63 rfl (lv_at hl 0 rfl) ?_
    refine gf_References_24 hx hb hts hnw hown hw d_K_References_add_64 ?_
    exact hret _ _ _ _ _ _ (sk_p1 h) (sk_p2 h) (vp_nar_int _) hw d_K_References_add_67
  · have h := (if_neg c_6).symm.trans h
    refine lv_bipush (v := -3) hx hb d_K_References_add_9 (by decide) ?_
    exact hret _ _ _ _ _ _ (sk_p1 h) (sk_p2 h) (vp_nar_int _) hw d_K_References_add_11
set_option maxHeartbeats 4000000 in
set_option maxRecDepth 100000 in
theorem c_K_RuleBook_add {l : Launch} {D : va_G} {A : Nat → Prop} {a : Nat → Nat} {cI cJ cC : ClassId} {adK adV : Nat → Nat} {st : sk_M} {res : Int32 × sk_M} (hok : sk_ok A (nwK A adK adV)) (h : K_RuleBook_add st = some res) : sk_Ci l y_K_RuleBook_add w_K_RuleBook_add rm_K_RuleBook_add D (tyK cI cJ cC) A (ceK a cI cJ cC) (nwK A adK adV) [.ref (a 9), .ref (a 8)] st res.1 res.2 := by
  refine sk_headi .int (by decide) rfl (Nat.le_of_ble_eq_true rfl) ?_
  intro p e s m args below meth c Q hx hb hml hown hts0 hnw hret ls hl hw
  have hts : ∀ w ∈ TB, w.before args s = true := fun w h => hts0 w (List.mem_cons_of_mem _ h)
  have hown : s.vm.findClass R_RuleBook = some m.cls := hown
  have hl : lv_has ls 2 [(0, .ref (a 9)), (1, .ref (a 8))] := hl
  unfold K_RuleBook_add at h
  refine lv_aload_n hx hb d_K_RuleBook_add_0 rfl (lv_at hl 0 rfl) ?_
  refine gf_RuleBook_31 hx hb hts hnw hown hw d_K_RuleBook_add_1 ?_
  refine lv_bipush (v := 8) hx hb d_K_RuleBook_add_4 (by decide) ?_
  refine lv_icmp_lt (tgt := 12) hx hb d_K_RuleBook_add_6 (by decide) (fun c_6 => ?_) (fun c_6 => ?_)
  · have h := (if_pos c_6).symm.trans h
    refine lv_aload_n hx hb d_K_RuleBook_add_12 rfl (lv_at hl 0 rfl) ?_
    refine gf_RuleBook_9 hx hb hts hnw hown hw d_K_RuleBook_add_13 ?_
    refine lv_aload_n hx hb d_K_RuleBook_add_16 rfl (lv_at hl 0 rfl) ?_
    refine gf_RuleBook_31 hx hb hts hnw hown hw d_K_RuleBook_add_17 ?_
    refine lv_aload_n hx hb d_K_RuleBook_add_20 rfl (lv_at hl 1 rfl) ?_
    refine gf_RuleBook_35 hx hb hts hnw hown hw d_K_RuleBook_add_21 ?_
    obtain ⟨st24, g_24, e_24, h⟩ := sk_wI_some h
    refine as_K27 hx hb hw g_24 e_24 d_K_RuleBook_add_24 (fun H locs hw => ?_)
    refine lv_aload_n hx hb d_K_RuleBook_add_25 rfl (lv_at hl 0 rfl) ?_
    refine gf_RuleBook_15 hx hb hts hnw hown hw d_K_RuleBook_add_26 ?_
    refine lv_aload_n hx hb d_K_RuleBook_add_29 rfl (lv_at hl 0 rfl) ?_
    refine gf_RuleBook_31 hx hb hts hnw hown hw d_K_RuleBook_add_30 ?_
    refine lv_aload_n hx hb d_K_RuleBook_add_33 rfl (lv_at hl 1 rfl) ?_
    refine gf_RuleBook_40 hx hb hts hnw hown hw d_K_RuleBook_add_34 ?_
    obtain ⟨st37, g_37, e_37, h⟩ := sk_wL_some h
    refine as_K28 hx hb hw g_37 e_37 d_K_RuleBook_add_37 (fun H locs hw => ?_)
    refine lv_aload_n hx hb d_K_RuleBook_add_38 rfl (lv_at hl 0 rfl) ?_
    refine gf_RuleBook_19 hx hb hts hnw hown hw d_K_RuleBook_add_39 ?_
    refine lv_aload_n hx hb d_K_RuleBook_add_42 rfl (lv_at hl 0 rfl) ?_
    refine gf_RuleBook_31 hx hb hts hnw hown hw d_K_RuleBook_add_43 ?_
    refine lv_aload_n hx hb d_K_RuleBook_add_46 rfl (lv_at hl 1 rfl) ?_
    refine gf_RuleBook_44 hx hb hts hnw hown hw d_K_RuleBook_add_47 ?_
    obtain ⟨st50, g_50, e_50, h⟩ := sk_wL_some h
    refine as_K29 hx hb hw g_50 e_50 d_K_RuleBook_add_50 (fun H locs hw => ?_)
    refine lv_aload_n hx hb d_K_RuleBook_add_51 rfl (lv_at hl 0 rfl) ?_
    refine gf_RuleBook_22 hx hb hts hnw hown hw d_K_RuleBook_add_52 ?_
    refine lv_aload_n hx hb d_K_RuleBook_add_55 rfl (lv_at hl 0 rfl) ?_
    refine gf_RuleBook_31 hx hb hts hnw hown hw d_K_RuleBook_add_56 ?_
    refine lv_aload_n hx hb d_K_RuleBook_add_59 rfl (lv_at hl 1 rfl) ?_
    refine gf_RuleBook_47 hx hb hts hnw hown hw d_K_RuleBook_add_60 ?_
    obtain ⟨st63, g_63, e_63, h⟩ := sk_wL_some h
    refine as_K30 hx hb hw g_63 e_63 d_K_RuleBook_add_63 (fun H locs hw => ?_)
    refine lv_aload_n hx hb d_K_RuleBook_add_64 rfl (lv_at hl 0 rfl) ?_
    refine lv_dup hx hb d_K_RuleBook_add_65 rfl ?_
    refine gf_RuleBook_31 hx hb hts hnw hown hw d_K_RuleBook_add_66 ?_
    refine lv_iconst (v := 1) hx hb d_K_RuleBook_add_69 (by decide) ?_
    refine lv_iadd hx hb d_K_RuleBook_add_70 ?_
    obtain ⟨st71, e_71, h⟩ := sk_fI_some h
    refine pf_RuleBook_31 hx hb hts hnw hown hw e_71 d_K_RuleBook_add_71 (fun H locs hw => ?_)
    refine lv_aload_n hx hb d_K_RuleBook_add_74 rfl (lv_at hl 0 rfl) ?_
    refine gf_RuleBook_31 hx hb hts hnw hown hw d_K_RuleBook_add_75 ?_
    exact hret _ _ _ _ _ _ (sk_p1 h) (sk_p2 h) (vp_nar_int _) hw d_K_RuleBook_add_78
  · have h := (if_neg c_6).symm.trans h
    refine lv_bipush (v := -3) hx hb d_K_RuleBook_add_9 (by decide) ?_
    exact hret _ _ _ _ _ _ (sk_p1 h) (sk_p2 h) (vp_nar_int _) hw d_K_RuleBook_add_11
set_option maxHeartbeats 4000000 in
set_option maxRecDepth 100000 in
theorem c_K_RuleBook_classesNamed {l : Launch} {D : va_G} {A : Nat → Prop} {a : Nat → Nat} {cI cJ cC : ClassId} {adK adV : Nat → Nat} {N : Nat} {st : sk_M} {v0 : Int64} {res : Int64} (hok : sk_ok A (nwK A adK adV)) (h : K_RuleBook_classesNamed N st v0 = some res) : sk_Cl l y_K_RuleBook_classesNamed w_K_RuleBook_classesNamed rm_K_RuleBook_classesNamed D (tyK cI cJ cC) A (ceK a cI cJ cC) (nwK A adK adV) [.long v0, .ref (a 1)] st res st := by
  refine sk_headl (by decide) rfl (Nat.le_of_ble_eq_true rfl) ?_
  intro p e s m args below meth c Q hx hb hml hown hts0 hnw hret ls hl hw
  have hts : ∀ w ∈ TB, w.before args s = true := fun w h => hts0 w (List.mem_cons_of_mem _ h)
  have hown : s.vm.findClass R_RuleBook = some m.cls := hown
  have hl : lv_has ls 6 [(0, .long v0), (2, .ref (a 1))] := hl
  unfold K_RuleBook_classesNamed at h
  refine lv_lconst (v := 0) hx hb d_K_RuleBook_classesNamed_0 (by decide) ?_
  refine lv_lstore_n (lv' := [(3, .long (0 : Int64)), (0, .long v0), (2, .ref (a 1))]) hx hb d_K_RuleBook_classesNamed_1 rfl hl (by decide) rfl (fun ls hl => ?_)
  refine lv_iconst (v := 0) hx hb d_K_RuleBook_classesNamed_2 (by decide) ?_
  refine lv_istore (lv' := [(5, .int (0 : Int32)), (3, .long (0 : Int64)), (0, .long v0), (2, .ref (a 1))]) hx hb d_K_RuleBook_classesNamed_3 hl (by decide) rfl (fun ls hl => ?_)
  refine sk_lp_run (G := fun (z : Int64 × Int64 × Int32) => ∀ (H : Heap) (locs : List Loc) (ls : Array Slot), sk_w D (tyK cI cJ cC) A (ceK a cI cJ cC) s st H locs → lv_has ls 6 [(0, .long z.1), (2, .ref (a 1)), (3, .long z.2.1), (5, .int z.2.2)] → W p l e rm_K_RuleBook_classesNamed s m args below meth c H locs 0 0 Q (F0 m 5 ls [])) ?_ N _ h _ _ _ hw (lv_sub hl [2, 3, 1, 0] rfl)
  rintro self5 ⟨v0, v3, v5⟩ hself5 h H locs ls hw hl
  unfold K_RuleBook_classesNamed_L5 at h
  refine lv_iload hx hb d_K_RuleBook_classesNamed_5 (lv_at hl 3 rfl) ?_
  refine lv_bipush (v := 10) hx hb d_K_RuleBook_classesNamed_7 (by decide) ?_
  refine lv_icmp_ge (tgt := 46) hx hb d_K_RuleBook_classesNamed_9 (by decide) (fun c_9 => ?_) (fun c_9 => ?_)
  · have h := (if_pos c_9).symm.trans h
    refine lv_lload_n hx hb d_K_RuleBook_classesNamed_46 rfl (lv_at hl 2 rfl) ?_
    exact hret _ _ _ _ _ _ (Option.some.inj h) rfl hw d_K_RuleBook_classesNamed_47
  · have h := (if_neg c_9).symm.trans h
    refine lv_lload_n hx hb d_K_RuleBook_classesNamed_12 rfl (lv_at hl 0 rfl) ?_
    refine lv_aload_n hx hb d_K_RuleBook_classesNamed_13 rfl (lv_at hl 1 rfl) ?_
    refine gf_RuleBook_79 hx hb hts hnw hown hw d_K_RuleBook_classesNamed_14 ?_
    refine lv_iload hx hb d_K_RuleBook_classesNamed_17 (lv_at hl 3 rfl) ?_
    obtain ⟨x19, g_19, e_19, h⟩ := sk_rI_some h
    refine al_K35 hx hb hw g_19 e_19 d_K_RuleBook_classesNamed_19 ?_
    refine lv_bipush (v := 10) hx hb d_K_RuleBook_classesNamed_20 (by decide) ?_
    refine lv_imul hx hb d_K_RuleBook_classesNamed_22 ?_
    refine lv_iload hx hb d_K_RuleBook_classesNamed_23 (lv_at hl 3 rfl) ?_
    refine lv_iadd hx hb d_K_RuleBook_classesNamed_25 ?_
    refine sk_callSNi (As := [.long v0, .int ((x19 * (10 : Int32)) + v5)]) (rest := []) ⟨hx, hb, hml, hown, hts⟩ hw hnw hok (c_K_SF_has hok rfl) (cw_RuleBook_58 hts hnw (by decide)) rfl hl.1 rfl (Nat.le_of_ble_eq_true rfl) d_K_RuleBook_classesNamed_26 (fun H locs hw => ?_)
    refine lv_if_eq (tgt := 40) hx hb d_K_RuleBook_classesNamed_29 (by decide) (fun c_29 => ?_) (fun c_29 => ?_)
    · have h := (if_pos c_29).symm.trans h
      refine lv_iinc (v := v5 + 1) (lv' := [(5, .int (v5 + 1)), (0, .long v0), (2, .ref (a 1)), (3, .long v3)]) hx hb d_K_RuleBook_classesNamed_40 hl (k := 3) rfl rfl (by decide) rfl (fun ls hl => ?_)
      refine lv_goto (tgt := 5) hx hb d_K_RuleBook_classesNamed_43 (by decide) ?_
      exact hself5 (v0, v3, (v5 + 1)) h _ _ _ hw (lv_sub hl [1, 2, 3, 0] rfl)
    · have h := (if_neg c_29).symm.trans h
      refine lv_lload_n hx hb d_K_RuleBook_classesNamed_32 rfl (lv_at hl 2 rfl) ?_
      refine lv_iload hx hb d_K_RuleBook_classesNamed_33 (lv_at hl 3 rfl) ?_
      refine sk_callSNl (As := [.int v5]) (rest := [.long v3]) ⟨hx, hb, hml, hown, hts⟩ hw hnw hok (c_K_SF_bit hok rfl) (cw_RuleBook_75 hts hnw (by decide)) rfl hl.1 rfl (Nat.le_of_ble_eq_true rfl) d_K_RuleBook_classesNamed_35 (fun H locs hw => ?_)
      refine lv_lor hx hb d_K_RuleBook_classesNamed_38 ?_
      refine lv_lstore_n (lv' := [(3, .long (v3 ||| (K_SF_bit v5))), (0, .long v0), (2, .ref (a 1)), (5, .int v5)]) hx hb d_K_RuleBook_classesNamed_39 rfl hl (by decide) rfl (fun ls hl => ?_)
      refine lv_iinc (v := v5 + 1) (lv' := [(5, .int (v5 + 1)), (3, .long (v3 ||| (K_SF_bit v5))), (0, .long v0), (2, .ref (a 1))]) hx hb d_K_RuleBook_classesNamed_40 hl (k := 3) rfl rfl (by decide) rfl (fun ls hl => ?_)
      refine lv_goto (tgt := 5) hx hb d_K_RuleBook_classesNamed_43 (by decide) ?_
      exact hself5 (v0, (v3 ||| (K_SF_bit v5)), (v5 + 1)) h _ _ _ hw (lv_sub hl [2, 3, 1, 0] rfl)
set_option maxHeartbeats 4000000 in
set_option maxRecDepth 100000 in
theorem c_K_RuleBook_classesAbout {l : Launch} {D : va_G} {A : Nat → Prop} {a : Nat → Nat} {cI cJ cC : ClassId} {adK adV : Nat → Nat} {N : Nat} {st : sk_M} {v1 : Int32} {res : Int64} (hok : sk_ok A (nwK A adK adV)) (h : K_RuleBook_classesAbout N st v1 = some res) : sk_Cl l y_K_RuleBook_classesAbout w_K_RuleBook_classesAbout rm_K_RuleBook_classesAbout D (tyK cI cJ cC) A (ceK a cI cJ cC) (nwK A adK adV) [.ref (a 9), .int v1, .ref (a 1)] st res st := by
  refine sk_headl (by decide) rfl (Nat.le_of_ble_eq_true rfl) ?_
  intro p e s m args below meth c Q hx hb hml hown hts0 hnw hret ls hl hw
  have hts : ∀ w ∈ TB, w.before args s = true := fun w h => hts0 w (List.mem_cons_of_mem _ h)
  have hown : s.vm.findClass R_RuleBook = some m.cls := hown
  have hl : lv_has ls 8 [(0, .ref (a 9)), (1, .int v1), (2, .ref (a 1))] := hl
  unfold K_RuleBook_classesAbout at h
  refine lv_aload_n hx hb d_K_RuleBook_classesAbout_0 rfl (lv_at hl 0 rfl) ?_
  refine gf_RuleBook_19 hx hb hts hnw hown hw d_K_RuleBook_classesAbout_1 ?_
  refine lv_iload_n hx hb d_K_RuleBook_classesAbout_4 rfl (lv_at hl 1 rfl) ?_
  obtain ⟨x5, g_5, e_5, h⟩ := sk_rL_some h
  refine al_K29 hx hb hw g_5 e_5 d_K_RuleBook_classesAbout_5 ?_
  refine lv_aload_n hx hb d_K_RuleBook_classesAbout_6 rfl (lv_at hl 2 rfl) ?_
  obtain ⟨x7, q_7, h⟩ := sk_oR_some h
  refine sk_callSl (As := [.long x5, .ref (a 1)]) (rest := []) ⟨hx, hb, hml, hown, hts⟩ hw hnw hok (c_K_RuleBook_classesNamed hok q_7) (cw_RuleBook_62 hts hnw (by decide)) rfl hl.1 rfl (Nat.le_of_ble_eq_true rfl) d_K_RuleBook_classesAbout_7 (fun H locs hw => ?_)
  refine lv_lstore_n (lv' := [(3, .long x7), (0, .ref (a 9)), (1, .int v1), (2, .ref (a 1))]) hx hb d_K_RuleBook_classesAbout_10 rfl hl (by decide) rfl (fun ls hl => ?_)
  refine lv_lconst (v := 0) hx hb d_K_RuleBook_classesAbout_11 (by decide) ?_
  refine lv_lstore (lv' := [(5, .long (0 : Int64)), (3, .long x7), (0, .ref (a 9)), (1, .int v1), (2, .ref (a 1))]) hx hb d_K_RuleBook_classesAbout_12 hl (by decide) rfl (fun ls hl => ?_)
  refine lv_iconst (v := 1) hx hb d_K_RuleBook_classesAbout_14 (by decide) ?_
  refine lv_istore (lv' := [(7, .int (1 : Int32)), (5, .long (0 : Int64)), (3, .long x7), (0, .ref (a 9)), (1, .int v1), (2, .ref (a 1))]) hx hb d_K_RuleBook_classesAbout_15 hl (by decide) rfl (fun ls hl => ?_)
  have hJ63 : ∀ (v1 : Int32) (v5 : Int64) (H : Heap) (locs : List Loc) (ls : Array Slot), K_RuleBook_classesAbout_J63 N st v1 v5 = some res → sk_w D (tyK cI cJ cC) A (ceK a cI cJ cC) s st H locs → lv_has ls 8 [(0, .ref (a 9)), (1, .int v1), (2, .ref (a 1)), (5, .long v5)] → W p l e rm_K_RuleBook_classesAbout s m args below meth c H locs 0 0 Q (F0 m 63 ls []) := by
    intro v1 v5 H locs ls h hw hl
    unfold K_RuleBook_classesAbout_J63 at h
    refine lv_lload hx hb d_K_RuleBook_classesAbout_63 (lv_at hl 3 rfl) ?_
    refine lv_aload_n hx hb d_K_RuleBook_classesAbout_65 rfl (lv_at hl 0 rfl) ?_
    refine gf_RuleBook_15 hx hb hts hnw hown hw d_K_RuleBook_classesAbout_66 ?_
    refine lv_iload_n hx hb d_K_RuleBook_classesAbout_69 rfl (lv_at hl 1 rfl) ?_
    obtain ⟨x70, g_70, e_70, h⟩ := sk_rL_some h
    refine al_K28 hx hb hw g_70 e_70 d_K_RuleBook_classesAbout_70 ?_
    refine lv_aload_n hx hb d_K_RuleBook_classesAbout_71 rfl (lv_at hl 2 rfl) ?_
    obtain ⟨x72, q_72, h⟩ := sk_oR_some h
    refine sk_callSl (As := [.long x70, .ref (a 1)]) (rest := [.long v5]) ⟨hx, hb, hml, hown, hts⟩ hw hnw hok (c_K_RuleBook_classesNamed hok q_72) (cw_RuleBook_62 hts hnw (by decide)) rfl hl.1 rfl (Nat.le_of_ble_eq_true rfl) d_K_RuleBook_classesAbout_72 (fun H locs hw => ?_)
    refine lv_land hx hb d_K_RuleBook_classesAbout_75 ?_
    exact hret _ _ _ _ _ _ (Option.some.inj h) rfl hw d_K_RuleBook_classesAbout_76
  refine sk_lp_run (G := fun (z : Int32 × Int64 × Int64 × Int32) => ∀ (H : Heap) (locs : List Loc) (ls : Array Slot), sk_w D (tyK cI cJ cC) A (ceK a cI cJ cC) s st H locs → lv_has ls 8 [(0, .ref (a 9)), (1, .int z.1), (2, .ref (a 1)), (3, .long z.2.1), (5, .long z.2.2.1), (7, .int z.2.2.2)] → W p l e rm_K_RuleBook_classesAbout s m args below meth c H locs 0 0 Q (F0 m 17 ls [])) ?_ N _ h _ _ _ hw (lv_sub hl [3, 4, 5, 2, 1, 0] rfl)
  rintro self17 ⟨v1, v3, v5, v7⟩ hself17 h H locs ls hw hl
  unfold K_RuleBook_classesAbout_L17 at h
  refine lv_iload hx hb d_K_RuleBook_classesAbout_17 (lv_at hl 5 rfl) ?_
  refine lv_bipush (v := 10) hx hb d_K_RuleBook_classesAbout_19 (by decide) ?_
  refine lv_icmp_ge (tgt := 63) hx hb d_K_RuleBook_classesAbout_21 (by decide) (fun c_21 => ?_) (fun c_21 => ?_)
  · have h := (if_pos c_21).symm.trans h
    exact hJ63 _ _ _ _ _ h hw (lv_sub hl [0, 1, 2, 4] rfl)
  · have h := (if_neg c_21).symm.trans h
    refine lv_aload_n hx hb d_K_RuleBook_classesAbout_24 rfl (lv_at hl 2 rfl) ?_
    refine lv_iload hx hb d_K_RuleBook_classesAbout_25 (lv_at hl 5 rfl) ?_
    refine sk_callVi (As := [.int v7]) (rest := []) ⟨hx, hb, hml, hown, hts⟩ hw hnw hok (c_K_Types_isThere hok rfl) (cw_RuleBook_66 hts hnw (by decide)) (rc_K1 hw) rfl hl.1 rfl (Nat.le_of_ble_eq_true rfl) d_K_RuleBook_classesAbout_27 (fun H locs hw => ?_)
    refine lv_if_eq (tgt := 57) hx hb d_K_RuleBook_classesAbout_30 (by decide) (fun c_30 => ?_) (fun c_30 => ?_)
    · have h := (if_pos c_30).symm.trans h
      refine lv_iinc (v := v7 + 1) (lv' := [(7, .int (v7 + 1)), (0, .ref (a 9)), (1, .int v1), (2, .ref (a 1)), (3, .long v3), (5, .long v5)]) hx hb d_K_RuleBook_classesAbout_57 hl (k := 5) rfl rfl (by decide) rfl (fun ls hl => ?_)
      refine lv_goto (tgt := 17) hx hb d_K_RuleBook_classesAbout_60 (by decide) ?_
      exact hself17 (v1, v3, v5, (v7 + 1)) h _ _ _ hw (lv_sub hl [1, 2, 3, 4, 5, 0] rfl)
    · have h := (if_neg c_30).symm.trans h
      refine lv_aload_n hx hb d_K_RuleBook_classesAbout_33 rfl (lv_at hl 2 rfl) ?_
      refine gf_RuleBook_72 hx hb hts hnw hown hw d_K_RuleBook_classesAbout_34 ?_
      refine lv_iload hx hb d_K_RuleBook_classesAbout_37 (lv_at hl 5 rfl) ?_
      obtain ⟨x39, g_39, e_39, h⟩ := sk_rL_some h
      refine al_K42 hx hb hw g_39 e_39 d_K_RuleBook_classesAbout_39 ?_
      refine lv_lload_n hx hb d_K_RuleBook_classesAbout_40 rfl (lv_at hl 3 rfl) ?_
      refine lv_land hx hb d_K_RuleBook_classesAbout_41 ?_
      refine lv_lconst (v := 0) hx hb d_K_RuleBook_classesAbout_42 (by decide) ?_
      refine W.lcmp hx hb d_K_RuleBook_classesAbout_43 ?_
      refine lv_if_eq (tgt := 57) hx hb d_K_RuleBook_classesAbout_44 (by decide) (fun c_44 => ?_) (fun c_44 => ?_)
      · have h := (if_pos c_44).symm.trans h
        refine lv_iinc (v := v7 + 1) (lv' := [(7, .int (v7 + 1)), (0, .ref (a 9)), (1, .int v1), (2, .ref (a 1)), (3, .long v3), (5, .long v5)]) hx hb d_K_RuleBook_classesAbout_57 hl (k := 5) rfl rfl (by decide) rfl (fun ls hl => ?_)
        refine lv_goto (tgt := 17) hx hb d_K_RuleBook_classesAbout_60 (by decide) ?_
        exact hself17 (v1, v3, v5, (v7 + 1)) h _ _ _ hw (lv_sub hl [1, 2, 3, 4, 5, 0] rfl)
      · have h := (if_neg c_44).symm.trans h
        refine lv_lload hx hb d_K_RuleBook_classesAbout_47 (lv_at hl 4 rfl) ?_
        refine lv_iload hx hb d_K_RuleBook_classesAbout_49 (lv_at hl 5 rfl) ?_
        refine sk_callSNl (As := [.int v7]) (rest := [.long v5]) ⟨hx, hb, hml, hown, hts⟩ hw hnw hok (c_K_SF_bit hok rfl) (cw_RuleBook_75 hts hnw (by decide)) rfl hl.1 rfl (Nat.le_of_ble_eq_true rfl) d_K_RuleBook_classesAbout_51 (fun H locs hw => ?_)
        refine lv_lor hx hb d_K_RuleBook_classesAbout_54 ?_
        refine lv_lstore (lv' := [(5, .long (v5 ||| (K_SF_bit v7))), (0, .ref (a 9)), (1, .int v1), (2, .ref (a 1)), (3, .long v3), (7, .int v7)]) hx hb d_K_RuleBook_classesAbout_55 hl (by decide) rfl (fun ls hl => ?_)
        refine lv_iinc (v := v7 + 1) (lv' := [(7, .int (v7 + 1)), (5, .long (v5 ||| (K_SF_bit v7))), (0, .ref (a 9)), (1, .int v1), (2, .ref (a 1)), (3, .long v3)]) hx hb d_K_RuleBook_classesAbout_57 hl (k := 5) rfl rfl (by decide) rfl (fun ls hl => ?_)
        refine lv_goto (tgt := 17) hx hb d_K_RuleBook_classesAbout_60 (by decide) ?_
        exact hself17 (v1, v3, (v5 ||| (K_SF_bit v7)), (v7 + 1)) h _ _ _ hw (lv_sub hl [2, 3, 4, 5, 1, 0] rfl)
set_option maxHeartbeats 4000000 in
set_option maxRecDepth 100000 in
theorem c_K_RuleBook_membersMeant {l : Launch} {D : va_G} {A : Nat → Prop} {a : Nat → Nat} {cI cJ cC : ClassId} {adK adV : Nat → Nat} {N : Nat} {st : sk_M} {v1 : Int32} {res : Int64} (hok : sk_ok A (nwK A adK adV)) (h : K_RuleBook_membersMeant N st v1 = some res) : sk_Cl l y_K_RuleBook_membersMeant w_K_RuleBook_membersMeant rm_K_RuleBook_membersMeant D (tyK cI cJ cC) A (ceK a cI cJ cC) (nwK A adK adV) [.ref (a 9), .int v1, .ref (a 2)] st res st := by
  refine sk_headl (by decide) rfl (Nat.le_of_ble_eq_true rfl) ?_
  intro p e s m args below meth c Q hx hb hml hown hts0 hnw hret ls hl hw
  have hts : ∀ w ∈ TB, w.before args s = true := fun w h => hts0 w (List.mem_cons_of_mem _ h)
  have hown : s.vm.findClass R_RuleBook = some m.cls := hown
  have hl : lv_has ls 6 [(0, .ref (a 9)), (1, .int v1), (2, .ref (a 2))] := hl
  unfold K_RuleBook_membersMeant at h
  refine lv_lconst (v := 0) hx hb d_K_RuleBook_membersMeant_0 (by decide) ?_
  refine lv_lstore_n (lv' := [(3, .long (0 : Int64)), (0, .ref (a 9)), (1, .int v1), (2, .ref (a 2))]) hx hb d_K_RuleBook_membersMeant_1 rfl hl (by decide) rfl (fun ls hl => ?_)
  refine lv_iconst (v := 1) hx hb d_K_RuleBook_membersMeant_2 (by decide) ?_
  refine lv_istore (lv' := [(5, .int (1 : Int32)), (3, .long (0 : Int64)), (0, .ref (a 9)), (1, .int v1), (2, .ref (a 2))]) hx hb d_K_RuleBook_membersMeant_3 hl (by decide) rfl (fun ls hl => ?_)
  refine sk_lp_run (G := fun (z : Int32 × Int64 × Int32) => ∀ (H : Heap) (locs : List Loc) (ls : Array Slot), sk_w D (tyK cI cJ cC) A (ceK a cI cJ cC) s st H locs → lv_has ls 6 [(0, .ref (a 9)), (1, .int z.1), (2, .ref (a 2)), (3, .long z.2.1), (5, .int z.2.2)] → W p l e rm_K_RuleBook_membersMeant s m args below meth c H locs 0 0 Q (F0 m 5 ls [])) ?_ N _ h _ _ _ hw (lv_sub hl [2, 3, 4, 1, 0] rfl)
  rintro self5 ⟨v1, v3, v5⟩ hself5 h H locs ls hw hl
  unfold K_RuleBook_membersMeant_L5 at h
  refine lv_iload hx hb d_K_RuleBook_membersMeant_5 (lv_at hl 4 rfl) ?_
  refine lv_aload_n hx hb d_K_RuleBook_membersMeant_7 rfl (lv_at hl 2 rfl) ?_
  refine gf_RuleBook_82 hx hb hts hnw hown hw d_K_RuleBook_membersMeant_8 ?_
  refine lv_icmp_ge (tgt := 66) hx hb d_K_RuleBook_membersMeant_11 (by decide) (fun c_11 => ?_) (fun c_11 => ?_)
  · have h := (if_pos c_11).symm.trans h
    refine lv_lload_n hx hb d_K_RuleBook_membersMeant_66 rfl (lv_at hl 3 rfl) ?_
    refine lv_aload_n hx hb d_K_RuleBook_membersMeant_67 rfl (lv_at hl 2 rfl) ?_
    refine gf_RuleBook_91 hx hb hts hnw hown hw d_K_RuleBook_membersMeant_68 ?_
    refine lv_land hx hb d_K_RuleBook_membersMeant_71 ?_
    exact hret _ _ _ _ _ _ (Option.some.inj h) rfl hw d_K_RuleBook_membersMeant_72
  · have h := (if_neg c_11).symm.trans h
    refine lv_aload_n hx hb d_K_RuleBook_membersMeant_14 rfl (lv_at hl 0 rfl) ?_
    refine gf_RuleBook_25 hx hb hts hnw hown hw d_K_RuleBook_membersMeant_15 ?_
    refine lv_iload_n hx hb d_K_RuleBook_membersMeant_18 rfl (lv_at hl 1 rfl) ?_
    obtain ⟨x19, g_19, e_19, h⟩ := sk_rL_some h
    refine al_K31 hx hb hw g_19 e_19 d_K_RuleBook_membersMeant_19 ?_
    refine lv_aload_n hx hb d_K_RuleBook_membersMeant_20 rfl (lv_at hl 2 rfl) ?_
    refine gf_RuleBook_85 hx hb hts hnw hown hw d_K_RuleBook_membersMeant_21 ?_
    refine lv_iload hx hb d_K_RuleBook_membersMeant_24 (lv_at hl 4 rfl) ?_
    obtain ⟨x26, g_26, e_26, h⟩ := sk_rI_some h
    refine al_K17 hx hb hw g_26 e_26 d_K_RuleBook_membersMeant_26 ?_
    refine sk_callSNi (As := [.long x19, .int x26]) (rest := []) ⟨hx, hb, hml, hown, hts⟩ hw hnw hok (c_K_SF_has hok rfl) (cw_RuleBook_58 hts hnw (by decide)) rfl hl.1 rfl (Nat.le_of_ble_eq_true rfl) d_K_RuleBook_membersMeant_27 (fun H locs hw => ?_)
    refine lv_if_eq (tgt := 60) hx hb d_K_RuleBook_membersMeant_30 (by decide) (fun c_30 => ?_) (fun c_30 => ?_)
    · have h := (if_pos c_30).symm.trans h
      refine lv_iinc (v := v5 + 1) (lv' := [(5, .int (v5 + 1)), (0, .ref (a 9)), (1, .int v1), (2, .ref (a 2)), (3, .long v3)]) hx hb d_K_RuleBook_membersMeant_60 hl (k := 4) rfl rfl (by decide) rfl (fun ls hl => ?_)
      refine lv_goto (tgt := 5) hx hb d_K_RuleBook_membersMeant_63 (by decide) ?_
      exact hself5 (v1, v3, (v5 + 1)) h _ _ _ hw (lv_sub hl [1, 2, 3, 4, 0] rfl)
    · have h := (if_neg c_30).symm.trans h
      refine lv_aload_n hx hb d_K_RuleBook_membersMeant_33 rfl (lv_at hl 0 rfl) ?_
      refine gf_RuleBook_22 hx hb hts hnw hown hw d_K_RuleBook_membersMeant_34 ?_
      refine lv_iload_n hx hb d_K_RuleBook_membersMeant_37 rfl (lv_at hl 1 rfl) ?_
      obtain ⟨x38, g_38, e_38, h⟩ := sk_rL_some h
      refine al_K30 hx hb hw g_38 e_38 d_K_RuleBook_membersMeant_38 ?_
      refine lv_aload_n hx hb d_K_RuleBook_membersMeant_39 rfl (lv_at hl 2 rfl) ?_
      refine gf_RuleBook_88 hx hb hts hnw hown hw d_K_RuleBook_membersMeant_40 ?_
      refine lv_iload hx hb d_K_RuleBook_membersMeant_43 (lv_at hl 4 rfl) ?_
      obtain ⟨x45, g_45, e_45, h⟩ := sk_rI_some h
      refine al_K18 hx hb hw g_45 e_45 d_K_RuleBook_membersMeant_45 ?_
      refine sk_callSNi (As := [.long x38, .int x45]) (rest := []) ⟨hx, hb, hml, hown, hts⟩ hw hnw hok (c_K_SF_has hok rfl) (cw_RuleBook_58 hts hnw (by decide)) rfl hl.1 rfl (Nat.le_of_ble_eq_true rfl) d_K_RuleBook_membersMeant_46 (fun H locs hw => ?_)
      refine lv_if_eq (tgt := 60) hx hb d_K_RuleBook_membersMeant_49 (by decide) (fun c_49 => ?_) (fun c_49 => ?_)
      · have h := (if_pos c_49).symm.trans h
        refine lv_iinc (v := v5 + 1) (lv' := [(5, .int (v5 + 1)), (0, .ref (a 9)), (1, .int v1), (2, .ref (a 2)), (3, .long v3)]) hx hb d_K_RuleBook_membersMeant_60 hl (k := 4) rfl rfl (by decide) rfl (fun ls hl => ?_)
        refine lv_goto (tgt := 5) hx hb d_K_RuleBook_membersMeant_63 (by decide) ?_
        exact hself5 (v1, v3, (v5 + 1)) h _ _ _ hw (lv_sub hl [1, 2, 3, 4, 0] rfl)
      · have h := (if_neg c_49).symm.trans h
        refine lv_lload_n hx hb d_K_RuleBook_membersMeant_52 rfl (lv_at hl 3 rfl) ?_
        refine lv_iload hx hb d_K_RuleBook_membersMeant_53 (lv_at hl 4 rfl) ?_
        refine sk_callSNl (As := [.int v5]) (rest := [.long v3]) ⟨hx, hb, hml, hown, hts⟩ hw hnw hok (c_K_SF_bit hok rfl) (cw_RuleBook_75 hts hnw (by decide)) rfl hl.1 rfl (Nat.le_of_ble_eq_true rfl) d_K_RuleBook_membersMeant_55 (fun H locs hw => ?_)
        refine lv_lor hx hb d_K_RuleBook_membersMeant_58 ?_
        refine lv_lstore_n (lv' := [(3, .long (v3 ||| (K_SF_bit v5))), (0, .ref (a 9)), (1, .int v1), (2, .ref (a 2)), (5, .int v5)]) hx hb d_K_RuleBook_membersMeant_59 rfl hl (by decide) rfl (fun ls hl => ?_)
        refine lv_iinc (v := v5 + 1) (lv' := [(5, .int (v5 + 1)), (3, .long (v3 ||| (K_SF_bit v5))), (0, .ref (a 9)), (1, .int v1), (2, .ref (a 2))]) hx hb d_K_RuleBook_membersMeant_60 hl (k := 4) rfl rfl (by decide) rfl (fun ls hl => ?_)
        refine lv_goto (tgt := 5) hx hb d_K_RuleBook_membersMeant_63 (by decide) ?_
        exact hself5 (v1, (v3 ||| (K_SF_bit v5)), (v5 + 1)) h _ _ _ hw (lv_sub hl [2, 3, 4, 1, 0] rfl)
set_option maxHeartbeats 4000000 in
set_option maxRecDepth 100000 in
theorem c_K_RuleBook_look {l : Launch} {D : va_G} {A : Nat → Prop} {a : Nat → Nat} {cI cJ cC : ClassId} {adK adV : Nat → Nat} {N : Nat} {st : sk_M} {res : sk_M} (hok : sk_ok A (nwK A adK adV)) (h : K_RuleBook_look N st = some res) : sk_Cv l y_K_RuleBook_look w_K_RuleBook_look rm_K_RuleBook_look D (tyK cI cJ cC) A (ceK a cI cJ cC) (nwK A adK adV) [.ref (a 9), .ref (a 1), .ref (a 2)] st res := by
  refine sk_headv (by decide) rfl (Nat.le_of_ble_eq_true rfl) ?_
  intro p e s m args below meth c Q hx hb hml hown hts0 hnw hret ls hl hw
  have hts : ∀ w ∈ TB, w.before args s = true := fun w h => hts0 w (List.mem_cons_of_mem _ h)
  have hown : s.vm.findClass R_RuleBook = some m.cls := hown
  have hl : lv_has ls 4 [(0, .ref (a 9)), (1, .ref (a 1)), (2, .ref (a 2))] := hl
  unfold K_RuleBook_look at h
  refine lv_iconst (v := 0) hx hb d_K_RuleBook_look_0 (by decide) ?_
  refine lv_istore_n (lv' := [(3, .int (0 : Int32)), (0, .ref (a 9)), (1, .ref (a 1)), (2, .ref (a 2))]) hx hb d_K_RuleBook_look_1 rfl hl (by decide) rfl (fun ls hl => ?_)
  refine sk_lp_run (G := fun (z : sk_M × Int32) => ∀ (H : Heap) (locs : List Loc) (ls : Array Slot), sk_w D (tyK cI cJ cC) A (ceK a cI cJ cC) s z.1 H locs → lv_has ls 4 [(0, .ref (a 9)), (1, .ref (a 1)), (2, .ref (a 2)), (3, .int z.2)] → W p l e rm_K_RuleBook_look s m args below meth c H locs 0 0 Q (F0 m 2 ls [])) ?_ N _ h _ _ _ hw (lv_sub hl [1, 2, 3, 0] rfl)
  rintro self2 ⟨st, v3⟩ hself2 h H locs ls hw hl
  unfold K_RuleBook_look_L2 at h
  refine lv_iload_n hx hb d_K_RuleBook_look_2 rfl (lv_at hl 3 rfl) ?_
  refine lv_aload_n hx hb d_K_RuleBook_look_3 rfl (lv_at hl 0 rfl) ?_
  refine gf_RuleBook_31 hx hb hts hnw hown hw d_K_RuleBook_look_4 ?_
  refine lv_icmp_ge (tgt := 40) hx hb d_K_RuleBook_look_7 (by decide) (fun c_7 => ?_) (fun c_7 => ?_)
  · have h := (if_pos c_7).symm.trans h
    exact hret _ _ _ _ _ (Option.some.inj h) hw d_K_RuleBook_look_40
  · have h := (if_neg c_7).symm.trans h
    refine lv_aload_n hx hb d_K_RuleBook_look_10 rfl (lv_at hl 0 rfl) ?_
    refine gf_RuleBook_25 hx hb hts hnw hown hw d_K_RuleBook_look_11 ?_
    refine lv_iload_n hx hb d_K_RuleBook_look_14 rfl (lv_at hl 3 rfl) ?_
    refine lv_aload_n hx hb d_K_RuleBook_look_15 rfl (lv_at hl 0 rfl) ?_
    refine lv_iload_n hx hb d_K_RuleBook_look_16 rfl (lv_at hl 3 rfl) ?_
    refine lv_aload_n hx hb d_K_RuleBook_look_17 rfl (lv_at hl 1 rfl) ?_
    obtain ⟨x18, q_18, h⟩ := sk_oR_some h
    refine sk_callVl (As := [.int v3, .ref (a 1)]) (rest := [.int v3, .ref (a 31)]) ⟨hx, hb, hml, hown, hts⟩ hw hnw hok (c_K_RuleBook_classesAbout hok q_18) (cw_RuleBook_50 hts hnw (by decide)) (rc_K9 hw) rfl hl.1 rfl (Nat.le_of_ble_eq_true rfl) d_K_RuleBook_look_18 (fun H locs hw => ?_)
    obtain ⟨st21, g_21, e_21, h⟩ := sk_wL_some h
    refine as_K31 hx hb hw g_21 e_21 d_K_RuleBook_look_21 (fun H locs hw => ?_)
    refine lv_aload_n hx hb d_K_RuleBook_look_22 rfl (lv_at hl 0 rfl) ?_
    refine gf_RuleBook_28 hx hb hts hnw hown hw d_K_RuleBook_look_23 ?_
    refine lv_iload_n hx hb d_K_RuleBook_look_26 rfl (lv_at hl 3 rfl) ?_
    refine lv_aload_n hx hb d_K_RuleBook_look_27 rfl (lv_at hl 0 rfl) ?_
    refine lv_iload_n hx hb d_K_RuleBook_look_28 rfl (lv_at hl 3 rfl) ?_
    refine lv_aload_n hx hb d_K_RuleBook_look_29 rfl (lv_at hl 2 rfl) ?_
    obtain ⟨x30, q_30, h⟩ := sk_oR_some h
    refine sk_callVl (As := [.int v3, .ref (a 2)]) (rest := [.int v3, .ref (a 32)]) ⟨hx, hb, hml, hown, hts⟩ hw hnw hok (c_K_RuleBook_membersMeant hok q_30) (cw_RuleBook_54 hts hnw (by decide)) (rc_K9 hw) rfl hl.1 rfl (Nat.le_of_ble_eq_true rfl) d_K_RuleBook_look_30 (fun H locs hw => ?_)
    obtain ⟨st33, g_33, e_33, h⟩ := sk_wL_some h
    refine as_K32 hx hb hw g_33 e_33 d_K_RuleBook_look_33 (fun H locs hw => ?_)
    refine lv_iinc (v := v3 + 1) (lv' := [(3, .int (v3 + 1)), (0, .ref (a 9)), (1, .ref (a 1)), (2, .ref (a 2))]) hx hb d_K_RuleBook_look_34 hl (k := 3) rfl rfl (by decide) rfl (fun ls hl => ?_)
    refine lv_goto (tgt := 2) hx hb d_K_RuleBook_look_37 (by decide) ?_
    exact hself2 (st33, (v3 + 1)) h _ _ _ hw (lv_sub hl [1, 2, 3, 0] rfl)
set_option maxHeartbeats 4000000 in
set_option maxRecDepth 100000 in
theorem c_K_RuleBook_greatestAbout {l : Launch} {D : va_G} {A : Nat → Prop} {a : Nat → Nat} {cI cJ cC : ClassId} {adK adV : Nat → Nat} {N : Nat} {st : sk_M} {v1 : Int32} {res : Int32} (hok : sk_ok A (nwK A adK adV)) (h : K_RuleBook_greatestAbout N st v1 = some res) : sk_Ci l y_K_RuleBook_greatestAbout w_K_RuleBook_greatestAbout rm_K_RuleBook_greatestAbout D (tyK cI cJ cC) A (ceK a cI cJ cC) (nwK A adK adV) [.ref (a 9), .int v1] st res st := by
  refine sk_headi .int (by decide) rfl (Nat.le_of_ble_eq_true rfl) ?_
  intro p e s m args below meth c Q hx hb hml hown hts0 hnw hret ls hl hw
  have hts : ∀ w ∈ TB, w.before args s = true := fun w h => hts0 w (List.mem_cons_of_mem _ h)
  have hown : s.vm.findClass R_RuleBook = some m.cls := hown
  have hl : lv_has ls 3 [(0, .ref (a 9)), (1, .int v1)] := hl
  unfold K_RuleBook_greatestAbout at h
  refine lv_aload_n hx hb d_K_RuleBook_greatestAbout_0 rfl (lv_at hl 0 rfl) ?_
  refine gf_RuleBook_31 hx hb hts hnw hown hw d_K_RuleBook_greatestAbout_1 ?_
  refine lv_iconst (v := 1) hx hb d_K_RuleBook_greatestAbout_4 (by decide) ?_
  refine lv_isub hx hb d_K_RuleBook_greatestAbout_5 ?_
  refine lv_istore_n (lv' := [(2, .int ((st.1 0 7) - (1 : Int32))), (0, .ref (a 9)), (1, .int v1)]) hx hb d_K_RuleBook_greatestAbout_6 rfl hl (by decide) rfl (fun ls hl => ?_)
  refine sk_lp_run (G := fun (z : Int32 × Int32) => ∀ (H : Heap) (locs : List Loc) (ls : Array Slot), sk_w D (tyK cI cJ cC) A (ceK a cI cJ cC) s st H locs → lv_has ls 3 [(0, .ref (a 9)), (1, .int z.1), (2, .int z.2)] → W p l e rm_K_RuleBook_greatestAbout s m args below meth c H locs 0 0 Q (F0 m 7 ls [])) ?_ N _ h _ _ _ hw (lv_sub hl [1, 2, 0] rfl)
  rintro self7 ⟨v1, v2⟩ hself7 h H locs ls hw hl
  unfold K_RuleBook_greatestAbout_L7 at h
  refine lv_iload_n hx hb d_K_RuleBook_greatestAbout_7 rfl (lv_at hl 2 rfl) ?_
  refine lv_if_lt (tgt := 32) hx hb d_K_RuleBook_greatestAbout_8 (by decide) (fun c_8 => ?_) (fun c_8 => ?_)
  · have h := (if_pos c_8).symm.trans h
    refine lv_bipush (v := -2) hx hb d_K_RuleBook_greatestAbout_32 (by decide) ?_
    exact hret _ _ _ _ _ _ (Option.some.inj h) rfl (vp_nar_int _) hw d_K_RuleBook_greatestAbout_34
  · have h := (if_neg c_8).symm.trans h
    refine lv_aload_n hx hb d_K_RuleBook_greatestAbout_11 rfl (lv_at hl 0 rfl) ?_
    refine gf_RuleBook_25 hx hb hts hnw hown hw d_K_RuleBook_greatestAbout_12 ?_
    refine lv_iload_n hx hb d_K_RuleBook_greatestAbout_15 rfl (lv_at hl 2 rfl) ?_
    obtain ⟨x16, g_16, e_16, h⟩ := sk_rL_some h
    refine al_K31 hx hb hw g_16 e_16 d_K_RuleBook_greatestAbout_16 ?_
    refine lv_iload_n hx hb d_K_RuleBook_greatestAbout_17 rfl (lv_at hl 1 rfl) ?_
    refine sk_callSNi (As := [.long x16, .int v1]) (rest := []) ⟨hx, hb, hml, hown, hts⟩ hw hnw hok (c_K_SF_has hok rfl) (cw_RuleBook_58 hts hnw (by decide)) rfl hl.1 rfl (Nat.le_of_ble_eq_true rfl) d_K_RuleBook_greatestAbout_18 (fun H locs hw => ?_)
    refine lv_if_eq (tgt := 26) hx hb d_K_RuleBook_greatestAbout_21 (by decide) (fun c_21 => ?_) (fun c_21 => ?_)
    · have h := (if_pos c_21).symm.trans h
      refine lv_iinc (v := v2 + (-1)) (lv' := [(2, .int (v2 + (-1))), (0, .ref (a 9)), (1, .int v1)]) hx hb d_K_RuleBook_greatestAbout_26 hl (k := 2) rfl rfl (by decide) rfl (fun ls hl => ?_)
      refine lv_goto (tgt := 7) hx hb d_K_RuleBook_greatestAbout_29 (by decide) ?_
      exact hself7 (v1, (v2 + (-1))) h _ _ _ hw (lv_sub hl [1, 2, 0] rfl)
    · have h := (if_neg c_21).symm.trans h
      refine lv_iload_n hx hb d_K_RuleBook_greatestAbout_24 rfl (lv_at hl 2 rfl) ?_
      exact hret _ _ _ _ _ _ (Option.some.inj h) rfl (vp_nar_int _) hw d_K_RuleBook_greatestAbout_25
set_option maxHeartbeats 4000000 in
set_option maxRecDepth 100000 in
theorem c_K_RuleReader_cut {l : Launch} {D : va_G} {A : Nat → Prop} {a : Nat → Nat} {cI cJ cC : ClassId} {adK adV : Nat → Nat} {N : Nat} {st : sk_M} {res : sk_M} (hok : sk_ok A (nwK A adK adV)) (h : K_RuleReader_cut N st = some res) : sk_Cv l y_K_RuleReader_cut w_K_RuleReader_cut rm_K_RuleReader_cut D (tyK cI cJ cC) A (ceK a cI cJ cC) (nwK A adK adV) [.ref (a 8)] st res := by
  refine sk_headv (by decide) rfl (Nat.le_of_ble_eq_true rfl) ?_
  intro p e s m args below meth c Q hx hb hml hown hts0 hnw hret ls hl hw
  have hts : ∀ w ∈ TB, w.before args s = true := fun w h => hts0 w (List.mem_cons_of_mem _ h)
  have hown : s.vm.findClass R_RuleReader = some m.cls := hown
  have hl : lv_has ls 3 [(0, .ref (a 8))] := hl
  unfold K_RuleReader_cut at h
  refine lv_aload_n hx hb d_K_RuleReader_cut_0 rfl (lv_at hl 0 rfl) ?_
  refine lv_iconst (v := 0) hx hb d_K_RuleReader_cut_1 (by decide) ?_
  obtain ⟨st2, e_2, h⟩ := sk_fI_some h
  refine pf_RuleReader_73 hx hb hts hnw hown hw e_2 d_K_RuleReader_cut_2 (fun H locs hw => ?_)
  refine lv_iconst (v := 0) hx hb d_K_RuleReader_cut_5 (by decide) ?_
  refine lv_istore_n (lv' := [(1, .int (0 : Int32)), (0, .ref (a 8))]) hx hb d_K_RuleReader_cut_6 rfl hl (by decide) rfl (fun ls hl => ?_)
  refine lv_iconst (v := 0) hx hb d_K_RuleReader_cut_7 (by decide) ?_
  refine lv_istore_n (lv' := [(2, .int (0 : Int32)), (1, .int (0 : Int32)), (0, .ref (a 8))]) hx hb d_K_RuleReader_cut_8 rfl hl (by decide) rfl (fun ls hl => ?_)
  refine sk_lp_run (G := fun (z : sk_M × Int32 × Int32) => ∀ (H : Heap) (locs : List Loc) (ls : Array Slot), sk_w D (tyK cI cJ cC) A (ceK a cI cJ cC) s z.1 H locs → lv_has ls 3 [(0, .ref (a 8)), (1, .int z.2.1), (2, .int z.2.2)] → W p l e rm_K_RuleReader_cut s m args below meth c H locs 0 0 Q (F0 m 9 ls [])) ?_ N _ h _ _ _ hw (lv_sub hl [2, 1, 0] rfl)
  rintro self9 ⟨st, v1, v2⟩ hself9 h H locs ls hw hl
  unfold K_RuleReader_cut_L9 at h
  refine lv_iload_n hx hb d_K_RuleReader_cut_9 rfl (lv_at hl 2 rfl) ?_
  refine lv_aload_n hx hb d_K_RuleReader_cut_10 rfl (lv_at hl 0 rfl) ?_
  refine gf_RuleReader_27 hx hb hts hnw hown hw d_K_RuleReader_cut_11 ?_
  refine gf_RuleReader_76 (i := 0) hx hb hts hnw hown hw (by decide) d_K_RuleReader_cut_14 ?_
  refine lv_icmp_gt (tgt := 85) hx hb d_K_RuleReader_cut_17 (by decide) (fun c_17 => ?_) (fun c_17 => ?_)
  · have h := (if_pos c_17).symm.trans h
    exact hret _ _ _ _ _ (Option.some.inj h) hw d_K_RuleReader_cut_85
  · have h := (if_neg c_17).symm.trans h
    refine lv_iload_n hx hb d_K_RuleReader_cut_20 rfl (lv_at hl 2 rfl) ?_
    refine lv_aload_n hx hb d_K_RuleReader_cut_21 rfl (lv_at hl 0 rfl) ?_
    refine gf_RuleReader_27 hx hb hts hnw hown hw d_K_RuleReader_cut_22 ?_
    refine gf_RuleReader_76 (i := 0) hx hb hts hnw hown hw (by decide) d_K_RuleReader_cut_25 ?_
    have hJ45 : ∀ (st : sk_M) (v1 : Int32) (v2 : Int32) (H : Heap) (locs : List Loc) (ls : Array Slot), K_RuleReader_cut_J45 N self9 st v1 v2 = some res → sk_w D (tyK cI cJ cC) A (ceK a cI cJ cC) s st H locs → lv_has ls 3 [(0, .ref (a 8)), (1, .int v1), (2, .int v2)] → W p l e rm_K_RuleReader_cut s m args below meth c H locs 0 0 Q (F0 m 45 ls []) := by
      intro st v1 v2 H locs ls h hw hl
      unfold K_RuleReader_cut_J45 at h
      refine lv_aload_n hx hb d_K_RuleReader_cut_45 rfl (lv_at hl 0 rfl) ?_
      refine lv_dup hx hb d_K_RuleReader_cut_46 rfl ?_
      refine gf_RuleReader_73 hx hb hts hnw hown hw d_K_RuleReader_cut_47 ?_
      refine lv_iconst (v := 1) hx hb d_K_RuleReader_cut_50 (by decide) ?_
      refine lv_iadd hx hb d_K_RuleReader_cut_51 ?_
      obtain ⟨st52, e_52, h⟩ := sk_fI_some h
      refine pf_RuleReader_73 hx hb hts hnw hown hw e_52 d_K_RuleReader_cut_52 (fun H locs hw => ?_)
      refine lv_aload_n hx hb d_K_RuleReader_cut_55 rfl (lv_at hl 0 rfl) ?_
      refine gf_RuleReader_9 hx hb hts hnw hown hw d_K_RuleReader_cut_56 ?_
      refine lv_aload_n hx hb d_K_RuleReader_cut_59 rfl (lv_at hl 0 rfl) ?_
      refine gf_RuleReader_73 hx hb hts hnw hown hw d_K_RuleReader_cut_60 ?_
      refine lv_iload_n hx hb d_K_RuleReader_cut_63 rfl (lv_at hl 1 rfl) ?_
      obtain ⟨st64, g_64, e_64, h⟩ := sk_wI_some h
      refine as_K33 hx hb hw g_64 e_64 d_K_RuleReader_cut_64 (fun H locs hw => ?_)
      refine lv_aload_n hx hb d_K_RuleReader_cut_65 rfl (lv_at hl 0 rfl) ?_
      refine gf_RuleReader_15 hx hb hts hnw hown hw d_K_RuleReader_cut_66 ?_
      refine lv_aload_n hx hb d_K_RuleReader_cut_69 rfl (lv_at hl 0 rfl) ?_
      refine gf_RuleReader_73 hx hb hts hnw hown hw d_K_RuleReader_cut_70 ?_
      refine lv_iload_n hx hb d_K_RuleReader_cut_73 rfl (lv_at hl 2 rfl) ?_
      obtain ⟨st74, g_74, e_74, h⟩ := sk_wI_some h
      refine as_K34 hx hb hw g_74 e_74 d_K_RuleReader_cut_74 (fun H locs hw => ?_)
      refine lv_iload_n hx hb d_K_RuleReader_cut_75 rfl (lv_at hl 2 rfl) ?_
      refine lv_iconst (v := 1) hx hb d_K_RuleReader_cut_76 (by decide) ?_
      refine lv_iadd hx hb d_K_RuleReader_cut_77 ?_
      refine lv_istore_n (lv' := [(1, .int (v2 + (1 : Int32))), (0, .ref (a 8)), (2, .int v2)]) hx hb d_K_RuleReader_cut_78 rfl hl (by decide) rfl (fun ls hl => ?_)
      refine lv_iinc (v := v2 + 1) (lv' := [(2, .int (v2 + 1)), (1, .int (v2 + (1 : Int32))), (0, .ref (a 8))]) hx hb d_K_RuleReader_cut_79 hl (k := 2) rfl rfl (by decide) rfl (fun ls hl => ?_)
      refine lv_goto (tgt := 9) hx hb d_K_RuleReader_cut_82 (by decide) ?_
      exact hself9 (st74, (v2 + (1 : Int32)), (v2 + 1)) h _ _ _ hw (lv_sub hl [2, 1, 0] rfl)
    refine lv_icmp_eq (tgt := 45) hx hb d_K_RuleReader_cut_28 (by decide) (fun c_28 => ?_) (fun c_28 => ?_)
    · have h := (if_pos c_28).symm.trans h
      exact hJ45 _ _ _ _ _ _ h hw (lv_sub hl [0, 1, 2] rfl)
    · have h := (if_neg c_28).symm.trans h
      refine lv_aload_n hx hb d_K_RuleReader_cut_31 rfl (lv_at hl 0 rfl) ?_
      refine gf_RuleReader_27 hx hb hts hnw hown hw d_K_RuleReader_cut_32 ?_
      refine gf_RuleReader_79 (i := 0) hx hb hts hnw hown hw (by decide) d_K_RuleReader_cut_35 ?_
      refine lv_iload_n hx hb d_K_RuleReader_cut_38 rfl (lv_at hl 2 rfl) ?_
      obtain ⟨x39, g_39, e_39, h⟩ := sk_rI_some h
      refine al_K13 hx hb hw g_39 e_39 d_K_RuleReader_cut_39 ?_
      refine lv_bipush (v := 32) hx hb d_K_RuleReader_cut_40 (by decide) ?_
      refine lv_icmp_ne (tgt := 79) hx hb d_K_RuleReader_cut_42 (by decide) (fun c_42 => ?_) (fun c_42 => ?_)
      · have h := (if_neg c_42).symm.trans h
        refine lv_iinc (v := v2 + 1) (lv' := [(2, .int (v2 + 1)), (0, .ref (a 8)), (1, .int v1)]) hx hb d_K_RuleReader_cut_79 hl (k := 2) rfl rfl (by decide) rfl (fun ls hl => ?_)
        refine lv_goto (tgt := 9) hx hb d_K_RuleReader_cut_82 (by decide) ?_
        exact hself9 (st, v1, (v2 + 1)) h _ _ _ hw (lv_sub hl [1, 2, 0] rfl)
      · have h := (if_pos c_42).symm.trans h
        exact hJ45 _ _ _ _ _ _ h hw (lv_sub hl [0, 1, 2] rfl)
set_option maxHeartbeats 4000000 in
set_option maxRecDepth 100000 in
theorem c_K_RuleReader_reads {l : Launch} {D : va_G} {A : Nat → Prop} {a : Nat → Nat} {cI cJ cC : ClassId} {adK adV : Nat → Nat} {N : Nat} {j2 : Nat} {st : sk_M} {v1 : Int32} {res : Int32} (hok : sk_ok A (nwK A adK adV)) (hj2 : j2 < 14) (h : K_RuleReader_reads N j2 st v1 = some res) : sk_Ci l y_K_RuleReader_reads w_K_RuleReader_reads rm_K_RuleReader_reads D (tyK cI cJ cC) A (ceK a cI cJ cC) (nwK A adK adV) [.ref (a 8), .int v1, .ref (adK j2)] st res st := by
  refine sk_headi .boolean (by decide) rfl (Nat.le_of_ble_eq_true rfl) ?_
  intro p e s m args below meth c Q hx hb hml hown hts0 hnw hret ls hl hw
  have hts : ∀ w ∈ TB, w.before args s = true := fun w h => hts0 w (List.mem_cons_of_mem _ h)
  have hown : s.vm.findClass R_RuleReader = some m.cls := hown
  have hl : lv_has ls 4 [(0, .ref (a 8)), (1, .int v1), (2, .ref (adK j2))] := hl
  unfold K_RuleReader_reads at h
  refine lv_iload_n hx hb d_K_RuleReader_reads_0 rfl (lv_at hl 1 rfl) ?_
  refine lv_aload_n hx hb d_K_RuleReader_reads_1 rfl (lv_at hl 0 rfl) ?_
  refine gf_RuleReader_73 hx hb hts hnw hown hw d_K_RuleReader_reads_2 ?_
  refine lv_icmp_gt (tgt := 28) hx hb d_K_RuleReader_reads_5 (by decide) (fun c_5 => ?_) (fun c_5 => ?_)
  · have h := (if_pos c_5).symm.trans h
    refine lv_iconst (v := 0) hx hb d_K_RuleReader_reads_28 (by decide) ?_
    exact hret _ _ _ _ _ _ (Option.some.inj h) rfl rfl hw d_K_RuleReader_reads_29
  · have h := (if_neg c_5).symm.trans h
    refine lv_aload_n hx hb d_K_RuleReader_reads_8 rfl (lv_at hl 0 rfl) ?_
    refine gf_RuleReader_15 hx hb hts hnw hown hw d_K_RuleReader_reads_9 ?_
    refine lv_iload_n hx hb d_K_RuleReader_reads_12 rfl (lv_at hl 1 rfl) ?_
    obtain ⟨x13, g_13, e_13, h⟩ := sk_rI_some h
    refine al_K34 hx hb hw g_13 e_13 d_K_RuleReader_reads_13 ?_
    refine lv_aload_n hx hb d_K_RuleReader_reads_14 rfl (lv_at hl 0 rfl) ?_
    refine gf_RuleReader_9 hx hb hts hnw hown hw d_K_RuleReader_reads_15 ?_
    refine lv_iload_n hx hb d_K_RuleReader_reads_18 rfl (lv_at hl 1 rfl) ?_
    obtain ⟨x19, g_19, e_19, h⟩ := sk_rI_some h
    refine al_K33 hx hb hw g_19 e_19 d_K_RuleReader_reads_19 ?_
    refine lv_isub hx hb d_K_RuleReader_reads_20 ?_
    refine lv_aload_n hx hb d_K_RuleReader_reads_21 rfl (lv_at hl 2 rfl) ?_
    refine sk_callVi (As := []) (rest := [.int (x13 - x19)]) ⟨hx, hb, hml, hown, hts⟩ hw hnw hok (c_J_length hok hj2 rfl) (cw_RuleReader_106 hts hnw (by decide)) (vk_recv hnw.2.2.1 hj2 hw.2.2.2) rfl hl.1 rfl (Nat.le_of_ble_eq_true rfl) d_K_RuleReader_reads_22 (fun H locs hw => ?_)
    refine lv_icmp_eq (tgt := 30) hx hb d_K_RuleReader_reads_25 (by decide) (fun c_25 => ?_) (fun c_25 => ?_)
    · have h := (if_pos c_25).symm.trans h
      refine lv_iconst (v := 0) hx hb d_K_RuleReader_reads_30 (by decide) ?_
      refine lv_istore_n (lv' := [(3, .int (0 : Int32)), (0, .ref (a 8)), (1, .int v1), (2, .ref (adK j2))]) hx hb d_K_RuleReader_reads_31 rfl hl (by decide) rfl (fun ls hl => ?_)
      refine sk_lp_run (G := fun (z : Int32 × Int32) => ∀ (H : Heap) (locs : List Loc) (ls : Array Slot), sk_w D (tyK cI cJ cC) A (ceK a cI cJ cC) s st H locs → lv_has ls 4 [(0, .ref (a 8)), (1, .int z.1), (2, .ref (adK j2)), (3, .int z.2)] → W p l e rm_K_RuleReader_reads s m args below meth c H locs 0 0 Q (F0 m 32 ls [])) ?_ N _ h _ _ _ hw (lv_sub hl [1, 2, 3, 0] rfl)
      rintro self32 ⟨v1, v3⟩ hself32 h H locs ls hw hl
      unfold K_RuleReader_reads_L32 at h
      refine lv_iload_n hx hb d_K_RuleReader_reads_32 rfl (lv_at hl 3 rfl) ?_
      refine lv_aload_n hx hb d_K_RuleReader_reads_33 rfl (lv_at hl 2 rfl) ?_
      refine sk_callVi (As := []) (rest := [.int v3]) ⟨hx, hb, hml, hown, hts⟩ hw hnw hok (c_J_length hok hj2 rfl) (cw_RuleReader_106 hts hnw (by decide)) (vk_recv hnw.2.2.1 hj2 hw.2.2.2) rfl hl.1 rfl (Nat.le_of_ble_eq_true rfl) d_K_RuleReader_reads_34 (fun H locs hw => ?_)
      refine lv_icmp_ge (tgt := 72) hx hb d_K_RuleReader_reads_37 (by decide) (fun c_37 => ?_) (fun c_37 => ?_)
      · have h := (if_pos c_37).symm.trans h
        refine lv_iconst (v := 1) hx hb d_K_RuleReader_reads_72 (by decide) ?_
        exact hret _ _ _ _ _ _ (Option.some.inj h) rfl rfl hw d_K_RuleReader_reads_73
      · have h := (if_neg c_37).symm.trans h
        refine lv_aload_n hx hb d_K_RuleReader_reads_40 rfl (lv_at hl 0 rfl) ?_
        refine gf_RuleReader_27 hx hb hts hnw hown hw d_K_RuleReader_reads_41 ?_
        refine gf_RuleReader_79 (i := 0) hx hb hts hnw hown hw (by decide) d_K_RuleReader_reads_44 ?_
        refine lv_aload_n hx hb d_K_RuleReader_reads_47 rfl (lv_at hl 0 rfl) ?_
        refine gf_RuleReader_9 hx hb hts hnw hown hw d_K_RuleReader_reads_48 ?_
        refine lv_iload_n hx hb d_K_RuleReader_reads_51 rfl (lv_at hl 1 rfl) ?_
        obtain ⟨x52, g_52, e_52, h⟩ := sk_rI_some h
        refine al_K33 hx hb hw g_52 e_52 d_K_RuleReader_reads_52 ?_
        refine lv_iload_n hx hb d_K_RuleReader_reads_53 rfl (lv_at hl 3 rfl) ?_
        refine lv_iadd hx hb d_K_RuleReader_reads_54 ?_
        obtain ⟨x55, g_55, e_55, h⟩ := sk_rI_some h
        refine al_K13 hx hb hw g_55 e_55 d_K_RuleReader_reads_55 ?_
        refine lv_aload_n hx hb d_K_RuleReader_reads_56 rfl (lv_at hl 2 rfl) ?_
        refine lv_iload_n hx hb d_K_RuleReader_reads_57 rfl (lv_at hl 3 rfl) ?_
        obtain ⟨x58, q_58, h⟩ := sk_oR_some h
        refine sk_callVi (As := [.int v3]) (rest := [.int x55]) ⟨hx, hb, hml, hown, hts⟩ hw hnw hok (c_J_charAt hok hj2 q_58) (cw_RuleReader_110 hts hnw (by decide)) (vk_recv hnw.2.2.1 hj2 hw.2.2.2) rfl hl.1 rfl (Nat.le_of_ble_eq_true rfl) d_K_RuleReader_reads_58 (fun H locs hw => ?_)
        refine lv_icmp_eq (tgt := 66) hx hb d_K_RuleReader_reads_61 (by decide) (fun c_61 => ?_) (fun c_61 => ?_)
        · have h := (if_pos c_61).symm.trans h
          refine lv_iinc (v := v3 + 1) (lv' := [(3, .int (v3 + 1)), (0, .ref (a 8)), (1, .int v1), (2, .ref (adK j2))]) hx hb d_K_RuleReader_reads_66 hl (k := 3) rfl rfl (by decide) rfl (fun ls hl => ?_)
          refine lv_goto (tgt := 32) hx hb d_K_RuleReader_reads_69 (by decide) ?_
          exact hself32 (v1, (v3 + 1)) h _ _ _ hw (lv_sub hl [1, 2, 3, 0] rfl)
        · have h := (if_neg c_61).symm.trans h
          refine lv_iconst (v := 0) hx hb d_K_RuleReader_reads_64 (by decide) ?_
          exact hret _ _ _ _ _ _ (Option.some.inj h) rfl rfl hw d_K_RuleReader_reads_65
    · have h := (if_neg c_25).symm.trans h
      refine lv_iconst (v := 0) hx hb d_K_RuleReader_reads_28 (by decide) ?_
      exact hret _ _ _ _ _ _ (Option.some.inj h) rfl rfl hw d_K_RuleReader_reads_29
set_option maxHeartbeats 4000000 in
set_option maxRecDepth 100000 in
theorem c_K_RuleReader_sortOfRule {l : Launch} {D : va_G} {A : Nat → Prop} {a : Nat → Nat} {cI cJ cC : ClassId} {adK adV : Nat → Nat} {N : Nat} {st : sk_M} {res : Int32} (hok : sk_ok A (nwK A adK adV)) (h : K_RuleReader_sortOfRule N st = some res) : sk_Ci l y_K_RuleReader_sortOfRule w_K_RuleReader_sortOfRule rm_K_RuleReader_sortOfRule D (tyK cI cJ cC) A (ceK a cI cJ cC) (nwK A adK adV) [.ref (a 8)] st res st := by
  refine sk_headi .int (by decide) rfl (Nat.le_of_ble_eq_true rfl) ?_
  intro p e s m args below meth c Q hx hb hml hown hts0 hnw hret ls hl hw
  have hts : ∀ w ∈ TB, w.before args s = true := fun w h => hts0 w (List.mem_cons_of_mem _ h)
  have hown : s.vm.findClass R_RuleReader = some m.cls := hown
  have hl : lv_has ls 1 [(0, .ref (a 8))] := hl
  unfold K_RuleReader_sortOfRule at h
  refine lv_aload_n hx hb d_K_RuleReader_sortOfRule_0 rfl (lv_at hl 0 rfl) ?_
  refine lv_iconst (v := 1) hx hb d_K_RuleReader_sortOfRule_1 (by decide) ?_
  refine va_ldcS hx hb hown (hnw.2.1 _ _ _ _ ks_RuleReader_83) d_K_RuleReader_sortOfRule_2 ?_
  obtain ⟨x4, q_4, h⟩ := sk_oR_some h
  refine sk_callVi (As := [.int (1 : Int32), .ref (adK 0)]) (rest := []) ⟨hx, hb, hml, hown, hts⟩ hw hnw hok (c_K_RuleReader_reads hok (by decide) q_4) (cw_RuleReader_43 hts hnw (by decide)) (rc_K8 hw) rfl hl.1 rfl (Nat.le_of_ble_eq_true rfl) d_K_RuleReader_sortOfRule_4 (fun H locs hw => ?_)
  refine lv_if_eq (tgt := 12) hx hb d_K_RuleReader_sortOfRule_7 (by decide) (fun c_7 => ?_) (fun c_7 => ?_)
  · have h := (if_pos c_7).symm.trans h
    refine lv_aload_n hx hb d_K_RuleReader_sortOfRule_12 rfl (lv_at hl 0 rfl) ?_
    refine lv_iconst (v := 1) hx hb d_K_RuleReader_sortOfRule_13 (by decide) ?_
    refine va_ldcS hx hb hown (hnw.2.1 _ _ _ _ ks_RuleReader_85) d_K_RuleReader_sortOfRule_14 ?_
    obtain ⟨x16, q_16, h⟩ := sk_oR_some h
    refine sk_callVi (As := [.int (1 : Int32), .ref (adK 1)]) (rest := []) ⟨hx, hb, hml, hown, hts⟩ hw hnw hok (c_K_RuleReader_reads hok (by decide) q_16) (cw_RuleReader_43 hts hnw (by decide)) (rc_K8 hw) rfl hl.1 rfl (Nat.le_of_ble_eq_true rfl) d_K_RuleReader_sortOfRule_16 (fun H locs hw => ?_)
    refine lv_if_eq (tgt := 24) hx hb d_K_RuleReader_sortOfRule_19 (by decide) (fun c_19 => ?_) (fun c_19 => ?_)
    · have h := (if_pos c_19).symm.trans h
      refine lv_aload_n hx hb d_K_RuleReader_sortOfRule_24 rfl (lv_at hl 0 rfl) ?_
      refine lv_iconst (v := 1) hx hb d_K_RuleReader_sortOfRule_25 (by decide) ?_
      refine va_ldcS hx hb hown (hnw.2.1 _ _ _ _ ks_RuleReader_87) d_K_RuleReader_sortOfRule_26 ?_
      obtain ⟨x28, q_28, h⟩ := sk_oR_some h
      refine sk_callVi (As := [.int (1 : Int32), .ref (adK 2)]) (rest := []) ⟨hx, hb, hml, hown, hts⟩ hw hnw hok (c_K_RuleReader_reads hok (by decide) q_28) (cw_RuleReader_43 hts hnw (by decide)) (rc_K8 hw) rfl hl.1 rfl (Nat.le_of_ble_eq_true rfl) d_K_RuleReader_sortOfRule_28 (fun H locs hw => ?_)
      refine lv_if_eq (tgt := 38) hx hb d_K_RuleReader_sortOfRule_31 (by decide) (fun c_31 => ?_) (fun c_31 => ?_)
      · have h := (if_pos c_31).symm.trans h
        refine lv_iconst (v := 0) hx hb d_K_RuleReader_sortOfRule_38 (by decide) ?_
        exact hret _ _ _ _ _ _ (Option.some.inj h) rfl (vp_nar_int _) hw d_K_RuleReader_sortOfRule_39
      · have h := (if_neg c_31).symm.trans h
        refine lv_iconst (v := 3) hx hb d_K_RuleReader_sortOfRule_34 (by decide) ?_
        refine lv_goto (tgt := 39) hx hb d_K_RuleReader_sortOfRule_35 (by decide) ?_
        exact hret _ _ _ _ _ _ (Option.some.inj h) rfl (vp_nar_int _) hw d_K_RuleReader_sortOfRule_39
    · have h := (if_neg c_19).symm.trans h
      refine lv_iconst (v := 2) hx hb d_K_RuleReader_sortOfRule_22 (by decide) ?_
      exact hret _ _ _ _ _ _ (Option.some.inj h) rfl (vp_nar_int _) hw d_K_RuleReader_sortOfRule_23
  · have h := (if_neg c_7).symm.trans h
    refine lv_iconst (v := 1) hx hb d_K_RuleReader_sortOfRule_10 (by decide) ?_
    exact hret _ _ _ _ _ _ (Option.some.inj h) rfl (vp_nar_int _) hw d_K_RuleReader_sortOfRule_11
set_option maxHeartbeats 4000000 in
set_option maxRecDepth 100000 in
theorem c_K_RuleReader_isPattern {l : Launch} {D : va_G} {A : Nat → Prop} {a : Nat → Nat} {cI cJ cC : ClassId} {adK adV : Nat → Nat} {N : Nat} {st : sk_M} {v1 : Int32} {v2 : Int32} {res : Int32} (hok : sk_ok A (nwK A adK adV)) (h : K_RuleReader_isPattern N st v1 v2 = some res) : sk_Ci l y_K_RuleReader_isPattern w_K_RuleReader_isPattern rm_K_RuleReader_isPattern D (tyK cI cJ cC) A (ceK a cI cJ cC) (nwK A adK adV) [.ref (a 8), .int v1, .int v2] st res st := by
  refine sk_headi .boolean (by decide) rfl (Nat.le_of_ble_eq_true rfl) ?_
  intro p e s m args below meth c Q hx hb hml hown hts0 hnw hret ls hl hw
  have hts : ∀ w ∈ TB, w.before args s = true := fun w h => hts0 w (List.mem_cons_of_mem _ h)
  have hown : s.vm.findClass R_RuleReader = some m.cls := hown
  have hl : lv_has ls 5 [(0, .ref (a 8)), (1, .int v1), (2, .int v2)] := hl
  unfold K_RuleReader_isPattern at h
  refine lv_iload_n hx hb d_K_RuleReader_isPattern_0 rfl (lv_at hl 1 rfl) ?_
  refine lv_aload_n hx hb d_K_RuleReader_isPattern_1 rfl (lv_at hl 0 rfl) ?_
  refine gf_RuleReader_73 hx hb hts hnw hown hw d_K_RuleReader_isPattern_2 ?_
  refine lv_icmp_gt (tgt := 25) hx hb d_K_RuleReader_isPattern_5 (by decide) (fun c_5 => ?_) (fun c_5 => ?_)
  · have h := (if_pos c_5).symm.trans h
    refine lv_iconst (v := 0) hx hb d_K_RuleReader_isPattern_25 (by decide) ?_
    exact hret _ _ _ _ _ _ (Option.some.inj h) rfl rfl hw d_K_RuleReader_isPattern_26
  · have h := (if_neg c_5).symm.trans h
    refine lv_aload_n hx hb d_K_RuleReader_isPattern_8 rfl (lv_at hl 0 rfl) ?_
    refine gf_RuleReader_15 hx hb hts hnw hown hw d_K_RuleReader_isPattern_9 ?_
    refine lv_iload_n hx hb d_K_RuleReader_isPattern_12 rfl (lv_at hl 1 rfl) ?_
    obtain ⟨x13, g_13, e_13, h⟩ := sk_rI_some h
    refine al_K34 hx hb hw g_13 e_13 d_K_RuleReader_isPattern_13 ?_
    refine lv_iload_n hx hb d_K_RuleReader_isPattern_14 rfl (lv_at hl 2 rfl) ?_
    refine lv_isub hx hb d_K_RuleReader_isPattern_15 ?_
    refine lv_aload_n hx hb d_K_RuleReader_isPattern_16 rfl (lv_at hl 0 rfl) ?_
    refine gf_RuleReader_9 hx hb hts hnw hown hw d_K_RuleReader_isPattern_17 ?_
    refine lv_iload_n hx hb d_K_RuleReader_isPattern_20 rfl (lv_at hl 1 rfl) ?_
    obtain ⟨x21, g_21, e_21, h⟩ := sk_rI_some h
    refine al_K33 hx hb hw g_21 e_21 d_K_RuleReader_isPattern_21 ?_
    refine lv_icmp_gt (tgt := 27) hx hb d_K_RuleReader_isPattern_22 (by decide) (fun c_22 => ?_) (fun c_22 => ?_)
    · have h := (if_pos c_22).symm.trans h
      refine lv_aload_n hx hb d_K_RuleReader_isPattern_27 rfl (lv_at hl 0 rfl) ?_
      refine gf_RuleReader_9 hx hb hts hnw hown hw d_K_RuleReader_isPattern_28 ?_
      refine lv_iload_n hx hb d_K_RuleReader_isPattern_31 rfl (lv_at hl 1 rfl) ?_
      obtain ⟨x32, g_32, e_32, h⟩ := sk_rI_some h
      refine al_K33 hx hb hw g_32 e_32 d_K_RuleReader_isPattern_32 ?_
      refine lv_istore_n (lv' := [(3, .int x32), (0, .ref (a 8)), (1, .int v1), (2, .int v2)]) hx hb d_K_RuleReader_isPattern_33 rfl hl (by decide) rfl (fun ls hl => ?_)
      refine sk_lp_run (G := fun (z : Int32 × Int32 × Int32) => ∀ (H : Heap) (locs : List Loc) (ls : Array Slot), sk_w D (tyK cI cJ cC) A (ceK a cI cJ cC) s st H locs → lv_has ls 5 [(0, .ref (a 8)), (1, .int z.1), (2, .int z.2.1), (3, .int z.2.2)] → W p l e rm_K_RuleReader_isPattern s m args below meth c H locs 0 0 Q (F0 m 34 ls [])) ?_ N _ h _ _ _ hw (lv_sub hl [1, 2, 3, 0] rfl)
      rintro self34 ⟨v1, v2, v3⟩ hself34 h H locs ls hw hl
      unfold K_RuleReader_isPattern_L34 at h
      refine lv_iload_n hx hb d_K_RuleReader_isPattern_34 rfl (lv_at hl 3 rfl) ?_
      refine lv_aload_n hx hb d_K_RuleReader_isPattern_35 rfl (lv_at hl 0 rfl) ?_
      refine gf_RuleReader_15 hx hb hts hnw hown hw d_K_RuleReader_isPattern_36 ?_
      refine lv_iload_n hx hb d_K_RuleReader_isPattern_39 rfl (lv_at hl 1 rfl) ?_
      obtain ⟨x40, g_40, e_40, h⟩ := sk_rI_some h
      refine al_K34 hx hb hw g_40 e_40 d_K_RuleReader_isPattern_40 ?_
      refine lv_iload_n hx hb d_K_RuleReader_isPattern_41 rfl (lv_at hl 2 rfl) ?_
      refine lv_isub hx hb d_K_RuleReader_isPattern_42 ?_
      refine lv_icmp_ge (tgt := 86) hx hb d_K_RuleReader_isPattern_43 (by decide) (fun c_43 => ?_) (fun c_43 => ?_)
      · have h := (if_pos c_43).symm.trans h
        refine lv_iconst (v := 1) hx hb d_K_RuleReader_isPattern_86 (by decide) ?_
        exact hret _ _ _ _ _ _ (Option.some.inj h) rfl rfl hw d_K_RuleReader_isPattern_87
      · have h := (if_neg c_43).symm.trans h
        refine lv_aload_n hx hb d_K_RuleReader_isPattern_46 rfl (lv_at hl 0 rfl) ?_
        refine gf_RuleReader_27 hx hb hts hnw hown hw d_K_RuleReader_isPattern_47 ?_
        refine gf_RuleReader_79 (i := 0) hx hb hts hnw hown hw (by decide) d_K_RuleReader_isPattern_50 ?_
        refine lv_iload_n hx hb d_K_RuleReader_isPattern_53 rfl (lv_at hl 3 rfl) ?_
        obtain ⟨x54, g_54, e_54, h⟩ := sk_rI_some h
        refine al_K13 hx hb hw g_54 e_54 d_K_RuleReader_isPattern_54 ?_
        refine lv_istore (lv' := [(4, .int x54), (0, .ref (a 8)), (1, .int v1), (2, .int v2), (3, .int v3)]) hx hb d_K_RuleReader_isPattern_55 hl (by decide) rfl (fun ls hl => ?_)
        refine lv_iload hx hb d_K_RuleReader_isPattern_57 (lv_at hl 0 rfl) ?_
        refine lv_bipush (v := 59) hx hb d_K_RuleReader_isPattern_59 (by decide) ?_
        refine lv_icmp_eq (tgt := 78) hx hb d_K_RuleReader_isPattern_61 (by decide) (fun c_61 => ?_) (fun c_61 => ?_)
        · have h := (if_pos c_61).symm.trans h
          refine lv_iconst (v := 0) hx hb d_K_RuleReader_isPattern_78 (by decide) ?_
          exact hret _ _ _ _ _ _ (Option.some.inj h) rfl rfl hw d_K_RuleReader_isPattern_79
        · have h := (if_neg c_61).symm.trans h
          refine lv_iload hx hb d_K_RuleReader_isPattern_64 (lv_at hl 0 rfl) ?_
          refine lv_bipush (v := 123) hx hb d_K_RuleReader_isPattern_66 (by decide) ?_
          refine lv_icmp_eq (tgt := 78) hx hb d_K_RuleReader_isPattern_68 (by decide) (fun c_68 => ?_) (fun c_68 => ?_)
          · have h := (if_pos c_68).symm.trans h
            refine lv_iconst (v := 0) hx hb d_K_RuleReader_isPattern_78 (by decide) ?_
            exact hret _ _ _ _ _ _ (Option.some.inj h) rfl rfl hw d_K_RuleReader_isPattern_79
          · have h := (if_neg c_68).symm.trans h
            refine lv_iload hx hb d_K_RuleReader_isPattern_71 (lv_at hl 0 rfl) ?_
            refine lv_bipush (v := 125) hx hb d_K_RuleReader_isPattern_73 (by decide) ?_
            refine lv_icmp_ne (tgt := 80) hx hb d_K_RuleReader_isPattern_75 (by decide) (fun c_75 => ?_) (fun c_75 => ?_)
            · have h := (if_neg c_75).symm.trans h
              refine lv_iinc (v := v3 + 1) (lv' := [(3, .int (v3 + 1)), (4, .int x54), (0, .ref (a 8)), (1, .int v1), (2, .int v2)]) hx hb d_K_RuleReader_isPattern_80 hl (k := 4) rfl rfl (by decide) rfl (fun ls hl => ?_)
              refine lv_goto (tgt := 34) hx hb d_K_RuleReader_isPattern_83 (by decide) ?_
              exact hself34 (v1, v2, (v3 + 1)) h _ _ _ hw (lv_sub hl [2, 3, 4, 0] rfl)
            · have h := (if_pos c_75).symm.trans h
              refine lv_iconst (v := 0) hx hb d_K_RuleReader_isPattern_78 (by decide) ?_
              exact hret _ _ _ _ _ _ (Option.some.inj h) rfl rfl hw d_K_RuleReader_isPattern_79
    · have h := (if_neg c_22).symm.trans h
      refine lv_iconst (v := 0) hx hb d_K_RuleReader_isPattern_25 (by decide) ?_
      exact hret _ _ _ _ _ _ (Option.some.inj h) rfl rfl hw d_K_RuleReader_isPattern_26
