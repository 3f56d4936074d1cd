set_option maxHeartbeats 4000000 in
set_option maxRecDepth 100000 in
theorem c_M_isActive {l : Launch} {D : va_G} {A : Nat → Prop} {a : Nat → Nat} {cI cZ : ClassId} {nw : State → Prop} {st : sk_M} {v1 : Int32} {res : Int32} (hok : sk_ok A nw) (h : M_isActive st v1 = some res) : sk_Ci l y_M_isActive w_M_isActive rm_M_isActive D (tyM cI cZ) A (ceM a cI cZ) nw [.ref (a 0), .int v1] st res st := by
  refine sk_headi .boolean (by decide) rfl (Nat.le_of_ble_eq_true rfl) ?_
  intro p e s m args below meth c Q hx hb hml hown hts0 hnw hret ls hl hw
  have hts : ∀ w ∈ TB, w.before args s = true := fun w h => hts0 w (List.mem_cons_of_mem _ h)
  have hown : s.vm.findClass R_M = some m.cls := hown
  have hl : lv_has ls 2 [(0, .ref (a 0)), (1, .int v1)] := hl
  unfold M_isActive at h
  refine lv_aload_n hx hb d_M_isActive_0 rfl (lv_at hl 0 rfl) ?_
  refine gf_M_44 hx hb hts hnw hown hw d_M_isActive_1 ?_
  refine lv_aload_n hx hb d_M_isActive_4 rfl (lv_at hl 0 rfl) ?_
  refine gf_M_51 hx hb hts hnw hown hw d_M_isActive_5 ?_
  refine lv_iload_n hx hb d_M_isActive_8 rfl (lv_at hl 1 rfl) ?_
  obtain ⟨x9, g_9, e_9, h⟩ := sk_rI_some h
  refine al_M13 hx hb hw g_9 e_9 d_M_isActive_9 ?_
  obtain ⟨x10, g_10, e_10, h⟩ := sk_rI_some h
  refine al_M12 hx hb hw g_10 e_10 d_M_isActive_10 ?_
  refine lv_if_ne (tgt := 32) hx hb d_M_isActive_11 (by decide) (fun c_11 => ?_) (fun c_11 => ?_)
  · have h := (if_neg c_11).symm.trans h
    refine lv_iconst (v := 0) hx hb d_M_isActive_32 (by decide) ?_
    exact hret _ _ _ _ _ _ (Option.some.inj h) rfl rfl hw d_M_isActive_33
  · have h := (if_pos c_11).symm.trans h
    refine lv_aload_n hx hb d_M_isActive_14 rfl (lv_at hl 0 rfl) ?_
    refine gf_M_126 hx hb hts hnw hown hw d_M_isActive_15 ?_
    refine lv_aload_n hx hb d_M_isActive_18 rfl (lv_at hl 0 rfl) ?_
    refine gf_M_51 hx hb hts hnw hown hw d_M_isActive_19 ?_
    refine lv_iload_n hx hb d_M_isActive_22 rfl (lv_at hl 1 rfl) ?_
    obtain ⟨x23, g_23, e_23, h⟩ := sk_rI_some h
    refine al_M13 hx hb hw g_23 e_23 d_M_isActive_23 ?_
    obtain ⟨x24, g_24, e_24, h⟩ := sk_rI_some h
    refine al_M38 hx hb hw g_24 e_24 d_M_isActive_24 ?_
    refine lv_if_eq (tgt := 32) hx hb d_M_isActive_25 (by decide) (fun c_25 => ?_) (fun c_25 => ?_)
    · have h := (if_pos c_25).symm.trans h
      refine lv_iconst (v := 0) hx hb d_M_isActive_32 (by decide) ?_
      exact hret _ _ _ _ _ _ (Option.some.inj h) rfl rfl hw d_M_isActive_33
    · have h := (if_neg c_25).symm.trans h
      refine lv_iconst (v := 1) hx hb d_M_isActive_28 (by decide) ?_
      refine lv_goto (tgt := 33) hx hb d_M_isActive_29 (by decide) ?_
      exact hret _ _ _ _ _ _ (Option.some.inj h) rfl rfl hw d_M_isActive_33
set_option maxHeartbeats 4000000 in
set_option maxRecDepth 100000 in
theorem c_M_find {l : Launch} {D : va_G} {A : Nat → Prop} {a : Nat → Nat} {cI cZ : ClassId} {nw : State → Prop} {N : Nat} {st : sk_M} {res : sk_M} (hok : sk_ok A nw) (h : M_find N st = some res) : sk_Cv l y_M_find w_M_find rm_M_find D (tyM cI cZ) A (ceM a cI cZ) nw [.ref (a 0)] st res := by
  refine sk_headv (by decide) rfl (Nat.le_of_ble_eq_true rfl) ?_
  intro p e s m args below meth c Q hx hb hml hown hts0 hnw hret ls hl hw
  have hts : ∀ w ∈ TB, w.before args s = true := fun w h => hts0 w (List.mem_cons_of_mem _ h)
  have hown : s.vm.findClass R_M = some m.cls := hown
  have hl : lv_has ls 4 [(0, .ref (a 0))] := hl
  unfold M_find at h
  refine lv_aload_n hx hb d_M_find_0 rfl (lv_at hl 0 rfl) ?_
  obtain ⟨st1, q_1, h⟩ := sk_oR_some h
  refine sk_callVv (As := []) (rest := []) ⟨hx, hb, hml, hown, hts⟩ hw hnw hok (c_M_order hok q_1) (cw_M_247 hts hnw (by decide)) (rc_M hw) rfl hl.1 rfl (Nat.le_of_ble_eq_true rfl) d_M_find_1 (fun H locs hw => ?_)
  refine lv_iconst (v := 0) hx hb d_M_find_4 (by decide) ?_
  refine lv_istore_n (lv' := [(1, .int (0 : Int32)), (0, .ref (a 0))]) hx hb d_M_find_5 rfl hl (by decide) rfl (fun ls hl => ?_)
  have hJ53 : ∀ (st : sk_M) (H : Heap) (locs : List Loc) (ls : Array Slot), M_find_J53 N st = some res → sk_w D (tyM cI cZ) A (ceM a cI cZ) s st H locs → lv_has ls 4 [(0, .ref (a 0))] → W p l e rm_M_find s m args below meth c H locs 0 0 Q (F0 m 53 ls []) := by
    intro st H locs ls h hw hl
    unfold M_find_J53 at h
    refine lv_iconst (v := 0) hx hb d_M_find_53 (by decide) ?_
    refine lv_istore_n (lv' := [(1, .int (0 : Int32)), (0, .ref (a 0))]) hx hb d_M_find_54 rfl hl (by decide) rfl (fun ls hl => ?_)
    have hJ96 : ∀ (st : sk_M) (H : Heap) (locs : List Loc) (ls : Array Slot), M_find_J96 N st = some res → sk_w D (tyM cI cZ) A (ceM a cI cZ) s st H locs → lv_has ls 4 [(0, .ref (a 0))] → W p l e rm_M_find s m args below meth c H locs 0 0 Q (F0 m 96 ls []) := by
      intro st H locs ls h hw hl
      unfold M_find_J96 at h
      refine lv_iconst (v := 0) hx hb d_M_find_96 (by decide) ?_
      refine lv_istore_n (lv' := [(1, .int (0 : Int32)), (0, .ref (a 0))]) hx hb d_M_find_97 rfl hl (by decide) rfl (fun ls hl => ?_)
      have hJ125 : ∀ (st : sk_M) (H : Heap) (locs : List Loc) (ls : Array Slot), M_find_J125 N st = some res → sk_w D (tyM cI cZ) A (ceM a cI cZ) s st H locs → lv_has ls 4 [(0, .ref (a 0))] → W p l e rm_M_find s m args below meth c H locs 0 0 Q (F0 m 125 ls []) := by
        intro st H locs ls h hw hl
        unfold M_find_J125 at h
        refine lv_aload_n hx hb d_M_find_125 rfl (lv_at hl 0 rfl) ?_
        refine lv_iconst (v := 1) hx hb d_M_find_126 (by decide) ?_
        obtain ⟨st127, e_127, h⟩ := sk_fI_some h
        refine pf_M_224 hx hb hts hnw hown hw (by decide) e_127 d_M_find_127 (fun H locs hw => ?_)
        refine sk_lp_run (G := fun (z : sk_M) => ∀ (H : Heap) (locs : List Loc) (ls : Array Slot), sk_w D (tyM cI cZ) A (ceM a cI cZ) s z H locs → lv_has ls 4 [(0, .ref (a 0))] → W p l e rm_M_find s m args below meth c H locs 0 0 Q (F0 m 130 ls [])) ?_ N _ h _ _ _ hw (lv_sub hl [0] rfl)
        rintro self130 st hself130 h H locs ls hw hl
        unfold M_find_L130 at h
        refine lv_aload_n hx hb d_M_find_130 rfl (lv_at hl 0 rfl) ?_
        refine gf_M_224 hx hb hts hnw hown hw d_M_find_131 ?_
        refine lv_if_eq (tgt := 196) hx hb d_M_find_134 (by decide) (fun c_134 => ?_) (fun c_134 => ?_)
        · have h := (if_pos c_134).symm.trans h
          exact hret _ _ _ _ _ (Option.some.inj h) hw d_M_find_196
        · have h := (if_neg c_134).symm.trans h
          refine lv_aload_n hx hb d_M_find_137 rfl (lv_at hl 0 rfl) ?_
          refine lv_iconst (v := 0) hx hb d_M_find_138 (by decide) ?_
          obtain ⟨st139, e_139, h⟩ := sk_fI_some h
          refine pf_M_224 hx hb hts hnw hown hw (by decide) e_139 d_M_find_139 (fun H locs hw => ?_)
          refine lv_aload_n hx hb d_M_find_142 rfl (lv_at hl 0 rfl) ?_
          obtain ⟨st143, q_143, h⟩ := sk_oR_some h
          refine sk_callVv (As := []) (rest := []) ⟨hx, hb, hml, hown, hts⟩ hw hnw hok (c_M_byRules hok q_143) (cw_M_253 hts hnw (by decide)) (rc_M hw) rfl hl.1 rfl (Nat.le_of_ble_eq_true rfl) d_M_find_143 (fun H locs hw => ?_)
          refine lv_aload_n hx hb d_M_find_146 rfl (lv_at hl 0 rfl) ?_
          obtain ⟨st147, q_147, h⟩ := sk_oR_some h
          refine sk_callVv (As := []) (rest := []) ⟨hx, hb, hml, hown, hts⟩ hw hnw hok (c_M_byClasses hok q_147) (cw_M_256 hts hnw (by decide)) (rc_M hw) rfl hl.1 rfl (Nat.le_of_ble_eq_true rfl) d_M_find_147 (fun H locs hw => ?_)
          refine lv_iconst (v := 0) hx hb d_M_find_150 (by decide) ?_
          refine lv_istore_n (lv' := [(1, .int (0 : Int32)), (0, .ref (a 0))]) hx hb d_M_find_151 rfl hl (by decide) rfl (fun ls hl => ?_)
          have hJ193 : ∀ (st : sk_M) (H : Heap) (locs : List Loc) (ls : Array Slot), M_find_J193 N self130 st = some res → sk_w D (tyM cI cZ) A (ceM a cI cZ) s st H locs → lv_has ls 4 [(0, .ref (a 0))] → W p l e rm_M_find s m args below meth c H locs 0 0 Q (F0 m 193 ls []) := by
            intro st H locs ls h hw hl
            unfold M_find_J193 at h
            refine lv_goto (tgt := 130) hx hb d_M_find_193 (by decide) ?_
            exact hself130 st h _ _ _ hw (lv_sub hl [0] rfl)
          refine sk_lp_run (G := fun (z : sk_M × Int32) => ∀ (H : Heap) (locs : List Loc) (ls : Array Slot), sk_w D (tyM cI cZ) A (ceM a cI cZ) s z.1 H locs → lv_has ls 4 [(0, .ref (a 0)), (1, .int z.2)] → W p l e rm_M_find s m args below meth c H locs 0 0 Q (F0 m 152 ls [])) ?_ N _ h _ _ _ hw (lv_sub hl [1, 0] rfl)
          rintro self152 ⟨st, v1⟩ hself152 h H locs ls hw hl
          unfold M_find_L152 at h
          refine lv_iload_n hx hb d_M_find_152 rfl (lv_at hl 1 rfl) ?_
          refine lv_aload_n hx hb d_M_find_153 rfl (lv_at hl 0 rfl) ?_
          refine gf_M_143 hx hb hts hnw hown hw d_M_find_154 ?_
          refine lv_icmp_ge (tgt := 193) hx hb d_M_find_157 (by decide) (fun c_157 => ?_) (fun c_157 => ?_)
          · have h := (if_pos c_157).symm.trans h
            exact hJ193 _ _ _ _ h hw (lv_sub hl [0] rfl)
          · have h := (if_neg c_157).symm.trans h
            refine lv_aload_n hx hb d_M_find_160 rfl (lv_at hl 0 rfl) ?_
            refine lv_iload_n hx hb d_M_find_161 rfl (lv_at hl 1 rfl) ?_
            obtain ⟨x162, q_162, h⟩ := sk_oR_some h
            refine sk_callVi (As := [.int v1]) (rest := []) ⟨hx, hb, hml, hown, hts⟩ hw hnw hok (c_M_isActive hok q_162) (cw_M_259 hts hnw (by decide)) (rc_M hw) rfl hl.1 rfl (Nat.le_of_ble_eq_true rfl) d_M_find_162 (fun H locs hw => ?_)
            refine lv_if_eq (tgt := 187) hx hb d_M_find_165 (by decide) (fun c_165 => ?_) (fun c_165 => ?_)
            · have h := (if_pos c_165).symm.trans h
              refine lv_iinc (v := v1 + 1) (lv' := [(1, .int (v1 + 1)), (0, .ref (a 0))]) hx hb d_M_find_187 hl (k := 1) rfl rfl (by decide) rfl (fun ls hl => ?_)
              refine lv_goto (tgt := 152) hx hb d_M_find_190 (by decide) ?_
              exact hself152 (st, (v1 + 1)) h _ _ _ hw (lv_sub hl [1, 0] rfl)
            · have h := (if_neg c_165).symm.trans h
              refine lv_aload_n hx hb d_M_find_168 rfl (lv_at hl 0 rfl) ?_
              refine gf_M_7 hx hb hts hnw hown hw d_M_find_169 ?_
              refine lv_aload_n hx hb d_M_find_172 rfl (lv_at hl 0 rfl) ?_
              refine gf_M_57 hx hb hts hnw hown hw d_M_find_173 ?_
              refine lv_iload_n hx hb d_M_find_176 rfl (lv_at hl 1 rfl) ?_
              obtain ⟨x177, g_177, e_177, h⟩ := sk_rI_some h
              refine al_M15 hx hb hw g_177 e_177 d_M_find_177 ?_
              obtain ⟨x178, g_178, e_178, h⟩ := sk_rI_some h
              refine al_M1 hx hb hw g_178 e_178 d_M_find_178 ?_
              refine lv_if_eq (tgt := 187) hx hb d_M_find_179 (by decide) (fun c_179 => ?_) (fun c_179 => ?_)
              · have h := (if_pos c_179).symm.trans h
                refine lv_iinc (v := v1 + 1) (lv' := [(1, .int (v1 + 1)), (0, .ref (a 0))]) hx hb d_M_find_187 hl (k := 1) rfl rfl (by decide) rfl (fun ls hl => ?_)
                refine lv_goto (tgt := 152) hx hb d_M_find_190 (by decide) ?_
                exact hself152 (st, (v1 + 1)) h _ _ _ hw (lv_sub hl [1, 0] rfl)
              · have h := (if_neg c_179).symm.trans h
                refine lv_aload_n hx hb d_M_find_182 rfl (lv_at hl 0 rfl) ?_
                refine lv_iload_n hx hb d_M_find_183 rfl (lv_at hl 1 rfl) ?_
                obtain ⟨st184, q_184, h⟩ := sk_oR_some h
                refine sk_callVv (As := [.int v1]) (rest := []) ⟨hx, hb, hml, hown, hts⟩ hw hnw hok (c_M_byReference hok q_184) (cw_M_262 hts hnw (by decide)) (rc_M hw) rfl hl.1 rfl (Nat.le_of_ble_eq_true rfl) d_M_find_184 (fun H locs hw => ?_)
                refine lv_iinc (v := v1 + 1) (lv' := [(1, .int (v1 + 1)), (0, .ref (a 0))]) hx hb d_M_find_187 hl (k := 1) rfl rfl (by decide) rfl (fun ls hl => ?_)
                refine lv_goto (tgt := 152) hx hb d_M_find_190 (by decide) ?_
                exact hself152 (st184, (v1 + 1)) h _ _ _ hw (lv_sub hl [1, 0] rfl)
      refine sk_lp_run (G := fun (z : sk_M × Int32) => ∀ (H : Heap) (locs : List Loc) (ls : Array Slot), sk_w D (tyM cI cZ) A (ceM a cI cZ) s z.1 H locs → lv_has ls 4 [(0, .ref (a 0)), (1, .int z.2)] → W p l e rm_M_find s m args below meth c H locs 0 0 Q (F0 m 98 ls [])) ?_ N _ h _ _ _ hw (lv_sub hl [1, 0] rfl)
      rintro self98 ⟨st, v1⟩ hself98 h H locs ls hw hl
      unfold M_find_L98 at h
      refine lv_iload_n hx hb d_M_find_98 rfl (lv_at hl 1 rfl) ?_
      refine lv_bipush (v := 40) hx hb d_M_find_99 (by decide) ?_
      refine lv_icmp_ge (tgt := 125) hx hb d_M_find_101 (by decide) (fun c_101 => ?_) (fun c_101 => ?_)
      · have h := (if_pos c_101).symm.trans h
        exact hJ125 _ _ _ _ h hw (lv_sub hl [0] rfl)
      · have h := (if_neg c_101).symm.trans h
        refine lv_aload_n hx hb d_M_find_104 rfl (lv_at hl 0 rfl) ?_
        refine gf_M_126 hx hb hts hnw hown hw d_M_find_105 ?_
        refine lv_iload_n hx hb d_M_find_108 rfl (lv_at hl 1 rfl) ?_
        refine lv_iload_n hx hb d_M_find_109 rfl (lv_at hl 1 rfl) ?_
        have hJ118 : ∀ (st : sk_M) (v1 : Int32) (s1 : Int32) (s2 : Int32) (H : Heap) (locs : List Loc) (ls : Array Slot), M_find_J118 N (fun st => M_find_J125 N st) self98 st v1 s1 s2 = some res → sk_w D (tyM cI cZ) A (ceM a cI cZ) s st H locs → lv_has ls 4 [(0, .ref (a 0)), (1, .int v1)] → W p l e rm_M_find s m args below meth c H locs 0 0 Q (F0 m 118 ls [.int s2, .int s1, .ref (a 38)]) := by
          intro st v1 s1 s2 H locs ls h hw hl
          unfold M_find_J118 at h
          obtain ⟨st118, g_118, e_118, h⟩ := sk_wI_some h
          refine as_M38 hx hb hw g_118 e_118 d_M_find_118 (fun H locs hw => ?_)
          refine lv_iinc (v := v1 + 1) (lv' := [(1, .int (v1 + 1)), (0, .ref (a 0))]) hx hb d_M_find_119 hl (k := 1) rfl rfl (by decide) rfl (fun ls hl => ?_)
          refine lv_goto (tgt := 98) hx hb d_M_find_122 (by decide) ?_
          exact hself98 (st118, (v1 + 1)) h _ _ _ hw (lv_sub hl [1, 0] rfl)
        refine lv_if_ne (tgt := 117) hx hb d_M_find_110 (by decide) (fun c_110 => ?_) (fun c_110 => ?_)
        · have h := (if_neg c_110).symm.trans h
          refine lv_iconst (v := 0) hx hb d_M_find_117 (by decide) ?_
          exact hJ118 _ _ _ _ _ _ _ h hw (lv_sub hl [0, 1] rfl)
        · have h := (if_pos c_110).symm.trans h
          refine lv_iconst (v := 1) hx hb d_M_find_113 (by decide) ?_
          refine lv_goto (tgt := 118) hx hb d_M_find_114 (by decide) ?_
          exact hJ118 _ _ _ _ _ _ _ h hw (lv_sub hl [0, 1] rfl)
    refine sk_lp_run (G := fun (z : sk_M × Int32) => ∀ (H : Heap) (locs : List Loc) (ls : Array Slot), sk_w D (tyM cI cZ) A (ceM a cI cZ) s z.1 H locs → lv_has ls 4 [(0, .ref (a 0)), (1, .int z.2)] → W p l e rm_M_find s m args below meth c H locs 0 0 Q (F0 m 55 ls [])) ?_ N _ h _ _ _ hw (lv_sub hl [1, 0] rfl)
    rintro self55 ⟨st, v1⟩ hself55 h H locs ls hw hl
    unfold M_find_L55 at h
    refine lv_iload_n hx hb d_M_find_55 rfl (lv_at hl 1 rfl) ?_
    refine lv_bipush (v := 10) hx hb d_M_find_56 (by decide) ?_
    refine lv_icmp_ge (tgt := 96) hx hb d_M_find_58 (by decide) (fun c_58 => ?_) (fun c_58 => ?_)
    · have h := (if_pos c_58).symm.trans h
      exact hJ96 _ _ _ _ h hw (lv_sub hl [0] rfl)
    · have h := (if_neg c_58).symm.trans h
      refine lv_aload_n hx hb d_M_find_61 rfl (lv_at hl 0 rfl) ?_
      refine gf_M_117 hx hb hts hnw hown hw d_M_find_62 ?_
      refine lv_iload_n hx hb d_M_find_65 rfl (lv_at hl 1 rfl) ?_
      refine lv_iload_n hx hb d_M_find_66 rfl (lv_at hl 1 rfl) ?_
      have hJ75 : ∀ (st : sk_M) (v1 : Int32) (s1 : Int32) (s2 : Int32) (H : Heap) (locs : List Loc) (ls : Array Slot), M_find_J75 N (fun st => M_find_J96 N st) self55 st v1 s1 s2 = some res → sk_w D (tyM cI cZ) A (ceM a cI cZ) s st H locs → lv_has ls 4 [(0, .ref (a 0)), (1, .int v1)] → W p l e rm_M_find s m args below meth c H locs 0 0 Q (F0 m 75 ls [.int s2, .int s1, .ref (a 35)]) := by
        intro st v1 s1 s2 H locs ls h hw hl
        unfold M_find_J75 at h
        obtain ⟨st75, g_75, e_75, h⟩ := sk_wI_some h
        refine as_M35 hx hb hw g_75 e_75 d_M_find_75 (fun H locs hw => ?_)
        refine lv_aload_n hx hb d_M_find_76 rfl (lv_at hl 0 rfl) ?_
        refine gf_M_120 hx hb hts hnw hown hw d_M_find_77 ?_
        refine lv_iload_n hx hb d_M_find_80 rfl (lv_at hl 1 rfl) ?_
        refine lv_iconst (v := 0) hx hb d_M_find_81 (by decide) ?_
        obtain ⟨st82, g_82, e_82, h⟩ := sk_wI_some h
        refine as_M36 hx hb hw g_82 e_82 d_M_find_82 (fun H locs hw => ?_)
        refine lv_aload_n hx hb d_M_find_83 rfl (lv_at hl 0 rfl) ?_
        refine gf_M_123 hx hb hts hnw hown hw d_M_find_84 ?_
        refine lv_iload_n hx hb d_M_find_87 rfl (lv_at hl 1 rfl) ?_
        refine lv_iconst (v := 0) hx hb d_M_find_88 (by decide) ?_
        obtain ⟨st89, g_89, e_89, h⟩ := sk_wI_some h
        refine as_M37 hx hb hw g_89 e_89 d_M_find_89 (fun H locs hw => ?_)
        refine lv_iinc (v := v1 + 1) (lv' := [(1, .int (v1 + 1)), (0, .ref (a 0))]) hx hb d_M_find_90 hl (k := 1) rfl rfl (by decide) rfl (fun ls hl => ?_)
        refine lv_goto (tgt := 55) hx hb d_M_find_93 (by decide) ?_
        exact hself55 (st89, (v1 + 1)) h _ _ _ hw (lv_sub hl [1, 0] rfl)
      refine lv_if_ne (tgt := 74) hx hb d_M_find_67 (by decide) (fun c_67 => ?_) (fun c_67 => ?_)
      · have h := (if_neg c_67).symm.trans h
        refine lv_iconst (v := 0) hx hb d_M_find_74 (by decide) ?_
        exact hJ75 _ _ _ _ _ _ _ h hw (lv_sub hl [0, 1] rfl)
      · have h := (if_pos c_67).symm.trans h
        refine lv_iconst (v := 1) hx hb d_M_find_70 (by decide) ?_
        refine lv_goto (tgt := 75) hx hb d_M_find_71 (by decide) ?_
        exact hJ75 _ _ _ _ _ _ _ h hw (lv_sub hl [0, 1] rfl)
  refine sk_lp_run (G := fun (z : sk_M × Int32) => ∀ (H : Heap) (locs : List Loc) (ls : Array Slot), sk_w D (tyM cI cZ) A (ceM a cI cZ) s z.1 H locs → lv_has ls 4 [(0, .ref (a 0)), (1, .int z.2)] → W p l e rm_M_find s m args below meth c H locs 0 0 Q (F0 m 6 ls [])) ?_ N _ h _ _ _ hw (lv_sub hl [1, 0] rfl)
  rintro self6 ⟨st, v1⟩ hself6 h H locs ls hw hl
  unfold M_find_L6 at h
  refine lv_iload_n hx hb d_M_find_6 rfl (lv_at hl 1 rfl) ?_
  refine lv_aload_n hx hb d_M_find_7 rfl (lv_at hl 0 rfl) ?_
  refine gf_M_185 hx hb hts hnw hown hw d_M_find_8 ?_
  refine lv_icmp_ge (tgt := 53) hx hb d_M_find_11 (by decide) (fun c_11 => ?_) (fun c_11 => ?_)
  · have h := (if_pos c_11).symm.trans h
    exact hJ53 _ _ _ _ h hw (lv_sub hl [0] rfl)
  · have h := (if_neg c_11).symm.trans h
    refine lv_iconst (v := 0) hx hb d_M_find_14 (by decide) ?_
    refine lv_istore_n (lv' := [(2, .int (0 : Int32)), (0, .ref (a 0)), (1, .int v1)]) hx hb d_M_find_15 rfl hl (by decide) rfl (fun ls hl => ?_)
    have hJ47 : ∀ (st : sk_M) (v1 : Int32) (H : Heap) (locs : List Loc) (ls : Array Slot), M_find_J47 N (fun st => M_find_J53 N st) self6 st v1 = some res → sk_w D (tyM cI cZ) A (ceM a cI cZ) s st H locs → lv_has ls 4 [(0, .ref (a 0)), (1, .int v1)] → W p l e rm_M_find s m args below meth c H locs 0 0 Q (F0 m 47 ls []) := by
      intro st v1 H locs ls h hw hl
      unfold M_find_J47 at h
      refine lv_iinc (v := v1 + 1) (lv' := [(1, .int (v1 + 1)), (0, .ref (a 0))]) hx hb d_M_find_47 hl (k := 1) rfl rfl (by decide) rfl (fun ls hl => ?_)
      refine lv_goto (tgt := 6) hx hb d_M_find_50 (by decide) ?_
      exact hself6 (st, (v1 + 1)) h _ _ _ hw (lv_sub hl [1, 0] rfl)
    refine sk_lp_run (G := fun (z : sk_M × Int32 × Int32) => ∀ (H : Heap) (locs : List Loc) (ls : Array Slot), sk_w D (tyM cI cZ) A (ceM a cI cZ) s z.1 H locs → lv_has ls 4 [(0, .ref (a 0)), (1, .int z.2.1), (2, .int z.2.2)] → W p l e rm_M_find s m args below meth c H locs 0 0 Q (F0 m 16 ls [])) ?_ N _ h _ _ _ hw (lv_sub hl [1, 2, 0] rfl)
    rintro self16 ⟨st, v1, v2⟩ hself16 h H locs ls hw hl
    unfold M_find_L16 at h
    refine lv_iload_n hx hb d_M_find_16 rfl (lv_at hl 2 rfl) ?_
    refine lv_bipush (v := 10) hx hb d_M_find_17 (by decide) ?_
    refine lv_icmp_ge (tgt := 47) hx hb d_M_find_19 (by decide) (fun c_19 => ?_) (fun c_19 => ?_)
    · have h := (if_pos c_19).symm.trans h
      exact hJ47 _ _ _ _ _ h hw (lv_sub hl [0, 1] rfl)
    · have h := (if_neg c_19).symm.trans h
      refine lv_aload_n hx hb d_M_find_22 rfl (lv_at hl 0 rfl) ?_
      refine lv_iload_n hx hb d_M_find_23 rfl (lv_at hl 1 rfl) ?_
      refine lv_iload_n hx hb d_M_find_24 rfl (lv_at hl 2 rfl) ?_
      obtain ⟨x25, st25, q_25, h⟩ := sk_oW_some h
      refine sk_callVi (As := [.int v1, .int v2]) (rest := []) ⟨hx, hb, hml, hown, hts⟩ hw hnw hok (c_M_isAbout hok q_25) (cw_M_250 hts hnw (by decide)) (rc_M hw) rfl hl.1 rfl (Nat.le_of_ble_eq_true rfl) d_M_find_25 (fun H locs hw => ?_)
      refine lv_istore_n (lv' := [(3, .int x25), (0, .ref (a 0)), (1, .int v1), (2, .int v2)]) hx hb d_M_find_28 rfl hl (by decide) rfl (fun ls hl => ?_)
      refine lv_aload_n hx hb d_M_find_29 rfl (lv_at hl 1 rfl) ?_
      refine gf_M_129 hx hb hts hnw hown hw d_M_find_30 ?_
      refine lv_bipush (v := 10) hx hb d_M_find_33 (by decide) ?_
      refine lv_iload_n hx hb d_M_find_35 rfl (lv_at hl 2 rfl) ?_
      refine lv_imul hx hb d_M_find_36 ?_
      refine lv_iload_n hx hb d_M_find_37 rfl (lv_at hl 3 rfl) ?_
      refine lv_iadd hx hb d_M_find_38 ?_
      refine lv_iload_n hx hb d_M_find_39 rfl (lv_at hl 0 rfl) ?_
      obtain ⟨st40, g_40, e_40, h⟩ := sk_wI_some h
      refine as_M39 hx hb hw g_40 e_40 d_M_find_40 (fun H locs hw => ?_)
      refine lv_iinc (v := v2 + 1) (lv' := [(2, .int (v2 + 1)), (3, .int x25), (0, .ref (a 0)), (1, .int v1)]) hx hb d_M_find_41 hl (k := 3) rfl rfl (by decide) rfl (fun ls hl => ?_)
      refine lv_goto (tgt := 16) hx hb d_M_find_44 (by decide) ?_
      exact hself16 (st40, v1, (v2 + 1)) h _ _ _ hw (lv_sub hl [2, 3, 0] rfl)
set_option maxHeartbeats 4000000 in
set_option maxRecDepth 100000 in
theorem c_M_keepsName {l : Launch} {D : va_G} {A : Nat → Prop} {a : Nat → Nat} {cI cZ : ClassId} {nw : State → Prop} {N : Nat} {st : sk_M} {v1 : Int32} {res : Int32} (hok : sk_ok A nw) (h : M_keepsName N st v1 = some res) : sk_Ci l y_M_keepsName w_M_keepsName rm_M_keepsName D (tyM cI cZ) A (ceM a cI cZ) nw [.ref (a 0), .int v1] st res st := by
  refine sk_headi .boolean (by decide) rfl (Nat.le_of_ble_eq_true rfl) ?_
  intro p e s m args below meth c Q hx hb hml hown hts0 hnw hret ls hl hw
  have hts : ∀ w ∈ TB, w.before args s = true := fun w h => hts0 w (List.mem_cons_of_mem _ h)
  have hown : s.vm.findClass R_M = some m.cls := hown
  have hl : lv_has ls 3 [(0, .ref (a 0)), (1, .int v1)] := hl
  unfold M_keepsName at h
  refine lv_iload_n hx hb d_M_keepsName_0 rfl (lv_at hl 1 rfl) ?_
  refine lv_if_ne (tgt := 6) hx hb d_M_keepsName_1 (by decide) (fun c_1 => ?_) (fun c_1 => ?_)
  · have h := (if_neg c_1).symm.trans h
    refine lv_iconst (v := 0) hx hb d_M_keepsName_6 (by decide) ?_
    refine lv_istore_n (lv' := [(2, .int (0 : Int32)), (0, .ref (a 0)), (1, .int v1)]) hx hb d_M_keepsName_7 rfl hl (by decide) rfl (fun ls hl => ?_)
    refine sk_lp_run (G := fun (z : Int32 × Int32) => ∀ (H : Heap) (locs : List Loc) (ls : Array Slot), sk_w D (tyM cI cZ) A (ceM a cI cZ) s st H locs → lv_has ls 3 [(0, .ref (a 0)), (1, .int z.1), (2, .int z.2)] → W p l e rm_M_keepsName s m args below meth c H locs 0 0 Q (F0 m 8 ls [])) ?_ N _ h _ _ _ hw (lv_sub hl [1, 2, 0] rfl)
    rintro self8 ⟨v1, v2⟩ hself8 h H locs ls hw hl
    unfold M_keepsName_L8 at h
    refine lv_iload_n hx hb d_M_keepsName_8 rfl (lv_at hl 2 rfl) ?_
    refine lv_aload_n hx hb d_M_keepsName_9 rfl (lv_at hl 0 rfl) ?_
    refine gf_M_185 hx hb hts hnw hown hw d_M_keepsName_10 ?_
    refine lv_icmp_ge (tgt := 48) hx hb d_M_keepsName_13 (by decide) (fun c_13 => ?_) (fun c_13 => ?_)
    · have h := (if_pos c_13).symm.trans h
      refine lv_iconst (v := 0) hx hb d_M_keepsName_48 (by decide) ?_
      exact hret _ _ _ _ _ _ (Option.some.inj h) rfl rfl hw d_M_keepsName_49
    · have h := (if_neg c_13).symm.trans h
      refine lv_aload_n hx hb d_M_keepsName_16 rfl (lv_at hl 0 rfl) ?_
      refine gf_M_72 hx hb hts hnw hown hw d_M_keepsName_17 ?_
      refine lv_iload_n hx hb d_M_keepsName_20 rfl (lv_at hl 2 rfl) ?_
      obtain ⟨x21, g_21, e_21, h⟩ := sk_rI_some h
      refine al_M20 hx hb hw g_21 e_21 d_M_keepsName_21 ?_
      refine lv_iconst (v := 2) hx hb d_M_keepsName_22 (by decide) ?_
      refine lv_icmp_ge (tgt := 42) hx hb d_M_keepsName_23 (by decide) (fun c_23 => ?_) (fun c_23 => ?_)
      · have h := (if_pos c_23).symm.trans h
        refine lv_iinc (v := v2 + 1) (lv' := [(2, .int (v2 + 1)), (0, .ref (a 0)), (1, .int v1)]) hx hb d_M_keepsName_42 hl (k := 2) rfl rfl (by decide) rfl (fun ls hl => ?_)
        refine lv_goto (tgt := 8) hx hb d_M_keepsName_45 (by decide) ?_
        exact hself8 (v1, (v2 + 1)) h _ _ _ hw (lv_sub hl [1, 2, 0] rfl)
      · have h := (if_neg c_23).symm.trans h
        refine lv_aload_n hx hb d_M_keepsName_26 rfl (lv_at hl 0 rfl) ?_
        refine gf_M_129 hx hb hts hnw hown hw d_M_keepsName_27 ?_
        refine lv_bipush (v := 10) hx hb d_M_keepsName_30 (by decide) ?_
        refine lv_iload_n hx hb d_M_keepsName_32 rfl (lv_at hl 2 rfl) ?_
        refine lv_imul hx hb d_M_keepsName_33 ?_
        refine lv_iload_n hx hb d_M_keepsName_34 rfl (lv_at hl 1 rfl) ?_
        refine lv_iadd hx hb d_M_keepsName_35 ?_
        obtain ⟨x36, g_36, e_36, h⟩ := sk_rI_some h
        refine al_M39 hx hb hw g_36 e_36 d_M_keepsName_36 ?_
        refine lv_if_eq (tgt := 42) hx hb d_M_keepsName_37 (by decide) (fun c_37 => ?_) (fun c_37 => ?_)
        · have h := (if_pos c_37).symm.trans h
          refine lv_iinc (v := v2 + 1) (lv' := [(2, .int (v2 + 1)), (0, .ref (a 0)), (1, .int v1)]) hx hb d_M_keepsName_42 hl (k := 2) rfl rfl (by decide) rfl (fun ls hl => ?_)
          refine lv_goto (tgt := 8) hx hb d_M_keepsName_45 (by decide) ?_
          exact hself8 (v1, (v2 + 1)) h _ _ _ hw (lv_sub hl [1, 2, 0] rfl)
        · have h := (if_neg c_37).symm.trans h
          refine lv_iconst (v := 1) hx hb d_M_keepsName_40 (by decide) ?_
          exact hret _ _ _ _ _ _ (Option.some.inj h) rfl rfl hw d_M_keepsName_41
  · have h := (if_pos c_1).symm.trans h
    refine lv_iconst (v := 1) hx hb d_M_keepsName_4 (by decide) ?_
    exact hret _ _ _ _ _ _ (Option.some.inj h) rfl rfl hw d_M_keepsName_5
set_option maxHeartbeats 4000000 in
set_option maxRecDepth 100000 in
theorem c_M_keepsText {l : Launch} {D : va_G} {A : Nat → Prop} {a : Nat → Nat} {cI cZ : ClassId} {nw : State → Prop} {N : Nat} {st : sk_M} {v1 : Int32} {v2 : Int32} {v3 : Int32} {res : Int32 × sk_M} (hok : sk_ok A nw) (h : M_keepsText N st v1 v2 v3 = some res) : sk_Ci l y_M_keepsText w_M_keepsText rm_M_keepsText D (tyM cI cZ) A (ceM a cI cZ) nw [.ref (a 0), .int v1, .int v2, .int v3] st res.1 res.2 := by
  refine sk_headi .boolean (by decide) rfl (Nat.le_of_ble_eq_true rfl) ?_
  intro p e s m args below meth c Q hx hb hml hown hts0 hnw hret ls hl hw
  have hts : ∀ w ∈ TB, w.before args s = true := fun w h => hts0 w (List.mem_cons_of_mem _ h)
  have hown : s.vm.findClass R_M = some m.cls := hown
  have hl : lv_has ls 7 [(0, .ref (a 0)), (1, .int v1), (2, .int v2), (3, .int v3)] := hl
  unfold M_keepsText at h
  refine lv_iload_n hx hb d_M_keepsText_0 rfl (lv_at hl 1 rfl) ?_
  refine lv_iconst (v := 1) hx hb d_M_keepsText_1 (by decide) ?_
  have hJ20 : ∀ (st : sk_M) (v1 : Int32) (v2 : Int32) (v3 : Int32) (H : Heap) (locs : List Loc) (ls : Array Slot), M_keepsText_J20 N st v1 v2 v3 = some res → sk_w D (tyM cI cZ) A (ceM a cI cZ) s st H locs → lv_has ls 7 [(0, .ref (a 0)), (1, .int v1), (2, .int v2), (3, .int v3)] → W p l e rm_M_keepsText s m args below meth c H locs 0 0 Q (F0 m 20 ls []) := by
    intro st v1 v2 v3 H locs ls h hw hl
    unfold M_keepsText_J20 at h
    refine lv_iconst (v := 1) hx hb d_M_keepsText_20 (by decide) ?_
    refine lv_istore (lv' := [(4, .int (1 : Int32)), (0, .ref (a 0)), (1, .int v1), (2, .int v2), (3, .int v3)]) hx hb d_M_keepsText_21 hl (by decide) rfl (fun ls hl => ?_)
    refine sk_lp_run (G := fun (z : sk_M × Int32 × Int32 × Int32 × Int32) => ∀ (H : Heap) (locs : List Loc) (ls : Array Slot), sk_w D (tyM cI cZ) A (ceM a cI cZ) s z.1 H locs → lv_has ls 7 [(0, .ref (a 0)), (1, .int z.2.1), (2, .int z.2.2.1), (3, .int z.2.2.2.1), (4, .int z.2.2.2.2)] → W p l e rm_M_keepsText s m args below meth c H locs 0 0 Q (F0 m 23 ls [])) ?_ N _ h _ _ _ hw (lv_sub hl [1, 2, 3, 4, 0] rfl)
    rintro self23 ⟨st, v1, v2, v3, v4⟩ hself23 h H locs ls hw hl
    unfold M_keepsText_L23 at h
    refine lv_iload hx hb d_M_keepsText_23 (lv_at hl 4 rfl) ?_
    refine lv_aload_n hx hb d_M_keepsText_25 rfl (lv_at hl 0 rfl) ?_
    refine gf_M_47 hx hb hts hnw hown hw d_M_keepsText_26 ?_
    refine lv_icmp_ge (tgt := 155) hx hb d_M_keepsText_29 (by decide) (fun c_29 => ?_) (fun c_29 => ?_)
    · have h := (if_pos c_29).symm.trans h
      refine lv_iconst (v := 0) hx hb d_M_keepsText_155 (by decide) ?_
      exact hret _ _ _ _ _ _ (sk_p1 h) (sk_p2 h) rfl hw d_M_keepsText_156
    · have h := (if_neg c_29).symm.trans h
      refine lv_aload_n hx hb d_M_keepsText_32 rfl (lv_at hl 0 rfl) ?_
      refine gf_M_44 hx hb hts hnw hown hw d_M_keepsText_33 ?_
      refine lv_iload hx hb d_M_keepsText_36 (lv_at hl 4 rfl) ?_
      obtain ⟨x38, g_38, e_38, h⟩ := sk_rI_some h
      refine al_M12 hx hb hw g_38 e_38 d_M_keepsText_38 ?_
      have hJ149 : ∀ (st : sk_M) (v1 : Int32) (v2 : Int32) (v3 : Int32) (v4 : Int32) (H : Heap) (locs : List Loc) (ls : Array Slot), M_keepsText_J149 N self23 st v1 v2 v3 v4 = some res → sk_w D (tyM cI cZ) A (ceM a cI cZ) s st H locs → lv_has ls 7 [(0, .ref (a 0)), (1, .int v1), (2, .int v2), (3, .int v3), (4, .int v4)] → W p l e rm_M_keepsText s m args below meth c H locs 0 0 Q (F0 m 149 ls []) := by
        intro st v1 v2 v3 v4 H locs ls h hw hl
        unfold M_keepsText_J149 at h
        refine lv_iinc (v := v4 + 1) (lv' := [(4, .int (v4 + 1)), (0, .ref (a 0)), (1, .int v1), (2, .int v2), (3, .int v3)]) hx hb d_M_keepsText_149 hl (k := 4) rfl rfl (by decide) rfl (fun ls hl => ?_)
        refine lv_goto (tgt := 23) hx hb d_M_keepsText_152 (by decide) ?_
        exact hself23 (st, v1, v2, v3, (v4 + 1)) h _ _ _ hw (lv_sub hl [1, 2, 3, 4, 0] rfl)
      refine lv_if_ne (tgt := 149) hx hb d_M_keepsText_39 (by decide) (fun c_39 => ?_) (fun c_39 => ?_)
      · have h := (if_neg c_39).symm.trans h
        exact hJ149 _ _ _ _ _ _ _ _ h hw (lv_sub hl [0, 1, 2, 3, 4] rfl)
      · have h := (if_pos c_39).symm.trans h
        refine lv_aload_n hx hb d_M_keepsText_42 rfl (lv_at hl 0 rfl) ?_
        refine gf_M_41 hx hb hts hnw hown hw d_M_keepsText_43 ?_
        refine lv_iload hx hb d_M_keepsText_46 (lv_at hl 4 rfl) ?_
        obtain ⟨x48, g_48, e_48, h⟩ := sk_rI_some h
        refine al_M11 hx hb hw g_48 e_48 d_M_keepsText_48 ?_
        refine lv_iconst (v := 1) hx hb d_M_keepsText_49 (by decide) ?_
        refine lv_iand hx hb d_M_keepsText_50 ?_
        refine lv_iload_n hx hb d_M_keepsText_51 rfl (lv_at hl 1 rfl) ?_
        refine lv_icmp_ne (tgt := 149) hx hb d_M_keepsText_52 (by decide) (fun c_52 => ?_) (fun c_52 => ?_)
        · have h := (if_neg c_52).symm.trans h
          exact hJ149 _ _ _ _ _ _ _ _ h hw (lv_sub hl [0, 1, 2, 3, 4] rfl)
        · have h := (if_pos c_52).symm.trans h
          refine lv_aload_n hx hb d_M_keepsText_55 rfl (lv_at hl 0 rfl) ?_
          refine gf_M_35 hx hb hts hnw hown hw d_M_keepsText_56 ?_
          refine lv_iload hx hb d_M_keepsText_59 (lv_at hl 4 rfl) ?_
          obtain ⟨x61, g_61, e_61, h⟩ := sk_rI_some h
          refine al_M9 hx hb hw g_61 e_61 d_M_keepsText_61 ?_
          refine lv_iload_n hx hb d_M_keepsText_62 rfl (lv_at hl 2 rfl) ?_
          refine lv_icmp_ne (tgt := 149) hx hb d_M_keepsText_63 (by decide) (fun c_63 => ?_) (fun c_63 => ?_)
          · have h := (if_neg c_63).symm.trans h
            exact hJ149 _ _ _ _ _ _ _ _ h hw (lv_sub hl [0, 1, 2, 3, 4] rfl)
          · have h := (if_pos c_63).symm.trans h
            refine lv_aload_n hx hb d_M_keepsText_66 rfl (lv_at hl 0 rfl) ?_
            refine gf_M_38 hx hb hts hnw hown hw d_M_keepsText_67 ?_
            refine lv_iload hx hb d_M_keepsText_70 (lv_at hl 4 rfl) ?_
            obtain ⟨x72, g_72, e_72, h⟩ := sk_rI_some h
            refine al_M10 hx hb hw g_72 e_72 d_M_keepsText_72 ?_
            refine lv_iload_n hx hb d_M_keepsText_73 rfl (lv_at hl 3 rfl) ?_
            refine lv_icmp_eq (tgt := 80) hx hb d_M_keepsText_74 (by decide) (fun c_74 => ?_) (fun c_74 => ?_)
            · have h := (if_pos c_74).symm.trans h
              refine lv_iconst (v := 0) hx hb d_M_keepsText_80 (by decide) ?_
              refine lv_istore (lv' := [(5, .int (0 : Int32)), (0, .ref (a 0)), (1, .int v1), (2, .int v2), (3, .int v3), (4, .int v4)]) hx hb d_M_keepsText_81 hl (by decide) rfl (fun ls hl => ?_)
              refine sk_lp_run (G := fun (z : sk_M × Int32 × Int32 × Int32 × Int32 × Int32) => ∀ (H : Heap) (locs : List Loc) (ls : Array Slot), sk_w D (tyM cI cZ) A (ceM a cI cZ) s z.1 H locs → lv_has ls 7 [(0, .ref (a 0)), (1, .int z.2.1), (2, .int z.2.2.1), (3, .int z.2.2.2.1), (4, .int z.2.2.2.2.1), (5, .int z.2.2.2.2.2)] → W p l e rm_M_keepsText s m args below meth c H locs 0 0 Q (F0 m 83 ls [])) ?_ N _ h _ _ _ hw (lv_sub hl [1, 2, 3, 4, 5, 0] rfl)
              rintro self83 ⟨st, v1, v2, v3, v4, v5⟩ hself83 h H locs ls hw hl
              unfold M_keepsText_L83 at h
              refine lv_iload hx hb d_M_keepsText_83 (lv_at hl 5 rfl) ?_
              refine lv_aload_n hx hb d_M_keepsText_85 rfl (lv_at hl 0 rfl) ?_
              refine gf_M_185 hx hb hts hnw hown hw d_M_keepsText_86 ?_
              refine lv_icmp_ge (tgt := 149) hx hb d_M_keepsText_89 (by decide) (fun c_89 => ?_) (fun c_89 => ?_)
              · have h := (if_pos c_89).symm.trans h
                exact hJ149 _ _ _ _ _ _ _ _ h hw (lv_sub hl [0, 1, 2, 3, 4] rfl)
              · have h := (if_neg c_89).symm.trans h
                refine lv_aload_n hx hb d_M_keepsText_92 rfl (lv_at hl 0 rfl) ?_
                refine gf_M_72 hx hb hts hnw hown hw d_M_keepsText_93 ?_
                refine lv_iload hx hb d_M_keepsText_96 (lv_at hl 5 rfl) ?_
                obtain ⟨x98, g_98, e_98, h⟩ := sk_rI_some h
                refine al_M20 hx hb hw g_98 e_98 d_M_keepsText_98 ?_
                refine lv_iconst (v := 2) hx hb d_M_keepsText_99 (by decide) ?_
                have hJ134 : ∀ (st : sk_M) (v1 : Int32) (v2 : Int32) (v3 : Int32) (v4 : Int32) (v5 : Int32) (s0 : Int32) (H : Heap) (locs : List Loc) (ls : Array Slot), M_keepsText_J134 N (fun st v1 v2 v3 v4 => M_keepsText_J149 N self23 st v1 v2 v3 v4) self83 st v1 v2 v3 v4 v5 s0 = some res → sk_w D (tyM cI cZ) A (ceM a cI cZ) s st H locs → lv_has ls 7 [(0, .ref (a 0)), (1, .int v1), (2, .int v2), (3, .int v3), (4, .int v4), (5, .int v5)] → W p l e rm_M_keepsText s m args below meth c H locs 0 0 Q (F0 m 134 ls [.int s0]) := by
                  intro st v1 v2 v3 v4 v5 s0 H locs ls h hw hl
                  unfold M_keepsText_J134 at h
                  refine lv_istore (lv' := [(6, .int s0), (0, .ref (a 0)), (1, .int v1), (2, .int v2), (3, .int v3), (4, .int v4), (5, .int v5)]) hx hb d_M_keepsText_134 hl (by decide) rfl (fun ls hl => ?_)
                  refine lv_iload hx hb d_M_keepsText_136 (lv_at hl 0 rfl) ?_
                  refine lv_if_eq (tgt := 143) hx hb d_M_keepsText_138 (by decide) (fun c_138 => ?_) (fun c_138 => ?_)
                  · have h := (if_pos c_138).symm.trans h
                    refine lv_iinc (v := v5 + 1) (lv' := [(5, .int (v5 + 1)), (6, .int s0), (0, .ref (a 0)), (1, .int v1), (2, .int v2), (3, .int v3), (4, .int v4)]) hx hb d_M_keepsText_143 hl (k := 6) rfl rfl (by decide) rfl (fun ls hl => ?_)
                    refine lv_goto (tgt := 83) hx hb d_M_keepsText_146 (by decide) ?_
                    exact hself83 (st, v1, v2, v3, v4, (v5 + 1)) h _ _ _ hw (lv_sub hl [2, 3, 4, 5, 6, 0] rfl)
                  · have h := (if_neg c_138).symm.trans h
                    refine lv_iconst (v := 1) hx hb d_M_keepsText_141 (by decide) ?_
                    exact hret _ _ _ _ _ _ (sk_p1 h) (sk_p2 h) rfl hw d_M_keepsText_142
                have hJ133 : ∀ (st : sk_M) (v1 : Int32) (v2 : Int32) (v3 : Int32) (v4 : Int32) (v5 : Int32) (H : Heap) (locs : List Loc) (ls : Array Slot), M_keepsText_J133 N (fun st v1 v2 v3 v4 => M_keepsText_J149 N self23 st v1 v2 v3 v4) self83 st v1 v2 v3 v4 v5 = some res → sk_w D (tyM cI cZ) A (ceM a cI cZ) s st H locs → lv_has ls 7 [(0, .ref (a 0)), (1, .int v1), (2, .int v2), (3, .int v3), (4, .int v4), (5, .int v5)] → W p l e rm_M_keepsText s m args below meth c H locs 0 0 Q (F0 m 133 ls []) := by
                  intro st v1 v2 v3 v4 v5 H locs ls h hw hl
                  unfold M_keepsText_J133 at h
                  refine lv_iconst (v := 0) hx hb d_M_keepsText_133 (by decide) ?_
                  exact hJ134 _ _ _ _ _ _ _ _ _ _ h hw (lv_sub hl [0, 1, 2, 3, 4, 5] rfl)
                have hJ118 : ∀ (st : sk_M) (v1 : Int32) (v2 : Int32) (v3 : Int32) (v4 : Int32) (v5 : Int32) (H : Heap) (locs : List Loc) (ls : Array Slot), M_keepsText_J118 N (fun st v1 v2 v3 v4 => M_keepsText_J149 N self23 st v1 v2 v3 v4) self83 st v1 v2 v3 v4 v5 = some res → sk_w D (tyM cI cZ) A (ceM a cI cZ) s st H locs → lv_has ls 7 [(0, .ref (a 0)), (1, .int v1), (2, .int v2), (3, .int v3), (4, .int v4), (5, .int v5)] → W p l e rm_M_keepsText s m args below meth c H locs 0 0 Q (F0 m 118 ls []) := by
                  intro st v1 v2 v3 v4 v5 H locs ls h hw hl
                  unfold M_keepsText_J118 at h
                  refine lv_aload_n hx hb d_M_keepsText_118 rfl (lv_at hl 0 rfl) ?_
                  refine lv_iload hx hb d_M_keepsText_119 (lv_at hl 5 rfl) ?_
                  refine lv_iload hx hb d_M_keepsText_121 (lv_at hl 4 rfl) ?_
                  obtain ⟨x123, st123, q_123, h⟩ := sk_oW_some h
                  refine sk_callVi (As := [.int v5, .int v4]) (rest := []) ⟨hx, hb, hml, hown, hts⟩ hw hnw hok (c_M_isMeant hok q_123) (cw_M_237 hts hnw (by decide)) (rc_M hw) rfl hl.1 rfl (Nat.le_of_ble_eq_true rfl) d_M_keepsText_123 (fun H locs hw => ?_)
                  refine lv_if_eq (tgt := 133) hx hb d_M_keepsText_126 (by decide) (fun c_126 => ?_) (fun c_126 => ?_)
                  · have h := (if_pos c_126).symm.trans h
                    exact hJ133 _ _ _ _ _ _ _ _ _ h hw (lv_sub hl [0, 1, 2, 3, 4, 5] rfl)
                  · have h := (if_neg c_126).symm.trans h
                    refine lv_iconst (v := 1) hx hb d_M_keepsText_129 (by decide) ?_
                    refine lv_goto (tgt := 134) hx hb d_M_keepsText_130 (by decide) ?_
                    exact hJ134 _ _ _ _ _ _ _ _ _ _ h hw (lv_sub hl [0, 1, 2, 3, 4, 5] rfl)
                refine lv_icmp_ne (tgt := 118) hx hb d_M_keepsText_100 (by decide) (fun c_100 => ?_) (fun c_100 => ?_)
                · have h := (if_neg c_100).symm.trans h
                  exact hJ118 _ _ _ _ _ _ _ _ _ h hw (lv_sub hl [0, 1, 2, 3, 4, 5] rfl)
                · have h := (if_pos c_100).symm.trans h
                  refine lv_aload_n hx hb d_M_keepsText_103 rfl (lv_at hl 0 rfl) ?_
                  refine gf_M_117 hx hb hts hnw hown hw d_M_keepsText_104 ?_
                  refine lv_aload_n hx hb d_M_keepsText_107 rfl (lv_at hl 0 rfl) ?_
                  refine gf_M_32 hx hb hts hnw hown hw d_M_keepsText_108 ?_
                  refine lv_iload hx hb d_M_keepsText_111 (lv_at hl 4 rfl) ?_
                  obtain ⟨x113, g_113, e_113, h⟩ := sk_rI_some h
                  refine al_M8 hx hb hw g_113 e_113 d_M_keepsText_113 ?_
                  obtain ⟨x114, g_114, e_114, h⟩ := sk_rI_some h
                  refine al_M35 hx hb hw g_114 e_114 d_M_keepsText_114 ?_
                  refine lv_if_eq (tgt := 133) hx hb d_M_keepsText_115 (by decide) (fun c_115 => ?_) (fun c_115 => ?_)
                  · have h := (if_pos c_115).symm.trans h
                    exact hJ133 _ _ _ _ _ _ _ _ _ h hw (lv_sub hl [0, 1, 2, 3, 4, 5] rfl)
                  · have h := (if_neg c_115).symm.trans h
                    exact hJ118 _ _ _ _ _ _ _ _ _ h hw (lv_sub hl [0, 1, 2, 3, 4, 5] rfl)
            · have h := (if_neg c_74).symm.trans h
              refine lv_goto (tgt := 149) hx hb d_M_keepsText_77 (by decide) ?_
              exact hJ149 _ _ _ _ _ _ _ _ h hw (lv_sub hl [0, 1, 2, 3, 4] rfl)
  refine lv_icmp_ne (tgt := 20) hx hb d_M_keepsText_2 (by decide) (fun c_2 => ?_) (fun c_2 => ?_)
  · have h := (if_neg c_2).symm.trans h
    exact hJ20 _ _ _ _ _ _ _ h hw (lv_sub hl [0, 1, 2, 3] rfl)
  · have h := (if_pos c_2).symm.trans h
    refine lv_iload_n hx hb d_M_keepsText_5 rfl (lv_at hl 2 rfl) ?_
    refine lv_iconst (v := 5) hx hb d_M_keepsText_6 (by decide) ?_
    refine lv_icmp_gt (tgt := 18) hx hb d_M_keepsText_7 (by decide) (fun c_7 => ?_) (fun c_7 => ?_)
    · have h := (if_pos c_7).symm.trans h
      refine lv_iconst (v := 1) hx hb d_M_keepsText_18 (by decide) ?_
      exact hret _ _ _ _ _ _ (sk_p1 h) (sk_p2 h) rfl hw d_M_keepsText_19
    · have h := (if_neg c_7).symm.trans h
      refine lv_iload_n hx hb d_M_keepsText_10 rfl (lv_at hl 2 rfl) ?_
      refine lv_if_ne (tgt := 20) hx hb d_M_keepsText_11 (by decide) (fun c_11 => ?_) (fun c_11 => ?_)
      · have h := (if_neg c_11).symm.trans h
        exact hJ20 _ _ _ _ _ _ _ h hw (lv_sub hl [0, 1, 2, 3] rfl)
      · have h := (if_pos c_11).symm.trans h
        refine lv_iload_n hx hb d_M_keepsText_14 rfl (lv_at hl 3 rfl) ?_
        refine lv_if_ne (tgt := 20) hx hb d_M_keepsText_15 (by decide) (fun c_15 => ?_) (fun c_15 => ?_)
        · have h := (if_neg c_15).symm.trans h
          exact hJ20 _ _ _ _ _ _ _ h hw (lv_sub hl [0, 1, 2, 3] rfl)
        · have h := (if_pos c_15).symm.trans h
          refine lv_iconst (v := 1) hx hb d_M_keepsText_18 (by decide) ?_
          exact hret _ _ _ _ _ _ (sk_p1 h) (sk_p2 h) rfl hw d_M_keepsText_19
set_option maxHeartbeats 4000000 in
set_option maxRecDepth 100000 in
theorem c_M_isUsed {l : Launch} {D : va_G} {A : Nat → Prop} {a : Nat → Nat} {cI cZ : ClassId} {nw : State → Prop} {N : Nat} {st : sk_M} {v1 : Int32} {v2 : Int32} {v3 : Int32} {res : Int32} (hok : sk_ok A nw) (h : M_isUsed N st v1 v2 v3 = some res) : sk_Ci l y_M_isUsed w_M_isUsed rm_M_isUsed D (tyM cI cZ) A (ceM a cI cZ) nw [.ref (a 0), .int v1, .int v2, .int v3] st res st := by
  refine sk_headi .boolean (by decide) rfl (Nat.le_of_ble_eq_true rfl) ?_
  intro p e s m args below meth c Q hx hb hml hown hts0 hnw hret ls hl hw
  have hts : ∀ w ∈ TB, w.before args s = true := fun w h => hts0 w (List.mem_cons_of_mem _ h)
  have hown : s.vm.findClass R_M = some m.cls := hown
  have hl : lv_has ls 5 [(0, .ref (a 0)), (1, .int v1), (2, .int v2), (3, .int v3)] := hl
  unfold M_isUsed at h
  refine lv_iconst (v := 0) hx hb d_M_isUsed_0 (by decide) ?_
  refine lv_istore (lv' := [(4, .int (0 : Int32)), (0, .ref (a 0)), (1, .int v1), (2, .int v2), (3, .int v3)]) hx hb d_M_isUsed_1 hl (by decide) rfl (fun ls hl => ?_)
  refine sk_lp_run (G := fun (z : Int32 × Int32 × Int32 × Int32) => ∀ (H : Heap) (locs : List Loc) (ls : Array Slot), sk_w D (tyM cI cZ) A (ceM a cI cZ) s st H locs → lv_has ls 5 [(0, .ref (a 0)), (1, .int z.1), (2, .int z.2.1), (3, .int z.2.2.1), (4, .int z.2.2.2)] → W p l e rm_M_isUsed s m args below meth c H locs 0 0 Q (F0 m 3 ls [])) ?_ N _ h _ _ _ hw (lv_sub hl [1, 2, 3, 4, 0] rfl)
  rintro self3 ⟨v1, v2, v3, v4⟩ hself3 h H locs ls hw hl
  unfold M_isUsed_L3 at h
  refine lv_iload hx hb d_M_isUsed_3 (lv_at hl 4 rfl) ?_
  refine lv_aload_n hx hb d_M_isUsed_5 rfl (lv_at hl 0 rfl) ?_
  refine gf_M_47 hx hb hts hnw hown hw d_M_isUsed_6 ?_
  refine lv_icmp_ge (tgt := 75) hx hb d_M_isUsed_9 (by decide) (fun c_9 => ?_) (fun c_9 => ?_)
  · have h := (if_pos c_9).symm.trans h
    refine lv_iconst (v := 0) hx hb d_M_isUsed_75 (by decide) ?_
    exact hret _ _ _ _ _ _ (Option.some.inj h) rfl rfl hw d_M_isUsed_76
  · have h := (if_neg c_9).symm.trans h
    refine lv_aload_n hx hb d_M_isUsed_12 rfl (lv_at hl 0 rfl) ?_
    refine gf_M_44 hx hb hts hnw hown hw d_M_isUsed_13 ?_
    refine lv_iload hx hb d_M_isUsed_16 (lv_at hl 4 rfl) ?_
    obtain ⟨x18, g_18, e_18, h⟩ := sk_rI_some h
    refine al_M12 hx hb hw g_18 e_18 d_M_isUsed_18 ?_
    refine lv_if_ne (tgt := 69) hx hb d_M_isUsed_19 (by decide) (fun c_19 => ?_) (fun c_19 => ?_)
    · have h := (if_neg c_19).symm.trans h
      refine lv_iinc (v := v4 + 1) (lv' := [(4, .int (v4 + 1)), (0, .ref (a 0)), (1, .int v1), (2, .int v2), (3, .int v3)]) hx hb d_M_isUsed_69 hl (k := 4) rfl rfl (by decide) rfl (fun ls hl => ?_)
      refine lv_goto (tgt := 3) hx hb d_M_isUsed_72 (by decide) ?_
      exact hself3 (v1, v2, v3, (v4 + 1)) h _ _ _ hw (lv_sub hl [1, 2, 3, 4, 0] rfl)
    · have h := (if_pos c_19).symm.trans h
      refine lv_aload_n hx hb d_M_isUsed_22 rfl (lv_at hl 0 rfl) ?_
      refine gf_M_126 hx hb hts hnw hown hw d_M_isUsed_23 ?_
      refine lv_iload hx hb d_M_isUsed_26 (lv_at hl 4 rfl) ?_
      obtain ⟨x28, g_28, e_28, h⟩ := sk_rI_some h
      refine al_M38 hx hb hw g_28 e_28 d_M_isUsed_28 ?_
      refine lv_if_eq (tgt := 69) hx hb d_M_isUsed_29 (by decide) (fun c_29 => ?_) (fun c_29 => ?_)
      · have h := (if_pos c_29).symm.trans h
        refine lv_iinc (v := v4 + 1) (lv' := [(4, .int (v4 + 1)), (0, .ref (a 0)), (1, .int v1), (2, .int v2), (3, .int v3)]) hx hb d_M_isUsed_69 hl (k := 4) rfl rfl (by decide) rfl (fun ls hl => ?_)
        refine lv_goto (tgt := 3) hx hb d_M_isUsed_72 (by decide) ?_
        exact hself3 (v1, v2, v3, (v4 + 1)) h _ _ _ hw (lv_sub hl [1, 2, 3, 4, 0] rfl)
      · have h := (if_neg c_29).symm.trans h
        refine lv_aload_n hx hb d_M_isUsed_32 rfl (lv_at hl 0 rfl) ?_
        refine gf_M_41 hx hb hts hnw hown hw d_M_isUsed_33 ?_
        refine lv_iload hx hb d_M_isUsed_36 (lv_at hl 4 rfl) ?_
        obtain ⟨x38, g_38, e_38, h⟩ := sk_rI_some h
        refine al_M11 hx hb hw g_38 e_38 d_M_isUsed_38 ?_
        refine lv_iconst (v := 1) hx hb d_M_isUsed_39 (by decide) ?_
        refine lv_iand hx hb d_M_isUsed_40 ?_
        refine lv_iload_n hx hb d_M_isUsed_41 rfl (lv_at hl 1 rfl) ?_
        refine lv_icmp_ne (tgt := 69) hx hb d_M_isUsed_42 (by decide) (fun c_42 => ?_) (fun c_42 => ?_)
        · have h := (if_neg c_42).symm.trans h
          refine lv_iinc (v := v4 + 1) (lv' := [(4, .int (v4 + 1)), (0, .ref (a 0)), (1, .int v1), (2, .int v2), (3, .int v3)]) hx hb d_M_isUsed_69 hl (k := 4) rfl rfl (by decide) rfl (fun ls hl => ?_)
          refine lv_goto (tgt := 3) hx hb d_M_isUsed_72 (by decide) ?_
          exact hself3 (v1, v2, v3, (v4 + 1)) h _ _ _ hw (lv_sub hl [1, 2, 3, 4, 0] rfl)
        · have h := (if_pos c_42).symm.trans h
          refine lv_aload_n hx hb d_M_isUsed_45 rfl (lv_at hl 0 rfl) ?_
          refine gf_M_35 hx hb hts hnw hown hw d_M_isUsed_46 ?_
          refine lv_iload hx hb d_M_isUsed_49 (lv_at hl 4 rfl) ?_
          obtain ⟨x51, g_51, e_51, h⟩ := sk_rI_some h
          refine al_M9 hx hb hw g_51 e_51 d_M_isUsed_51 ?_
          refine lv_iload_n hx hb d_M_isUsed_52 rfl (lv_at hl 2 rfl) ?_
          refine lv_icmp_ne (tgt := 69) hx hb d_M_isUsed_53 (by decide) (fun c_53 => ?_) (fun c_53 => ?_)
          · have h := (if_neg c_53).symm.trans h
            refine lv_iinc (v := v4 + 1) (lv' := [(4, .int (v4 + 1)), (0, .ref (a 0)), (1, .int v1), (2, .int v2), (3, .int v3)]) hx hb d_M_isUsed_69 hl (k := 4) rfl rfl (by decide) rfl (fun ls hl => ?_)
            refine lv_goto (tgt := 3) hx hb d_M_isUsed_72 (by decide) ?_
            exact hself3 (v1, v2, v3, (v4 + 1)) h _ _ _ hw (lv_sub hl [1, 2, 3, 4, 0] rfl)
          · have h := (if_pos c_53).symm.trans h
            refine lv_aload_n hx hb d_M_isUsed_56 rfl (lv_at hl 0 rfl) ?_
            refine gf_M_38 hx hb hts hnw hown hw d_M_isUsed_57 ?_
            refine lv_iload hx hb d_M_isUsed_60 (lv_at hl 4 rfl) ?_
            obtain ⟨x62, g_62, e_62, h⟩ := sk_rI_some h
            refine al_M10 hx hb hw g_62 e_62 d_M_isUsed_62 ?_
            refine lv_iload_n hx hb d_M_isUsed_63 rfl (lv_at hl 3 rfl) ?_
            refine lv_icmp_ne (tgt := 69) hx hb d_M_isUsed_64 (by decide) (fun c_64 => ?_) (fun c_64 => ?_)
            · have h := (if_neg c_64).symm.trans h
              refine lv_iinc (v := v4 + 1) (lv' := [(4, .int (v4 + 1)), (0, .ref (a 0)), (1, .int v1), (2, .int v2), (3, .int v3)]) hx hb d_M_isUsed_69 hl (k := 4) rfl rfl (by decide) rfl (fun ls hl => ?_)
              refine lv_goto (tgt := 3) hx hb d_M_isUsed_72 (by decide) ?_
              exact hself3 (v1, v2, v3, (v4 + 1)) h _ _ _ hw (lv_sub hl [1, 2, 3, 4, 0] rfl)
            · have h := (if_pos c_64).symm.trans h
              refine lv_iconst (v := 1) hx hb d_M_isUsed_67 (by decide) ?_
              exact hret _ _ _ _ _ _ (Option.some.inj h) rfl rfl hw d_M_isUsed_68
set_option maxHeartbeats 4000000 in
set_option maxRecDepth 100000 in
theorem c_M_newName {l : Launch} {D : va_G} {A : Nat → Prop} {a : Nat → Nat} {cI cZ : ClassId} {nw : State → Prop} {N : Nat} {st : sk_M} {v1 : Int32} {res : sk_M} (hok : sk_ok A nw) (h : M_newName N st v1 = some res) : sk_Cv l y_M_newName w_M_newName rm_M_newName D (tyM cI cZ) A (ceM a cI cZ) nw [.ref (a 0), .int v1] st res := by
  refine sk_headv (by decide) rfl (Nat.le_of_ble_eq_true rfl) ?_
  intro p e s m args below meth c Q hx hb hml hown hts0 hnw hret ls hl hw
  have hts : ∀ w ∈ TB, w.before args s = true := fun w h => hts0 w (List.mem_cons_of_mem _ h)
  have hown : s.vm.findClass R_M = some m.cls := hown
  have hl : lv_has ls 6 [(0, .ref (a 0)), (1, .int v1)] := hl
  unfold M_newName at h
  refine lv_aload_n hx hb d_M_newName_0 rfl (lv_at hl 0 rfl) ?_
  refine lv_iload_n hx hb d_M_newName_1 rfl (lv_at hl 1 rfl) ?_
  obtain ⟨x2, q_2, h⟩ := sk_oR_some h
  refine sk_callVi (As := [.int v1]) (rest := []) ⟨hx, hb, hml, hown, hts⟩ hw hnw hok (c_M_keepsName hok q_2) (cw_M_265 hts hnw (by decide)) (rc_M hw) rfl hl.1 rfl (Nat.le_of_ble_eq_true rfl) d_M_newName_2 (fun H locs hw => ?_)
  refine lv_istore_n (lv' := [(2, .int x2), (0, .ref (a 0)), (1, .int v1)]) hx hb d_M_newName_5 rfl hl (by decide) rfl (fun ls hl => ?_)
  refine lv_iload_n hx hb d_M_newName_6 rfl (lv_at hl 0 rfl) ?_
  refine lv_if_eq (tgt := 16) hx hb d_M_newName_7 (by decide) (fun c_7 => ?_) (fun c_7 => ?_)
  · have h := (if_pos c_7).symm.trans h
    refine lv_iconst (v := 0) hx hb d_M_newName_16 (by decide) ?_
    refine lv_istore_n (lv' := [(3, .int (0 : Int32)), (2, .int x2), (0, .ref (a 0)), (1, .int v1)]) hx hb d_M_newName_17 rfl hl (by decide) rfl (fun ls hl => ?_)
    refine lv_iconst (v := 1) hx hb d_M_newName_18 (by decide) ?_
    refine lv_istore (lv' := [(4, .int (1 : Int32)), (3, .int (0 : Int32)), (2, .int x2), (0, .ref (a 0)), (1, .int v1)]) hx hb d_M_newName_19 hl (by decide) rfl (fun ls hl => ?_)
    have hJ59 : ∀ (st : sk_M) (v3 : Int32) (H : Heap) (locs : List Loc) (ls : Array Slot), M_newName_J59 N st v3 = some res → sk_w D (tyM cI cZ) A (ceM a cI cZ) s st H locs → lv_has ls 6 [(0, .ref (a 0)), (3, .int v3)] → W p l e rm_M_newName s m args below meth c H locs 0 0 Q (F0 m 59 ls []) := by
      intro st v3 H locs ls h hw hl
      unfold M_newName_J59 at h
      refine lv_aload_n hx hb d_M_newName_59 rfl (lv_at hl 0 rfl) ?_
      refine lv_iconst (v := 0) hx hb d_M_newName_60 (by decide) ?_
      obtain ⟨st61, e_61, h⟩ := sk_fI_some h
      refine pf_M_195 hx hb hts hnw hown hw e_61 d_M_newName_61 (fun H locs hw => ?_)
      refine lv_aload_n hx hb d_M_newName_64 rfl (lv_at hl 0 rfl) ?_
      refine lv_bipush (v := 97) hx hb d_M_newName_65 (by decide) ?_
      refine lv_iload_n hx hb d_M_newName_67 rfl (lv_at hl 1 rfl) ?_
      refine lv_iadd hx hb d_M_newName_68 ?_
      obtain ⟨st69, q_69, h⟩ := sk_oR_some h
      refine sk_callVv (As := [.int ((97 : Int32) + v3)]) (rest := []) ⟨hx, hb, hml, hown, hts⟩ hw hnw hok (c_M_put hok q_69) (cw_M_198 hts hnw (by decide)) (rc_M hw) rfl hl.1 rfl (Nat.le_of_ble_eq_true rfl) d_M_newName_69 (fun H locs hw => ?_)
      exact hret _ _ _ _ _ (Option.some.inj h) hw d_M_newName_72
    refine sk_lp_run (G := fun (z : sk_M × Int32 × Int32 × Int32) => ∀ (H : Heap) (locs : List Loc) (ls : Array Slot), sk_w D (tyM cI cZ) A (ceM a cI cZ) s z.1 H locs → lv_has ls 6 [(0, .ref (a 0)), (1, .int z.2.1), (3, .int z.2.2.1), (4, .int z.2.2.2)] → W p l e rm_M_newName s m args below meth c H locs 0 0 Q (F0 m 21 ls [])) ?_ N _ h _ _ _ hw (lv_sub hl [3, 4, 1, 0] rfl)
    rintro self21 ⟨st, v1, v3, v4⟩ hself21 h H locs ls hw hl
    unfold M_newName_L21 at h
    refine lv_iload hx hb d_M_newName_21 (lv_at hl 3 rfl) ?_
    refine lv_iload_n hx hb d_M_newName_23 rfl (lv_at hl 1 rfl) ?_
    refine lv_icmp_ge (tgt := 59) hx hb d_M_newName_24 (by decide) (fun c_24 => ?_) (fun c_24 => ?_)
    · have h := (if_pos c_24).symm.trans h
      exact hJ59 _ _ _ _ _ h hw (lv_sub hl [0, 2] rfl)
    · have h := (if_neg c_24).symm.trans h
      refine lv_aload_n hx hb d_M_newName_27 rfl (lv_at hl 0 rfl) ?_
      refine lv_iload hx hb d_M_newName_28 (lv_at hl 3 rfl) ?_
      obtain ⟨x30, q_30, h⟩ := sk_oR_some h
      refine sk_callVi (As := [.int v4]) (rest := []) ⟨hx, hb, hml, hown, hts⟩ hw hnw hok (c_M_keepsName hok q_30) (cw_M_265 hts hnw (by decide)) (rc_M hw) rfl hl.1 rfl (Nat.le_of_ble_eq_true rfl) d_M_newName_30 (fun H locs hw => ?_)
      refine lv_istore (lv' := [(5, .int x30), (0, .ref (a 0)), (1, .int v1), (3, .int v3), (4, .int v4)]) hx hb d_M_newName_33 hl (by decide) rfl (fun ls hl => ?_)
      refine lv_aload_n hx hb d_M_newName_35 rfl (lv_at hl 1 rfl) ?_
      refine gf_M_117 hx hb hts hnw hown hw d_M_newName_36 ?_
      refine lv_iload hx hb d_M_newName_39 (lv_at hl 4 rfl) ?_
      obtain ⟨x41, g_41, e_41, h⟩ := sk_rI_some h
      refine al_M35 hx hb hw g_41 e_41 d_M_newName_41 ?_
      refine lv_if_eq (tgt := 53) hx hb d_M_newName_42 (by decide) (fun c_42 => ?_) (fun c_42 => ?_)
      · have h := (if_pos c_42).symm.trans h
        refine lv_iinc (v := v4 + 1) (lv' := [(4, .int (v4 + 1)), (5, .int x30), (0, .ref (a 0)), (1, .int v1), (3, .int v3)]) hx hb d_M_newName_53 hl (k := 4) rfl rfl (by decide) rfl (fun ls hl => ?_)
        refine lv_goto (tgt := 21) hx hb d_M_newName_56 (by decide) ?_
        exact hself21 (st, v1, v3, (v4 + 1)) h _ _ _ hw (lv_sub hl [2, 3, 4, 0] rfl)
      · have h := (if_neg c_42).symm.trans h
        refine lv_iload hx hb d_M_newName_45 (lv_at hl 0 rfl) ?_
        refine lv_if_ne (tgt := 53) hx hb d_M_newName_47 (by decide) (fun c_47 => ?_) (fun c_47 => ?_)
        · have h := (if_neg c_47).symm.trans h
          refine lv_iinc (v := v4 + 1) (lv' := [(4, .int (v4 + 1)), (5, .int x30), (0, .ref (a 0)), (1, .int v1), (3, .int v3)]) hx hb d_M_newName_53 hl (k := 4) rfl rfl (by decide) rfl (fun ls hl => ?_)
          refine lv_goto (tgt := 21) hx hb d_M_newName_56 (by decide) ?_
          exact hself21 (st, v1, v3, (v4 + 1)) h _ _ _ hw (lv_sub hl [2, 3, 4, 0] rfl)
        · have h := (if_pos c_47).symm.trans h
          refine lv_iinc (v := v3 + 1) (lv' := [(3, .int (v3 + 1)), (5, .int x30), (0, .ref (a 0)), (1, .int v1), (4, .int v4)]) hx hb d_M_newName_50 hl (k := 3) rfl rfl (by decide) rfl (fun ls hl => ?_)
          refine lv_iinc (v := v4 + 1) (lv' := [(4, .int (v4 + 1)), (3, .int (v3 + 1)), (5, .int x30), (0, .ref (a 0)), (1, .int v1)]) hx hb d_M_newName_53 hl (k := 4) rfl rfl (by decide) rfl (fun ls hl => ?_)
          refine lv_goto (tgt := 21) hx hb d_M_newName_56 (by decide) ?_
          exact hself21 (st, v1, (v3 + 1), (v4 + 1)) h _ _ _ hw (lv_sub hl [3, 4, 1, 0] rfl)
  · have h := (if_neg c_7).symm.trans h
    refine lv_aload_n hx hb d_M_newName_10 rfl (lv_at hl 1 rfl) ?_
    refine lv_iload_n hx hb d_M_newName_11 rfl (lv_at hl 2 rfl) ?_
    obtain ⟨st12, q_12, h⟩ := sk_oR_some h
    refine sk_callVv (As := [.int v1]) (rest := []) ⟨hx, hb, hml, hown, hts⟩ hw hnw hok (c_M_className hok q_12) (cw_M_202 hts hnw (by decide)) (rc_M hw) rfl hl.1 rfl (Nat.le_of_ble_eq_true rfl) d_M_newName_12 (fun H locs hw => ?_)
    exact hret _ _ _ _ _ (Option.some.inj h) hw d_M_newName_15
set_option maxHeartbeats 4000000 in
set_option maxRecDepth 100000 in
theorem c_M_isKeptLetter {l : Launch} {D : va_G} {A : Nat → Prop} {a : Nat → Nat} {cI cZ : ClassId} {nw : State → Prop} {N : Nat} {st : sk_M} {v1 : Int32} {v2 : Int32} {v3 : Int32} {res : Int32 × sk_M} (hok : sk_ok A nw) (h : M_isKeptLetter N st v1 v2 v3 = some res) : sk_Ci l y_M_isKeptLetter w_M_isKeptLetter rm_M_isKeptLetter D (tyM cI cZ) A (ceM a cI cZ) nw [.ref (a 0), .int v1, .int v2, .int v3] st res.1 res.2 := by
  refine sk_headi .boolean (by decide) rfl (Nat.le_of_ble_eq_true rfl) ?_
  intro p e s m args below meth c Q hx hb hml hown hts0 hnw hret ls hl hw
  have hts : ∀ w ∈ TB, w.before args s = true := fun w h => hts0 w (List.mem_cons_of_mem _ h)
  have hown : s.vm.findClass R_M = some m.cls := hown
  have hl : lv_has ls 4 [(0, .ref (a 0)), (1, .int v1), (2, .int v2), (3, .int v3)] := hl
  unfold M_isKeptLetter at h
  refine lv_iload_n hx hb d_M_isKeptLetter_0 rfl (lv_at hl 3 rfl) ?_
  refine lv_bipush (v := 114) hx hb d_M_isKeptLetter_1 (by decide) ?_
  refine lv_bipush (v := 119) hx hb d_M_isKeptLetter_3 (by decide) ?_
  refine sk_callSi (As := [.int v3, .int (114 : Int32), .int (119 : Int32)]) (rest := []) ⟨hx, hb, hml, hown, hts⟩ hw hnw hok (c_M_in hok rfl) (cw_M_135 hts hnw (by decide)) rfl hl.1 rfl (Nat.le_of_ble_eq_true rfl) d_M_isKeptLetter_5 (fun H locs hw => ?_)
  refine lv_if_eq (tgt := 28) hx hb d_M_isKeptLetter_8 (by decide) (fun c_8 => ?_) (fun c_8 => ?_)
  · have h := (if_pos c_8).symm.trans h
    refine lv_iconst (v := 0) hx hb d_M_isKeptLetter_28 (by decide) ?_
    exact hret _ _ _ _ _ _ (sk_p1 h) (sk_p2 h) rfl hw d_M_isKeptLetter_29
  · have h := (if_neg c_8).symm.trans h
    refine lv_aload_n hx hb d_M_isKeptLetter_11 rfl (lv_at hl 0 rfl) ?_
    refine lv_iload_n hx hb d_M_isKeptLetter_12 rfl (lv_at hl 1 rfl) ?_
    refine lv_iload_n hx hb d_M_isKeptLetter_13 rfl (lv_at hl 3 rfl) ?_
    refine lv_bipush (v := 114) hx hb d_M_isKeptLetter_14 (by decide) ?_
    refine lv_isub hx hb d_M_isKeptLetter_16 ?_
    refine lv_iload_n hx hb d_M_isKeptLetter_17 rfl (lv_at hl 2 rfl) ?_
    obtain ⟨x18, st18, q_18, h⟩ := sk_oW_some h
    refine sk_callVi (As := [.int v1, .int (v3 - (114 : Int32)), .int v2]) (rest := []) ⟨hx, hb, hml, hown, hts⟩ hw hnw hok (c_M_keepsText hok q_18) (cw_M_268 hts hnw (by decide)) (rc_M hw) rfl hl.1 rfl (Nat.le_of_ble_eq_true rfl) d_M_isKeptLetter_18 (fun H locs hw => ?_)
    refine lv_if_eq (tgt := 28) hx hb d_M_isKeptLetter_21 (by decide) (fun c_21 => ?_) (fun c_21 => ?_)
    · have h := (if_pos c_21).symm.trans h
      refine lv_iconst (v := 0) hx hb d_M_isKeptLetter_28 (by decide) ?_
      exact hret _ _ _ _ _ _ (sk_p1 h) (sk_p2 h) rfl hw d_M_isKeptLetter_29
    · have h := (if_neg c_21).symm.trans h
      refine lv_iconst (v := 1) hx hb d_M_isKeptLetter_24 (by decide) ?_
      refine lv_goto (tgt := 29) hx hb d_M_isKeptLetter_25 (by decide) ?_
      exact hret _ _ _ _ _ _ (sk_p1 h) (sk_p2 h) rfl hw d_M_isKeptLetter_29
set_option maxHeartbeats 4000000 in
set_option maxRecDepth 100000 in
theorem c_M_newText {l : Launch} {D : va_G} {A : Nat → Prop} {a : Nat → Nat} {cI cZ : ClassId} {nw : State → Prop} {N : Nat} {st : sk_M} {v1 : Int32} {res : sk_M} (hok : sk_ok A nw) (h : M_newText N st v1 = some res) : sk_Cv l y_M_newText w_M_newText rm_M_newText D (tyM cI cZ) A (ceM a cI cZ) nw [.ref (a 0), .int v1] st res := by
  refine sk_headv (by decide) rfl (Nat.le_of_ble_eq_true rfl) ?_
  intro p e s m args below meth c Q hx hb hml hown hts0 hnw hret ls hl hw
  have hts : ∀ w ∈ TB, w.before args s = true := fun w h => hts0 w (List.mem_cons_of_mem _ h)
  have hown : s.vm.findClass R_M = some m.cls := hown
  have hl : lv_has ls 8 [(0, .ref (a 0)), (1, .int v1)] := hl
  unfold M_newText at h
  refine lv_aload_n hx hb d_M_newText_0 rfl (lv_at hl 0 rfl) ?_
  refine gf_M_41 hx hb hts hnw hown hw d_M_newText_1 ?_
  refine lv_iload_n hx hb d_M_newText_4 rfl (lv_at hl 1 rfl) ?_
  obtain ⟨x5, g_5, e_5, h⟩ := sk_rI_some h
  refine al_M11 hx hb hw g_5 e_5 d_M_newText_5 ?_
  refine lv_iconst (v := 1) hx hb d_M_newText_6 (by decide) ?_
  refine lv_iand hx hb d_M_newText_7 ?_
  refine lv_istore_n (lv' := [(2, .int (x5 &&& (1 : Int32))), (0, .ref (a 0)), (1, .int v1)]) hx hb d_M_newText_8 rfl hl (by decide) rfl (fun ls hl => ?_)
  refine lv_aload_n hx hb d_M_newText_9 rfl (lv_at hl 1 rfl) ?_
  refine gf_M_38 hx hb hts hnw hown hw d_M_newText_10 ?_
  refine lv_iload_n hx hb d_M_newText_13 rfl (lv_at hl 2 rfl) ?_
  obtain ⟨x14, g_14, e_14, h⟩ := sk_rI_some h
  refine al_M10 hx hb hw g_14 e_14 d_M_newText_14 ?_
  refine lv_istore_n (lv' := [(3, .int x14), (2, .int (x5 &&& (1 : Int32))), (0, .ref (a 0)), (1, .int v1)]) hx hb d_M_newText_15 rfl hl (by decide) rfl (fun ls hl => ?_)
  refine lv_bipush (v := 97) hx hb d_M_newText_16 (by decide) ?_
  refine lv_istore (lv' := [(4, .int (97 : Int32)), (3, .int x14), (2, .int (x5 &&& (1 : Int32))), (0, .ref (a 0)), (1, .int v1)]) hx hb d_M_newText_18 hl (by decide) rfl (fun ls hl => ?_)
  refine lv_aload_n hx hb d_M_newText_20 rfl (lv_at hl 3 rfl) ?_
  refine lv_iload_n hx hb d_M_newText_21 rfl (lv_at hl 2 rfl) ?_
  refine lv_aload_n hx hb d_M_newText_22 rfl (lv_at hl 3 rfl) ?_
  refine gf_M_35 hx hb hts hnw hown hw d_M_newText_23 ?_
  refine lv_iload_n hx hb d_M_newText_26 rfl (lv_at hl 4 rfl) ?_
  obtain ⟨x27, g_27, e_27, h⟩ := sk_rI_some h
  refine al_M9 hx hb hw g_27 e_27 d_M_newText_27 ?_
  refine lv_iload_n hx hb d_M_newText_28 rfl (lv_at hl 1 rfl) ?_
  obtain ⟨x29, st29, q_29, h⟩ := sk_oW_some h
  refine sk_callVi (As := [.int (x5 &&& (1 : Int32)), .int x27, .int x14]) (rest := []) ⟨hx, hb, hml, hown, hts⟩ hw hnw hok (c_M_keepsText hok q_29) (cw_M_268 hts hnw (by decide)) (rc_M hw) rfl hl.1 rfl (Nat.le_of_ble_eq_true rfl) d_M_newText_29 (fun H locs hw => ?_)
  refine lv_istore (lv' := [(5, .int x29), (4, .int (97 : Int32)), (3, .int x14), (2, .int (x5 &&& (1 : Int32))), (0, .ref (a 0)), (1, .int v1)]) hx hb d_M_newText_32 hl (by decide) rfl (fun ls hl => ?_)
  refine lv_iload hx hb d_M_newText_34 (lv_at hl 0 rfl) ?_
  refine lv_if_eq (tgt := 50) hx hb d_M_newText_36 (by decide) (fun c_36 => ?_) (fun c_36 => ?_)
  · have h := (if_pos c_36).symm.trans h
    refine lv_iconst (v := 0) hx hb d_M_newText_50 (by decide) ?_
    refine lv_istore (lv' := [(6, .int (0 : Int32)), (5, .int x29), (4, .int (97 : Int32)), (3, .int x14), (2, .int (x5 &&& (1 : Int32))), (0, .ref (a 0)), (1, .int v1)]) hx hb d_M_newText_51 hl (by decide) rfl (fun ls hl => ?_)
    have hJ138 : ∀ (st : sk_M) (v4 : Int32) (H : Heap) (locs : List Loc) (ls : Array Slot), M_newText_J138 N st v4 = some res → sk_w D (tyM cI cZ) A (ceM a cI cZ) s st H locs → lv_has ls 8 [(0, .ref (a 0)), (4, .int v4)] → W p l e rm_M_newText s m args below meth c H locs 0 0 Q (F0 m 138 ls []) := by
      intro st v4 H locs ls h hw hl
      unfold M_newText_J138 at h
      refine lv_aload_n hx hb d_M_newText_138 rfl (lv_at hl 0 rfl) ?_
      refine lv_iconst (v := 0) hx hb d_M_newText_139 (by decide) ?_
      obtain ⟨st140, e_140, h⟩ := sk_fI_some h
      refine pf_M_195 hx hb hts hnw hown hw e_140 d_M_newText_140 (fun H locs hw => ?_)
      refine lv_aload_n hx hb d_M_newText_143 rfl (lv_at hl 0 rfl) ?_
      refine lv_iload hx hb d_M_newText_144 (lv_at hl 1 rfl) ?_
      obtain ⟨st146, q_146, h⟩ := sk_oR_some h
      refine sk_callVv (As := [.int v4]) (rest := []) ⟨hx, hb, hml, hown, hts⟩ hw hnw hok (c_M_put hok q_146) (cw_M_198 hts hnw (by decide)) (rc_M hw) rfl hl.1 rfl (Nat.le_of_ble_eq_true rfl) d_M_newText_146 (fun H locs hw => ?_)
      exact hret _ _ _ _ _ (Option.some.inj h) hw d_M_newText_149
    refine sk_lp_run (G := fun (z : sk_M × Int32 × Int32 × Int32 × Int32 × Int32) => ∀ (H : Heap) (locs : List Loc) (ls : Array Slot), sk_w D (tyM cI cZ) A (ceM a cI cZ) s z.1 H locs → lv_has ls 8 [(0, .ref (a 0)), (1, .int z.2.1), (2, .int z.2.2.1), (3, .int z.2.2.2.1), (4, .int z.2.2.2.2.1), (6, .int z.2.2.2.2.2)] → W p l e rm_M_newText s m args below meth c H locs 0 0 Q (F0 m 53 ls [])) ?_ N _ h _ _ _ hw (lv_sub hl [5, 6, 4, 3, 2, 0] rfl)
    rintro self53 ⟨st, v1, v2, v3, v4, v6⟩ hself53 h H locs ls hw hl
    unfold M_newText_L53 at h
    refine lv_iload hx hb d_M_newText_53 (lv_at hl 5 rfl) ?_
    refine lv_aload_n hx hb d_M_newText_55 rfl (lv_at hl 0 rfl) ?_
    refine gf_M_35 hx hb hts hnw hown hw d_M_newText_56 ?_
    refine lv_iload_n hx hb d_M_newText_59 rfl (lv_at hl 1 rfl) ?_
    obtain ⟨x60, g_60, e_60, h⟩ := sk_rI_some h
    refine al_M9 hx hb hw g_60 e_60 d_M_newText_60 ?_
    refine lv_icmp_gt (tgt := 138) hx hb d_M_newText_61 (by decide) (fun c_61 => ?_) (fun c_61 => ?_)
    · have h := (if_pos c_61).symm.trans h
      exact hJ138 _ _ _ _ _ h hw (lv_sub hl [0, 4] rfl)
    · have h := (if_neg c_61).symm.trans h
      refine lv_aload_n hx hb d_M_newText_64 rfl (lv_at hl 0 rfl) ?_
      refine lv_iload_n hx hb d_M_newText_65 rfl (lv_at hl 2 rfl) ?_
      refine lv_iload hx hb d_M_newText_66 (lv_at hl 5 rfl) ?_
      refine lv_iload_n hx hb d_M_newText_68 rfl (lv_at hl 3 rfl) ?_
      obtain ⟨x69, q_69, h⟩ := sk_oR_some h
      refine sk_callVi (As := [.int v2, .int v6, .int v3]) (rest := []) ⟨hx, hb, hml, hown, hts⟩ hw hnw hok (c_M_isUsed hok q_69) (cw_M_271 hts hnw (by decide)) (rc_M hw) rfl hl.1 rfl (Nat.le_of_ble_eq_true rfl) d_M_newText_69 (fun H locs hw => ?_)
      have hJ91 : ∀ (st : sk_M) (v1 : Int32) (v2 : Int32) (v3 : Int32) (v4 : Int32) (v6 : Int32) (s0 : Int32) (H : Heap) (locs : List Loc) (ls : Array Slot), M_newText_J91 N (fun st v4 => M_newText_J138 N st v4) self53 st v1 v2 v3 v4 v6 s0 = some res → sk_w D (tyM cI cZ) A (ceM a cI cZ) s st H locs → lv_has ls 8 [(0, .ref (a 0)), (1, .int v1), (2, .int v2), (3, .int v3), (4, .int v4), (6, .int v6)] → W p l e rm_M_newText s m args below meth c H locs 0 0 Q (F0 m 91 ls [.int s0]) := by
        intro st v1 v2 v3 v4 v6 s0 H locs ls h hw hl
        unfold M_newText_J91 at h
        refine lv_istore (lv' := [(7, .int s0), (0, .ref (a 0)), (1, .int v1), (2, .int v2), (3, .int v3), (4, .int v4), (6, .int v6)]) hx hb d_M_newText_91 hl (by decide) rfl (fun ls hl => ?_)
        refine lv_iload hx hb d_M_newText_93 (lv_at hl 0 rfl) ?_
        refine lv_if_ne (tgt := 101) hx hb d_M_newText_95 (by decide) (fun c_95 => ?_) (fun c_95 => ?_)
        · have h := (if_neg c_95).symm.trans h
          have hJ118 : ∀ (st : sk_M) (v1 : Int32) (v2 : Int32) (v3 : Int32) (v4 : Int32) (v6 : Int32) (H : Heap) (locs : List Loc) (ls : Array Slot), M_newText_J118 N (fun st v4 => M_newText_J138 N st v4) self53 st v1 v2 v3 v4 v6 = some res → sk_w D (tyM cI cZ) A (ceM a cI cZ) s st H locs → lv_has ls 8 [(0, .ref (a 0)), (1, .int v1), (2, .int v2), (3, .int v3), (4, .int v4), (6, .int v6)] → W p l e rm_M_newText s m args below meth c H locs 0 0 Q (F0 m 118 ls []) := by
            intro st v1 v2 v3 v4 v6 H locs ls h hw hl
            unfold M_newText_J118 at h
            refine lv_iload hx hb d_M_newText_118 (lv_at hl 5 rfl) ?_
            refine lv_aload_n hx hb d_M_newText_120 rfl (lv_at hl 0 rfl) ?_
            refine gf_M_35 hx hb hts hnw hown hw d_M_newText_121 ?_
            refine lv_iload_n hx hb d_M_newText_124 rfl (lv_at hl 1 rfl) ?_
            obtain ⟨x125, g_125, e_125, h⟩ := sk_rI_some h
            refine al_M9 hx hb hw g_125 e_125 d_M_newText_125 ?_
            refine lv_icmp_ge (tgt := 132) hx hb d_M_newText_126 (by decide) (fun c_126 => ?_) (fun c_126 => ?_)
            · have h := (if_pos c_126).symm.trans h
              refine lv_iinc (v := v6 + 1) (lv' := [(6, .int (v6 + 1)), (0, .ref (a 0)), (1, .int v1), (2, .int v2), (3, .int v3), (4, .int v4)]) hx hb d_M_newText_132 hl (k := 5) rfl rfl (by decide) rfl (fun ls hl => ?_)
              refine lv_goto (tgt := 53) hx hb d_M_newText_135 (by decide) ?_
              exact hself53 (st, v1, v2, v3, v4, (v6 + 1)) h _ _ _ hw (lv_sub hl [1, 2, 3, 4, 5, 0] rfl)
            · have h := (if_neg c_126).symm.trans h
              refine lv_iinc (v := v4 + 1) (lv' := [(4, .int (v4 + 1)), (0, .ref (a 0)), (1, .int v1), (2, .int v2), (3, .int v3), (6, .int v6)]) hx hb d_M_newText_129 hl (k := 4) rfl rfl (by decide) rfl (fun ls hl => ?_)
              refine lv_iinc (v := v6 + 1) (lv' := [(6, .int (v6 + 1)), (4, .int (v4 + 1)), (0, .ref (a 0)), (1, .int v1), (2, .int v2), (3, .int v3)]) hx hb d_M_newText_132 hl (k := 5) rfl rfl (by decide) rfl (fun ls hl => ?_)
              refine lv_goto (tgt := 53) hx hb d_M_newText_135 (by decide) ?_
              exact hself53 (st, v1, v2, v3, (v4 + 1), (v6 + 1)) h _ _ _ hw (lv_sub hl [2, 3, 4, 5, 1, 0] rfl)
          refine sk_lp_run (G := fun (z : sk_M × Int32 × Int32 × Int32 × Int32 × Int32) => ∀ (H : Heap) (locs : List Loc) (ls : Array Slot), sk_w D (tyM cI cZ) A (ceM a cI cZ) s z.1 H locs → lv_has ls 8 [(0, .ref (a 0)), (1, .int z.2.1), (2, .int z.2.2.1), (3, .int z.2.2.2.1), (4, .int z.2.2.2.2.1), (6, .int z.2.2.2.2.2)] → W p l e rm_M_newText s m args below meth c H locs 0 0 Q (F0 m 101 ls [])) ?_ N _ h _ _ _ hw (lv_sub hl [1, 2, 3, 4, 5, 6] rfl)
          rintro self101 ⟨st, v1, v2, v3, v4, v6⟩ hself101 h H locs ls hw hl
          unfold M_newText_L101 at h
          refine lv_aload_n hx hb d_M_newText_101 rfl (lv_at hl 0 rfl) ?_
          refine lv_iload_n hx hb d_M_newText_102 rfl (lv_at hl 2 rfl) ?_
          refine lv_iload_n hx hb d_M_newText_103 rfl (lv_at hl 3 rfl) ?_
          refine lv_iload hx hb d_M_newText_104 (lv_at hl 4 rfl) ?_
          obtain ⟨x106, st106, q_106, h⟩ := sk_oW_some h
          refine sk_callVi (As := [.int v2, .int v3, .int v4]) (rest := []) ⟨hx, hb, hml, hown, hts⟩ hw hnw hok (c_M_isKeptLetter hok q_106) (cw_M_274 hts hnw (by decide)) (rc_M hw) rfl hl.1 rfl (Nat.le_of_ble_eq_true rfl) d_M_newText_106 (fun H locs hw => ?_)
          refine lv_if_eq (tgt := 118) hx hb d_M_newText_109 (by decide) (fun c_109 => ?_) (fun c_109 => ?_)
          · have h := (if_pos c_109).symm.trans h
            exact hJ118 _ _ _ _ _ _ _ _ _ h hw (lv_sub hl [0, 1, 2, 3, 4, 5] rfl)
          · have h := (if_neg c_109).symm.trans h
            refine lv_iinc (v := v4 + 1) (lv' := [(4, .int (v4 + 1)), (0, .ref (a 0)), (1, .int v1), (2, .int v2), (3, .int v3), (6, .int v6)]) hx hb d_M_newText_112 hl (k := 4) rfl rfl (by decide) rfl (fun ls hl => ?_)
            refine lv_goto (tgt := 101) hx hb d_M_newText_115 (by decide) ?_
            exact hself101 (st106, v1, v2, v3, (v4 + 1), v6) h _ _ _ hw (lv_sub hl [1, 2, 3, 4, 0, 5] rfl)
        · have h := (if_pos c_95).symm.trans h
          refine lv_goto (tgt := 132) hx hb d_M_newText_98 (by decide) ?_
          refine lv_iinc (v := v6 + 1) (lv' := [(6, .int (v6 + 1)), (7, .int s0), (0, .ref (a 0)), (1, .int v1), (2, .int v2), (3, .int v3), (4, .int v4)]) hx hb d_M_newText_132 hl (k := 6) rfl rfl (by decide) rfl (fun ls hl => ?_)
          refine lv_goto (tgt := 53) hx hb d_M_newText_135 (by decide) ?_
          exact hself53 (st, v1, v2, v3, v4, (v6 + 1)) h _ _ _ hw (lv_sub hl [2, 3, 4, 5, 6, 0] rfl)
      have hJ90 : ∀ (st : sk_M) (v1 : Int32) (v2 : Int32) (v3 : Int32) (v4 : Int32) (v6 : Int32) (H : Heap) (locs : List Loc) (ls : Array Slot), M_newText_J90 N (fun st v4 => M_newText_J138 N st v4) self53 st v1 v2 v3 v4 v6 = some res → sk_w D (tyM cI cZ) A (ceM a cI cZ) s st H locs → lv_has ls 8 [(0, .ref (a 0)), (1, .int v1), (2, .int v2), (3, .int v3), (4, .int v4), (6, .int v6)] → W p l e rm_M_newText s m args below meth c H locs 0 0 Q (F0 m 90 ls []) := by
        intro st v1 v2 v3 v4 v6 H locs ls h hw hl
        unfold M_newText_J90 at h
        refine lv_iconst (v := 0) hx hb d_M_newText_90 (by decide) ?_
        exact hJ91 _ _ _ _ _ _ _ _ _ _ h hw (lv_sub hl [0, 1, 2, 3, 4, 5] rfl)
      refine lv_if_eq (tgt := 90) hx hb d_M_newText_72 (by decide) (fun c_72 => ?_) (fun c_72 => ?_)
      · have h := (if_pos c_72).symm.trans h
        exact hJ90 _ _ _ _ _ _ _ _ _ h hw (lv_sub hl [0, 1, 2, 3, 4, 5] rfl)
      · have h := (if_neg c_72).symm.trans h
        refine lv_aload_n hx hb d_M_newText_75 rfl (lv_at hl 0 rfl) ?_
        refine lv_iload_n hx hb d_M_newText_76 rfl (lv_at hl 2 rfl) ?_
        refine lv_iload hx hb d_M_newText_77 (lv_at hl 5 rfl) ?_
        refine lv_iload_n hx hb d_M_newText_79 rfl (lv_at hl 3 rfl) ?_
        obtain ⟨x80, st80, q_80, h⟩ := sk_oW_some h
        refine sk_callVi (As := [.int v2, .int v6, .int v3]) (rest := []) ⟨hx, hb, hml, hown, hts⟩ hw hnw hok (c_M_keepsText hok q_80) (cw_M_268 hts hnw (by decide)) (rc_M hw) rfl hl.1 rfl (Nat.le_of_ble_eq_true rfl) d_M_newText_80 (fun H locs hw => ?_)
        refine lv_if_ne (tgt := 90) hx hb d_M_newText_83 (by decide) (fun c_83 => ?_) (fun c_83 => ?_)
        · have h := (if_neg c_83).symm.trans h
          exact hJ90 _ _ _ _ _ _ _ _ _ h hw (lv_sub hl [0, 1, 2, 3, 4, 5] rfl)
        · have h := (if_pos c_83).symm.trans h
          refine lv_iconst (v := 1) hx hb d_M_newText_86 (by decide) ?_
          refine lv_goto (tgt := 91) hx hb d_M_newText_87 (by decide) ?_
          exact hJ91 _ _ _ _ _ _ _ _ _ _ h hw (lv_sub hl [0, 1, 2, 3, 4, 5] rfl)
  · have h := (if_neg c_36).symm.trans h
    refine lv_aload_n hx hb d_M_newText_39 rfl (lv_at hl 4 rfl) ?_
    refine lv_aload_n hx hb d_M_newText_40 rfl (lv_at hl 4 rfl) ?_
    refine gf_M_35 hx hb hts hnw hown hw d_M_newText_41 ?_
    refine lv_iload_n hx hb d_M_newText_44 rfl (lv_at hl 5 rfl) ?_
    obtain ⟨x45, g_45, e_45, h⟩ := sk_rI_some h
    refine al_M9 hx hb hw g_45 e_45 d_M_newText_45 ?_
    obtain ⟨st46, q_46, h⟩ := sk_oR_some h
    refine sk_callVv (As := [.int x45]) (rest := []) ⟨hx, hb, hml, hown, hts⟩ hw hnw hok (c_M_wordText hok q_46) (cw_M_211 hts hnw (by decide)) (rc_M hw) rfl hl.1 rfl (Nat.le_of_ble_eq_true rfl) d_M_newText_46 (fun H locs hw => ?_)
    exact hret _ _ _ _ _ (Option.some.inj h) hw d_M_newText_49
set_option maxHeartbeats 4000000 in
set_option maxRecDepth 100000 in
theorem c_M_needs {l : Launch} {D : va_G} {A : Nat → Prop} {a : Nat → Nat} {cI cZ : ClassId} {nw : State → Prop} {N : Nat} {st : sk_M} {v1 : Int32} {v2 : Int32} {res : Int32 × sk_M} (hok : sk_ok A nw) (h : M_needs N st v1 v2 = some res) : sk_Ci l y_M_needs w_M_needs rm_M_needs D (tyM cI cZ) A (ceM a cI cZ) nw [.ref (a 0), .int v1, .int v2] st res.1 res.2 := by
  refine sk_headi .int (by decide) rfl (Nat.le_of_ble_eq_true rfl) ?_
  intro p e s m args below meth c Q hx hb hml hown hts0 hnw hret ls hl hw
  have hts : ∀ w ∈ TB, w.before args s = true := fun w h => hts0 w (List.mem_cons_of_mem _ h)
  have hown : s.vm.findClass R_M = some m.cls := hown
  have hl : lv_has ls 6 [(0, .ref (a 0)), (1, .int v1), (2, .int v2)] := hl
  unfold M_needs at h
  refine lv_iload_n hx hb d_M_needs_0 rfl (lv_at hl 2 rfl) ?_
  refine lv_iconst (v := 0) hx hb d_M_needs_1 (by decide) ?_
  refine lv_iconst (v := 5) hx hb d_M_needs_2 (by decide) ?_
  refine sk_callSi (As := [.int v2, .int (0 : Int32), .int (5 : Int32)]) (rest := []) ⟨hx, hb, hml, hown, hts⟩ hw hnw hok (c_M_in hok rfl) (cw_M_135 hts hnw (by decide)) rfl hl.1 rfl (Nat.le_of_ble_eq_true rfl) d_M_needs_3 (fun H locs hw => ?_)
  refine lv_if_ne (tgt := 11) hx hb d_M_needs_6 (by decide) (fun c_6 => ?_) (fun c_6 => ?_)
  · have h := (if_neg c_6).symm.trans h
    refine lv_iload_n hx hb d_M_needs_11 rfl (lv_at hl 1 rfl) ?_
    refine lv_iconst (v := 0) hx hb d_M_needs_12 (by decide) ?_
    refine lv_bipush (v := 9) hx hb d_M_needs_13 (by decide) ?_
    refine sk_callSi (As := [.int v1, .int (0 : Int32), .int (9 : Int32)]) (rest := []) ⟨hx, hb, hml, hown, hts⟩ hw hnw hok (c_M_in hok rfl) (cw_M_135 hts hnw (by decide)) rfl hl.1 rfl (Nat.le_of_ble_eq_true rfl) d_M_needs_15 (fun H locs hw => ?_)
    refine lv_if_eq (tgt := 30) hx hb d_M_needs_18 (by decide) (fun c_18 => ?_) (fun c_18 => ?_)
    · have h := (if_pos c_18).symm.trans h
      refine lv_bipush (v := -2) hx hb d_M_needs_30 (by decide) ?_
      exact hret _ _ _ _ _ _ (sk_p1 h) (sk_p2 h) (vp_nar_int _) hw d_M_needs_32
    · have h := (if_neg c_18).symm.trans h
      refine lv_aload_n hx hb d_M_needs_21 rfl (lv_at hl 0 rfl) ?_
      refine gf_M_7 hx hb hts hnw hown hw d_M_needs_22 ?_
      refine lv_iload_n hx hb d_M_needs_25 rfl (lv_at hl 1 rfl) ?_
      obtain ⟨x26, g_26, e_26, h⟩ := sk_rI_some h
      refine al_M1 hx hb hw g_26 e_26 d_M_needs_26 ?_
      refine lv_if_ne (tgt := 33) hx hb d_M_needs_27 (by decide) (fun c_27 => ?_) (fun c_27 => ?_)
      · have h := (if_neg c_27).symm.trans h
        refine lv_aload_n hx hb d_M_needs_33 rfl (lv_at hl 0 rfl) ?_
        obtain ⟨st34, q_34, h⟩ := sk_oR_some h
        refine sk_callVv (As := []) (rest := []) ⟨hx, hb, hml, hown, hts⟩ hw hnw hok (c_M_find hok q_34) (cw_M_277 hts hnw (by decide)) (rc_M hw) rfl hl.1 rfl (Nat.le_of_ble_eq_true rfl) d_M_needs_34 (fun H locs hw => ?_)
        refine lv_bipush (v := -2) hx hb d_M_needs_37 (by decide) ?_
        refine lv_istore_n (lv' := [(3, .int (-2 : Int32)), (0, .ref (a 0)), (1, .int v1), (2, .int v2)]) hx hb d_M_needs_39 rfl hl (by decide) rfl (fun ls hl => ?_)
        refine lv_iconst (v := 0) hx hb d_M_needs_40 (by decide) ?_
        refine lv_istore (lv' := [(4, .int (0 : Int32)), (3, .int (-2 : Int32)), (0, .ref (a 0)), (1, .int v1), (2, .int v2)]) hx hb d_M_needs_41 hl (by decide) rfl (fun ls hl => ?_)
        refine lv_iconst (v := 0) hx hb d_M_needs_43 (by decide) ?_
        refine lv_istore (lv' := [(5, .int (0 : Int32)), (4, .int (0 : Int32)), (3, .int (-2 : Int32)), (0, .ref (a 0)), (1, .int v1), (2, .int v2)]) hx hb d_M_needs_44 hl (by decide) rfl (fun ls hl => ?_)
        have hJ79 : ∀ (st : sk_M) (v1 : Int32) (v2 : Int32) (v3 : Int32) (v4 : Int32) (H : Heap) (locs : List Loc) (ls : Array Slot), M_needs_J79 N st v1 v2 v3 v4 = some res → sk_w D (tyM cI cZ) A (ceM a cI cZ) s st H locs → lv_has ls 6 [(0, .ref (a 0)), (1, .int v1), (2, .int v2), (3, .int v3), (4, .int v4)] → W p l e rm_M_needs s m args below meth c H locs 0 0 Q (F0 m 79 ls []) := by
          intro st v1 v2 v3 v4 H locs ls h hw hl
          unfold M_needs_J79 at h
          refine lv_iconst (v := 0) hx hb d_M_needs_79 (by decide) ?_
          refine lv_istore (lv' := [(5, .int (0 : Int32)), (0, .ref (a 0)), (1, .int v1), (2, .int v2), (3, .int v3), (4, .int v4)]) hx hb d_M_needs_80 hl (by decide) rfl (fun ls hl => ?_)
          have hJ111 : ∀ (st : sk_M) (v1 : Int32) (v2 : Int32) (v3 : Int32) (v4 : Int32) (H : Heap) (locs : List Loc) (ls : Array Slot), M_needs_J111 N st v1 v2 v3 v4 = some res → sk_w D (tyM cI cZ) A (ceM a cI cZ) s st H locs → lv_has ls 6 [(0, .ref (a 0)), (1, .int v1), (2, .int v2), (3, .int v3), (4, .int v4)] → W p l e rm_M_needs s m args below meth c H locs 0 0 Q (F0 m 111 ls []) := by
            intro st v1 v2 v3 v4 H locs ls h hw hl
            unfold M_needs_J111 at h
            refine lv_iload_n hx hb d_M_needs_111 rfl (lv_at hl 2 rfl) ?_
            have hJ157 : ∀ (st : sk_M) (v2 : Int32) (v3 : Int32) (v4 : Int32) (s0 : Int32) (H : Heap) (locs : List Loc) (ls : Array Slot), M_needs_J157 N st v2 v3 v4 s0 = some res → sk_w D (tyM cI cZ) A (ceM a cI cZ) s st H locs → lv_has ls 6 [(2, .int v2), (3, .int v3), (4, .int v4)] → W p l e rm_M_needs s m args below meth c H locs 0 0 Q (F0 m 157 ls [.int s0]) := by
              intro st v2 v3 v4 s0 H locs ls h hw hl
              unfold M_needs_J157 at h
              refine lv_istore (lv' := [(5, .int s0), (2, .int v2), (3, .int v3), (4, .int v4)]) hx hb d_M_needs_157 hl (by decide) rfl (fun ls hl => ?_)
              refine lv_iload_n hx hb d_M_needs_159 rfl (lv_at hl 1 rfl) ?_
              refine lv_iconst (v := 4) hx hb d_M_needs_160 (by decide) ?_
              refine lv_icmp_ne (tgt := 169) hx hb d_M_needs_161 (by decide) (fun c_161 => ?_) (fun c_161 => ?_)
              · have h := (if_neg c_161).symm.trans h
                refine lv_iload_n hx hb d_M_needs_169 rfl (lv_at hl 1 rfl) ?_
                refine lv_iconst (v := 5) hx hb d_M_needs_170 (by decide) ?_
                refine lv_icmp_ne (tgt := 178) hx hb d_M_needs_171 (by decide) (fun c_171 => ?_) (fun c_171 => ?_)
                · have h := (if_neg c_171).symm.trans h
                  refine lv_iload hx hb d_M_needs_178 (lv_at hl 0 rfl) ?_
                  refine lv_if_eq (tgt := 187) hx hb d_M_needs_180 (by decide) (fun c_180 => ?_) (fun c_180 => ?_)
                  · have h := (if_pos c_180).symm.trans h
                    refine lv_iconst (v := 0) hx hb d_M_needs_187 (by decide) ?_
                    exact hret _ _ _ _ _ _ (sk_p1 h) (sk_p2 h) (vp_nar_int _) hw d_M_needs_188
                  · have h := (if_neg c_180).symm.trans h
                    refine lv_iconst (v := 1) hx hb d_M_needs_183 (by decide) ?_
                    refine lv_goto (tgt := 188) hx hb d_M_needs_184 (by decide) ?_
                    exact hret _ _ _ _ _ _ (sk_p1 h) (sk_p2 h) (vp_nar_int _) hw d_M_needs_188
                · have h := (if_pos c_171).symm.trans h
                  refine lv_iload_n hx hb d_M_needs_174 rfl (lv_at hl 2 rfl) ?_
                  refine lv_goto (tgt := 188) hx hb d_M_needs_175 (by decide) ?_
                  exact hret _ _ _ _ _ _ (sk_p1 h) (sk_p2 h) (vp_nar_int _) hw d_M_needs_188
              · have h := (if_pos c_161).symm.trans h
                refine lv_iload hx hb d_M_needs_164 (lv_at hl 3 rfl) ?_
                refine lv_goto (tgt := 188) hx hb d_M_needs_166 (by decide) ?_
                exact hret _ _ _ _ _ _ (sk_p1 h) (sk_p2 h) (vp_nar_int _) hw d_M_needs_188
            refine lv_if_ne (tgt := 124) hx hb d_M_needs_112 (by decide) (fun c_112 => ?_) (fun c_112 => ?_)
            · have h := (if_neg c_112).symm.trans h
              refine lv_iload_n hx hb d_M_needs_124 rfl (lv_at hl 2 rfl) ?_
              refine lv_iconst (v := 1) hx hb d_M_needs_125 (by decide) ?_
              refine lv_icmp_ne (tgt := 138) hx hb d_M_needs_126 (by decide) (fun c_126 => ?_) (fun c_126 => ?_)
              · have h := (if_neg c_126).symm.trans h
                refine lv_iload_n hx hb d_M_needs_138 rfl (lv_at hl 2 rfl) ?_
                refine lv_iconst (v := 2) hx hb d_M_needs_139 (by decide) ?_
                refine lv_icmp_ne (tgt := 152) hx hb d_M_needs_140 (by decide) (fun c_140 => ?_) (fun c_140 => ?_)
                · have h := (if_neg c_140).symm.trans h
                  refine lv_aload_n hx hb d_M_needs_152 rfl (lv_at hl 0 rfl) ?_
                  refine lv_iload_n hx hb d_M_needs_153 rfl (lv_at hl 1 rfl) ?_
                  obtain ⟨x154, q_154, h⟩ := sk_oR_some h
                  refine sk_callVi (As := [.int v1]) (rest := []) ⟨hx, hb, hml, hown, hts⟩ hw hnw hok (c_M_keepsName hok q_154) (cw_M_265 hts hnw (by decide)) (rc_M hw) rfl hl.1 rfl (Nat.le_of_ble_eq_true rfl) d_M_needs_154 (fun H locs hw => ?_)
                  exact hJ157 _ _ _ _ _ _ _ _ h hw (lv_sub hl [2, 3, 4] rfl)
                · have h := (if_pos c_140).symm.trans h
                  refine lv_aload_n hx hb d_M_needs_143 rfl (lv_at hl 0 rfl) ?_
                  refine gf_M_123 hx hb hts hnw hown hw d_M_needs_144 ?_
                  refine lv_iload_n hx hb d_M_needs_147 rfl (lv_at hl 1 rfl) ?_
                  obtain ⟨x148, g_148, e_148, h⟩ := sk_rI_some h
                  refine al_M37 hx hb hw g_148 e_148 d_M_needs_148 ?_
                  refine lv_goto (tgt := 157) hx hb d_M_needs_149 (by decide) ?_
                  exact hJ157 _ _ _ _ _ _ _ _ h hw (lv_sub hl [2, 3, 4] rfl)
              · have h := (if_pos c_126).symm.trans h
                refine lv_aload_n hx hb d_M_needs_129 rfl (lv_at hl 0 rfl) ?_
                refine gf_M_120 hx hb hts hnw hown hw d_M_needs_130 ?_
                refine lv_iload_n hx hb d_M_needs_133 rfl (lv_at hl 1 rfl) ?_
                obtain ⟨x134, g_134, e_134, h⟩ := sk_rI_some h
                refine al_M36 hx hb hw g_134 e_134 d_M_needs_134 ?_
                refine lv_goto (tgt := 157) hx hb d_M_needs_135 (by decide) ?_
                exact hJ157 _ _ _ _ _ _ _ _ h hw (lv_sub hl [2, 3, 4] rfl)
            · have h := (if_pos c_112).symm.trans h
              refine lv_aload_n hx hb d_M_needs_115 rfl (lv_at hl 0 rfl) ?_
              refine gf_M_117 hx hb hts hnw hown hw d_M_needs_116 ?_
              refine lv_iload_n hx hb d_M_needs_119 rfl (lv_at hl 1 rfl) ?_
              obtain ⟨x120, g_120, e_120, h⟩ := sk_rI_some h
              refine al_M35 hx hb hw g_120 e_120 d_M_needs_120 ?_
              refine lv_goto (tgt := 157) hx hb d_M_needs_121 (by decide) ?_
              exact hJ157 _ _ _ _ _ _ _ _ h hw (lv_sub hl [2, 3, 4] rfl)
          refine sk_lp_run (G := fun (z : sk_M × Int32 × Int32 × Int32 × Int32 × Int32) => ∀ (H : Heap) (locs : List Loc) (ls : Array Slot), sk_w D (tyM cI cZ) A (ceM a cI cZ) s z.1 H locs → lv_has ls 6 [(0, .ref (a 0)), (1, .int z.2.1), (2, .int z.2.2.1), (3, .int z.2.2.2.1), (4, .int z.2.2.2.2.1), (5, .int z.2.2.2.2.2)] → W p l e rm_M_needs s m args below meth c H locs 0 0 Q (F0 m 82 ls [])) ?_ N _ h _ _ _ hw (lv_sub hl [1, 2, 3, 4, 5, 0] rfl)
          rintro self82 ⟨st, v1, v2, v3, v4, v5⟩ hself82 h H locs ls hw hl
          unfold M_needs_L82 at h
          refine lv_iload hx hb d_M_needs_82 (lv_at hl 5 rfl) ?_
          refine lv_bipush (v := 10) hx hb d_M_needs_84 (by decide) ?_
          refine lv_icmp_ge (tgt := 111) hx hb d_M_needs_86 (by decide) (fun c_86 => ?_) (fun c_86 => ?_)
          · have h := (if_pos c_86).symm.trans h
            exact hJ111 _ _ _ _ _ _ _ _ h hw (lv_sub hl [0, 1, 2, 3, 4] rfl)
          · have h := (if_neg c_86).symm.trans h
            refine lv_iload hx hb d_M_needs_89 (lv_at hl 4 rfl) ?_
            refine lv_aload_n hx hb d_M_needs_91 rfl (lv_at hl 0 rfl) ?_
            refine gf_M_29 hx hb hts hnw hown hw d_M_needs_92 ?_
            refine lv_iload_n hx hb d_M_needs_95 rfl (lv_at hl 1 rfl) ?_
            obtain ⟨x96, g_96, e_96, h⟩ := sk_rI_some h
            refine al_M7 hx hb hw g_96 e_96 d_M_needs_96 ?_
            refine lv_iload hx hb d_M_needs_97 (lv_at hl 5 rfl) ?_
            refine lv_ishr hx hb d_M_needs_99 ?_
            refine lv_iconst (v := 1) hx hb d_M_needs_100 (by decide) ?_
            refine lv_iand hx hb d_M_needs_101 ?_
            refine lv_iadd hx hb d_M_needs_102 ?_
            refine lv_istore (lv' := [(4, .int (v4 + ((x96 >>> (v5 &&& 31)) &&& (1 : Int32)))), (0, .ref (a 0)), (1, .int v1), (2, .int v2), (3, .int v3), (5, .int v5)]) hx hb d_M_needs_103 hl (by decide) rfl (fun ls hl => ?_)
            refine lv_iinc (v := v5 + 1) (lv' := [(5, .int (v5 + 1)), (4, .int (v4 + ((x96 >>> (v5 &&& 31)) &&& (1 : Int32)))), (0, .ref (a 0)), (1, .int v1), (2, .int v2), (3, .int v3)]) hx hb d_M_needs_105 hl (k := 5) rfl rfl (by decide) rfl (fun ls hl => ?_)
            refine lv_goto (tgt := 82) hx hb d_M_needs_108 (by decide) ?_
            exact hself82 (st, v1, v2, v3, (v4 + ((x96 >>> (v5 &&& 31)) &&& (1 : Int32))), (v5 + 1)) h _ _ _ hw (lv_sub hl [2, 3, 4, 5, 1, 0] rfl)
        refine sk_lp_run (G := fun (z : sk_M × Int32 × Int32 × Int32 × Int32 × Int32) => ∀ (H : Heap) (locs : List Loc) (ls : Array Slot), sk_w D (tyM cI cZ) A (ceM a cI cZ) s z.1 H locs → lv_has ls 6 [(0, .ref (a 0)), (1, .int z.2.1), (2, .int z.2.2.1), (3, .int z.2.2.2.1), (4, .int z.2.2.2.2.1), (5, .int z.2.2.2.2.2)] → W p l e rm_M_needs s m args below meth c H locs 0 0 Q (F0 m 46 ls [])) ?_ N _ h _ _ _ hw (lv_sub hl [3, 4, 5, 2, 1, 0] rfl)
        rintro self46 ⟨st, v1, v2, v3, v4, v5⟩ hself46 h H locs ls hw hl
        unfold M_needs_L46 at h
        refine lv_iload hx hb d_M_needs_46 (lv_at hl 5 rfl) ?_
        refine lv_aload_n hx hb d_M_needs_48 rfl (lv_at hl 0 rfl) ?_
        refine gf_M_185 hx hb hts hnw hown hw d_M_needs_49 ?_
        refine lv_icmp_ge (tgt := 79) hx hb d_M_needs_52 (by decide) (fun c_52 => ?_) (fun c_52 => ?_)
        · have h := (if_pos c_52).symm.trans h
          exact hJ79 _ _ _ _ _ _ _ _ h hw (lv_sub hl [0, 1, 2, 3, 4] rfl)
        · have h := (if_neg c_52).symm.trans h
          refine lv_aload_n hx hb d_M_needs_55 rfl (lv_at hl 0 rfl) ?_
          refine gf_M_129 hx hb hts hnw hown hw d_M_needs_56 ?_
          refine lv_bipush (v := 10) hx hb d_M_needs_59 (by decide) ?_
          refine lv_iload hx hb d_M_needs_61 (lv_at hl 5 rfl) ?_
          refine lv_imul hx hb d_M_needs_63 ?_
          refine lv_iload_n hx hb d_M_needs_64 rfl (lv_at hl 1 rfl) ?_
          refine lv_iadd hx hb d_M_needs_65 ?_
          obtain ⟨x66, g_66, e_66, h⟩ := sk_rI_some h
          refine al_M39 hx hb hw g_66 e_66 d_M_needs_66 ?_
          refine lv_if_eq (tgt := 73) hx hb d_M_needs_67 (by decide) (fun c_67 => ?_) (fun c_67 => ?_)
          · have h := (if_pos c_67).symm.trans h
            refine lv_iinc (v := v5 + 1) (lv' := [(5, .int (v5 + 1)), (0, .ref (a 0)), (1, .int v1), (2, .int v2), (3, .int v3), (4, .int v4)]) hx hb d_M_needs_73 hl (k := 5) rfl rfl (by decide) rfl (fun ls hl => ?_)
            refine lv_goto (tgt := 46) hx hb d_M_needs_76 (by decide) ?_
            exact hself46 (st, v1, v2, v3, v4, (v5 + 1)) h _ _ _ hw (lv_sub hl [1, 2, 3, 4, 5, 0] rfl)
          · have h := (if_neg c_67).symm.trans h
            refine lv_iload hx hb d_M_needs_70 (lv_at hl 5 rfl) ?_
            refine lv_istore_n (lv' := [(3, .int v5), (0, .ref (a 0)), (1, .int v1), (2, .int v2), (4, .int v4), (5, .int v5)]) hx hb d_M_needs_72 rfl hl (by decide) rfl (fun ls hl => ?_)
            refine lv_iinc (v := v5 + 1) (lv' := [(5, .int (v5 + 1)), (3, .int v5), (0, .ref (a 0)), (1, .int v1), (2, .int v2), (4, .int v4)]) hx hb d_M_needs_73 hl (k := 5) rfl rfl (by decide) rfl (fun ls hl => ?_)
            refine lv_goto (tgt := 46) hx hb d_M_needs_76 (by decide) ?_
            exact hself46 (st, v1, v2, v5, v4, (v5 + 1)) h _ _ _ hw (lv_sub hl [2, 3, 4, 1, 5, 0] rfl)
      · have h := (if_pos c_27).symm.trans h
        refine lv_bipush (v := -2) hx hb d_M_needs_30 (by decide) ?_
        exact hret _ _ _ _ _ _ (sk_p1 h) (sk_p2 h) (vp_nar_int _) hw d_M_needs_32
  · have h := (if_pos c_6).symm.trans h
    refine lv_iconst (v := -1) hx hb d_M_needs_9 (by decide) ?_
    exact hret _ _ _ _ _ _ (sk_p1 h) (sk_p2 h) (vp_nar_int _) hw d_M_needs_10
set_option maxHeartbeats 4000000 in
set_option maxRecDepth 100000 in
theorem c_M_isMember {l : Launch} {D : va_G} {A : Nat → Prop} {a : Nat → Nat} {cI cZ : ClassId} {nw : State → Prop} {st : sk_M} {v1 : Int32} {res : Int32} (hok : sk_ok A nw) (h : M_isMember st v1 = some res) : sk_Ci l y_M_isMember w_M_isMember rm_M_isMember D (tyM cI cZ) A (ceM a cI cZ) nw [.ref (a 0), .int v1] st res st := by
  refine sk_headi .boolean (by decide) rfl (Nat.le_of_ble_eq_true rfl) ?_
  intro p e s m args below meth c Q hx hb hml hown hts0 hnw hret ls hl hw
  have hts : ∀ w ∈ TB, w.before args s = true := fun w h => hts0 w (List.mem_cons_of_mem _ h)
  have hown : s.vm.findClass R_M = some m.cls := hown
  have hl : lv_has ls 2 [(0, .ref (a 0)), (1, .int v1)] := hl
  unfold M_isMember at h
  refine lv_iload_n hx hb d_M_isMember_0 rfl (lv_at hl 1 rfl) ?_
  refine lv_iconst (v := 0) hx hb d_M_isMember_1 (by decide) ?_
  refine lv_aload_n hx hb d_M_isMember_2 rfl (lv_at hl 0 rfl) ?_
  refine gf_M_47 hx hb hts hnw hown hw d_M_isMember_3 ?_
  refine lv_iconst (v := 1) hx hb d_M_isMember_6 (by decide) ?_
  refine lv_isub hx hb d_M_isMember_7 ?_
  refine sk_callSi (As := [.int v1, .int (0 : Int32), .int ((st.1 0 0) - (1 : Int32))]) (rest := []) ⟨hx, hb, hml, hown, hts⟩ hw hnw hok (c_M_in hok rfl) (cw_M_135 hts hnw (by decide)) rfl hl.1 rfl (Nat.le_of_ble_eq_true rfl) d_M_isMember_8 (fun H locs hw => ?_)
  refine lv_if_eq (tgt := 27) hx hb d_M_isMember_11 (by decide) (fun c_11 => ?_) (fun c_11 => ?_)
  · have h := (if_pos c_11).symm.trans h
    refine lv_iconst (v := 0) hx hb d_M_isMember_27 (by decide) ?_
    exact hret _ _ _ _ _ _ (Option.some.inj h) rfl rfl hw d_M_isMember_28
  · have h := (if_neg c_11).symm.trans h
    refine lv_aload_n hx hb d_M_isMember_14 rfl (lv_at hl 0 rfl) ?_
    refine gf_M_44 hx hb hts hnw hown hw d_M_isMember_15 ?_
    refine lv_iload_n hx hb d_M_isMember_18 rfl (lv_at hl 1 rfl) ?_
    obtain ⟨x19, g_19, e_19, h⟩ := sk_rI_some h
    refine al_M12 hx hb hw g_19 e_19 d_M_isMember_19 ?_
    refine lv_if_ne (tgt := 27) hx hb d_M_isMember_20 (by decide) (fun c_20 => ?_) (fun c_20 => ?_)
    · have h := (if_neg c_20).symm.trans h
      refine lv_iconst (v := 0) hx hb d_M_isMember_27 (by decide) ?_
      exact hret _ _ _ _ _ _ (Option.some.inj h) rfl rfl hw d_M_isMember_28
    · have h := (if_pos c_20).symm.trans h
      refine lv_iconst (v := 1) hx hb d_M_isMember_23 (by decide) ?_
      refine lv_goto (tgt := 28) hx hb d_M_isMember_24 (by decide) ?_
      exact hret _ _ _ _ _ _ (Option.some.inj h) rfl rfl hw d_M_isMember_28
set_option maxHeartbeats 4000000 in
set_option maxRecDepth 100000 in
theorem c_M_part {l : Launch} {D : va_G} {A : Nat → Prop} {a : Nat → Nat} {cI cZ : ClassId} {nw : State → Prop} {N : Nat} {st : sk_M} {v1 : Int32} {v2 : Int32} {res : Int32 × sk_M} (hok : sk_ok A nw) (h : M_part N st v1 v2 = some res) : sk_Ci l y_M_part w_M_part rm_M_part D (tyM cI cZ) A (ceM a cI cZ) nw [.ref (a 0), .int v1, .int v2] st res.1 res.2 := by
  refine sk_headi .int (by decide) rfl (Nat.le_of_ble_eq_true rfl) ?_
  intro p e s m args below meth c Q hx hb hml hown hts0 hnw hret ls hl hw
  have hts : ∀ w ∈ TB, w.before args s = true := fun w h => hts0 w (List.mem_cons_of_mem _ h)
  have hown : s.vm.findClass R_M = some m.cls := hown
  have hl : lv_has ls 4 [(0, .ref (a 0)), (1, .int v1), (2, .int v2)] := hl
  unfold M_part at h
  refine lv_iload_n hx hb d_M_part_0 rfl (lv_at hl 2 rfl) ?_
  refine lv_iconst (v := 0) hx hb d_M_part_1 (by decide) ?_
  refine lv_iconst (v := 5) hx hb d_M_part_2 (by decide) ?_
  refine sk_callSi (As := [.int v2, .int (0 : Int32), .int (5 : Int32)]) (rest := []) ⟨hx, hb, hml, hown, hts⟩ hw hnw hok (c_M_in hok rfl) (cw_M_135 hts hnw (by decide)) rfl hl.1 rfl (Nat.le_of_ble_eq_true rfl) d_M_part_3 (fun H locs hw => ?_)
  refine lv_if_ne (tgt := 11) hx hb d_M_part_6 (by decide) (fun c_6 => ?_) (fun c_6 => ?_)
  · have h := (if_neg c_6).symm.trans h
    refine lv_aload_n hx hb d_M_part_11 rfl (lv_at hl 0 rfl) ?_
    refine lv_iload_n hx hb d_M_part_12 rfl (lv_at hl 1 rfl) ?_
    obtain ⟨x13, q_13, h⟩ := sk_oR_some h
    refine sk_callVi (As := [.int v1]) (rest := []) ⟨hx, hb, hml, hown, hts⟩ hw hnw hok (c_M_isMember hok q_13) (cw_M_280 hts hnw (by decide)) (rc_M hw) rfl hl.1 rfl (Nat.le_of_ble_eq_true rfl) d_M_part_13 (fun H locs hw => ?_)
    refine lv_if_ne (tgt := 22) hx hb d_M_part_16 (by decide) (fun c_16 => ?_) (fun c_16 => ?_)
    · have h := (if_neg c_16).symm.trans h
      refine lv_aload_n hx hb d_M_part_22 rfl (lv_at hl 0 rfl) ?_
      obtain ⟨st23, q_23, h⟩ := sk_oR_some h
      refine sk_callVv (As := []) (rest := []) ⟨hx, hb, hml, hown, hts⟩ hw hnw hok (c_M_find hok q_23) (cw_M_277 hts hnw (by decide)) (rc_M hw) rfl hl.1 rfl (Nat.le_of_ble_eq_true rfl) d_M_part_23 (fun H locs hw => ?_)
      refine lv_aload_n hx hb d_M_part_26 rfl (lv_at hl 0 rfl) ?_
      refine lv_aload_n hx hb d_M_part_27 rfl (lv_at hl 0 rfl) ?_
      refine gf_M_41 hx hb hts hnw hown hw d_M_part_28 ?_
      refine lv_iload_n hx hb d_M_part_31 rfl (lv_at hl 1 rfl) ?_
      obtain ⟨x32, g_32, e_32, h⟩ := sk_rI_some h
      refine al_M11 hx hb hw g_32 e_32 d_M_part_32 ?_
      refine lv_iconst (v := 1) hx hb d_M_part_33 (by decide) ?_
      refine lv_iand hx hb d_M_part_34 ?_
      refine lv_aload_n hx hb d_M_part_35 rfl (lv_at hl 0 rfl) ?_
      refine gf_M_35 hx hb hts hnw hown hw d_M_part_36 ?_
      refine lv_iload_n hx hb d_M_part_39 rfl (lv_at hl 1 rfl) ?_
      obtain ⟨x40, g_40, e_40, h⟩ := sk_rI_some h
      refine al_M9 hx hb hw g_40 e_40 d_M_part_40 ?_
      refine lv_aload_n hx hb d_M_part_41 rfl (lv_at hl 0 rfl) ?_
      refine gf_M_38 hx hb hts hnw hown hw d_M_part_42 ?_
      refine lv_iload_n hx hb d_M_part_45 rfl (lv_at hl 1 rfl) ?_
      obtain ⟨x46, g_46, e_46, h⟩ := sk_rI_some h
      refine al_M10 hx hb hw g_46 e_46 d_M_part_46 ?_
      obtain ⟨x47, st47, q_47, h⟩ := sk_oW_some h
      refine sk_callVi (As := [.int (x32 &&& (1 : Int32)), .int x40, .int x46]) (rest := []) ⟨hx, hb, hml, hown, hts⟩ hw hnw hok (c_M_keepsText hok q_47) (cw_M_268 hts hnw (by decide)) (rc_M hw) rfl hl.1 rfl (Nat.le_of_ble_eq_true rfl) d_M_part_47 (fun H locs hw => ?_)
      refine lv_istore_n (lv' := [(3, .int x47), (0, .ref (a 0)), (1, .int v1), (2, .int v2)]) hx hb d_M_part_50 rfl hl (by decide) rfl (fun ls hl => ?_)
      refine lv_iload_n hx hb d_M_part_51 rfl (lv_at hl 3 rfl) ?_
      refine lv_if_ne (tgt := 72) hx hb d_M_part_52 (by decide) (fun c_52 => ?_) (fun c_52 => ?_)
      · have h := (if_neg c_52).symm.trans h
        refine lv_iload_n hx hb d_M_part_72 rfl (lv_at hl 3 rfl) ?_
        refine lv_iconst (v := 1) hx hb d_M_part_73 (by decide) ?_
        refine lv_icmp_ne (tgt := 89) hx hb d_M_part_74 (by decide) (fun c_74 => ?_) (fun c_74 => ?_)
        · have h := (if_neg c_74).symm.trans h
          refine lv_iload_n hx hb d_M_part_89 rfl (lv_at hl 3 rfl) ?_
          refine lv_iconst (v := 2) hx hb d_M_part_90 (by decide) ?_
          refine lv_icmp_ne (tgt := 103) hx hb d_M_part_91 (by decide) (fun c_91 => ?_) (fun c_91 => ?_)
          · have h := (if_neg c_91).symm.trans h
            refine lv_iload_n hx hb d_M_part_103 rfl (lv_at hl 3 rfl) ?_
            refine lv_iconst (v := 3) hx hb d_M_part_104 (by decide) ?_
            refine lv_icmp_ne (tgt := 117) hx hb d_M_part_105 (by decide) (fun c_105 => ?_) (fun c_105 => ?_)
            · have h := (if_neg c_105).symm.trans h
              refine lv_iload_n hx hb d_M_part_117 rfl (lv_at hl 3 rfl) ?_
              refine lv_iconst (v := 4) hx hb d_M_part_118 (by decide) ?_
              refine lv_icmp_ne (tgt := 131) hx hb d_M_part_119 (by decide) (fun c_119 => ?_) (fun c_119 => ?_)
              · have h := (if_neg c_119).symm.trans h
                refine lv_aload_n hx hb d_M_part_131 rfl (lv_at hl 1 rfl) ?_
                refine gf_M_41 hx hb hts hnw hown hw d_M_part_132 ?_
                refine lv_iload_n hx hb d_M_part_135 rfl (lv_at hl 2 rfl) ?_
                obtain ⟨x136, g_136, e_136, h⟩ := sk_rI_some h
                refine al_M11 hx hb hw g_136 e_136 d_M_part_136 ?_
                exact hret _ _ _ _ _ _ (sk_p1 h) (sk_p2 h) (vp_nar_int _) hw d_M_part_137
              · have h := (if_pos c_119).symm.trans h
                refine lv_aload_n hx hb d_M_part_122 rfl (lv_at hl 1 rfl) ?_
                refine gf_M_38 hx hb hts hnw hown hw d_M_part_123 ?_
                refine lv_iload_n hx hb d_M_part_126 rfl (lv_at hl 2 rfl) ?_
                obtain ⟨x127, g_127, e_127, h⟩ := sk_rI_some h
                refine al_M10 hx hb hw g_127 e_127 d_M_part_127 ?_
                refine lv_goto (tgt := 137) hx hb d_M_part_128 (by decide) ?_
                exact hret _ _ _ _ _ _ (sk_p1 h) (sk_p2 h) (vp_nar_int _) hw d_M_part_137
            · have h := (if_pos c_105).symm.trans h
              refine lv_aload_n hx hb d_M_part_108 rfl (lv_at hl 1 rfl) ?_
              refine gf_M_35 hx hb hts hnw hown hw d_M_part_109 ?_
              refine lv_iload_n hx hb d_M_part_112 rfl (lv_at hl 2 rfl) ?_
              obtain ⟨x113, g_113, e_113, h⟩ := sk_rI_some h
              refine al_M9 hx hb hw g_113 e_113 d_M_part_113 ?_
              refine lv_goto (tgt := 137) hx hb d_M_part_114 (by decide) ?_
              exact hret _ _ _ _ _ _ (sk_p1 h) (sk_p2 h) (vp_nar_int _) hw d_M_part_137
          · have h := (if_pos c_91).symm.trans h
            refine lv_aload_n hx hb d_M_part_94 rfl (lv_at hl 1 rfl) ?_
            refine gf_M_32 hx hb hts hnw hown hw d_M_part_95 ?_
            refine lv_iload_n hx hb d_M_part_98 rfl (lv_at hl 2 rfl) ?_
            obtain ⟨x99, g_99, e_99, h⟩ := sk_rI_some h
            refine al_M8 hx hb hw g_99 e_99 d_M_part_99 ?_
            refine lv_goto (tgt := 137) hx hb d_M_part_100 (by decide) ?_
            exact hret _ _ _ _ _ _ (sk_p1 h) (sk_p2 h) (vp_nar_int _) hw d_M_part_137
        · have h := (if_pos c_74).symm.trans h
          refine lv_iload_n hx hb d_M_part_77 rfl (lv_at hl 0 rfl) ?_
          refine lv_if_eq (tgt := 85) hx hb d_M_part_78 (by decide) (fun c_78 => ?_) (fun c_78 => ?_)
          · have h := (if_pos c_78).symm.trans h
            refine lv_iconst (v := 0) hx hb d_M_part_85 (by decide) ?_
            refine lv_goto (tgt := 137) hx hb d_M_part_86 (by decide) ?_
            exact hret _ _ _ _ _ _ (sk_p1 h) (sk_p2 h) (vp_nar_int _) hw d_M_part_137
          · have h := (if_neg c_78).symm.trans h
            refine lv_iconst (v := 1) hx hb d_M_part_81 (by decide) ?_
            refine lv_goto (tgt := 137) hx hb d_M_part_82 (by decide) ?_
            exact hret _ _ _ _ _ _ (sk_p1 h) (sk_p2 h) (vp_nar_int _) hw d_M_part_137
      · have h := (if_pos c_52).symm.trans h
        refine lv_aload_n hx hb d_M_part_55 rfl (lv_at hl 1 rfl) ?_
        refine gf_M_126 hx hb hts hnw hown hw d_M_part_56 ?_
        refine lv_iload_n hx hb d_M_part_59 rfl (lv_at hl 2 rfl) ?_
        obtain ⟨x60, g_60, e_60, h⟩ := sk_rI_some h
        refine al_M38 hx hb hw g_60 e_60 d_M_part_60 ?_
        refine lv_if_eq (tgt := 68) hx hb d_M_part_61 (by decide) (fun c_61 => ?_) (fun c_61 => ?_)
        · have h := (if_pos c_61).symm.trans h
          refine lv_iconst (v := 0) hx hb d_M_part_68 (by decide) ?_
          refine lv_goto (tgt := 137) hx hb d_M_part_69 (by decide) ?_
          exact hret _ _ _ _ _ _ (sk_p1 h) (sk_p2 h) (vp_nar_int _) hw d_M_part_137
        · have h := (if_neg c_61).symm.trans h
          refine lv_iconst (v := 1) hx hb d_M_part_64 (by decide) ?_
          refine lv_goto (tgt := 137) hx hb d_M_part_65 (by decide) ?_
          exact hret _ _ _ _ _ _ (sk_p1 h) (sk_p2 h) (vp_nar_int _) hw d_M_part_137
    · have h := (if_pos c_16).symm.trans h
      refine lv_bipush (v := -2) hx hb d_M_part_19 (by decide) ?_
      exact hret _ _ _ _ _ _ (sk_p1 h) (sk_p2 h) (vp_nar_int _) hw d_M_part_21
  · have h := (if_pos c_6).symm.trans h
    refine lv_iconst (v := -1) hx hb d_M_part_9 (by decide) ?_
    exact hret _ _ _ _ _ _ (sk_p1 h) (sk_p2 h) (vp_nar_int _) hw d_M_part_10
set_option maxHeartbeats 4000000 in
set_option maxRecDepth 100000 in
theorem c_M_found {l : Launch} {D : va_G} {A : Nat → Prop} {a : Nat → Nat} {cI cZ : ClassId} {nw : State → Prop} {N : Nat} {st : sk_M} {v1 : Int32} {v2 : Int32} {v3 : Int32} {v4 : Int32} {v5 : Int32} {res : Int32 × sk_M} (hok : sk_ok A nw) (h : M_found N st v1 v2 v3 v4 v5 = some res) : sk_Ci l y_M_found w_M_found rm_M_found D (tyM cI cZ) A (ceM a cI cZ) nw [.ref (a 0), .int v1, .int v2, .int v3, .int v4, .int v5] st res.1 res.2 := by
  refine sk_headi .int (by decide) rfl (Nat.le_of_ble_eq_true rfl) ?_
  intro p e s m args below meth c Q hx hb hml hown hts0 hnw hret ls hl hw
  have hts : ∀ w ∈ TB, w.before args s = true := fun w h => hts0 w (List.mem_cons_of_mem _ h)
  have hown : s.vm.findClass R_M = some m.cls := hown
  have hl : lv_has ls 6 [(0, .ref (a 0)), (1, .int v1), (2, .int v2), (3, .int v3), (4, .int v4), (5, .int v5)] := hl
  unfold M_found at h
  refine lv_iload_n hx hb d_M_found_0 rfl (lv_at hl 1 rfl) ?_
  refine lv_iconst (v := 2) hx hb d_M_found_1 (by decide) ?_
  refine lv_iconst (v := 5) hx hb d_M_found_2 (by decide) ?_
  refine sk_callSi (As := [.int v1, .int (2 : Int32), .int (5 : Int32)]) (rest := []) ⟨hx, hb, hml, hown, hts⟩ hw hnw hok (c_M_in hok rfl) (cw_M_135 hts hnw (by decide)) rfl hl.1 rfl (Nat.le_of_ble_eq_true rfl) d_M_found_3 (fun H locs hw => ?_)
  refine lv_if_eq (tgt := 39) hx hb d_M_found_6 (by decide) (fun c_6 => ?_) (fun c_6 => ?_)
  · have h := (if_pos c_6).symm.trans h
    refine lv_iconst (v := -1) hx hb d_M_found_39 (by decide) ?_
    exact hret _ _ _ _ _ _ (sk_p1 h) (sk_p2 h) (vp_nar_int _) hw d_M_found_40
  · have h := (if_neg c_6).symm.trans h
    refine lv_iload_n hx hb d_M_found_9 rfl (lv_at hl 2 rfl) ?_
    refine lv_iconst (v := 0) hx hb d_M_found_10 (by decide) ?_
    refine lv_bipush (v := 9) hx hb d_M_found_11 (by decide) ?_
    refine sk_callSi (As := [.int v2, .int (0 : Int32), .int (9 : Int32)]) (rest := []) ⟨hx, hb, hml, hown, hts⟩ hw hnw hok (c_M_in hok rfl) (cw_M_135 hts hnw (by decide)) rfl hl.1 rfl (Nat.le_of_ble_eq_true rfl) d_M_found_13 (fun H locs hw => ?_)
    refine lv_if_eq (tgt := 39) hx hb d_M_found_16 (by decide) (fun c_16 => ?_) (fun c_16 => ?_)
    · have h := (if_pos c_16).symm.trans h
      refine lv_iconst (v := -1) hx hb d_M_found_39 (by decide) ?_
      exact hret _ _ _ _ _ _ (sk_p1 h) (sk_p2 h) (vp_nar_int _) hw d_M_found_40
    · have h := (if_neg c_16).symm.trans h
      refine lv_iload_n hx hb d_M_found_19 rfl (lv_at hl 3 rfl) ?_
      refine lv_iconst (v := 0) hx hb d_M_found_20 (by decide) ?_
      refine lv_bipush (v := 7) hx hb d_M_found_21 (by decide) ?_
      refine sk_callSi (As := [.int v3, .int (0 : Int32), .int (7 : Int32)]) (rest := []) ⟨hx, hb, hml, hown, hts⟩ hw hnw hok (c_M_in hok rfl) (cw_M_135 hts hnw (by decide)) rfl hl.1 rfl (Nat.le_of_ble_eq_true rfl) d_M_found_23 (fun H locs hw => ?_)
      refine lv_if_eq (tgt := 39) hx hb d_M_found_26 (by decide) (fun c_26 => ?_) (fun c_26 => ?_)
      · have h := (if_pos c_26).symm.trans h
        refine lv_iconst (v := -1) hx hb d_M_found_39 (by decide) ?_
        exact hret _ _ _ _ _ _ (sk_p1 h) (sk_p2 h) (vp_nar_int _) hw d_M_found_40
      · have h := (if_neg c_26).symm.trans h
        refine lv_iload hx hb d_M_found_29 (lv_at hl 4 rfl) ?_
        refine lv_iconst (v := 0) hx hb d_M_found_31 (by decide) ?_
        refine lv_iconst (v := 1) hx hb d_M_found_32 (by decide) ?_
        refine sk_callSi (As := [.int v4, .int (0 : Int32), .int (1 : Int32)]) (rest := []) ⟨hx, hb, hml, hown, hts⟩ hw hnw hok (c_M_in hok rfl) (cw_M_135 hts hnw (by decide)) rfl hl.1 rfl (Nat.le_of_ble_eq_true rfl) d_M_found_33 (fun H locs hw => ?_)
        refine lv_if_ne (tgt := 41) hx hb d_M_found_36 (by decide) (fun c_36 => ?_) (fun c_36 => ?_)
        · have h := (if_neg c_36).symm.trans h
          refine lv_aload_n hx hb d_M_found_41 rfl (lv_at hl 0 rfl) ?_
          obtain ⟨st42, q_42, h⟩ := sk_oR_some h
          refine sk_callVv (As := []) (rest := []) ⟨hx, hb, hml, hown, hts⟩ hw hnw hok (c_M_find hok q_42) (cw_M_277 hts hnw (by decide)) (rc_M hw) rfl hl.1 rfl (Nat.le_of_ble_eq_true rfl) d_M_found_42 (fun H locs hw => ?_)
          refine lv_aload_n hx hb d_M_found_45 rfl (lv_at hl 0 rfl) ?_
          refine gf_M_7 hx hb hts hnw hown hw d_M_found_46 ?_
          refine lv_iload_n hx hb d_M_found_49 rfl (lv_at hl 2 rfl) ?_
          obtain ⟨x50, g_50, e_50, h⟩ := sk_rI_some h
          refine al_M1 hx hb hw g_50 e_50 d_M_found_50 ?_
          refine lv_if_eq (tgt := 78) hx hb d_M_found_51 (by decide) (fun c_51 => ?_) (fun c_51 => ?_)
          · have h := (if_pos c_51).symm.trans h
            refine lv_bipush (v := -2) hx hb d_M_found_78 (by decide) ?_
            exact hret _ _ _ _ _ _ (sk_p1 h) (sk_p2 h) (vp_nar_int _) hw d_M_found_80
          · have h := (if_neg c_51).symm.trans h
            refine lv_aload_n hx hb d_M_found_54 rfl (lv_at hl 0 rfl) ?_
            refine lv_iload_n hx hb d_M_found_55 rfl (lv_at hl 2 rfl) ?_
            refine lv_iload_n hx hb d_M_found_56 rfl (lv_at hl 1 rfl) ?_
            refine lv_iconst (v := 2) hx hb d_M_found_57 (by decide) ?_
            have hJ66 : ∀ (st : sk_M) (v3 : Int32) (v4 : Int32) (v5 : Int32) (s1 : Int32) (s2 : Int32) (H : Heap) (locs : List Loc) (ls : Array Slot), M_found_J66 N st v3 v4 v5 s1 s2 = some res → sk_w D (tyM cI cZ) A (ceM a cI cZ) s st H locs → lv_has ls 6 [(3, .int v3), (4, .int v4), (5, .int v5)] → W p l e rm_M_found s m args below meth c H locs 0 0 Q (F0 m 66 ls [.int s2, .int s1, .ref (a 0)]) := by
              intro st v3 v4 v5 s1 s2 H locs ls h hw hl
              unfold M_found_J66 at h
              refine lv_iload_n hx hb d_M_found_66 rfl (lv_at hl 0 rfl) ?_
              refine lv_iload hx hb d_M_found_67 (lv_at hl 1 rfl) ?_
              refine lv_iconst (v := 0) hx hb d_M_found_69 (by decide) ?_
              refine lv_iload hx hb d_M_found_70 (lv_at hl 2 rfl) ?_
              obtain ⟨x72, q_72, h⟩ := sk_oR_some h
              refine sk_callVi (As := [.int s1, .int s2, .int v3, .int v4, .int (0 : Int32), .int v5]) (rest := []) ⟨hx, hb, hml, hown, hts⟩ hw hnw hok (c_M_look hok q_72) (cw_M_243 hts hnw (by decide)) (rc_M hw) rfl hl.1 rfl (Nat.le_of_ble_eq_true rfl) d_M_found_72 (fun H locs hw => ?_)
              refine lv_goto (tgt := 80) hx hb d_M_found_75 (by decide) ?_
              exact hret _ _ _ _ _ _ (sk_p1 h) (sk_p2 h) (vp_nar_int _) hw d_M_found_80
            refine lv_icmp_ne (tgt := 65) hx hb d_M_found_58 (by decide) (fun c_58 => ?_) (fun c_58 => ?_)
            · have h := (if_neg c_58).symm.trans h
              refine lv_iconst (v := 1) hx hb d_M_found_65 (by decide) ?_
              exact hJ66 _ _ _ _ _ _ _ _ _ h hw (lv_sub hl [3, 4, 5] rfl)
            · have h := (if_pos c_58).symm.trans h
              refine lv_iconst (v := 0) hx hb d_M_found_61 (by decide) ?_
              refine lv_goto (tgt := 66) hx hb d_M_found_62 (by decide) ?_
              exact hJ66 _ _ _ _ _ _ _ _ _ h hw (lv_sub hl [3, 4, 5] rfl)
        · have h := (if_pos c_36).symm.trans h
          refine lv_iconst (v := -1) hx hb d_M_found_39 (by decide) ?_
          exact hret _ _ _ _ _ _ (sk_p1 h) (sk_p2 h) (vp_nar_int _) hw d_M_found_40
set_option maxHeartbeats 4000000 in
set_option maxRecDepth 100000 in
theorem c_M_selected {l : Launch} {D : va_G} {A : Nat → Prop} {a : Nat → Nat} {cI cZ : ClassId} {nw : State → Prop} {N : Nat} {st : sk_M} {v1 : Int32} {v2 : Int32} {v3 : Int32} {v4 : Int32} {res : Int32 × sk_M} (hok : sk_ok A nw) (h : M_selected N st v1 v2 v3 v4 = some res) : sk_Ci l y_M_selected w_M_selected rm_M_selected D (tyM cI cZ) A (ceM a cI cZ) nw [.ref (a 0), .int v1, .int v2, .int v3, .int v4] st res.1 res.2 := by
  refine sk_headi .int (by decide) rfl (Nat.le_of_ble_eq_true rfl) ?_
  intro p e s m args below meth c Q hx hb hml hown hts0 hnw hret ls hl hw
  have hts : ∀ w ∈ TB, w.before args s = true := fun w h => hts0 w (List.mem_cons_of_mem _ h)
  have hown : s.vm.findClass R_M = some m.cls := hown
  have hl : lv_has ls 5 [(0, .ref (a 0)), (1, .int v1), (2, .int v2), (3, .int v3), (4, .int v4)] := hl
  unfold M_selected at h
  refine lv_iload_n hx hb d_M_selected_0 rfl (lv_at hl 1 rfl) ?_
  refine lv_iconst (v := 0) hx hb d_M_selected_1 (by decide) ?_
  refine lv_bipush (v := 9) hx hb d_M_selected_2 (by decide) ?_
  refine sk_callSi (As := [.int v1, .int (0 : Int32), .int (9 : Int32)]) (rest := []) ⟨hx, hb, hml, hown, hts⟩ hw hnw hok (c_M_in hok rfl) (cw_M_135 hts hnw (by decide)) rfl hl.1 rfl (Nat.le_of_ble_eq_true rfl) d_M_selected_4 (fun H locs hw => ?_)
  refine lv_if_eq (tgt := 29) hx hb d_M_selected_7 (by decide) (fun c_7 => ?_) (fun c_7 => ?_)
  · have h := (if_pos c_7).symm.trans h
    refine lv_iconst (v := -1) hx hb d_M_selected_29 (by decide) ?_
    exact hret _ _ _ _ _ _ (sk_p1 h) (sk_p2 h) (vp_nar_int _) hw d_M_selected_30
  · have h := (if_neg c_7).symm.trans h
    refine lv_iload_n hx hb d_M_selected_10 rfl (lv_at hl 2 rfl) ?_
    refine lv_iconst (v := 0) hx hb d_M_selected_11 (by decide) ?_
    refine lv_bipush (v := 7) hx hb d_M_selected_12 (by decide) ?_
    refine sk_callSi (As := [.int v2, .int (0 : Int32), .int (7 : Int32)]) (rest := []) ⟨hx, hb, hml, hown, hts⟩ hw hnw hok (c_M_in hok rfl) (cw_M_135 hts hnw (by decide)) rfl hl.1 rfl (Nat.le_of_ble_eq_true rfl) d_M_selected_14 (fun H locs hw => ?_)
    refine lv_if_eq (tgt := 29) hx hb d_M_selected_17 (by decide) (fun c_17 => ?_) (fun c_17 => ?_)
    · have h := (if_pos c_17).symm.trans h
      refine lv_iconst (v := -1) hx hb d_M_selected_29 (by decide) ?_
      exact hret _ _ _ _ _ _ (sk_p1 h) (sk_p2 h) (vp_nar_int _) hw d_M_selected_30
    · have h := (if_neg c_17).symm.trans h
      refine lv_iload_n hx hb d_M_selected_20 rfl (lv_at hl 3 rfl) ?_
      refine lv_iconst (v := 0) hx hb d_M_selected_21 (by decide) ?_
      refine lv_iconst (v := 1) hx hb d_M_selected_22 (by decide) ?_
      refine sk_callSi (As := [.int v3, .int (0 : Int32), .int (1 : Int32)]) (rest := []) ⟨hx, hb, hml, hown, hts⟩ hw hnw hok (c_M_in hok rfl) (cw_M_135 hts hnw (by decide)) rfl hl.1 rfl (Nat.le_of_ble_eq_true rfl) d_M_selected_23 (fun H locs hw => ?_)
      refine lv_if_ne (tgt := 31) hx hb d_M_selected_26 (by decide) (fun c_26 => ?_) (fun c_26 => ?_)
      · have h := (if_neg c_26).symm.trans h
        refine lv_aload_n hx hb d_M_selected_31 rfl (lv_at hl 0 rfl) ?_
        obtain ⟨st32, q_32, h⟩ := sk_oR_some h
        refine sk_callVv (As := []) (rest := []) ⟨hx, hb, hml, hown, hts⟩ hw hnw hok (c_M_find hok q_32) (cw_M_277 hts hnw (by decide)) (rc_M hw) rfl hl.1 rfl (Nat.le_of_ble_eq_true rfl) d_M_selected_32 (fun H locs hw => ?_)
        refine lv_aload_n hx hb d_M_selected_35 rfl (lv_at hl 0 rfl) ?_
        refine gf_M_7 hx hb hts hnw hown hw d_M_selected_36 ?_
        refine lv_iload_n hx hb d_M_selected_39 rfl (lv_at hl 1 rfl) ?_
        obtain ⟨x40, g_40, e_40, h⟩ := sk_rI_some h
        refine al_M1 hx hb hw g_40 e_40 d_M_selected_40 ?_
        refine lv_if_eq (tgt := 58) hx hb d_M_selected_41 (by decide) (fun c_41 => ?_) (fun c_41 => ?_)
        · have h := (if_pos c_41).symm.trans h
          refine lv_bipush (v := -2) hx hb d_M_selected_58 (by decide) ?_
          exact hret _ _ _ _ _ _ (sk_p1 h) (sk_p2 h) (vp_nar_int _) hw d_M_selected_60
        · have h := (if_neg c_41).symm.trans h
          refine lv_aload_n hx hb d_M_selected_44 rfl (lv_at hl 0 rfl) ?_
          refine lv_iload_n hx hb d_M_selected_45 rfl (lv_at hl 1 rfl) ?_
          refine lv_iconst (v := 1) hx hb d_M_selected_46 (by decide) ?_
          refine lv_iload_n hx hb d_M_selected_47 rfl (lv_at hl 2 rfl) ?_
          refine lv_iload_n hx hb d_M_selected_48 rfl (lv_at hl 3 rfl) ?_
          refine lv_iconst (v := 1) hx hb d_M_selected_49 (by decide) ?_
          refine lv_iload hx hb d_M_selected_50 (lv_at hl 4 rfl) ?_
          obtain ⟨x52, q_52, h⟩ := sk_oR_some h
          refine sk_callVi (As := [.int v1, .int (1 : Int32), .int v2, .int v3, .int (1 : Int32), .int v4]) (rest := []) ⟨hx, hb, hml, hown, hts⟩ hw hnw hok (c_M_look hok q_52) (cw_M_243 hts hnw (by decide)) (rc_M hw) rfl hl.1 rfl (Nat.le_of_ble_eq_true rfl) d_M_selected_52 (fun H locs hw => ?_)
          refine lv_goto (tgt := 60) hx hb d_M_selected_55 (by decide) ?_
          exact hret _ _ _ _ _ _ (sk_p1 h) (sk_p2 h) (vp_nar_int _) hw d_M_selected_60
      · have h := (if_pos c_26).symm.trans h
        refine lv_iconst (v := -1) hx hb d_M_selected_29 (by decide) ?_
        exact hret _ _ _ _ _ _ (sk_p1 h) (sk_p2 h) (vp_nar_int _) hw d_M_selected_30
set_option maxHeartbeats 4000000 in
set_option maxRecDepth 100000 in
theorem c_M_name {l : Launch} {D : va_G} {A : Nat → Prop} {a : Nat → Nat} {cI cZ : ClassId} {nw : State → Prop} {N : Nat} {st : sk_M} {v1 : Int32} {v2 : Int32} {v3 : Int32} {res : Int32 × sk_M} (hok : sk_ok A nw) (h : M_name N st v1 v2 v3 = some res) : sk_Ci l y_M_name w_M_name rm_M_name D (tyM cI cZ) A (ceM a cI cZ) nw [.ref (a 0), .int v1, .int v2, .int v3] st res.1 res.2 := by
  refine sk_headi .int (by decide) rfl (Nat.le_of_ble_eq_true rfl) ?_
  intro p e s m args below meth c Q hx hb hml hown hts0 hnw hret ls hl hw
  have hts : ∀ w ∈ TB, w.before args s = true := fun w h => hts0 w (List.mem_cons_of_mem _ h)
  have hown : s.vm.findClass R_M = some m.cls := hown
  have hl : lv_has ls 5 [(0, .ref (a 0)), (1, .int v1), (2, .int v2), (3, .int v3)] := hl
  unfold M_name at h
  refine lv_aload_n hx hb d_M_name_0 rfl (lv_at hl 0 rfl) ?_
  obtain ⟨st1, q_1, h⟩ := sk_oR_some h
  refine sk_callVv (As := []) (rest := []) ⟨hx, hb, hml, hown, hts⟩ hw hnw hok (c_M_find hok q_1) (cw_M_277 hts hnw (by decide)) (rc_M hw) rfl hl.1 rfl (Nat.le_of_ble_eq_true rfl) d_M_name_1 (fun H locs hw => ?_)
  refine lv_iload_n hx hb d_M_name_4 rfl (lv_at hl 1 rfl) ?_
  have hJ66 : ∀ (st : sk_M) (v1 : Int32) (v2 : Int32) (v3 : Int32) (s0 : Int32) (H : Heap) (locs : List Loc) (ls : Array Slot), M_name_J66 N st v1 v2 v3 s0 = some res → sk_w D (tyM cI cZ) A (ceM a cI cZ) s st H locs → lv_has ls 5 [(0, .ref (a 0)), (1, .int v1), (2, .int v2), (3, .int v3)] → W p l e rm_M_name s m args below meth c H locs 0 0 Q (F0 m 66 ls [.int s0]) := by
    intro st v1 v2 v3 s0 H locs ls h hw hl
    unfold M_name_J66 at h
    refine lv_istore (lv' := [(4, .int s0), (0, .ref (a 0)), (1, .int v1), (2, .int v2), (3, .int v3)]) hx hb d_M_name_66 hl (by decide) rfl (fun ls hl => ?_)
    refine lv_iload hx hb d_M_name_68 (lv_at hl 0 rfl) ?_
    refine lv_if_ne (tgt := 76) hx hb d_M_name_70 (by decide) (fun c_70 => ?_) (fun c_70 => ?_)
    · have h := (if_neg c_70).symm.trans h
      refine lv_iload_n hx hb d_M_name_76 rfl (lv_at hl 2 rfl) ?_
      have hJ93 : ∀ (st : sk_M) (v3 : Int32) (H : Heap) (locs : List Loc) (ls : Array Slot), M_name_J93 N st v3 = some res → sk_w D (tyM cI cZ) A (ceM a cI cZ) s st H locs → lv_has ls 5 [(0, .ref (a 0)), (3, .int v3)] → W p l e rm_M_name s m args below meth c H locs 0 0 Q (F0 m 93 ls []) := by
        intro st v3 H locs ls h hw hl
        unfold M_name_J93 at h
        refine lv_iload_n hx hb d_M_name_93 rfl (lv_at hl 1 rfl) ?_
        refine lv_iconst (v := -1) hx hb d_M_name_94 (by decide) ?_
        refine lv_icmp_ne (tgt := 105) hx hb d_M_name_95 (by decide) (fun c_95 => ?_) (fun c_95 => ?_)
        · have h := (if_neg c_95).symm.trans h
          refine lv_iload_n hx hb d_M_name_105 rfl (lv_at hl 1 rfl) ?_
          refine lv_iconst (v := 0) hx hb d_M_name_106 (by decide) ?_
          refine lv_aload_n hx hb d_M_name_107 rfl (lv_at hl 0 rfl) ?_
          refine gf_M_195 hx hb hts hnw hown hw d_M_name_108 ?_
          refine lv_iconst (v := 1) hx hb d_M_name_111 (by decide) ?_
          refine lv_isub hx hb d_M_name_112 ?_
          refine sk_callSi (As := [.int v3, .int (0 : Int32), .int ((st.1 0 5) - (1 : Int32))]) (rest := []) ⟨hx, hb, hml, hown, hts⟩ hw hnw hok (c_M_in hok rfl) (cw_M_135 hts hnw (by decide)) rfl hl.1 rfl (Nat.le_of_ble_eq_true rfl) d_M_name_113 (fun H locs hw => ?_)
          refine lv_if_eq (tgt := 128) hx hb d_M_name_116 (by decide) (fun c_116 => ?_) (fun c_116 => ?_)
          · have h := (if_pos c_116).symm.trans h
            refine lv_bipush (v := -2) hx hb d_M_name_128 (by decide) ?_
            exact hret _ _ _ _ _ _ (sk_p1 h) (sk_p2 h) (vp_nar_int _) hw d_M_name_130
          · have h := (if_neg c_116).symm.trans h
            refine lv_aload_n hx hb d_M_name_119 rfl (lv_at hl 0 rfl) ?_
            refine gf_M_108 hx hb hts hnw hown hw d_M_name_120 ?_
            refine lv_iload_n hx hb d_M_name_123 rfl (lv_at hl 1 rfl) ?_
            obtain ⟨x124, g_124, e_124, h⟩ := sk_rI_some h
            refine al_M32 hx hb hw g_124 e_124 d_M_name_124 ?_
            refine lv_goto (tgt := 130) hx hb d_M_name_125 (by decide) ?_
            exact hret _ _ _ _ _ _ (sk_p1 h) (sk_p2 h) (vp_nar_int _) hw d_M_name_130
        · have h := (if_pos c_95).symm.trans h
          refine lv_aload_n hx hb d_M_name_98 rfl (lv_at hl 0 rfl) ?_
          refine gf_M_195 hx hb hts hnw hown hw d_M_name_99 ?_
          refine lv_goto (tgt := 130) hx hb d_M_name_102 (by decide) ?_
          exact hret _ _ _ _ _ _ (sk_p1 h) (sk_p2 h) (vp_nar_int _) hw d_M_name_130
      refine lv_if_eq (tgt := 88) hx hb d_M_name_77 (by decide) (fun c_77 => ?_) (fun c_77 => ?_)
      · have h := (if_pos c_77).symm.trans h
        refine lv_aload_n hx hb d_M_name_88 rfl (lv_at hl 1 rfl) ?_
        refine lv_iload_n hx hb d_M_name_89 rfl (lv_at hl 3 rfl) ?_
        obtain ⟨st90, q_90, h⟩ := sk_oR_some h
        refine sk_callVv (As := [.int v2]) (rest := []) ⟨hx, hb, hml, hown, hts⟩ hw hnw hok (c_M_newName hok q_90) (cw_M_286 hts hnw (by decide)) (rc_M hw) rfl hl.1 rfl (Nat.le_of_ble_eq_true rfl) d_M_name_90 (fun H locs hw => ?_)
        exact hJ93 _ _ _ _ _ h hw (lv_sub hl [1, 4] rfl)
      · have h := (if_neg c_77).symm.trans h
        refine lv_aload_n hx hb d_M_name_80 rfl (lv_at hl 1 rfl) ?_
        refine lv_iload_n hx hb d_M_name_81 rfl (lv_at hl 3 rfl) ?_
        obtain ⟨st82, q_82, h⟩ := sk_oR_some h
        refine sk_callVv (As := [.int v2]) (rest := []) ⟨hx, hb, hml, hown, hts⟩ hw hnw hok (c_M_newText hok q_82) (cw_M_283 hts hnw (by decide)) (rc_M hw) rfl hl.1 rfl (Nat.le_of_ble_eq_true rfl) d_M_name_82 (fun H locs hw => ?_)
        refine lv_goto (tgt := 93) hx hb d_M_name_85 (by decide) ?_
        exact hJ93 _ _ _ _ _ h hw (lv_sub hl [1, 4] rfl)
    · have h := (if_pos c_70).symm.trans h
      refine lv_bipush (v := -2) hx hb d_M_name_73 (by decide) ?_
      exact hret _ _ _ _ _ _ (sk_p1 h) (sk_p2 h) (vp_nar_int _) hw d_M_name_75
  refine lv_if_eq (tgt := 33) hx hb d_M_name_5 (by decide) (fun c_5 => ?_) (fun c_5 => ?_)
  · have h := (if_pos c_5).symm.trans h
    refine lv_iload_n hx hb d_M_name_33 rfl (lv_at hl 2 rfl) ?_
    refine lv_iconst (v := 0) hx hb d_M_name_34 (by decide) ?_
    refine lv_bipush (v := 9) hx hb d_M_name_35 (by decide) ?_
    refine sk_callSi (As := [.int v2, .int (0 : Int32), .int (9 : Int32)]) (rest := []) ⟨hx, hb, hml, hown, hts⟩ hw hnw hok (c_M_in hok rfl) (cw_M_135 hts hnw (by decide)) rfl hl.1 rfl (Nat.le_of_ble_eq_true rfl) d_M_name_37 (fun H locs hw => ?_)
    have hJ65 : ∀ (st : sk_M) (v1 : Int32) (v2 : Int32) (v3 : Int32) (H : Heap) (locs : List Loc) (ls : Array Slot), M_name_J65 N st v1 v2 v3 = some res → sk_w D (tyM cI cZ) A (ceM a cI cZ) s st H locs → lv_has ls 5 [(0, .ref (a 0)), (1, .int v1), (2, .int v2), (3, .int v3)] → W p l e rm_M_name s m args below meth c H locs 0 0 Q (F0 m 65 ls []) := by
      intro st v1 v2 v3 H locs ls h hw hl
      unfold M_name_J65 at h
      refine lv_iconst (v := 0) hx hb d_M_name_65 (by decide) ?_
      exact hJ66 _ _ _ _ _ _ _ _ h hw (lv_sub hl [0, 1, 2, 3] rfl)
    refine lv_if_eq (tgt := 65) hx hb d_M_name_40 (by decide) (fun c_40 => ?_) (fun c_40 => ?_)
    · have h := (if_pos c_40).symm.trans h
      exact hJ65 _ _ _ _ _ _ _ h hw (lv_sub hl [0, 1, 2, 3] rfl)
    · have h := (if_neg c_40).symm.trans h
      refine lv_aload_n hx hb d_M_name_43 rfl (lv_at hl 0 rfl) ?_
      refine gf_M_7 hx hb hts hnw hown hw d_M_name_44 ?_
      refine lv_iload_n hx hb d_M_name_47 rfl (lv_at hl 2 rfl) ?_
      obtain ⟨x48, g_48, e_48, h⟩ := sk_rI_some h
      refine al_M1 hx hb hw g_48 e_48 d_M_name_48 ?_
      refine lv_if_eq (tgt := 65) hx hb d_M_name_49 (by decide) (fun c_49 => ?_) (fun c_49 => ?_)
      · have h := (if_pos c_49).symm.trans h
        exact hJ65 _ _ _ _ _ _ _ h hw (lv_sub hl [0, 1, 2, 3] rfl)
      · have h := (if_neg c_49).symm.trans h
        refine lv_aload_n hx hb d_M_name_52 rfl (lv_at hl 0 rfl) ?_
        refine gf_M_117 hx hb hts hnw hown hw d_M_name_53 ?_
        refine lv_iload_n hx hb d_M_name_56 rfl (lv_at hl 2 rfl) ?_
        obtain ⟨x57, g_57, e_57, h⟩ := sk_rI_some h
        refine al_M35 hx hb hw g_57 e_57 d_M_name_57 ?_
        refine lv_if_eq (tgt := 65) hx hb d_M_name_58 (by decide) (fun c_58 => ?_) (fun c_58 => ?_)
        · have h := (if_pos c_58).symm.trans h
          exact hJ65 _ _ _ _ _ _ _ h hw (lv_sub hl [0, 1, 2, 3] rfl)
        · have h := (if_neg c_58).symm.trans h
          refine lv_iconst (v := 1) hx hb d_M_name_61 (by decide) ?_
          refine lv_goto (tgt := 66) hx hb d_M_name_62 (by decide) ?_
          exact hJ66 _ _ _ _ _ _ _ _ h hw (lv_sub hl [0, 1, 2, 3] rfl)
  · have h := (if_neg c_5).symm.trans h
    refine lv_aload_n hx hb d_M_name_8 rfl (lv_at hl 0 rfl) ?_
    refine lv_iload_n hx hb d_M_name_9 rfl (lv_at hl 2 rfl) ?_
    obtain ⟨x10, q_10, h⟩ := sk_oR_some h
    refine sk_callVi (As := [.int v2]) (rest := []) ⟨hx, hb, hml, hown, hts⟩ hw hnw hok (c_M_isMember hok q_10) (cw_M_280 hts hnw (by decide)) (rc_M hw) rfl hl.1 rfl (Nat.le_of_ble_eq_true rfl) d_M_name_10 (fun H locs hw => ?_)
    have hJ29 : ∀ (st : sk_M) (v1 : Int32) (v2 : Int32) (v3 : Int32) (H : Heap) (locs : List Loc) (ls : Array Slot), M_name_J29 N st v1 v2 v3 = some res → sk_w D (tyM cI cZ) A (ceM a cI cZ) s st H locs → lv_has ls 5 [(0, .ref (a 0)), (1, .int v1), (2, .int v2), (3, .int v3)] → W p l e rm_M_name s m args below meth c H locs 0 0 Q (F0 m 29 ls []) := by
      intro st v1 v2 v3 H locs ls h hw hl
      unfold M_name_J29 at h
      refine lv_iconst (v := 0) hx hb d_M_name_29 (by decide) ?_
      refine lv_goto (tgt := 66) hx hb d_M_name_30 (by decide) ?_
      exact hJ66 _ _ _ _ _ _ _ _ h hw (lv_sub hl [0, 1, 2, 3] rfl)
    refine lv_if_eq (tgt := 29) hx hb d_M_name_13 (by decide) (fun c_13 => ?_) (fun c_13 => ?_)
    · have h := (if_pos c_13).symm.trans h
      exact hJ29 _ _ _ _ _ _ _ h hw (lv_sub hl [0, 1, 2, 3] rfl)
    · have h := (if_neg c_13).symm.trans h
      refine lv_aload_n hx hb d_M_name_16 rfl (lv_at hl 0 rfl) ?_
      refine gf_M_126 hx hb hts hnw hown hw d_M_name_17 ?_
      refine lv_iload_n hx hb d_M_name_20 rfl (lv_at hl 2 rfl) ?_
      obtain ⟨x21, g_21, e_21, h⟩ := sk_rI_some h
      refine al_M38 hx hb hw g_21 e_21 d_M_name_21 ?_
      refine lv_if_eq (tgt := 29) hx hb d_M_name_22 (by decide) (fun c_22 => ?_) (fun c_22 => ?_)
      · have h := (if_pos c_22).symm.trans h
        exact hJ29 _ _ _ _ _ _ _ h hw (lv_sub hl [0, 1, 2, 3] rfl)
      · have h := (if_neg c_22).symm.trans h
        refine lv_iconst (v := 1) hx hb d_M_name_25 (by decide) ?_
        refine lv_goto (tgt := 66) hx hb d_M_name_26 (by decide) ?_
        exact hJ66 _ _ _ _ _ _ _ _ h hw (lv_sub hl [0, 1, 2, 3] rfl)
set_option maxHeartbeats 4000000 in
set_option maxRecDepth 100000 in
theorem c_M_copy {l : Launch} {D : va_G} {A : Nat → Prop} {a : Nat → Nat} {cI cZ : ClassId} {nw : State → Prop} {N : Nat} {st : sk_M} {res : sk_M} (hok : sk_ok A nw) (h : M_copy N st = some res) : sk_Cv l y_M_copy w_M_copy rm_M_copy D (tyM cI cZ) A (ceM a cI cZ) nw [.ref (a 0)] st res := by
  refine sk_headv (by decide) rfl (Nat.le_of_ble_eq_true rfl) ?_
  intro p e s m args below meth c Q hx hb hml hown hts0 hnw hret ls hl hw
  have hts : ∀ w ∈ TB, w.before args s = true := fun w h => hts0 w (List.mem_cons_of_mem _ h)
  have hown : s.vm.findClass R_M = some m.cls := hown
  have hl : lv_has ls 2 [(0, .ref (a 0))] := hl
  unfold M_copy at h
  refine lv_iconst (v := 0) hx hb d_M_copy_0 (by decide) ?_
  refine lv_istore_n (lv' := [(1, .int (0 : Int32)), (0, .ref (a 0))]) hx hb d_M_copy_1 rfl hl (by decide) rfl (fun ls hl => ?_)
  refine sk_lp_run (G := fun (z : sk_M × Int32) => ∀ (H : Heap) (locs : List Loc) (ls : Array Slot), sk_w D (tyM cI cZ) A (ceM a cI cZ) s z.1 H locs → lv_has ls 2 [(0, .ref (a 0)), (1, .int z.2)] → W p l e rm_M_copy s m args below meth c H locs 0 0 Q (F0 m 2 ls [])) ?_ N _ h _ _ _ hw (lv_sub hl [1, 0] rfl)
  rintro self2 ⟨st, v1⟩ hself2 h H locs ls hw hl
  unfold M_copy_L2 at h
  refine lv_iload_n hx hb d_M_copy_2 rfl (lv_at hl 1 rfl) ?_
  refine lv_aload_n hx hb d_M_copy_3 rfl (lv_at hl 0 rfl) ?_
  refine gf_M_195 hx hb hts hnw hown hw d_M_copy_4 ?_
  refine lv_icmp_ge (tgt := 41) hx hb d_M_copy_7 (by decide) (fun c_7 => ?_) (fun c_7 => ?_)
  · have h := (if_pos c_7).symm.trans h
    exact hret _ _ _ _ _ (Option.some.inj h) hw d_M_copy_41
  · have h := (if_neg c_7).symm.trans h
    refine lv_aload_n hx hb d_M_copy_10 rfl (lv_at hl 0 rfl) ?_
    refine gf_M_132 hx hb hts hnw hown hw d_M_copy_11 ?_
    refine lv_aload_n hx hb d_M_copy_14 rfl (lv_at hl 0 rfl) ?_
    refine gf_M_289 hx hb hts hnw hown hw d_M_copy_15 ?_
    refine lv_aload_n hx hb d_M_copy_18 rfl (lv_at hl 0 rfl) ?_
    refine gf_M_108 hx hb hts hnw hown hw d_M_copy_19 ?_
    refine lv_iload_n hx hb d_M_copy_22 rfl (lv_at hl 1 rfl) ?_
    obtain ⟨x23, g_23, e_23, h⟩ := sk_rI_some h
    refine al_M32 hx hb hw g_23 e_23 d_M_copy_23 ?_
    obtain ⟨st24, g_24, e_24, h⟩ := sk_wI_some h
    refine as_M40 hx hb hw g_24 e_24 d_M_copy_24 (fun H locs hw => ?_)
    refine lv_aload_n hx hb d_M_copy_25 rfl (lv_at hl 0 rfl) ?_
    refine lv_dup hx hb d_M_copy_26 rfl ?_
    refine gf_M_289 hx hb hts hnw hown hw d_M_copy_27 ?_
    refine lv_iconst (v := 1) hx hb d_M_copy_30 (by decide) ?_
    refine lv_iadd hx hb d_M_copy_31 ?_
    obtain ⟨st32, e_32, h⟩ := sk_fI_some h
    refine pf_M_289 hx hb hts hnw hown hw e_32 d_M_copy_32 (fun H locs hw => ?_)
    refine lv_iinc (v := v1 + 1) (lv' := [(1, .int (v1 + 1)), (0, .ref (a 0))]) hx hb d_M_copy_35 hl (k := 1) rfl rfl (by decide) rfl (fun ls hl => ?_)
    refine lv_goto (tgt := 2) hx hb d_M_copy_38 (by decide) ?_
    exact hself2 (st32, (v1 + 1)) h _ _ _ hw (lv_sub hl [1, 0] rfl)
set_option maxHeartbeats 4000000 in
set_option maxRecDepth 100000 in
theorem c_M_write {l : Launch} {D : va_G} {A : Nat → Prop} {a : Nat → Nat} {cI cZ : ClassId} {nw : State → Prop} {st : sk_M} {v1 : Int32} {res : sk_M} (hok : sk_ok A nw) (h : M_write st v1 = some res) : sk_Cv l y_M_write w_M_write rm_M_write D (tyM cI cZ) A (ceM a cI cZ) nw [.ref (a 0), .int v1] st res := by
  refine sk_headv (by decide) rfl (Nat.le_of_ble_eq_true rfl) ?_
  intro p e s m args below meth c Q hx hb hml hown hts0 hnw hret ls hl hw
  have hts : ∀ w ∈ TB, w.before args s = true := fun w h => hts0 w (List.mem_cons_of_mem _ h)
  have hown : s.vm.findClass R_M = some m.cls := hown
  have hl : lv_has ls 2 [(0, .ref (a 0)), (1, .int v1)] := hl
  unfold M_write at h
  refine lv_aload_n hx hb d_M_write_0 rfl (lv_at hl 0 rfl) ?_
  refine gf_M_132 hx hb hts hnw hown hw d_M_write_1 ?_
  refine lv_aload_n hx hb d_M_write_4 rfl (lv_at hl 0 rfl) ?_
  refine gf_M_289 hx hb hts hnw hown hw d_M_write_5 ?_
  refine lv_iload_n hx hb d_M_write_8 rfl (lv_at hl 1 rfl) ?_
  obtain ⟨st9, g_9, e_9, h⟩ := sk_wI_some h
  refine as_M40 hx hb hw g_9 e_9 d_M_write_9 (fun H locs hw => ?_)
  refine lv_aload_n hx hb d_M_write_10 rfl (lv_at hl 0 rfl) ?_
  refine lv_dup hx hb d_M_write_11 rfl ?_
  refine gf_M_289 hx hb hts hnw hown hw d_M_write_12 ?_
  refine lv_iconst (v := 1) hx hb d_M_write_15 (by decide) ?_
  refine lv_iadd hx hb d_M_write_16 ?_
  obtain ⟨st17, e_17, h⟩ := sk_fI_some h
  refine pf_M_289 hx hb hts hnw hown hw e_17 d_M_write_17 (fun H locs hw => ?_)
  exact hret _ _ _ _ _ (Option.some.inj h) hw d_M_write_20
set_option maxHeartbeats 4000000 in
set_option maxRecDepth 100000 in
theorem c_M_arrow {l : Launch} {D : va_G} {A : Nat → Prop} {a : Nat → Nat} {cI cZ : ClassId} {nw : State → Prop} {st : sk_M} {res : sk_M} (hok : sk_ok A nw) (h : M_arrow st = some res) : sk_Cv l y_M_arrow w_M_arrow rm_M_arrow D (tyM cI cZ) A (ceM a cI cZ) nw [.ref (a 0)] st res := by
  refine sk_headv (by decide) rfl (Nat.le_of_ble_eq_true rfl) ?_
  intro p e s m args below meth c Q hx hb hml hown hts0 hnw hret ls hl hw
  have hts : ∀ w ∈ TB, w.before args s = true := fun w h => hts0 w (List.mem_cons_of_mem _ h)
  have hown : s.vm.findClass R_M = some m.cls := hown
  have hl : lv_has ls 1 [(0, .ref (a 0))] := hl
  unfold M_arrow at h
  refine lv_aload_n hx hb d_M_arrow_0 rfl (lv_at hl 0 rfl) ?_
  refine lv_bipush (v := 45) hx hb d_M_arrow_1 (by decide) ?_
  obtain ⟨st3, q_3, h⟩ := sk_oR_some h
  refine sk_callVv (As := [.int (45 : Int32)]) (rest := []) ⟨hx, hb, hml, hown, hts⟩ hw hnw hok (c_M_write hok q_3) (cw_M_292 hts hnw (by decide)) (rc_M hw) rfl hl.1 rfl (Nat.le_of_ble_eq_true rfl) d_M_arrow_3 (fun H locs hw => ?_)
  refine lv_aload_n hx hb d_M_arrow_6 rfl (lv_at hl 0 rfl) ?_
  refine lv_bipush (v := 62) hx hb d_M_arrow_7 (by decide) ?_
  obtain ⟨st9, q_9, h⟩ := sk_oR_some h
  refine sk_callVv (As := [.int (62 : Int32)]) (rest := []) ⟨hx, hb, hml, hown, hts⟩ hw hnw hok (c_M_write hok q_9) (cw_M_292 hts hnw (by decide)) (rc_M hw) rfl hl.1 rfl (Nat.le_of_ble_eq_true rfl) d_M_arrow_9 (fun H locs hw => ?_)
  refine lv_aload_n hx hb d_M_arrow_12 rfl (lv_at hl 0 rfl) ?_
  refine lv_bipush (v := 32) hx hb d_M_arrow_13 (by decide) ?_
  obtain ⟨st15, q_15, h⟩ := sk_oR_some h
  refine sk_callVv (As := [.int (32 : Int32)]) (rest := []) ⟨hx, hb, hml, hown, hts⟩ hw hnw hok (c_M_write hok q_15) (cw_M_292 hts hnw (by decide)) (rc_M hw) rfl hl.1 rfl (Nat.le_of_ble_eq_true rfl) d_M_arrow_15 (fun H locs hw => ?_)
  exact hret _ _ _ _ _ (Option.some.inj h) hw d_M_arrow_18
set_option maxHeartbeats 4000000 in
set_option maxRecDepth 100000 in
theorem c_M_writeMember {l : Launch} {D : va_G} {A : Nat → Prop} {a : Nat → Nat} {cI cZ : ClassId} {nw : State → Prop} {N : Nat} {st : sk_M} {v1 : Int32} {res : sk_M} (hok : sk_ok A nw) (h : M_writeMember N st v1 = some res) : sk_Cv l y_M_writeMember w_M_writeMember rm_M_writeMember D (tyM cI cZ) A (ceM a cI cZ) nw [.ref (a 0), .int v1] st res := by
  refine sk_headv (by decide) rfl (Nat.le_of_ble_eq_true rfl) ?_
  intro p e s m args below meth c Q hx hb hml hown hts0 hnw hret ls hl hw
  have hts : ∀ w ∈ TB, w.before args s = true := fun w h => hts0 w (List.mem_cons_of_mem _ h)
  have hown : s.vm.findClass R_M = some m.cls := hown
  have hl : lv_has ls 2 [(0, .ref (a 0)), (1, .int v1)] := hl
  unfold M_writeMember at h
  refine lv_aload_n hx hb d_M_writeMember_0 rfl (lv_at hl 0 rfl) ?_
  refine lv_bipush (v := 32) hx hb d_M_writeMember_1 (by decide) ?_
  obtain ⟨st3, q_3, h⟩ := sk_oR_some h
  refine sk_callVv (As := [.int (32 : Int32)]) (rest := []) ⟨hx, hb, hml, hown, hts⟩ hw hnw hok (c_M_write hok q_3) (cw_M_292 hts hnw (by decide)) (rc_M hw) rfl hl.1 rfl (Nat.le_of_ble_eq_true rfl) d_M_writeMember_3 (fun H locs hw => ?_)
  refine lv_aload_n hx hb d_M_writeMember_6 rfl (lv_at hl 0 rfl) ?_
  refine lv_aload_n hx hb d_M_writeMember_7 rfl (lv_at hl 0 rfl) ?_
  refine gf_M_35 hx hb hts hnw hown hw d_M_writeMember_8 ?_
  refine lv_iload_n hx hb d_M_writeMember_11 rfl (lv_at hl 1 rfl) ?_
  obtain ⟨x12, g_12, e_12, h⟩ := sk_rI_some h
  refine al_M9 hx hb hw g_12 e_12 d_M_writeMember_12 ?_
  obtain ⟨st13, q_13, h⟩ := sk_oR_some h
  refine sk_callVv (As := [.int x12]) (rest := []) ⟨hx, hb, hml, hown, hts⟩ hw hnw hok (c_M_wordText hok q_13) (cw_M_211 hts hnw (by decide)) (rc_M hw) rfl hl.1 rfl (Nat.le_of_ble_eq_true rfl) d_M_writeMember_13 (fun H locs hw => ?_)
  refine lv_aload_n hx hb d_M_writeMember_16 rfl (lv_at hl 0 rfl) ?_
  obtain ⟨st17, q_17, h⟩ := sk_oR_some h
  refine sk_callVv (As := []) (rest := []) ⟨hx, hb, hml, hown, hts⟩ hw hnw hok (c_M_copy hok q_17) (cw_M_295 hts hnw (by decide)) (rc_M hw) rfl hl.1 rfl (Nat.le_of_ble_eq_true rfl) d_M_writeMember_17 (fun H locs hw => ?_)
  refine lv_aload_n hx hb d_M_writeMember_20 rfl (lv_at hl 0 rfl) ?_
  refine gf_M_41 hx hb hts hnw hown hw d_M_writeMember_21 ?_
  refine lv_iload_n hx hb d_M_writeMember_24 rfl (lv_at hl 1 rfl) ?_
  obtain ⟨x25, g_25, e_25, h⟩ := sk_rI_some h
  refine al_M11 hx hb hw g_25 e_25 d_M_writeMember_25 ?_
  refine lv_iconst (v := 1) hx hb d_M_writeMember_26 (by decide) ?_
  refine lv_iand hx hb d_M_writeMember_27 ?_
  refine lv_iconst (v := 1) hx hb d_M_writeMember_28 (by decide) ?_
  have hJ57 : ∀ (st : sk_M) (v1 : Int32) (H : Heap) (locs : List Loc) (ls : Array Slot), M_writeMember_J57 N st v1 = some res → sk_w D (tyM cI cZ) A (ceM a cI cZ) s st H locs → lv_has ls 2 [(0, .ref (a 0)), (1, .int v1)] → W p l e rm_M_writeMember s m args below meth c H locs 0 0 Q (F0 m 57 ls []) := by
    intro st v1 H locs ls h hw hl
    unfold M_writeMember_J57 at h
    refine lv_aload_n hx hb d_M_writeMember_57 rfl (lv_at hl 0 rfl) ?_
    refine lv_bipush (v := 32) hx hb d_M_writeMember_58 (by decide) ?_
    obtain ⟨st60, q_60, h⟩ := sk_oR_some h
    refine sk_callVv (As := [.int (32 : Int32)]) (rest := []) ⟨hx, hb, hml, hown, hts⟩ hw hnw hok (c_M_write hok q_60) (cw_M_292 hts hnw (by decide)) (rc_M hw) rfl hl.1 rfl (Nat.le_of_ble_eq_true rfl) d_M_writeMember_60 (fun H locs hw => ?_)
    refine lv_aload_n hx hb d_M_writeMember_63 rfl (lv_at hl 0 rfl) ?_
    obtain ⟨st64, q_64, h⟩ := sk_oR_some h
    refine sk_callVv (As := []) (rest := []) ⟨hx, hb, hml, hown, hts⟩ hw hnw hok (c_M_arrow hok q_64) (cw_M_298 hts hnw (by decide)) (rc_M hw) rfl hl.1 rfl (Nat.le_of_ble_eq_true rfl) d_M_writeMember_64 (fun H locs hw => ?_)
    refine lv_aload_n hx hb d_M_writeMember_67 rfl (lv_at hl 0 rfl) ?_
    refine lv_iload_n hx hb d_M_writeMember_68 rfl (lv_at hl 1 rfl) ?_
    obtain ⟨st69, q_69, h⟩ := sk_oR_some h
    refine sk_callVv (As := [.int v1]) (rest := []) ⟨hx, hb, hml, hown, hts⟩ hw hnw hok (c_M_newText hok q_69) (cw_M_283 hts hnw (by decide)) (rc_M hw) rfl hl.1 rfl (Nat.le_of_ble_eq_true rfl) d_M_writeMember_69 (fun H locs hw => ?_)
    refine lv_aload_n hx hb d_M_writeMember_72 rfl (lv_at hl 0 rfl) ?_
    obtain ⟨st73, q_73, h⟩ := sk_oR_some h
    refine sk_callVv (As := []) (rest := []) ⟨hx, hb, hml, hown, hts⟩ hw hnw hok (c_M_copy hok q_73) (cw_M_295 hts hnw (by decide)) (rc_M hw) rfl hl.1 rfl (Nat.le_of_ble_eq_true rfl) d_M_writeMember_73 (fun H locs hw => ?_)
    refine lv_aload_n hx hb d_M_writeMember_76 rfl (lv_at hl 0 rfl) ?_
    refine lv_bipush (v := 10) hx hb d_M_writeMember_77 (by decide) ?_
    obtain ⟨st79, q_79, h⟩ := sk_oR_some h
    refine sk_callVv (As := [.int (10 : Int32)]) (rest := []) ⟨hx, hb, hml, hown, hts⟩ hw hnw hok (c_M_write hok q_79) (cw_M_292 hts hnw (by decide)) (rc_M hw) rfl hl.1 rfl (Nat.le_of_ble_eq_true rfl) d_M_writeMember_79 (fun H locs hw => ?_)
    exact hret _ _ _ _ _ (Option.some.inj h) hw d_M_writeMember_82
  refine lv_icmp_ne (tgt := 57) hx hb d_M_writeMember_29 (by decide) (fun c_29 => ?_) (fun c_29 => ?_)
  · have h := (if_neg c_29).symm.trans h
    exact hJ57 _ _ _ _ _ h hw (lv_sub hl [0, 1] rfl)
  · have h := (if_pos c_29).symm.trans h
    refine lv_aload_n hx hb d_M_writeMember_32 rfl (lv_at hl 0 rfl) ?_
    refine lv_bipush (v := 40) hx hb d_M_writeMember_33 (by decide) ?_
    obtain ⟨st35, q_35, h⟩ := sk_oR_some h
    refine sk_callVv (As := [.int (40 : Int32)]) (rest := []) ⟨hx, hb, hml, hown, hts⟩ hw hnw hok (c_M_write hok q_35) (cw_M_292 hts hnw (by decide)) (rc_M hw) rfl hl.1 rfl (Nat.le_of_ble_eq_true rfl) d_M_writeMember_35 (fun H locs hw => ?_)
    refine lv_aload_n hx hb d_M_writeMember_38 rfl (lv_at hl 0 rfl) ?_
    refine lv_bipush (v := 48) hx hb d_M_writeMember_39 (by decide) ?_
    refine lv_aload_n hx hb d_M_writeMember_41 rfl (lv_at hl 0 rfl) ?_
    refine gf_M_38 hx hb hts hnw hown hw d_M_writeMember_42 ?_
    refine lv_iload_n hx hb d_M_writeMember_45 rfl (lv_at hl 1 rfl) ?_
    obtain ⟨x46, g_46, e_46, h⟩ := sk_rI_some h
    refine al_M10 hx hb hw g_46 e_46 d_M_writeMember_46 ?_
    refine lv_iadd hx hb d_M_writeMember_47 ?_
    obtain ⟨st48, q_48, h⟩ := sk_oR_some h
    refine sk_callVv (As := [.int ((48 : Int32) + x46)]) (rest := []) ⟨hx, hb, hml, hown, hts⟩ hw hnw hok (c_M_write hok q_48) (cw_M_292 hts hnw (by decide)) (rc_M hw) rfl hl.1 rfl (Nat.le_of_ble_eq_true rfl) d_M_writeMember_48 (fun H locs hw => ?_)
    refine lv_aload_n hx hb d_M_writeMember_51 rfl (lv_at hl 0 rfl) ?_
    refine lv_bipush (v := 41) hx hb d_M_writeMember_52 (by decide) ?_
    obtain ⟨st54, q_54, h⟩ := sk_oR_some h
    refine sk_callVv (As := [.int (41 : Int32)]) (rest := []) ⟨hx, hb, hml, hown, hts⟩ hw hnw hok (c_M_write hok q_54) (cw_M_292 hts hnw (by decide)) (rc_M hw) rfl hl.1 rfl (Nat.le_of_ble_eq_true rfl) d_M_writeMember_54 (fun H locs hw => ?_)
    exact hJ57 _ _ _ _ _ h hw (lv_sub hl [0, 1] rfl)
set_option maxHeartbeats 4000000 in
set_option maxRecDepth 100000 in
theorem c_M_writeAll {l : Launch} {D : va_G} {A : Nat → Prop} {a : Nat → Nat} {cI cZ : ClassId} {nw : State → Prop} {N : Nat} {st : sk_M} {res : sk_M} (hok : sk_ok A nw) (h : M_writeAll N st = some res) : sk_Cv l y_M_writeAll w_M_writeAll rm_M_writeAll D (tyM cI cZ) A (ceM a cI cZ) nw [.ref (a 0)] st res := by
  refine sk_headv (by decide) rfl (Nat.le_of_ble_eq_true rfl) ?_
  intro p e s m args below meth c Q hx hb hml hown hts0 hnw hret ls hl hw
  have hts : ∀ w ∈ TB, w.before args s = true := fun w h => hts0 w (List.mem_cons_of_mem _ h)
  have hown : s.vm.findClass R_M = some m.cls := hown
  have hl : lv_has ls 3 [(0, .ref (a 0))] := hl
  unfold M_writeAll at h
  refine lv_aload_n hx hb d_M_writeAll_0 rfl (lv_at hl 0 rfl) ?_
  refine lv_iconst (v := 0) hx hb d_M_writeAll_1 (by decide) ?_
  obtain ⟨st2, e_2, h⟩ := sk_fI_some h
  refine pf_M_289 hx hb hts hnw hown hw e_2 d_M_writeAll_2 (fun H locs hw => ?_)
  refine lv_iconst (v := 1) hx hb d_M_writeAll_5 (by decide) ?_
  refine lv_istore_n (lv' := [(1, .int (1 : Int32)), (0, .ref (a 0))]) hx hb d_M_writeAll_6 rfl hl (by decide) rfl (fun ls hl => ?_)
  refine sk_lp_run (G := fun (z : sk_M × Int32) => ∀ (H : Heap) (locs : List Loc) (ls : Array Slot), sk_w D (tyM cI cZ) A (ceM a cI cZ) s z.1 H locs → lv_has ls 3 [(0, .ref (a 0)), (1, .int z.2)] → W p l e rm_M_writeAll s m args below meth c H locs 0 0 Q (F0 m 7 ls [])) ?_ N _ h _ _ _ hw (lv_sub hl [1, 0] rfl)
  rintro self7 ⟨st, v1⟩ hself7 h H locs ls hw hl
  unfold M_writeAll_L7 at h
  refine lv_iload_n hx hb d_M_writeAll_7 rfl (lv_at hl 1 rfl) ?_
  refine lv_bipush (v := 10) hx hb d_M_writeAll_8 (by decide) ?_
  refine lv_icmp_ge (tgt := 129) hx hb d_M_writeAll_10 (by decide) (fun c_10 => ?_) (fun c_10 => ?_)
  · have h := (if_pos c_10).symm.trans h
    exact hret _ _ _ _ _ (Option.some.inj h) hw d_M_writeAll_129
  · have h := (if_neg c_10).symm.trans h
    refine lv_aload_n hx hb d_M_writeAll_13 rfl (lv_at hl 0 rfl) ?_
    refine gf_M_117 hx hb hts hnw hown hw d_M_writeAll_14 ?_
    refine lv_iload_n hx hb d_M_writeAll_17 rfl (lv_at hl 1 rfl) ?_
    obtain ⟨x18, g_18, e_18, h⟩ := sk_rI_some h
    refine al_M35 hx hb hw g_18 e_18 d_M_writeAll_18 ?_
    have hJ123 : ∀ (st : sk_M) (v1 : Int32) (H : Heap) (locs : List Loc) (ls : Array Slot), M_writeAll_J123 N self7 st v1 = some res → sk_w D (tyM cI cZ) A (ceM a cI cZ) s st H locs → lv_has ls 3 [(0, .ref (a 0)), (1, .int v1)] → W p l e rm_M_writeAll s m args below meth c H locs 0 0 Q (F0 m 123 ls []) := by
      intro st v1 H locs ls h hw hl
      unfold M_writeAll_J123 at h
      refine lv_iinc (v := v1 + 1) (lv' := [(1, .int (v1 + 1)), (0, .ref (a 0))]) hx hb d_M_writeAll_123 hl (k := 1) rfl rfl (by decide) rfl (fun ls hl => ?_)
      refine lv_goto (tgt := 7) hx hb d_M_writeAll_126 (by decide) ?_
      exact hself7 (st, (v1 + 1)) h _ _ _ hw (lv_sub hl [1, 0] rfl)
    refine lv_if_eq (tgt := 123) hx hb d_M_writeAll_19 (by decide) (fun c_19 => ?_) (fun c_19 => ?_)
    · have h := (if_pos c_19).symm.trans h
      exact hJ123 _ _ _ _ _ h hw (lv_sub hl [0, 1] rfl)
    · have h := (if_neg c_19).symm.trans h
      refine lv_aload_n hx hb d_M_writeAll_22 rfl (lv_at hl 0 rfl) ?_
      refine gf_M_7 hx hb hts hnw hown hw d_M_writeAll_23 ?_
      refine lv_iload_n hx hb d_M_writeAll_26 rfl (lv_at hl 1 rfl) ?_
      obtain ⟨x27, g_27, e_27, h⟩ := sk_rI_some h
      refine al_M1 hx hb hw g_27 e_27 d_M_writeAll_27 ?_
      refine lv_if_ne (tgt := 34) hx hb d_M_writeAll_28 (by decide) (fun c_28 => ?_) (fun c_28 => ?_)
      · have h := (if_neg c_28).symm.trans h
        refine lv_aload_n hx hb d_M_writeAll_34 rfl (lv_at hl 0 rfl) ?_
        refine lv_iload_n hx hb d_M_writeAll_35 rfl (lv_at hl 1 rfl) ?_
        obtain ⟨st36, q_36, h⟩ := sk_oR_some h
        refine sk_callVv (As := [.int v1]) (rest := []) ⟨hx, hb, hml, hown, hts⟩ hw hnw hok (c_M_className hok q_36) (cw_M_202 hts hnw (by decide)) (rc_M hw) rfl hl.1 rfl (Nat.le_of_ble_eq_true rfl) d_M_writeAll_36 (fun H locs hw => ?_)
        refine lv_aload_n hx hb d_M_writeAll_39 rfl (lv_at hl 0 rfl) ?_
        obtain ⟨st40, q_40, h⟩ := sk_oR_some h
        refine sk_callVv (As := []) (rest := []) ⟨hx, hb, hml, hown, hts⟩ hw hnw hok (c_M_copy hok q_40) (cw_M_295 hts hnw (by decide)) (rc_M hw) rfl hl.1 rfl (Nat.le_of_ble_eq_true rfl) d_M_writeAll_40 (fun H locs hw => ?_)
        refine lv_aload_n hx hb d_M_writeAll_43 rfl (lv_at hl 0 rfl) ?_
        refine lv_bipush (v := 32) hx hb d_M_writeAll_44 (by decide) ?_
        obtain ⟨st46, q_46, h⟩ := sk_oR_some h
        refine sk_callVv (As := [.int (32 : Int32)]) (rest := []) ⟨hx, hb, hml, hown, hts⟩ hw hnw hok (c_M_write hok q_46) (cw_M_292 hts hnw (by decide)) (rc_M hw) rfl hl.1 rfl (Nat.le_of_ble_eq_true rfl) d_M_writeAll_46 (fun H locs hw => ?_)
        refine lv_aload_n hx hb d_M_writeAll_49 rfl (lv_at hl 0 rfl) ?_
        obtain ⟨st50, q_50, h⟩ := sk_oR_some h
        refine sk_callVv (As := []) (rest := []) ⟨hx, hb, hml, hown, hts⟩ hw hnw hok (c_M_arrow hok q_50) (cw_M_298 hts hnw (by decide)) (rc_M hw) rfl hl.1 rfl (Nat.le_of_ble_eq_true rfl) d_M_writeAll_50 (fun H locs hw => ?_)
        refine lv_aload_n hx hb d_M_writeAll_53 rfl (lv_at hl 0 rfl) ?_
        refine lv_iload_n hx hb d_M_writeAll_54 rfl (lv_at hl 1 rfl) ?_
        obtain ⟨st55, q_55, h⟩ := sk_oR_some h
        refine sk_callVv (As := [.int v1]) (rest := []) ⟨hx, hb, hml, hown, hts⟩ hw hnw hok (c_M_newName hok q_55) (cw_M_286 hts hnw (by decide)) (rc_M hw) rfl hl.1 rfl (Nat.le_of_ble_eq_true rfl) d_M_writeAll_55 (fun H locs hw => ?_)
        refine lv_aload_n hx hb d_M_writeAll_58 rfl (lv_at hl 0 rfl) ?_
        obtain ⟨st59, q_59, h⟩ := sk_oR_some h
        refine sk_callVv (As := []) (rest := []) ⟨hx, hb, hml, hown, hts⟩ hw hnw hok (c_M_copy hok q_59) (cw_M_295 hts hnw (by decide)) (rc_M hw) rfl hl.1 rfl (Nat.le_of_ble_eq_true rfl) d_M_writeAll_59 (fun H locs hw => ?_)
        refine lv_aload_n hx hb d_M_writeAll_62 rfl (lv_at hl 0 rfl) ?_
        refine lv_bipush (v := 58) hx hb d_M_writeAll_63 (by decide) ?_
        obtain ⟨st65, q_65, h⟩ := sk_oR_some h
        refine sk_callVv (As := [.int (58 : Int32)]) (rest := []) ⟨hx, hb, hml, hown, hts⟩ hw hnw hok (c_M_write hok q_65) (cw_M_292 hts hnw (by decide)) (rc_M hw) rfl hl.1 rfl (Nat.le_of_ble_eq_true rfl) d_M_writeAll_65 (fun H locs hw => ?_)
        refine lv_aload_n hx hb d_M_writeAll_68 rfl (lv_at hl 0 rfl) ?_
        refine lv_bipush (v := 10) hx hb d_M_writeAll_69 (by decide) ?_
        obtain ⟨st71, q_71, h⟩ := sk_oR_some h
        refine sk_callVv (As := [.int (10 : Int32)]) (rest := []) ⟨hx, hb, hml, hown, hts⟩ hw hnw hok (c_M_write hok q_71) (cw_M_292 hts hnw (by decide)) (rc_M hw) rfl hl.1 rfl (Nat.le_of_ble_eq_true rfl) d_M_writeAll_71 (fun H locs hw => ?_)
        refine lv_iconst (v := 1) hx hb d_M_writeAll_74 (by decide) ?_
        refine lv_istore_n (lv' := [(2, .int (1 : Int32)), (0, .ref (a 0)), (1, .int v1)]) hx hb d_M_writeAll_75 rfl hl (by decide) rfl (fun ls hl => ?_)
        refine sk_lp_run (G := fun (z : sk_M × Int32 × Int32) => ∀ (H : Heap) (locs : List Loc) (ls : Array Slot), sk_w D (tyM cI cZ) A (ceM a cI cZ) s z.1 H locs → lv_has ls 3 [(0, .ref (a 0)), (1, .int z.2.1), (2, .int z.2.2)] → W p l e rm_M_writeAll s m args below meth c H locs 0 0 Q (F0 m 76 ls [])) ?_ N _ h _ _ _ hw (lv_sub hl [1, 2, 0] rfl)
        rintro self76 ⟨st, v1, v2⟩ hself76 h H locs ls hw hl
        unfold M_writeAll_L76 at h
        refine lv_iload_n hx hb d_M_writeAll_76 rfl (lv_at hl 2 rfl) ?_
        refine lv_aload_n hx hb d_M_writeAll_77 rfl (lv_at hl 0 rfl) ?_
        refine gf_M_47 hx hb hts hnw hown hw d_M_writeAll_78 ?_
        refine lv_icmp_ge (tgt := 123) hx hb d_M_writeAll_81 (by decide) (fun c_81 => ?_) (fun c_81 => ?_)
        · have h := (if_pos c_81).symm.trans h
          exact hJ123 _ _ _ _ _ h hw (lv_sub hl [0, 1] rfl)
        · have h := (if_neg c_81).symm.trans h
          refine lv_aload_n hx hb d_M_writeAll_84 rfl (lv_at hl 0 rfl) ?_
          refine gf_M_32 hx hb hts hnw hown hw d_M_writeAll_85 ?_
          refine lv_iload_n hx hb d_M_writeAll_88 rfl (lv_at hl 2 rfl) ?_
          obtain ⟨x89, g_89, e_89, h⟩ := sk_rI_some h
          refine al_M8 hx hb hw g_89 e_89 d_M_writeAll_89 ?_
          refine lv_iload_n hx hb d_M_writeAll_90 rfl (lv_at hl 1 rfl) ?_
          refine lv_icmp_ne (tgt := 117) hx hb d_M_writeAll_91 (by decide) (fun c_91 => ?_) (fun c_91 => ?_)
          · have h := (if_neg c_91).symm.trans h
            refine lv_iinc (v := v2 + 1) (lv' := [(2, .int (v2 + 1)), (0, .ref (a 0)), (1, .int v1)]) hx hb d_M_writeAll_117 hl (k := 2) rfl rfl (by decide) rfl (fun ls hl => ?_)
            refine lv_goto (tgt := 76) hx hb d_M_writeAll_120 (by decide) ?_
            exact hself76 (st, v1, (v2 + 1)) h _ _ _ hw (lv_sub hl [1, 2, 0] rfl)
          · have h := (if_pos c_91).symm.trans h
            refine lv_aload_n hx hb d_M_writeAll_94 rfl (lv_at hl 0 rfl) ?_
            refine gf_M_44 hx hb hts hnw hown hw d_M_writeAll_95 ?_
            refine lv_iload_n hx hb d_M_writeAll_98 rfl (lv_at hl 2 rfl) ?_
            obtain ⟨x99, g_99, e_99, h⟩ := sk_rI_some h
            refine al_M12 hx hb hw g_99 e_99 d_M_writeAll_99 ?_
            refine lv_if_ne (tgt := 117) hx hb d_M_writeAll_100 (by decide) (fun c_100 => ?_) (fun c_100 => ?_)
            · have h := (if_neg c_100).symm.trans h
              refine lv_iinc (v := v2 + 1) (lv' := [(2, .int (v2 + 1)), (0, .ref (a 0)), (1, .int v1)]) hx hb d_M_writeAll_117 hl (k := 2) rfl rfl (by decide) rfl (fun ls hl => ?_)
              refine lv_goto (tgt := 76) hx hb d_M_writeAll_120 (by decide) ?_
              exact hself76 (st, v1, (v2 + 1)) h _ _ _ hw (lv_sub hl [1, 2, 0] rfl)
            · have h := (if_pos c_100).symm.trans h
              refine lv_aload_n hx hb d_M_writeAll_103 rfl (lv_at hl 0 rfl) ?_
              refine gf_M_126 hx hb hts hnw hown hw d_M_writeAll_104 ?_
              refine lv_iload_n hx hb d_M_writeAll_107 rfl (lv_at hl 2 rfl) ?_
              obtain ⟨x108, g_108, e_108, h⟩ := sk_rI_some h
              refine al_M38 hx hb hw g_108 e_108 d_M_writeAll_108 ?_
              refine lv_if_eq (tgt := 117) hx hb d_M_writeAll_109 (by decide) (fun c_109 => ?_) (fun c_109 => ?_)
              · have h := (if_pos c_109).symm.trans h
                refine lv_iinc (v := v2 + 1) (lv' := [(2, .int (v2 + 1)), (0, .ref (a 0)), (1, .int v1)]) hx hb d_M_writeAll_117 hl (k := 2) rfl rfl (by decide) rfl (fun ls hl => ?_)
                refine lv_goto (tgt := 76) hx hb d_M_writeAll_120 (by decide) ?_
                exact hself76 (st, v1, (v2 + 1)) h _ _ _ hw (lv_sub hl [1, 2, 0] rfl)
              · have h := (if_neg c_109).symm.trans h
                refine lv_aload_n hx hb d_M_writeAll_112 rfl (lv_at hl 0 rfl) ?_
                refine lv_iload_n hx hb d_M_writeAll_113 rfl (lv_at hl 2 rfl) ?_
                obtain ⟨st114, q_114, h⟩ := sk_oR_some h
                refine sk_callVv (As := [.int v2]) (rest := []) ⟨hx, hb, hml, hown, hts⟩ hw hnw hok (c_M_writeMember hok q_114) (cw_M_301 hts hnw (by decide)) (rc_M hw) rfl hl.1 rfl (Nat.le_of_ble_eq_true rfl) d_M_writeAll_114 (fun H locs hw => ?_)
                refine lv_iinc (v := v2 + 1) (lv' := [(2, .int (v2 + 1)), (0, .ref (a 0)), (1, .int v1)]) hx hb d_M_writeAll_117 hl (k := 2) rfl rfl (by decide) rfl (fun ls hl => ?_)
                refine lv_goto (tgt := 76) hx hb d_M_writeAll_120 (by decide) ?_
                exact hself76 (st114, v1, (v2 + 1)) h _ _ _ hw (lv_sub hl [1, 2, 0] rfl)
      · have h := (if_pos c_28).symm.trans h
        refine lv_goto (tgt := 123) hx hb d_M_writeAll_31 (by decide) ?_
        exact hJ123 _ _ _ _ _ h hw (lv_sub hl [0, 1] rfl)
