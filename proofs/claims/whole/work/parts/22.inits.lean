set_option maxHeartbeats 4000000 in
set_option maxRecDepth 100000 in
theorem ci_Text60 {l : Launch} {D : va_G} {h0 sz : Nat}   : Met l y_K_Text_init w_K_Text_init ({ frames := 1, cells := 1, slots := 60, locals := 20 }) (va_Pc [.ref h0, .int 60] (fun U => U.heap.size = sz ∧ va_P D classes [(h0, .inr (7, [.null, .int 0]))] U.heap ∧ va_K D classes [] U ∧ va_D (fun _ => True) [(h0, .inr (7, [.null, .int 0]))] ∧ nwN U)) (va_Qv (fun _ : Unit => True) (fun _ t => ∃ (q6 : Nat) (cC : ClassId), va_P D classes [(h0, .inr (7, [.ref q6, .int 0])), (q6, .inl (cC, 60, .inl (fun _ => 0)))] t.heap ∧ va_K D classes [(cC, .char)] t ∧ va_D (va_A [(h0, .inr (7, [.null, .int 0]))] sz) [(h0, .inr (7, [.ref q6, .int 0])), (q6, .inl (cC, 60, .inl (fun _ => 0)))]) (va_A [(h0, .inr (7, [.null, .int 0]))] sz)) 1 60 (va_A [(h0, .inr (7, [.null, .int 0]))] sz) := by
  refine Met.ofW (cc := b_K_Text_init) (maxL := 2) (ret := none) (by decide) rfl ?_
  intro p e s m args below meth c s₁ B hml hv
  obtain ⟨rfl, hsz, hP, hK, hD0, hnw⟩ := hv
  have hx := B.exec
  have hb := B.bytes
  have hr := B.returns
  have hts0 := atoms_spec (ws := w_K_Text_init) B.pre
  have hts : ∀ w ∈ TB, w.before _ s = true := fun w h => hts0 w (List.mem_cons_of_mem _ h)
  have hown : s.vm.findClass R_Text = some m.cls := findClass_of_methodNamed B.named
  have hlocks := B.notSynchronized
  have hin : meth.name = "<init>" := (name_of_methodNamed B.named B.method).1
  subst hsz
  have hD := hD0.self (sz := s.heap.size)
  generalize hAe : va_A [(h0, .inr (7, [.null, .int 0]))] s.heap.size = A at hD ⊢
  have hA : ∀ q : Nat, s.heap.size ≤ q → A q := fun q h => by rw [← hAe]; exact Or.inr h
  have hS : va_S A s.heap s.heap [] := va_S.rf
  have hl := lv_entry [.ref h0, .int 60] (n := 2) (Nat.le_of_ble_eq_true rfl)
  rw [lg_entry_eq]
  generalize (lg_sl ([.ref h0, .int 60]) ++ List.replicate (2 - (lg_sl ([.ref h0, .int 60])).length) Slot.unset).toArray = ls at hl ⊢
  have hl : lv_has ls 2 [(0, .ref h0), (1, .int 60)] := hl
  refine lv_aload_n hx hb d_K_Text_init_0 rfl (lv_at hl 0 rfl) ?_
  refine W.objInit hx hb hown (hts (.methodLink R_Text 3 objectInit) (tb_1 (List.mem_of_getElem? (i := 199) rfl) rfl)) (hts (.instanceMethod objectInit) (tb_1 (List.mem_of_getElem? (i := 25) rfl) rfl)) (hts (.code objectInit ⟨#[0xb1]⟩ 1 none) (tb_1 (List.mem_of_getElem? (i := 26) rfl) rfl)) rfl (by rw [hml]; exact hl.1) rfl d_K_Text_init_1 (Nat.le_of_ble_eq_true rfl) (Nat.le_of_ble_eq_true rfl) ?_
  refine W.eq (g2 := F0 m 4 ls []) rfl ?_
  refine lv_aload_n hx hb d_K_Text_init_4 rfl (lv_at hl 0 rfl) ?_
  refine lv_iload_n hx hb d_K_Text_init_5 rfl (lv_at hl 1 rfl) ?_
  refine va_newa (ty := .char) (a0 := (60, .inl (fun _ => 0))) (N' := 60) hx hb (hts _ (tb_1 (List.mem_of_getElem? (i := 210) rfl) rfl)) rfl hK hP hD hS hA (fun _ => rfl) (by decide) (by decide) (by decide) (by decide) (by decide) d_K_Text_init_6 (fun q6 cC H hK hP hD hS => ?_)
  have hK : va_K D classes [(cC, .char)] s := hK
  refine W.widen (k := 1) (n := 60) (by decide) (by decide) ?_
  have hP : va_P D classes [(h0, .inr (7, [.null, .int 0])), (q6, .inl (cC, 60, .inl (fun _ => 0)))] H := hP
  have hD : va_D A [(h0, .inr (7, [.null, .int 0])), (q6, .inl (cC, 60, .inl (fun _ => 0)))] := hD
  refine va_putF (D := D) (ci := 7) (v := .ref q6) (ty := .array .char) (C := R_Text) (T := F_Text) (N := 2) hx hb hts i_Text t_Text t_Text_ok n_Text hown hK hP hD hS 0 rfl rfl 0 (by decide) (hts _ (tb_1 (List.mem_of_getElem? (i := 200) rfl) rfl)) (fun _ h9 => h9) rfl hin rfl (by decide +kernel) rfl rfl (Nat.le_of_ble_eq_true rfl) d_K_Text_init_8 (fun H locs hP hD hS => ?_)
  have hP : va_P D classes [(h0, .inr (7, [.ref q6, .int 0])), (q6, .inl (cC, 60, .inl (fun _ => 0)))] H := hP
  have hD : va_D A [(h0, .inr (7, [.ref q6, .int 0])), (q6, .inl (cC, 60, .inl (fun _ => 0)))] := hD
  have hP9 := hP.sub (ws' := [(h0, .inr (7, [.ref q6, .int 0])), (q6, .inl (cC, 60, .inl (fun _ => 0)))]) [0, 1] rfl
  have hD9 := hD.sub (ws' := [(h0, .inr (7, [.ref q6, .int 0])), (q6, .inl (cC, 60, .inl (fun _ => 0)))]) [0, 1] (by decide) rfl
  exact W.vret hx hb hr (fun t ht hW => ⟨⟨(), rfl, trivial, q6, cC, by rw [ht]; exact hP9, va_K.moved hW.alike hK, hD9⟩, hS.F ht⟩) hS.2.2 d_K_Text_init_11
set_option maxHeartbeats 4000000 in
set_option maxRecDepth 100000 in
theorem ci_Text8 {l : Launch} {D : va_G} {h0 sz : Nat}   : Met l y_K_Text_init w_K_Text_init ({ frames := 1, cells := 1, slots := 8, locals := 20 }) (va_Pc [.ref h0, .int 8] (fun U => U.heap.size = sz ∧ va_P D classes [(h0, .inr (7, [.null, .int 0]))] U.heap ∧ va_K D classes [] U ∧ va_D (fun _ => True) [(h0, .inr (7, [.null, .int 0]))] ∧ nwN U)) (va_Qv (fun _ : Unit => True) (fun _ t => ∃ (q6 : Nat) (cC : ClassId), va_P D classes [(h0, .inr (7, [.ref q6, .int 0])), (q6, .inl (cC, 8, .inl (fun _ => 0)))] t.heap ∧ va_K D classes [(cC, .char)] t ∧ va_D (va_A [(h0, .inr (7, [.null, .int 0]))] sz) [(h0, .inr (7, [.ref q6, .int 0])), (q6, .inl (cC, 8, .inl (fun _ => 0)))]) (va_A [(h0, .inr (7, [.null, .int 0]))] sz)) 1 8 (va_A [(h0, .inr (7, [.null, .int 0]))] sz) := by
  refine Met.ofW (cc := b_K_Text_init) (maxL := 2) (ret := none) (by decide) rfl ?_
  intro p e s m args below meth c s₁ B hml hv
  obtain ⟨rfl, hsz, hP, hK, hD0, hnw⟩ := hv
  have hx := B.exec
  have hb := B.bytes
  have hr := B.returns
  have hts0 := atoms_spec (ws := w_K_Text_init) B.pre
  have hts : ∀ w ∈ TB, w.before _ s = true := fun w h => hts0 w (List.mem_cons_of_mem _ h)
  have hown : s.vm.findClass R_Text = some m.cls := findClass_of_methodNamed B.named
  have hlocks := B.notSynchronized
  have hin : meth.name = "<init>" := (name_of_methodNamed B.named B.method).1
  subst hsz
  have hD := hD0.self (sz := s.heap.size)
  generalize hAe : va_A [(h0, .inr (7, [.null, .int 0]))] s.heap.size = A at hD ⊢
  have hA : ∀ q : Nat, s.heap.size ≤ q → A q := fun q h => by rw [← hAe]; exact Or.inr h
  have hS : va_S A s.heap s.heap [] := va_S.rf
  have hl := lv_entry [.ref h0, .int 8] (n := 2) (Nat.le_of_ble_eq_true rfl)
  rw [lg_entry_eq]
  generalize (lg_sl ([.ref h0, .int 8]) ++ List.replicate (2 - (lg_sl ([.ref h0, .int 8])).length) Slot.unset).toArray = ls at hl ⊢
  have hl : lv_has ls 2 [(0, .ref h0), (1, .int 8)] := hl
  refine lv_aload_n hx hb d_K_Text_init_0 rfl (lv_at hl 0 rfl) ?_
  refine W.objInit hx hb hown (hts (.methodLink R_Text 3 objectInit) (tb_1 (List.mem_of_getElem? (i := 199) rfl) rfl)) (hts (.instanceMethod objectInit) (tb_1 (List.mem_of_getElem? (i := 25) rfl) rfl)) (hts (.code objectInit ⟨#[0xb1]⟩ 1 none) (tb_1 (List.mem_of_getElem? (i := 26) rfl) rfl)) rfl (by rw [hml]; exact hl.1) rfl d_K_Text_init_1 (Nat.le_of_ble_eq_true rfl) (Nat.le_of_ble_eq_true rfl) ?_
  refine W.eq (g2 := F0 m 4 ls []) rfl ?_
  refine lv_aload_n hx hb d_K_Text_init_4 rfl (lv_at hl 0 rfl) ?_
  refine lv_iload_n hx hb d_K_Text_init_5 rfl (lv_at hl 1 rfl) ?_
  refine va_newa (ty := .char) (a0 := (8, .inl (fun _ => 0))) (N' := 8) hx hb (hts _ (tb_1 (List.mem_of_getElem? (i := 210) rfl) rfl)) rfl hK hP hD hS hA (fun _ => rfl) (by decide) (by decide) (by decide) (by decide) (by decide) d_K_Text_init_6 (fun q6 cC H hK hP hD hS => ?_)
  have hK : va_K D classes [(cC, .char)] s := hK
  refine W.widen (k := 1) (n := 8) (by decide) (by decide) ?_
  have hP : va_P D classes [(h0, .inr (7, [.null, .int 0])), (q6, .inl (cC, 8, .inl (fun _ => 0)))] H := hP
  have hD : va_D A [(h0, .inr (7, [.null, .int 0])), (q6, .inl (cC, 8, .inl (fun _ => 0)))] := hD
  refine va_putF (D := D) (ci := 7) (v := .ref q6) (ty := .array .char) (C := R_Text) (T := F_Text) (N := 2) hx hb hts i_Text t_Text t_Text_ok n_Text hown hK hP hD hS 0 rfl rfl 0 (by decide) (hts _ (tb_1 (List.mem_of_getElem? (i := 200) rfl) rfl)) (fun _ h9 => h9) rfl hin rfl (by decide +kernel) rfl rfl (Nat.le_of_ble_eq_true rfl) d_K_Text_init_8 (fun H locs hP hD hS => ?_)
  have hP : va_P D classes [(h0, .inr (7, [.ref q6, .int 0])), (q6, .inl (cC, 8, .inl (fun _ => 0)))] H := hP
  have hD : va_D A [(h0, .inr (7, [.ref q6, .int 0])), (q6, .inl (cC, 8, .inl (fun _ => 0)))] := hD
  have hP9 := hP.sub (ws' := [(h0, .inr (7, [.ref q6, .int 0])), (q6, .inl (cC, 8, .inl (fun _ => 0)))]) [0, 1] rfl
  have hD9 := hD.sub (ws' := [(h0, .inr (7, [.ref q6, .int 0])), (q6, .inl (cC, 8, .inl (fun _ => 0)))]) [0, 1] (by decide) rfl
  exact W.vret hx hb hr (fun t ht hW => ⟨⟨(), rfl, trivial, q6, cC, by rw [ht]; exact hP9, va_K.moved hW.alike hK, hD9⟩, hS.F ht⟩) hS.2.2 d_K_Text_init_11
set_option maxHeartbeats 4000000 in
set_option maxRecDepth 100000 in
theorem ci_Text1120 {l : Launch} {D : va_G} {h0 sz : Nat}   : Met l y_K_Text_init w_K_Text_init ({ frames := 1, cells := 1, slots := 1120, locals := 20 }) (va_Pc [.ref h0, .int 1120] (fun U => U.heap.size = sz ∧ va_P D classes [(h0, .inr (7, [.null, .int 0]))] U.heap ∧ va_K D classes [] U ∧ va_D (fun _ => True) [(h0, .inr (7, [.null, .int 0]))] ∧ nwN U)) (va_Qv (fun _ : Unit => True) (fun _ t => ∃ (q6 : Nat) (cC : ClassId), va_P D classes [(h0, .inr (7, [.ref q6, .int 0])), (q6, .inl (cC, 1120, .inl (fun _ => 0)))] t.heap ∧ va_K D classes [(cC, .char)] t ∧ va_D (va_A [(h0, .inr (7, [.null, .int 0]))] sz) [(h0, .inr (7, [.ref q6, .int 0])), (q6, .inl (cC, 1120, .inl (fun _ => 0)))]) (va_A [(h0, .inr (7, [.null, .int 0]))] sz)) 1 1120 (va_A [(h0, .inr (7, [.null, .int 0]))] sz) := by
  refine Met.ofW (cc := b_K_Text_init) (maxL := 2) (ret := none) (by decide) rfl ?_
  intro p e s m args below meth c s₁ B hml hv
  obtain ⟨rfl, hsz, hP, hK, hD0, hnw⟩ := hv
  have hx := B.exec
  have hb := B.bytes
  have hr := B.returns
  have hts0 := atoms_spec (ws := w_K_Text_init) B.pre
  have hts : ∀ w ∈ TB, w.before _ s = true := fun w h => hts0 w (List.mem_cons_of_mem _ h)
  have hown : s.vm.findClass R_Text = some m.cls := findClass_of_methodNamed B.named
  have hlocks := B.notSynchronized
  have hin : meth.name = "<init>" := (name_of_methodNamed B.named B.method).1
  subst hsz
  have hD := hD0.self (sz := s.heap.size)
  generalize hAe : va_A [(h0, .inr (7, [.null, .int 0]))] s.heap.size = A at hD ⊢
  have hA : ∀ q : Nat, s.heap.size ≤ q → A q := fun q h => by rw [← hAe]; exact Or.inr h
  have hS : va_S A s.heap s.heap [] := va_S.rf
  have hl := lv_entry [.ref h0, .int 1120] (n := 2) (Nat.le_of_ble_eq_true rfl)
  rw [lg_entry_eq]
  generalize (lg_sl ([.ref h0, .int 1120]) ++ List.replicate (2 - (lg_sl ([.ref h0, .int 1120])).length) Slot.unset).toArray = ls at hl ⊢
  have hl : lv_has ls 2 [(0, .ref h0), (1, .int 1120)] := hl
  refine lv_aload_n hx hb d_K_Text_init_0 rfl (lv_at hl 0 rfl) ?_
  refine W.objInit hx hb hown (hts (.methodLink R_Text 3 objectInit) (tb_1 (List.mem_of_getElem? (i := 199) rfl) rfl)) (hts (.instanceMethod objectInit) (tb_1 (List.mem_of_getElem? (i := 25) rfl) rfl)) (hts (.code objectInit ⟨#[0xb1]⟩ 1 none) (tb_1 (List.mem_of_getElem? (i := 26) rfl) rfl)) rfl (by rw [hml]; exact hl.1) rfl d_K_Text_init_1 (Nat.le_of_ble_eq_true rfl) (Nat.le_of_ble_eq_true rfl) ?_
  refine W.eq (g2 := F0 m 4 ls []) rfl ?_
  refine lv_aload_n hx hb d_K_Text_init_4 rfl (lv_at hl 0 rfl) ?_
  refine lv_iload_n hx hb d_K_Text_init_5 rfl (lv_at hl 1 rfl) ?_
  refine va_newa (ty := .char) (a0 := (1120, .inl (fun _ => 0))) (N' := 1120) hx hb (hts _ (tb_1 (List.mem_of_getElem? (i := 210) rfl) rfl)) rfl hK hP hD hS hA (fun _ => rfl) (by decide) (by decide) (by decide) (by decide) (by decide) d_K_Text_init_6 (fun q6 cC H hK hP hD hS => ?_)
  have hK : va_K D classes [(cC, .char)] s := hK
  refine W.widen (k := 1) (n := 1120) (by decide) (by decide) ?_
  have hP : va_P D classes [(h0, .inr (7, [.null, .int 0])), (q6, .inl (cC, 1120, .inl (fun _ => 0)))] H := hP
  have hD : va_D A [(h0, .inr (7, [.null, .int 0])), (q6, .inl (cC, 1120, .inl (fun _ => 0)))] := hD
  refine va_putF (D := D) (ci := 7) (v := .ref q6) (ty := .array .char) (C := R_Text) (T := F_Text) (N := 2) hx hb hts i_Text t_Text t_Text_ok n_Text hown hK hP hD hS 0 rfl rfl 0 (by decide) (hts _ (tb_1 (List.mem_of_getElem? (i := 200) rfl) rfl)) (fun _ h9 => h9) rfl hin rfl (by decide +kernel) rfl rfl (Nat.le_of_ble_eq_true rfl) d_K_Text_init_8 (fun H locs hP hD hS => ?_)
  have hP : va_P D classes [(h0, .inr (7, [.ref q6, .int 0])), (q6, .inl (cC, 1120, .inl (fun _ => 0)))] H := hP
  have hD : va_D A [(h0, .inr (7, [.ref q6, .int 0])), (q6, .inl (cC, 1120, .inl (fun _ => 0)))] := hD
  have hP9 := hP.sub (ws' := [(h0, .inr (7, [.ref q6, .int 0])), (q6, .inl (cC, 1120, .inl (fun _ => 0)))]) [0, 1] rfl
  have hD9 := hD.sub (ws' := [(h0, .inr (7, [.ref q6, .int 0])), (q6, .inl (cC, 1120, .inl (fun _ => 0)))]) [0, 1] (by decide) rfl
  exact W.vret hx hb hr (fun t ht hW => ⟨⟨(), rfl, trivial, q6, cC, by rw [ht]; exact hP9, va_K.moved hW.alike hK, hD9⟩, hS.F ht⟩) hS.2.2 d_K_Text_init_11
set_option maxHeartbeats 4000000 in
set_option maxRecDepth 100000 in
theorem ci_References {l : Launch} {D : va_G} {h0 sz : Nat}   : Met l y_K_References_init w_K_References_init ({ frames := 1, cells := 4, slots := 240, locals := 20 }) (va_Pc [.ref h0] (fun U => U.heap.size = sz ∧ va_P D classes [(h0, .inr (4, [.null, .null, .null, .null, .int 0]))] U.heap ∧ va_K D classes [] U ∧ va_D (fun _ => True) [(h0, .inr (4, [.null, .null, .null, .null, .int 0]))] ∧ nwN U)) (va_Qv (fun _ : Unit => True) (fun _ t => ∃ (q7 q15 q23 q31 : Nat) (cI : ClassId), va_P D classes [(h0, .inr (4, [.ref q7, .ref q15, .ref q23, .ref q31, .int 0])), (q7, .inl (cI, 60, .inl (fun _ => 0))), (q15, .inl (cI, 60, .inl (fun _ => 0))), (q23, .inl (cI, 60, .inl (fun _ => 0))), (q31, .inl (cI, 60, .inl (fun _ => 0)))] t.heap ∧ va_K D classes [(cI, .int)] t ∧ va_D (va_A [(h0, .inr (4, [.null, .null, .null, .null, .int 0]))] sz) [(h0, .inr (4, [.ref q7, .ref q15, .ref q23, .ref q31, .int 0])), (q7, .inl (cI, 60, .inl (fun _ => 0))), (q15, .inl (cI, 60, .inl (fun _ => 0))), (q23, .inl (cI, 60, .inl (fun _ => 0))), (q31, .inl (cI, 60, .inl (fun _ => 0)))]) (va_A [(h0, .inr (4, [.null, .null, .null, .null, .int 0]))] sz)) 4 240 (va_A [(h0, .inr (4, [.null, .null, .null, .null, .int 0]))] sz) := by
  refine Met.ofW (cc := b_K_References_init) (maxL := 1) (ret := none) (by decide) rfl ?_
  intro p e s m args below meth c s₁ B hml hv
  obtain ⟨rfl, hsz, hP, hK, hD0, hnw⟩ := hv
  have hx := B.exec
  have hb := B.bytes
  have hr := B.returns
  have hts0 := atoms_spec (ws := w_K_References_init) B.pre
  have hts : ∀ w ∈ TB, w.before _ s = true := fun w h => hts0 w (List.mem_cons_of_mem _ h)
  have hown : s.vm.findClass R_References = some m.cls := findClass_of_methodNamed B.named
  have hlocks := B.notSynchronized
  have hin : meth.name = "<init>" := (name_of_methodNamed B.named B.method).1
  subst hsz
  have hD := hD0.self (sz := s.heap.size)
  generalize hAe : va_A [(h0, .inr (4, [.null, .null, .null, .null, .int 0]))] s.heap.size = A at hD ⊢
  have hA : ∀ q : Nat, s.heap.size ≤ q → A q := fun q h => by rw [← hAe]; exact Or.inr h
  have hS : va_S A s.heap s.heap [] := va_S.rf
  have hl := lv_entry [.ref h0] (n := 1) (Nat.le_of_ble_eq_true rfl)
  rw [lg_entry_eq]
  generalize (lg_sl ([.ref h0]) ++ List.replicate (1 - (lg_sl ([.ref h0])).length) Slot.unset).toArray = ls at hl ⊢
  have hl : lv_has ls 1 [(0, .ref h0)] := hl
  refine lv_aload_n hx hb d_K_References_init_0 rfl (lv_at hl 0 rfl) ?_
  refine W.objInit hx hb hown (hts (.methodLink R_References 3 objectInit) (tb_1 (List.mem_of_getElem? (i := 171) rfl) rfl)) (hts (.instanceMethod objectInit) (tb_1 (List.mem_of_getElem? (i := 25) rfl) rfl)) (hts (.code objectInit ⟨#[0xb1]⟩ 1 none) (tb_1 (List.mem_of_getElem? (i := 26) rfl) rfl)) rfl (by rw [hml]; exact hl.1) rfl d_K_References_init_1 (Nat.le_of_ble_eq_true rfl) (Nat.le_of_ble_eq_true rfl) ?_
  refine W.eq (g2 := F0 m 4 ls []) rfl ?_
  refine lv_aload_n hx hb d_K_References_init_4 rfl (lv_at hl 0 rfl) ?_
  refine lv_bipush (v := 60) hx hb d_K_References_init_5 (by decide) ?_
  refine va_newa (ty := .int) (a0 := (60, .inl (fun _ => 0))) (N' := 60) hx hb (hts _ (tb_1 (List.mem_of_getElem? (i := 103) rfl) rfl)) rfl hK hP hD hS hA (fun _ => rfl) (by decide) (by decide) (by decide) (by decide) (by decide) d_K_References_init_7 (fun q7 cI H hK hP hD hS => ?_)
  have hK : va_K D classes [(cI, .int)] s := hK
  refine W.widen (k := 1) (n := 60) (by decide) (by decide) ?_
  have hP : va_P D classes [(h0, .inr (4, [.null, .null, .null, .null, .int 0])), (q7, .inl (cI, 60, .inl (fun _ => 0)))] H := hP
  have hD : va_D A [(h0, .inr (4, [.null, .null, .null, .null, .int 0])), (q7, .inl (cI, 60, .inl (fun _ => 0)))] := hD
  refine va_putF (D := D) (ci := 4) (v := .ref q7) (ty := .array .int) (C := R_References) (T := F_References) (N := 5) hx hb hts i_References t_References t_References_ok n_References hown hK hP hD hS 0 rfl rfl 0 (by decide) (hts _ (tb_1 (List.mem_of_getElem? (i := 172) rfl) rfl)) (fun _ h9 => h9) rfl hin rfl (by decide +kernel) rfl rfl (Nat.le_of_ble_eq_true rfl) d_K_References_init_9 (fun H locs hP hD hS => ?_)
  have hP : va_P D classes [(h0, .inr (4, [.ref q7, .null, .null, .null, .int 0])), (q7, .inl (cI, 60, .inl (fun _ => 0)))] H := hP
  have hD : va_D A [(h0, .inr (4, [.ref q7, .null, .null, .null, .int 0])), (q7, .inl (cI, 60, .inl (fun _ => 0)))] := hD
  refine lv_aload_n hx hb d_K_References_init_12 rfl (lv_at hl 0 rfl) ?_
  refine lv_bipush (v := 60) hx hb d_K_References_init_13 (by decide) ?_
  refine va_newa (ty := .int) (a0 := (60, .inl (fun _ => 0))) (N' := 60) hx hb (hts _ (tb_1 (List.mem_of_getElem? (i := 103) rfl) rfl)) rfl hK hP hD hS hA (fun _ => rfl) (by decide) (by decide) (by decide) (by decide) (by decide) d_K_References_init_15 (fun q15 c15 H hK hP hD hS => ?_)
  obtain rfl := sk_same hK 0 1 (ty := .int) rfl rfl (by decide)
  have hK : va_K D classes [(cI, .int)] s := hK.sub [0] rfl
  refine W.widen (k := 2) (n := 120) (by decide) (by decide) ?_
  have hP : va_P D classes [(h0, .inr (4, [.ref q7, .null, .null, .null, .int 0])), (q7, .inl (cI, 60, .inl (fun _ => 0))), (q15, .inl (cI, 60, .inl (fun _ => 0)))] H := hP
  have hD : va_D A [(h0, .inr (4, [.ref q7, .null, .null, .null, .int 0])), (q7, .inl (cI, 60, .inl (fun _ => 0))), (q15, .inl (cI, 60, .inl (fun _ => 0)))] := hD
  refine va_putF (D := D) (ci := 4) (v := .ref q15) (ty := .array .int) (C := R_References) (T := F_References) (N := 5) hx hb hts i_References t_References t_References_ok n_References hown hK hP hD hS 0 rfl rfl 1 (by decide) (hts _ (tb_1 (List.mem_of_getElem? (i := 174) rfl) rfl)) (fun _ h9 => h9) rfl hin rfl (by decide +kernel) rfl rfl (Nat.le_of_ble_eq_true rfl) d_K_References_init_17 (fun H locs hP hD hS => ?_)
  have hP : va_P D classes [(h0, .inr (4, [.ref q7, .ref q15, .null, .null, .int 0])), (q7, .inl (cI, 60, .inl (fun _ => 0))), (q15, .inl (cI, 60, .inl (fun _ => 0)))] H := hP
  have hD : va_D A [(h0, .inr (4, [.ref q7, .ref q15, .null, .null, .int 0])), (q7, .inl (cI, 60, .inl (fun _ => 0))), (q15, .inl (cI, 60, .inl (fun _ => 0)))] := hD
  refine lv_aload_n hx hb d_K_References_init_20 rfl (lv_at hl 0 rfl) ?_
  refine lv_bipush (v := 60) hx hb d_K_References_init_21 (by decide) ?_
  refine va_newa (ty := .int) (a0 := (60, .inl (fun _ => 0))) (N' := 60) hx hb (hts _ (tb_1 (List.mem_of_getElem? (i := 103) rfl) rfl)) rfl hK hP hD hS hA (fun _ => rfl) (by decide) (by decide) (by decide) (by decide) (by decide) d_K_References_init_23 (fun q23 c23 H hK hP hD hS => ?_)
  obtain rfl := sk_same hK 0 1 (ty := .int) rfl rfl (by decide)
  have hK : va_K D classes [(cI, .int)] s := hK.sub [0] rfl
  refine W.widen (k := 3) (n := 180) (by decide) (by decide) ?_
  have hP : va_P D classes [(h0, .inr (4, [.ref q7, .ref q15, .null, .null, .int 0])), (q7, .inl (cI, 60, .inl (fun _ => 0))), (q15, .inl (cI, 60, .inl (fun _ => 0))), (q23, .inl (cI, 60, .inl (fun _ => 0)))] H := hP
  have hD : va_D A [(h0, .inr (4, [.ref q7, .ref q15, .null, .null, .int 0])), (q7, .inl (cI, 60, .inl (fun _ => 0))), (q15, .inl (cI, 60, .inl (fun _ => 0))), (q23, .inl (cI, 60, .inl (fun _ => 0)))] := hD
  refine va_putF (D := D) (ci := 4) (v := .ref q23) (ty := .array .int) (C := R_References) (T := F_References) (N := 5) hx hb hts i_References t_References t_References_ok n_References hown hK hP hD hS 0 rfl rfl 2 (by decide) (hts _ (tb_1 (List.mem_of_getElem? (i := 176) rfl) rfl)) (fun _ h9 => h9) rfl hin rfl (by decide +kernel) rfl rfl (Nat.le_of_ble_eq_true rfl) d_K_References_init_25 (fun H locs hP hD hS => ?_)
  have hP : va_P D classes [(h0, .inr (4, [.ref q7, .ref q15, .ref q23, .null, .int 0])), (q7, .inl (cI, 60, .inl (fun _ => 0))), (q15, .inl (cI, 60, .inl (fun _ => 0))), (q23, .inl (cI, 60, .inl (fun _ => 0)))] H := hP
  have hD : va_D A [(h0, .inr (4, [.ref q7, .ref q15, .ref q23, .null, .int 0])), (q7, .inl (cI, 60, .inl (fun _ => 0))), (q15, .inl (cI, 60, .inl (fun _ => 0))), (q23, .inl (cI, 60, .inl (fun _ => 0)))] := hD
  refine lv_aload_n hx hb d_K_References_init_28 rfl (lv_at hl 0 rfl) ?_
  refine lv_bipush (v := 60) hx hb d_K_References_init_29 (by decide) ?_
  refine va_newa (ty := .int) (a0 := (60, .inl (fun _ => 0))) (N' := 60) hx hb (hts _ (tb_1 (List.mem_of_getElem? (i := 103) rfl) rfl)) rfl hK hP hD hS hA (fun _ => rfl) (by decide) (by decide) (by decide) (by decide) (by decide) d_K_References_init_31 (fun q31 c31 H hK hP hD hS => ?_)
  obtain rfl := sk_same hK 0 1 (ty := .int) rfl rfl (by decide)
  have hK : va_K D classes [(cI, .int)] s := hK.sub [0] rfl
  refine W.widen (k := 4) (n := 240) (by decide) (by decide) ?_
  have hP : va_P D classes [(h0, .inr (4, [.ref q7, .ref q15, .ref q23, .null, .int 0])), (q7, .inl (cI, 60, .inl (fun _ => 0))), (q15, .inl (cI, 60, .inl (fun _ => 0))), (q23, .inl (cI, 60, .inl (fun _ => 0))), (q31, .inl (cI, 60, .inl (fun _ => 0)))] H := hP
  have hD : va_D A [(h0, .inr (4, [.ref q7, .ref q15, .ref q23, .null, .int 0])), (q7, .inl (cI, 60, .inl (fun _ => 0))), (q15, .inl (cI, 60, .inl (fun _ => 0))), (q23, .inl (cI, 60, .inl (fun _ => 0))), (q31, .inl (cI, 60, .inl (fun _ => 0)))] := hD
  refine va_putF (D := D) (ci := 4) (v := .ref q31) (ty := .array .int) (C := R_References) (T := F_References) (N := 5) hx hb hts i_References t_References t_References_ok n_References hown hK hP hD hS 0 rfl rfl 3 (by decide) (hts _ (tb_1 (List.mem_of_getElem? (i := 178) rfl) rfl)) (fun _ h9 => h9) rfl hin rfl (by decide +kernel) rfl rfl (Nat.le_of_ble_eq_true rfl) d_K_References_init_33 (fun H locs hP hD hS => ?_)
  have hP : va_P D classes [(h0, .inr (4, [.ref q7, .ref q15, .ref q23, .ref q31, .int 0])), (q7, .inl (cI, 60, .inl (fun _ => 0))), (q15, .inl (cI, 60, .inl (fun _ => 0))), (q23, .inl (cI, 60, .inl (fun _ => 0))), (q31, .inl (cI, 60, .inl (fun _ => 0)))] H := hP
  have hD : va_D A [(h0, .inr (4, [.ref q7, .ref q15, .ref q23, .ref q31, .int 0])), (q7, .inl (cI, 60, .inl (fun _ => 0))), (q15, .inl (cI, 60, .inl (fun _ => 0))), (q23, .inl (cI, 60, .inl (fun _ => 0))), (q31, .inl (cI, 60, .inl (fun _ => 0)))] := hD
  have hP9 := hP.sub (ws' := [(h0, .inr (4, [.ref q7, .ref q15, .ref q23, .ref q31, .int 0])), (q7, .inl (cI, 60, .inl (fun _ => 0))), (q15, .inl (cI, 60, .inl (fun _ => 0))), (q23, .inl (cI, 60, .inl (fun _ => 0))), (q31, .inl (cI, 60, .inl (fun _ => 0)))]) [0, 1, 2, 3, 4] rfl
  have hD9 := hD.sub (ws' := [(h0, .inr (4, [.ref q7, .ref q15, .ref q23, .ref q31, .int 0])), (q7, .inl (cI, 60, .inl (fun _ => 0))), (q15, .inl (cI, 60, .inl (fun _ => 0))), (q23, .inl (cI, 60, .inl (fun _ => 0))), (q31, .inl (cI, 60, .inl (fun _ => 0)))]) [0, 1, 2, 3, 4] (by decide) rfl
  exact W.vret hx hb hr (fun t ht hW => ⟨⟨(), rfl, trivial, q7, q15, q23, q31, cI, by rw [ht]; exact hP9, va_K.moved hW.alike hK, hD9⟩, hS.F ht⟩) hS.2.2 d_K_References_init_36
set_option maxHeartbeats 4000000 in
set_option maxRecDepth 100000 in
theorem ci_RuleBook {l : Launch} {D : va_G} {h0 sz : Nat}   : Met l y_K_RuleBook_init w_K_RuleBook_init ({ frames := 1, cells := 6, slots := 48, locals := 20 }) (va_Pc [.ref h0] (fun U => U.heap.size = sz ∧ va_P D classes [(h0, .inr (5, [.null, .null, .null, .null, .null, .null, .int 0]))] U.heap ∧ va_K D classes [] U ∧ va_D (fun _ => True) [(h0, .inr (5, [.null, .null, .null, .null, .null, .null, .int 0]))] ∧ nwN U)) (va_Qv (fun _ : Unit => True) (fun _ t => ∃ (q7 q15 q23 q31 q39 q47 : Nat) (cI cJ : ClassId), va_P D classes [(h0, .inr (5, [.ref q7, .ref q15, .ref q23, .ref q31, .ref q39, .ref q47, .int 0])), (q7, .inl (cI, 8, .inl (fun _ => 0))), (q15, .inl (cJ, 8, .inr (.inl (fun _ => 0)))), (q23, .inl (cJ, 8, .inr (.inl (fun _ => 0)))), (q31, .inl (cJ, 8, .inr (.inl (fun _ => 0)))), (q39, .inl (cJ, 8, .inr (.inl (fun _ => 0)))), (q47, .inl (cJ, 8, .inr (.inl (fun _ => 0))))] t.heap ∧ va_K D classes [(cI, .int), (cJ, .long)] t ∧ va_D (va_A [(h0, .inr (5, [.null, .null, .null, .null, .null, .null, .int 0]))] sz) [(h0, .inr (5, [.ref q7, .ref q15, .ref q23, .ref q31, .ref q39, .ref q47, .int 0])), (q7, .inl (cI, 8, .inl (fun _ => 0))), (q15, .inl (cJ, 8, .inr (.inl (fun _ => 0)))), (q23, .inl (cJ, 8, .inr (.inl (fun _ => 0)))), (q31, .inl (cJ, 8, .inr (.inl (fun _ => 0)))), (q39, .inl (cJ, 8, .inr (.inl (fun _ => 0)))), (q47, .inl (cJ, 8, .inr (.inl (fun _ => 0))))]) (va_A [(h0, .inr (5, [.null, .null, .null, .null, .null, .null, .int 0]))] sz)) 6 48 (va_A [(h0, .inr (5, [.null, .null, .null, .null, .null, .null, .int 0]))] sz) := by
  refine Met.ofW (cc := b_K_RuleBook_init) (maxL := 1) (ret := none) (by decide) rfl ?_
  intro p e s m args below meth c s₁ B hml hv
  obtain ⟨rfl, hsz, hP, hK, hD0, hnw⟩ := hv
  have hx := B.exec
  have hb := B.bytes
  have hr := B.returns
  have hts0 := atoms_spec (ws := w_K_RuleBook_init) B.pre
  have hts : ∀ w ∈ TB, w.before _ s = true := fun w h => hts0 w (List.mem_cons_of_mem _ h)
  have hown : s.vm.findClass R_RuleBook = some m.cls := findClass_of_methodNamed B.named
  have hlocks := B.notSynchronized
  have hin : meth.name = "<init>" := (name_of_methodNamed B.named B.method).1
  subst hsz
  have hD := hD0.self (sz := s.heap.size)
  generalize hAe : va_A [(h0, .inr (5, [.null, .null, .null, .null, .null, .null, .int 0]))] s.heap.size = A at hD ⊢
  have hA : ∀ q : Nat, s.heap.size ≤ q → A q := fun q h => by rw [← hAe]; exact Or.inr h
  have hS : va_S A s.heap s.heap [] := va_S.rf
  have hl := lv_entry [.ref h0] (n := 1) (Nat.le_of_ble_eq_true rfl)
  rw [lg_entry_eq]
  generalize (lg_sl ([.ref h0]) ++ List.replicate (1 - (lg_sl ([.ref h0])).length) Slot.unset).toArray = ls at hl ⊢
  have hl : lv_has ls 1 [(0, .ref h0)] := hl
  refine lv_aload_n hx hb d_K_RuleBook_init_0 rfl (lv_at hl 0 rfl) ?_
  refine W.objInit hx hb hown (hts (.methodLink R_RuleBook 3 objectInit) (tb_2 (List.mem_of_getElem? (i := 16) rfl) rfl)) (hts (.instanceMethod objectInit) (tb_1 (List.mem_of_getElem? (i := 25) rfl) rfl)) (hts (.code objectInit ⟨#[0xb1]⟩ 1 none) (tb_1 (List.mem_of_getElem? (i := 26) rfl) rfl)) rfl (by rw [hml]; exact hl.1) rfl d_K_RuleBook_init_1 (Nat.le_of_ble_eq_true rfl) (Nat.le_of_ble_eq_true rfl) ?_
  refine W.eq (g2 := F0 m 4 ls []) rfl ?_
  refine lv_aload_n hx hb d_K_RuleBook_init_4 rfl (lv_at hl 0 rfl) ?_
  refine lv_bipush (v := 8) hx hb d_K_RuleBook_init_5 (by decide) ?_
  refine va_newa (ty := .int) (a0 := (8, .inl (fun _ => 0))) (N' := 8) hx hb (hts _ (tb_1 (List.mem_of_getElem? (i := 103) rfl) rfl)) rfl hK hP hD hS hA (fun _ => rfl) (by decide) (by decide) (by decide) (by decide) (by decide) d_K_RuleBook_init_7 (fun q7 cI H hK hP hD hS => ?_)
  have hK : va_K D classes [(cI, .int)] s := hK
  refine W.widen (k := 1) (n := 8) (by decide) (by decide) ?_
  have hP : va_P D classes [(h0, .inr (5, [.null, .null, .null, .null, .null, .null, .int 0])), (q7, .inl (cI, 8, .inl (fun _ => 0)))] H := hP
  have hD : va_D A [(h0, .inr (5, [.null, .null, .null, .null, .null, .null, .int 0])), (q7, .inl (cI, 8, .inl (fun _ => 0)))] := hD
  refine va_putF (D := D) (ci := 5) (v := .ref q7) (ty := .array .int) (C := R_RuleBook) (T := F_RuleBook) (N := 7) hx hb hts i_RuleBook t_RuleBook t_RuleBook_ok n_RuleBook hown hK hP hD hS 0 rfl rfl 0 (by decide) (hts _ (tb_2 (List.mem_of_getElem? (i := 17) rfl) rfl)) (fun _ h9 => h9) rfl hin rfl (by decide +kernel) rfl rfl (Nat.le_of_ble_eq_true rfl) d_K_RuleBook_init_9 (fun H locs hP hD hS => ?_)
  have hP : va_P D classes [(h0, .inr (5, [.ref q7, .null, .null, .null, .null, .null, .int 0])), (q7, .inl (cI, 8, .inl (fun _ => 0)))] H := hP
  have hD : va_D A [(h0, .inr (5, [.ref q7, .null, .null, .null, .null, .null, .int 0])), (q7, .inl (cI, 8, .inl (fun _ => 0)))] := hD
  refine lv_aload_n hx hb d_K_RuleBook_init_12 rfl (lv_at hl 0 rfl) ?_
  refine lv_bipush (v := 8) hx hb d_K_RuleBook_init_13 (by decide) ?_
  refine va_newa (ty := .long) (a0 := (8, .inr (.inl (fun _ => 0)))) (N' := 8) hx hb (hts _ (tb_1 (List.mem_of_getElem? (i := 104) rfl) rfl)) rfl hK hP hD hS hA (fun _ => rfl) (by decide) (by decide) (by decide) (by decide) (by decide) d_K_RuleBook_init_15 (fun q15 cJ H hK hP hD hS => ?_)
  have hK : va_K D classes [(cI, .int), (cJ, .long)] s := hK
  refine W.widen (k := 2) (n := 16) (by decide) (by decide) ?_
  have hP : va_P D classes [(h0, .inr (5, [.ref q7, .null, .null, .null, .null, .null, .int 0])), (q7, .inl (cI, 8, .inl (fun _ => 0))), (q15, .inl (cJ, 8, .inr (.inl (fun _ => 0))))] H := hP
  have hD : va_D A [(h0, .inr (5, [.ref q7, .null, .null, .null, .null, .null, .int 0])), (q7, .inl (cI, 8, .inl (fun _ => 0))), (q15, .inl (cJ, 8, .inr (.inl (fun _ => 0))))] := hD
  refine va_putF (D := D) (ci := 5) (v := .ref q15) (ty := .array .long) (C := R_RuleBook) (T := F_RuleBook) (N := 7) hx hb hts i_RuleBook t_RuleBook t_RuleBook_ok n_RuleBook hown hK hP hD hS 0 rfl rfl 1 (by decide) (hts _ (tb_2 (List.mem_of_getElem? (i := 20) rfl) rfl)) (fun _ h9 => h9) rfl hin rfl (by decide +kernel) rfl rfl (Nat.le_of_ble_eq_true rfl) d_K_RuleBook_init_17 (fun H locs hP hD hS => ?_)
  have hP : va_P D classes [(h0, .inr (5, [.ref q7, .ref q15, .null, .null, .null, .null, .int 0])), (q7, .inl (cI, 8, .inl (fun _ => 0))), (q15, .inl (cJ, 8, .inr (.inl (fun _ => 0))))] H := hP
  have hD : va_D A [(h0, .inr (5, [.ref q7, .ref q15, .null, .null, .null, .null, .int 0])), (q7, .inl (cI, 8, .inl (fun _ => 0))), (q15, .inl (cJ, 8, .inr (.inl (fun _ => 0))))] := hD
  refine lv_aload_n hx hb d_K_RuleBook_init_20 rfl (lv_at hl 0 rfl) ?_
  refine lv_bipush (v := 8) hx hb d_K_RuleBook_init_21 (by decide) ?_
  refine va_newa (ty := .long) (a0 := (8, .inr (.inl (fun _ => 0)))) (N' := 8) hx hb (hts _ (tb_1 (List.mem_of_getElem? (i := 104) rfl) rfl)) rfl hK hP hD hS hA (fun _ => rfl) (by decide) (by decide) (by decide) (by decide) (by decide) d_K_RuleBook_init_23 (fun q23 c23 H hK hP hD hS => ?_)
  obtain rfl := sk_same hK 1 2 (ty := .long) rfl rfl (by decide)
  have hK : va_K D classes [(cI, .int), (cJ, .long)] s := hK.sub [0, 1] rfl
  refine W.widen (k := 3) (n := 24) (by decide) (by decide) ?_
  have hP : va_P D classes [(h0, .inr (5, [.ref q7, .ref q15, .null, .null, .null, .null, .int 0])), (q7, .inl (cI, 8, .inl (fun _ => 0))), (q15, .inl (cJ, 8, .inr (.inl (fun _ => 0)))), (q23, .inl (cJ, 8, .inr (.inl (fun _ => 0))))] H := hP
  have hD : va_D A [(h0, .inr (5, [.ref q7, .ref q15, .null, .null, .null, .null, .int 0])), (q7, .inl (cI, 8, .inl (fun _ => 0))), (q15, .inl (cJ, 8, .inr (.inl (fun _ => 0)))), (q23, .inl (cJ, 8, .inr (.inl (fun _ => 0))))] := hD
  refine va_putF (D := D) (ci := 5) (v := .ref q23) (ty := .array .long) (C := R_RuleBook) (T := F_RuleBook) (N := 7) hx hb hts i_RuleBook t_RuleBook t_RuleBook_ok n_RuleBook hown hK hP hD hS 0 rfl rfl 2 (by decide) (hts _ (tb_2 (List.mem_of_getElem? (i := 21) rfl) rfl)) (fun _ h9 => h9) rfl hin rfl (by decide +kernel) rfl rfl (Nat.le_of_ble_eq_true rfl) d_K_RuleBook_init_25 (fun H locs hP hD hS => ?_)
  have hP : va_P D classes [(h0, .inr (5, [.ref q7, .ref q15, .ref q23, .null, .null, .null, .int 0])), (q7, .inl (cI, 8, .inl (fun _ => 0))), (q15, .inl (cJ, 8, .inr (.inl (fun _ => 0)))), (q23, .inl (cJ, 8, .inr (.inl (fun _ => 0))))] H := hP
  have hD : va_D A [(h0, .inr (5, [.ref q7, .ref q15, .ref q23, .null, .null, .null, .int 0])), (q7, .inl (cI, 8, .inl (fun _ => 0))), (q15, .inl (cJ, 8, .inr (.inl (fun _ => 0)))), (q23, .inl (cJ, 8, .inr (.inl (fun _ => 0))))] := hD
  refine lv_aload_n hx hb d_K_RuleBook_init_28 rfl (lv_at hl 0 rfl) ?_
  refine lv_bipush (v := 8) hx hb d_K_RuleBook_init_29 (by decide) ?_
  refine va_newa (ty := .long) (a0 := (8, .inr (.inl (fun _ => 0)))) (N' := 8) hx hb (hts _ (tb_1 (List.mem_of_getElem? (i := 104) rfl) rfl)) rfl hK hP hD hS hA (fun _ => rfl) (by decide) (by decide) (by decide) (by decide) (by decide) d_K_RuleBook_init_31 (fun q31 c31 H hK hP hD hS => ?_)
  obtain rfl := sk_same hK 1 2 (ty := .long) rfl rfl (by decide)
  have hK : va_K D classes [(cI, .int), (cJ, .long)] s := hK.sub [0, 1] rfl
  refine W.widen (k := 4) (n := 32) (by decide) (by decide) ?_
  have hP : va_P D classes [(h0, .inr (5, [.ref q7, .ref q15, .ref q23, .null, .null, .null, .int 0])), (q7, .inl (cI, 8, .inl (fun _ => 0))), (q15, .inl (cJ, 8, .inr (.inl (fun _ => 0)))), (q23, .inl (cJ, 8, .inr (.inl (fun _ => 0)))), (q31, .inl (cJ, 8, .inr (.inl (fun _ => 0))))] H := hP
  have hD : va_D A [(h0, .inr (5, [.ref q7, .ref q15, .ref q23, .null, .null, .null, .int 0])), (q7, .inl (cI, 8, .inl (fun _ => 0))), (q15, .inl (cJ, 8, .inr (.inl (fun _ => 0)))), (q23, .inl (cJ, 8, .inr (.inl (fun _ => 0)))), (q31, .inl (cJ, 8, .inr (.inl (fun _ => 0))))] := hD
  refine va_putF (D := D) (ci := 5) (v := .ref q31) (ty := .array .long) (C := R_RuleBook) (T := F_RuleBook) (N := 7) hx hb hts i_RuleBook t_RuleBook t_RuleBook_ok n_RuleBook hown hK hP hD hS 0 rfl rfl 3 (by decide) (hts _ (tb_2 (List.mem_of_getElem? (i := 22) rfl) rfl)) (fun _ h9 => h9) rfl hin rfl (by decide +kernel) rfl rfl (Nat.le_of_ble_eq_true rfl) d_K_RuleBook_init_33 (fun H locs hP hD hS => ?_)
  have hP : va_P D classes [(h0, .inr (5, [.ref q7, .ref q15, .ref q23, .ref q31, .null, .null, .int 0])), (q7, .inl (cI, 8, .inl (fun _ => 0))), (q15, .inl (cJ, 8, .inr (.inl (fun _ => 0)))), (q23, .inl (cJ, 8, .inr (.inl (fun _ => 0)))), (q31, .inl (cJ, 8, .inr (.inl (fun _ => 0))))] H := hP
  have hD : va_D A [(h0, .inr (5, [.ref q7, .ref q15, .ref q23, .ref q31, .null, .null, .int 0])), (q7, .inl (cI, 8, .inl (fun _ => 0))), (q15, .inl (cJ, 8, .inr (.inl (fun _ => 0)))), (q23, .inl (cJ, 8, .inr (.inl (fun _ => 0)))), (q31, .inl (cJ, 8, .inr (.inl (fun _ => 0))))] := hD
  refine lv_aload_n hx hb d_K_RuleBook_init_36 rfl (lv_at hl 0 rfl) ?_
  refine lv_bipush (v := 8) hx hb d_K_RuleBook_init_37 (by decide) ?_
  refine va_newa (ty := .long) (a0 := (8, .inr (.inl (fun _ => 0)))) (N' := 8) hx hb (hts _ (tb_1 (List.mem_of_getElem? (i := 104) rfl) rfl)) rfl hK hP hD hS hA (fun _ => rfl) (by decide) (by decide) (by decide) (by decide) (by decide) d_K_RuleBook_init_39 (fun q39 c39 H hK hP hD hS => ?_)
  obtain rfl := sk_same hK 1 2 (ty := .long) rfl rfl (by decide)
  have hK : va_K D classes [(cI, .int), (cJ, .long)] s := hK.sub [0, 1] rfl
  refine W.widen (k := 5) (n := 40) (by decide) (by decide) ?_
  have hP : va_P D classes [(h0, .inr (5, [.ref q7, .ref q15, .ref q23, .ref q31, .null, .null, .int 0])), (q7, .inl (cI, 8, .inl (fun _ => 0))), (q15, .inl (cJ, 8, .inr (.inl (fun _ => 0)))), (q23, .inl (cJ, 8, .inr (.inl (fun _ => 0)))), (q31, .inl (cJ, 8, .inr (.inl (fun _ => 0)))), (q39, .inl (cJ, 8, .inr (.inl (fun _ => 0))))] H := hP
  have hD : va_D A [(h0, .inr (5, [.ref q7, .ref q15, .ref q23, .ref q31, .null, .null, .int 0])), (q7, .inl (cI, 8, .inl (fun _ => 0))), (q15, .inl (cJ, 8, .inr (.inl (fun _ => 0)))), (q23, .inl (cJ, 8, .inr (.inl (fun _ => 0)))), (q31, .inl (cJ, 8, .inr (.inl (fun _ => 0)))), (q39, .inl (cJ, 8, .inr (.inl (fun _ => 0))))] := hD
  refine va_putF (D := D) (ci := 5) (v := .ref q39) (ty := .array .long) (C := R_RuleBook) (T := F_RuleBook) (N := 7) hx hb hts i_RuleBook t_RuleBook t_RuleBook_ok n_RuleBook hown hK hP hD hS 0 rfl rfl 4 (by decide) (hts _ (tb_2 (List.mem_of_getElem? (i := 23) rfl) rfl)) (fun _ h9 => h9) rfl hin rfl (by decide +kernel) rfl rfl (Nat.le_of_ble_eq_true rfl) d_K_RuleBook_init_41 (fun H locs hP hD hS => ?_)
  have hP : va_P D classes [(h0, .inr (5, [.ref q7, .ref q15, .ref q23, .ref q31, .ref q39, .null, .int 0])), (q7, .inl (cI, 8, .inl (fun _ => 0))), (q15, .inl (cJ, 8, .inr (.inl (fun _ => 0)))), (q23, .inl (cJ, 8, .inr (.inl (fun _ => 0)))), (q31, .inl (cJ, 8, .inr (.inl (fun _ => 0)))), (q39, .inl (cJ, 8, .inr (.inl (fun _ => 0))))] H := hP
  have hD : va_D A [(h0, .inr (5, [.ref q7, .ref q15, .ref q23, .ref q31, .ref q39, .null, .int 0])), (q7, .inl (cI, 8, .inl (fun _ => 0))), (q15, .inl (cJ, 8, .inr (.inl (fun _ => 0)))), (q23, .inl (cJ, 8, .inr (.inl (fun _ => 0)))), (q31, .inl (cJ, 8, .inr (.inl (fun _ => 0)))), (q39, .inl (cJ, 8, .inr (.inl (fun _ => 0))))] := hD
  refine lv_aload_n hx hb d_K_RuleBook_init_44 rfl (lv_at hl 0 rfl) ?_
  refine lv_bipush (v := 8) hx hb d_K_RuleBook_init_45 (by decide) ?_
  refine va_newa (ty := .long) (a0 := (8, .inr (.inl (fun _ => 0)))) (N' := 8) hx hb (hts _ (tb_1 (List.mem_of_getElem? (i := 104) rfl) rfl)) rfl hK hP hD hS hA (fun _ => rfl) (by decide) (by decide) (by decide) (by decide) (by decide) d_K_RuleBook_init_47 (fun q47 c47 H hK hP hD hS => ?_)
  obtain rfl := sk_same hK 1 2 (ty := .long) rfl rfl (by decide)
  have hK : va_K D classes [(cI, .int), (cJ, .long)] s := hK.sub [0, 1] rfl
  refine W.widen (k := 6) (n := 48) (by decide) (by decide) ?_
  have hP : va_P D classes [(h0, .inr (5, [.ref q7, .ref q15, .ref q23, .ref q31, .ref q39, .null, .int 0])), (q7, .inl (cI, 8, .inl (fun _ => 0))), (q15, .inl (cJ, 8, .inr (.inl (fun _ => 0)))), (q23, .inl (cJ, 8, .inr (.inl (fun _ => 0)))), (q31, .inl (cJ, 8, .inr (.inl (fun _ => 0)))), (q39, .inl (cJ, 8, .inr (.inl (fun _ => 0)))), (q47, .inl (cJ, 8, .inr (.inl (fun _ => 0))))] H := hP
  have hD : va_D A [(h0, .inr (5, [.ref q7, .ref q15, .ref q23, .ref q31, .ref q39, .null, .int 0])), (q7, .inl (cI, 8, .inl (fun _ => 0))), (q15, .inl (cJ, 8, .inr (.inl (fun _ => 0)))), (q23, .inl (cJ, 8, .inr (.inl (fun _ => 0)))), (q31, .inl (cJ, 8, .inr (.inl (fun _ => 0)))), (q39, .inl (cJ, 8, .inr (.inl (fun _ => 0)))), (q47, .inl (cJ, 8, .inr (.inl (fun _ => 0))))] := hD
  refine va_putF (D := D) (ci := 5) (v := .ref q47) (ty := .array .long) (C := R_RuleBook) (T := F_RuleBook) (N := 7) hx hb hts i_RuleBook t_RuleBook t_RuleBook_ok n_RuleBook hown hK hP hD hS 0 rfl rfl 5 (by decide) (hts _ (tb_2 (List.mem_of_getElem? (i := 26) rfl) rfl)) (fun _ h9 => h9) rfl hin rfl (by decide +kernel) rfl rfl (Nat.le_of_ble_eq_true rfl) d_K_RuleBook_init_49 (fun H locs hP hD hS => ?_)
  have hP : va_P D classes [(h0, .inr (5, [.ref q7, .ref q15, .ref q23, .ref q31, .ref q39, .ref q47, .int 0])), (q7, .inl (cI, 8, .inl (fun _ => 0))), (q15, .inl (cJ, 8, .inr (.inl (fun _ => 0)))), (q23, .inl (cJ, 8, .inr (.inl (fun _ => 0)))), (q31, .inl (cJ, 8, .inr (.inl (fun _ => 0)))), (q39, .inl (cJ, 8, .inr (.inl (fun _ => 0)))), (q47, .inl (cJ, 8, .inr (.inl (fun _ => 0))))] H := hP
  have hD : va_D A [(h0, .inr (5, [.ref q7, .ref q15, .ref q23, .ref q31, .ref q39, .ref q47, .int 0])), (q7, .inl (cI, 8, .inl (fun _ => 0))), (q15, .inl (cJ, 8, .inr (.inl (fun _ => 0)))), (q23, .inl (cJ, 8, .inr (.inl (fun _ => 0)))), (q31, .inl (cJ, 8, .inr (.inl (fun _ => 0)))), (q39, .inl (cJ, 8, .inr (.inl (fun _ => 0)))), (q47, .inl (cJ, 8, .inr (.inl (fun _ => 0))))] := hD
  have hP9 := hP.sub (ws' := [(h0, .inr (5, [.ref q7, .ref q15, .ref q23, .ref q31, .ref q39, .ref q47, .int 0])), (q7, .inl (cI, 8, .inl (fun _ => 0))), (q15, .inl (cJ, 8, .inr (.inl (fun _ => 0)))), (q23, .inl (cJ, 8, .inr (.inl (fun _ => 0)))), (q31, .inl (cJ, 8, .inr (.inl (fun _ => 0)))), (q39, .inl (cJ, 8, .inr (.inl (fun _ => 0)))), (q47, .inl (cJ, 8, .inr (.inl (fun _ => 0))))]) [0, 1, 2, 3, 4, 5, 6] rfl
  have hD9 := hD.sub (ws' := [(h0, .inr (5, [.ref q7, .ref q15, .ref q23, .ref q31, .ref q39, .ref q47, .int 0])), (q7, .inl (cI, 8, .inl (fun _ => 0))), (q15, .inl (cJ, 8, .inr (.inl (fun _ => 0)))), (q23, .inl (cJ, 8, .inr (.inl (fun _ => 0)))), (q31, .inl (cJ, 8, .inr (.inl (fun _ => 0)))), (q39, .inl (cJ, 8, .inr (.inl (fun _ => 0)))), (q47, .inl (cJ, 8, .inr (.inl (fun _ => 0))))]) [0, 1, 2, 3, 4, 5, 6] (by decide) rfl
  exact W.vret hx hb hr (fun t ht hW => ⟨⟨(), rfl, trivial, q7, q15, q23, q31, q39, q47, cI, cJ, by rw [ht]; exact hP9, va_K.moved hW.alike hK, hD9⟩, hS.F ht⟩) hS.2.2 d_K_RuleBook_init_52
set_option maxHeartbeats 4000000 in
set_option maxRecDepth 100000 in
theorem ci_Needs {l : Launch} {D : va_G} {h0 sz : Nat} {p1 : Nat} {p2 : Nat} {p3 : Nat} {p4 : Nat}  : Met l y_K_Needs_init w_K_Needs_init ({ frames := 1, cells := 0, slots := 0, locals := 20 }) (va_Pc [.ref h0, .ref p1, .ref p2, .ref p3, .ref p4] (fun U => U.heap.size = sz ∧ va_P D classes [(h0, .inr (3, [.null, .null, .null, .null, .long 0, .long 0, .long 0, .long 0]))] U.heap ∧ va_K D classes [] U ∧ va_D (fun _ => True) [(h0, .inr (3, [.null, .null, .null, .null, .long 0, .long 0, .long 0, .long 0]))] ∧ nwN U)) (va_Qv (fun _ : Unit => True) (fun _ t => va_P D classes [(h0, .inr (3, [.ref p1, .ref p2, .ref p3, .ref p4, .long 0, .long 0, .long 0, .long 0]))] t.heap ∧ va_K D classes [] t ∧ va_D (va_A [(h0, .inr (3, [.null, .null, .null, .null, .long 0, .long 0, .long 0, .long 0]))] sz) [(h0, .inr (3, [.ref p1, .ref p2, .ref p3, .ref p4, .long 0, .long 0, .long 0, .long 0]))]) (va_A [(h0, .inr (3, [.null, .null, .null, .null, .long 0, .long 0, .long 0, .long 0]))] sz)) 0 0 (va_A [(h0, .inr (3, [.null, .null, .null, .null, .long 0, .long 0, .long 0, .long 0]))] sz) := by
  refine Met.ofW (cc := b_K_Needs_init) (maxL := 5) (ret := none) (by decide) rfl ?_
  intro p e s m args below meth c s₁ B hml hv
  obtain ⟨rfl, hsz, hP, hK, hD0, hnw⟩ := hv
  have hx := B.exec
  have hb := B.bytes
  have hr := B.returns
  have hts0 := atoms_spec (ws := w_K_Needs_init) B.pre
  have hts : ∀ w ∈ TB, w.before _ s = true := fun w h => hts0 w (List.mem_cons_of_mem _ h)
  have hown : s.vm.findClass R_Needs = some m.cls := findClass_of_methodNamed B.named
  have hlocks := B.notSynchronized
  have hin : meth.name = "<init>" := (name_of_methodNamed B.named B.method).1
  subst hsz
  have hD := hD0.self (sz := s.heap.size)
  generalize hAe : va_A [(h0, .inr (3, [.null, .null, .null, .null, .long 0, .long 0, .long 0, .long 0]))] s.heap.size = A at hD ⊢
  have hA : ∀ q : Nat, s.heap.size ≤ q → A q := fun q h => by rw [← hAe]; exact Or.inr h
  have hS : va_S A s.heap s.heap [] := va_S.rf
  have hl := lv_entry [.ref h0, .ref p1, .ref p2, .ref p3, .ref p4] (n := 5) (Nat.le_of_ble_eq_true rfl)
  rw [lg_entry_eq]
  generalize (lg_sl ([.ref h0, .ref p1, .ref p2, .ref p3, .ref p4]) ++ List.replicate (5 - (lg_sl ([.ref h0, .ref p1, .ref p2, .ref p3, .ref p4])).length) Slot.unset).toArray = ls at hl ⊢
  have hl : lv_has ls 5 [(0, .ref h0), (1, .ref p1), (2, .ref p2), (3, .ref p3), (4, .ref p4)] := hl
  refine lv_aload_n hx hb d_K_Needs_init_0 rfl (lv_at hl 0 rfl) ?_
  refine W.objInit hx hb hown (hts (.methodLink R_Needs 3 objectInit) (tb_2 (List.mem_of_getElem? (i := 53) rfl) rfl)) (hts (.instanceMethod objectInit) (tb_1 (List.mem_of_getElem? (i := 25) rfl) rfl)) (hts (.code objectInit ⟨#[0xb1]⟩ 1 none) (tb_1 (List.mem_of_getElem? (i := 26) rfl) rfl)) rfl (by rw [hml]; exact hl.1) rfl d_K_Needs_init_1 (Nat.le_of_ble_eq_true rfl) (Nat.le_of_ble_eq_true rfl) ?_
  refine W.eq (g2 := F0 m 4 ls []) rfl ?_
  refine lv_aload_n hx hb d_K_Needs_init_4 rfl (lv_at hl 0 rfl) ?_
  refine lv_aload_n hx hb d_K_Needs_init_5 rfl (lv_at hl 1 rfl) ?_
  refine va_putF (D := D) (ci := 3) (v := .ref p1) (ty := .object "ShrinkForge$Types") (C := R_Needs) (T := F_Needs) (N := 8) hx hb hts i_Needs t_Needs t_Needs_ok n_Needs hown hK hP hD hS 0 rfl rfl 0 (by decide) (hts _ (tb_2 (List.mem_of_getElem? (i := 54) rfl) rfl)) (fun _ h9 => h9) rfl hin rfl (by decide +kernel) rfl rfl (Nat.le_of_ble_eq_true rfl) d_K_Needs_init_6 (fun H locs hP hD hS => ?_)
  have hP : va_P D classes [(h0, .inr (3, [.ref p1, .null, .null, .null, .long 0, .long 0, .long 0, .long 0]))] H := hP
  have hD : va_D A [(h0, .inr (3, [.ref p1, .null, .null, .null, .long 0, .long 0, .long 0, .long 0]))] := hD
  refine lv_aload_n hx hb d_K_Needs_init_9 rfl (lv_at hl 0 rfl) ?_
  refine lv_aload_n hx hb d_K_Needs_init_10 rfl (lv_at hl 2 rfl) ?_
  refine va_putF (D := D) (ci := 3) (v := .ref p2) (ty := .object "ShrinkForge$Members") (C := R_Needs) (T := F_Needs) (N := 8) hx hb hts i_Needs t_Needs t_Needs_ok n_Needs hown hK hP hD hS 0 rfl rfl 1 (by decide) (hts _ (tb_2 (List.mem_of_getElem? (i := 55) rfl) rfl)) (fun _ h9 => h9) rfl hin rfl (by decide +kernel) rfl rfl (Nat.le_of_ble_eq_true rfl) d_K_Needs_init_11 (fun H locs hP hD hS => ?_)
  have hP : va_P D classes [(h0, .inr (3, [.ref p1, .ref p2, .null, .null, .long 0, .long 0, .long 0, .long 0]))] H := hP
  have hD : va_D A [(h0, .inr (3, [.ref p1, .ref p2, .null, .null, .long 0, .long 0, .long 0, .long 0]))] := hD
  refine lv_aload_n hx hb d_K_Needs_init_14 rfl (lv_at hl 0 rfl) ?_
  refine lv_aload_n hx hb d_K_Needs_init_15 rfl (lv_at hl 3 rfl) ?_
  refine va_putF (D := D) (ci := 3) (v := .ref p3) (ty := .object "ShrinkForge$References") (C := R_Needs) (T := F_Needs) (N := 8) hx hb hts i_Needs t_Needs t_Needs_ok n_Needs hown hK hP hD hS 0 rfl rfl 2 (by decide) (hts _ (tb_2 (List.mem_of_getElem? (i := 56) rfl) rfl)) (fun _ h9 => h9) rfl hin rfl (by decide +kernel) rfl rfl (Nat.le_of_ble_eq_true rfl) d_K_Needs_init_16 (fun H locs hP hD hS => ?_)
  have hP : va_P D classes [(h0, .inr (3, [.ref p1, .ref p2, .ref p3, .null, .long 0, .long 0, .long 0, .long 0]))] H := hP
  have hD : va_D A [(h0, .inr (3, [.ref p1, .ref p2, .ref p3, .null, .long 0, .long 0, .long 0, .long 0]))] := hD
  refine lv_aload_n hx hb d_K_Needs_init_19 rfl (lv_at hl 0 rfl) ?_
  refine lv_aload hx hb d_K_Needs_init_20 (lv_at hl 4 rfl) ?_
  refine va_putF (D := D) (ci := 3) (v := .ref p4) (ty := .object "ShrinkForge$RuleBook") (C := R_Needs) (T := F_Needs) (N := 8) hx hb hts i_Needs t_Needs t_Needs_ok n_Needs hown hK hP hD hS 0 rfl rfl 3 (by decide) (hts _ (tb_2 (List.mem_of_getElem? (i := 57) rfl) rfl)) (fun _ h9 => h9) rfl hin rfl (by decide +kernel) rfl rfl (Nat.le_of_ble_eq_true rfl) d_K_Needs_init_22 (fun H locs hP hD hS => ?_)
  have hP : va_P D classes [(h0, .inr (3, [.ref p1, .ref p2, .ref p3, .ref p4, .long 0, .long 0, .long 0, .long 0]))] H := hP
  have hD : va_D A [(h0, .inr (3, [.ref p1, .ref p2, .ref p3, .ref p4, .long 0, .long 0, .long 0, .long 0]))] := hD
  have hP9 := hP.sub (ws' := [(h0, .inr (3, [.ref p1, .ref p2, .ref p3, .ref p4, .long 0, .long 0, .long 0, .long 0]))]) [0] rfl
  have hD9 := hD.sub (ws' := [(h0, .inr (3, [.ref p1, .ref p2, .ref p3, .ref p4, .long 0, .long 0, .long 0, .long 0]))]) [0] (by decide) rfl
  exact W.vret hx hb hr (fun t ht hW => ⟨⟨(), rfl, trivial, by rw [ht]; exact hP9, va_K.moved hW.alike hK, hD9⟩, hS.F ht⟩) hS.2.2 d_K_Needs_init_25
set_option maxHeartbeats 4000000 in
set_option maxRecDepth 100000 in
theorem ci_Names {l : Launch} {D : va_G} {h0 sz : Nat} {p1 : Nat} {p2 : Nat} {p3 : Nat} {p4 : Nat}  : Met l y_K_Names_init w_K_Names_init ({ frames := 1, cells := 2, slots := 42, locals := 20 }) (va_Pc [.ref h0, .ref p1, .ref p2, .ref p3, .ref p4] (fun U => U.heap.size = sz ∧ va_P D classes [(h0, .inr (2, [.null, .null, .null, .null, .null, .null, .long 0, .long 0]))] U.heap ∧ va_K D classes [] U ∧ va_D (fun _ => True) [(h0, .inr (2, [.null, .null, .null, .null, .null, .null, .long 0, .long 0]))] ∧ nwN U)) (va_Qv (fun _ : Unit => True) (fun _ t => ∃ (q7 q15 : Nat) (cC : ClassId), va_P D classes [(h0, .inr (2, [.ref p1, .ref p2, .ref p3, .ref p4, .ref q7, .ref q15, .long 0, .long 0])), (q7, .inl (cC, 10, .inl (fun _ => 0))), (q15, .inl (cC, 32, .inl (fun _ => 0)))] t.heap ∧ va_K D classes [(cC, .char)] t ∧ va_D (va_A [(h0, .inr (2, [.null, .null, .null, .null, .null, .null, .long 0, .long 0]))] sz) [(h0, .inr (2, [.ref p1, .ref p2, .ref p3, .ref p4, .ref q7, .ref q15, .long 0, .long 0])), (q7, .inl (cC, 10, .inl (fun _ => 0))), (q15, .inl (cC, 32, .inl (fun _ => 0)))]) (va_A [(h0, .inr (2, [.null, .null, .null, .null, .null, .null, .long 0, .long 0]))] sz)) 2 42 (va_A [(h0, .inr (2, [.null, .null, .null, .null, .null, .null, .long 0, .long 0]))] sz) := by
  refine Met.ofW (cc := b_K_Names_init) (maxL := 5) (ret := none) (by decide) rfl ?_
  intro p e s m args below meth c s₁ B hml hv
  obtain ⟨rfl, hsz, hP, hK, hD0, hnw⟩ := hv
  have hx := B.exec
  have hb := B.bytes
  have hr := B.returns
  have hts0 := atoms_spec (ws := w_K_Names_init) B.pre
  have hts : ∀ w ∈ TB, w.before _ s = true := fun w h => hts0 w (List.mem_cons_of_mem _ h)
  have hown : s.vm.findClass R_Names = some m.cls := findClass_of_methodNamed B.named
  have hlocks := B.notSynchronized
  have hin : meth.name = "<init>" := (name_of_methodNamed B.named B.method).1
  subst hsz
  have hD := hD0.self (sz := s.heap.size)
  generalize hAe : va_A [(h0, .inr (2, [.null, .null, .null, .null, .null, .null, .long 0, .long 0]))] s.heap.size = A at hD ⊢
  have hA : ∀ q : Nat, s.heap.size ≤ q → A q := fun q h => by rw [← hAe]; exact Or.inr h
  have hS : va_S A s.heap s.heap [] := va_S.rf
  have hl := lv_entry [.ref h0, .ref p1, .ref p2, .ref p3, .ref p4] (n := 5) (Nat.le_of_ble_eq_true rfl)
  rw [lg_entry_eq]
  generalize (lg_sl ([.ref h0, .ref p1, .ref p2, .ref p3, .ref p4]) ++ List.replicate (5 - (lg_sl ([.ref h0, .ref p1, .ref p2, .ref p3, .ref p4])).length) Slot.unset).toArray = ls at hl ⊢
  have hl : lv_has ls 5 [(0, .ref h0), (1, .ref p1), (2, .ref p2), (3, .ref p3), (4, .ref p4)] := hl
  refine lv_aload_n hx hb d_K_Names_init_0 rfl (lv_at hl 0 rfl) ?_
  refine W.objInit hx hb hown (hts (.methodLink R_Names 3 objectInit) (tb_2 (List.mem_of_getElem? (i := 92) rfl) rfl)) (hts (.instanceMethod objectInit) (tb_1 (List.mem_of_getElem? (i := 25) rfl) rfl)) (hts (.code objectInit ⟨#[0xb1]⟩ 1 none) (tb_1 (List.mem_of_getElem? (i := 26) rfl) rfl)) rfl (by rw [hml]; exact hl.1) rfl d_K_Names_init_1 (Nat.le_of_ble_eq_true rfl) (Nat.le_of_ble_eq_true rfl) ?_
  refine W.eq (g2 := F0 m 4 ls []) rfl ?_
  refine lv_aload_n hx hb d_K_Names_init_4 rfl (lv_at hl 0 rfl) ?_
  refine lv_bipush (v := 10) hx hb d_K_Names_init_5 (by decide) ?_
  refine va_newa (ty := .char) (a0 := (10, .inl (fun _ => 0))) (N' := 10) hx hb (hts _ (tb_1 (List.mem_of_getElem? (i := 210) rfl) rfl)) rfl hK hP hD hS hA (fun _ => rfl) (by decide) (by decide) (by decide) (by decide) (by decide) d_K_Names_init_7 (fun q7 cC H hK hP hD hS => ?_)
  have hK : va_K D classes [(cC, .char)] s := hK
  refine W.widen (k := 1) (n := 10) (by decide) (by decide) ?_
  have hP : va_P D classes [(h0, .inr (2, [.null, .null, .null, .null, .null, .null, .long 0, .long 0])), (q7, .inl (cC, 10, .inl (fun _ => 0)))] H := hP
  have hD : va_D A [(h0, .inr (2, [.null, .null, .null, .null, .null, .null, .long 0, .long 0])), (q7, .inl (cC, 10, .inl (fun _ => 0)))] := hD
  refine va_putF (D := D) (ci := 2) (v := .ref q7) (ty := .array .char) (C := R_Names) (T := F_Names) (N := 8) hx hb hts i_Names t_Names t_Names_ok n_Names hown hK hP hD hS 0 rfl rfl 4 (by decide) (hts _ (tb_2 (List.mem_of_getElem? (i := 97) rfl) rfl)) (fun _ h9 => h9) rfl hin rfl (by decide +kernel) rfl rfl (Nat.le_of_ble_eq_true rfl) d_K_Names_init_9 (fun H locs hP hD hS => ?_)
  have hP : va_P D classes [(h0, .inr (2, [.null, .null, .null, .null, .ref q7, .null, .long 0, .long 0])), (q7, .inl (cC, 10, .inl (fun _ => 0)))] H := hP
  have hD : va_D A [(h0, .inr (2, [.null, .null, .null, .null, .ref q7, .null, .long 0, .long 0])), (q7, .inl (cC, 10, .inl (fun _ => 0)))] := hD
  refine lv_aload_n hx hb d_K_Names_init_12 rfl (lv_at hl 0 rfl) ?_
  refine lv_bipush (v := 32) hx hb d_K_Names_init_13 (by decide) ?_
  refine va_newa (ty := .char) (a0 := (32, .inl (fun _ => 0))) (N' := 32) hx hb (hts _ (tb_1 (List.mem_of_getElem? (i := 210) rfl) rfl)) rfl hK hP hD hS hA (fun _ => rfl) (by decide) (by decide) (by decide) (by decide) (by decide) d_K_Names_init_15 (fun q15 c15 H hK hP hD hS => ?_)
  obtain rfl := sk_same hK 0 1 (ty := .char) rfl rfl (by decide)
  have hK : va_K D classes [(cC, .char)] s := hK.sub [0] rfl
  refine W.widen (k := 2) (n := 42) (by decide) (by decide) ?_
  have hP : va_P D classes [(h0, .inr (2, [.null, .null, .null, .null, .ref q7, .null, .long 0, .long 0])), (q7, .inl (cC, 10, .inl (fun _ => 0))), (q15, .inl (cC, 32, .inl (fun _ => 0)))] H := hP
  have hD : va_D A [(h0, .inr (2, [.null, .null, .null, .null, .ref q7, .null, .long 0, .long 0])), (q7, .inl (cC, 10, .inl (fun _ => 0))), (q15, .inl (cC, 32, .inl (fun _ => 0)))] := hD
  refine va_putF (D := D) (ci := 2) (v := .ref q15) (ty := .array .char) (C := R_Names) (T := F_Names) (N := 8) hx hb hts i_Names t_Names t_Names_ok n_Names hown hK hP hD hS 0 rfl rfl 5 (by decide) (hts _ (tb_2 (List.mem_of_getElem? (i := 98) rfl) rfl)) (fun _ h9 => h9) rfl hin rfl (by decide +kernel) rfl rfl (Nat.le_of_ble_eq_true rfl) d_K_Names_init_17 (fun H locs hP hD hS => ?_)
  have hP : va_P D classes [(h0, .inr (2, [.null, .null, .null, .null, .ref q7, .ref q15, .long 0, .long 0])), (q7, .inl (cC, 10, .inl (fun _ => 0))), (q15, .inl (cC, 32, .inl (fun _ => 0)))] H := hP
  have hD : va_D A [(h0, .inr (2, [.null, .null, .null, .null, .ref q7, .ref q15, .long 0, .long 0])), (q7, .inl (cC, 10, .inl (fun _ => 0))), (q15, .inl (cC, 32, .inl (fun _ => 0)))] := hD
  refine lv_aload_n hx hb d_K_Names_init_20 rfl (lv_at hl 0 rfl) ?_
  refine lv_aload_n hx hb d_K_Names_init_21 rfl (lv_at hl 1 rfl) ?_
  refine va_putF (D := D) (ci := 2) (v := .ref p1) (ty := .object "ShrinkForge$Types") (C := R_Names) (T := F_Names) (N := 8) hx hb hts i_Names t_Names t_Names_ok n_Names hown hK hP hD hS 0 rfl rfl 0 (by decide) (hts _ (tb_2 (List.mem_of_getElem? (i := 93) rfl) rfl)) (fun _ h9 => h9) rfl hin rfl (by decide +kernel) rfl rfl (Nat.le_of_ble_eq_true rfl) d_K_Names_init_22 (fun H locs hP hD hS => ?_)
  have hP : va_P D classes [(h0, .inr (2, [.ref p1, .null, .null, .null, .ref q7, .ref q15, .long 0, .long 0])), (q7, .inl (cC, 10, .inl (fun _ => 0))), (q15, .inl (cC, 32, .inl (fun _ => 0)))] H := hP
  have hD : va_D A [(h0, .inr (2, [.ref p1, .null, .null, .null, .ref q7, .ref q15, .long 0, .long 0])), (q7, .inl (cC, 10, .inl (fun _ => 0))), (q15, .inl (cC, 32, .inl (fun _ => 0)))] := hD
  refine lv_aload_n hx hb d_K_Names_init_25 rfl (lv_at hl 0 rfl) ?_
  refine lv_aload_n hx hb d_K_Names_init_26 rfl (lv_at hl 2 rfl) ?_
  refine va_putF (D := D) (ci := 2) (v := .ref p2) (ty := .object "ShrinkForge$Members") (C := R_Names) (T := F_Names) (N := 8) hx hb hts i_Names t_Names t_Names_ok n_Names hown hK hP hD hS 0 rfl rfl 1 (by decide) (hts _ (tb_2 (List.mem_of_getElem? (i := 94) rfl) rfl)) (fun _ h9 => h9) rfl hin rfl (by decide +kernel) rfl rfl (Nat.le_of_ble_eq_true rfl) d_K_Names_init_27 (fun H locs hP hD hS => ?_)
  have hP : va_P D classes [(h0, .inr (2, [.ref p1, .ref p2, .null, .null, .ref q7, .ref q15, .long 0, .long 0])), (q7, .inl (cC, 10, .inl (fun _ => 0))), (q15, .inl (cC, 32, .inl (fun _ => 0)))] H := hP
  have hD : va_D A [(h0, .inr (2, [.ref p1, .ref p2, .null, .null, .ref q7, .ref q15, .long 0, .long 0])), (q7, .inl (cC, 10, .inl (fun _ => 0))), (q15, .inl (cC, 32, .inl (fun _ => 0)))] := hD
  refine lv_aload_n hx hb d_K_Names_init_30 rfl (lv_at hl 0 rfl) ?_
  refine lv_aload_n hx hb d_K_Names_init_31 rfl (lv_at hl 3 rfl) ?_
  refine va_putF (D := D) (ci := 2) (v := .ref p3) (ty := .object "ShrinkForge$RuleBook") (C := R_Names) (T := F_Names) (N := 8) hx hb hts i_Names t_Names t_Names_ok n_Names hown hK hP hD hS 0 rfl rfl 2 (by decide) (hts _ (tb_2 (List.mem_of_getElem? (i := 95) rfl) rfl)) (fun _ h9 => h9) rfl hin rfl (by decide +kernel) rfl rfl (Nat.le_of_ble_eq_true rfl) d_K_Names_init_32 (fun H locs hP hD hS => ?_)
  have hP : va_P D classes [(h0, .inr (2, [.ref p1, .ref p2, .ref p3, .null, .ref q7, .ref q15, .long 0, .long 0])), (q7, .inl (cC, 10, .inl (fun _ => 0))), (q15, .inl (cC, 32, .inl (fun _ => 0)))] H := hP
  have hD : va_D A [(h0, .inr (2, [.ref p1, .ref p2, .ref p3, .null, .ref q7, .ref q15, .long 0, .long 0])), (q7, .inl (cC, 10, .inl (fun _ => 0))), (q15, .inl (cC, 32, .inl (fun _ => 0)))] := hD
  refine lv_aload_n hx hb d_K_Names_init_35 rfl (lv_at hl 0 rfl) ?_
  refine lv_aload hx hb d_K_Names_init_36 (lv_at hl 4 rfl) ?_
  refine va_putF (D := D) (ci := 2) (v := .ref p4) (ty := .object "ShrinkForge$Needs") (C := R_Names) (T := F_Names) (N := 8) hx hb hts i_Names t_Names t_Names_ok n_Names hown hK hP hD hS 0 rfl rfl 3 (by decide) (hts _ (tb_2 (List.mem_of_getElem? (i := 96) rfl) rfl)) (fun _ h9 => h9) rfl hin rfl (by decide +kernel) rfl rfl (Nat.le_of_ble_eq_true rfl) d_K_Names_init_38 (fun H locs hP hD hS => ?_)
  have hP : va_P D classes [(h0, .inr (2, [.ref p1, .ref p2, .ref p3, .ref p4, .ref q7, .ref q15, .long 0, .long 0])), (q7, .inl (cC, 10, .inl (fun _ => 0))), (q15, .inl (cC, 32, .inl (fun _ => 0)))] H := hP
  have hD : va_D A [(h0, .inr (2, [.ref p1, .ref p2, .ref p3, .ref p4, .ref q7, .ref q15, .long 0, .long 0])), (q7, .inl (cC, 10, .inl (fun _ => 0))), (q15, .inl (cC, 32, .inl (fun _ => 0)))] := hD
  have hP9 := hP.sub (ws' := [(h0, .inr (2, [.ref p1, .ref p2, .ref p3, .ref p4, .ref q7, .ref q15, .long 0, .long 0])), (q7, .inl (cC, 10, .inl (fun _ => 0))), (q15, .inl (cC, 32, .inl (fun _ => 0)))]) [0, 1, 2] rfl
  have hD9 := hD.sub (ws' := [(h0, .inr (2, [.ref p1, .ref p2, .ref p3, .ref p4, .ref q7, .ref q15, .long 0, .long 0])), (q7, .inl (cC, 10, .inl (fun _ => 0))), (q15, .inl (cC, 32, .inl (fun _ => 0)))]) [0, 1, 2] (by decide) rfl
  exact W.vret hx hb hr (fun t ht hW => ⟨⟨(), rfl, trivial, q7, q15, cC, by rw [ht]; exact hP9, va_K.moved hW.alike hK, hD9⟩, hS.F ht⟩) hS.2.2 d_K_Names_init_41
set_option maxHeartbeats 4000000 in
set_option maxRecDepth 100000 in
theorem ci_RuleReader {l : Launch} {D : va_G} {h0 sz : Nat} {p1 : Nat}  : Met l y_K_RuleReader_init w_K_RuleReader_init ({ frames := 2, cells := 4, slots := 134, locals := 41 }) (va_Pc [.ref h0, .ref p1] (fun U => U.heap.size = sz ∧ va_P D classes [(h0, .inr (6, [.null, .null, .null, .null, .int 0, .int 0, .long 0, .long 0, .long 0]))] U.heap ∧ va_K D classes [] U ∧ va_D (fun _ => True) [(h0, .inr (6, [.null, .null, .null, .null, .int 0, .int 0, .long 0, .long 0, .long 0]))] ∧ nwN U)) (va_Qv (fun _ : Unit => True) (fun _ t => ∃ (q7 q15 q21 q6_27 : Nat) (cI cC : ClassId), va_P D classes [(h0, .inr (6, [.ref q7, .ref q15, .ref q21, .ref p1, .int 0, .int 0, .long 0, .long 0, .long 0])), (q7, .inl (cI, 62, .inl (fun _ => 0))), (q15, .inl (cI, 62, .inl (fun _ => 0))), (q21, .inr (7, [.ref q6_27, .int 0])), (q6_27, .inl (cC, 8, .inl (fun _ => 0)))] t.heap ∧ va_K D classes [(cI, .int), (cC, .char)] t ∧ va_D (va_A [(h0, .inr (6, [.null, .null, .null, .null, .int 0, .int 0, .long 0, .long 0, .long 0]))] sz) [(h0, .inr (6, [.ref q7, .ref q15, .ref q21, .ref p1, .int 0, .int 0, .long 0, .long 0, .long 0])), (q7, .inl (cI, 62, .inl (fun _ => 0))), (q15, .inl (cI, 62, .inl (fun _ => 0))), (q21, .inr (7, [.ref q6_27, .int 0])), (q6_27, .inl (cC, 8, .inl (fun _ => 0)))]) (va_A [(h0, .inr (6, [.null, .null, .null, .null, .int 0, .int 0, .long 0, .long 0, .long 0]))] sz)) 4 134 (va_A [(h0, .inr (6, [.null, .null, .null, .null, .int 0, .int 0, .long 0, .long 0, .long 0]))] sz) := by
  refine Met.ofW (cc := b_K_RuleReader_init) (maxL := 2) (ret := none) (by decide) rfl ?_
  intro p e s m args below meth c s₁ B hml hv
  obtain ⟨rfl, hsz, hP, hK, hD0, hnw⟩ := hv
  have hx := B.exec
  have hb := B.bytes
  have hr := B.returns
  have hts0 := atoms_spec (ws := w_K_RuleReader_init) B.pre
  have hts : ∀ w ∈ TB, w.before _ s = true := fun w h => hts0 w (List.mem_cons_of_mem _ h)
  have hown : s.vm.findClass R_RuleReader = some m.cls := findClass_of_methodNamed B.named
  have hlocks := B.notSynchronized
  have hin : meth.name = "<init>" := (name_of_methodNamed B.named B.method).1
  subst hsz
  have hD := hD0.self (sz := s.heap.size)
  generalize hAe : va_A [(h0, .inr (6, [.null, .null, .null, .null, .int 0, .int 0, .long 0, .long 0, .long 0]))] s.heap.size = A at hD ⊢
  have hA : ∀ q : Nat, s.heap.size ≤ q → A q := fun q h => by rw [← hAe]; exact Or.inr h
  have hS : va_S A s.heap s.heap [] := va_S.rf
  have hl := lv_entry [.ref h0, .ref p1] (n := 2) (Nat.le_of_ble_eq_true rfl)
  rw [lg_entry_eq]
  generalize (lg_sl ([.ref h0, .ref p1]) ++ List.replicate (2 - (lg_sl ([.ref h0, .ref p1])).length) Slot.unset).toArray = ls at hl ⊢
  have hl : lv_has ls 2 [(0, .ref h0), (1, .ref p1)] := hl
  refine lv_aload_n hx hb d_K_RuleReader_init_0 rfl (lv_at hl 0 rfl) ?_
  refine W.objInit hx hb hown (hts (.methodLink R_RuleReader 3 objectInit) (tb_1 (List.mem_of_getElem? (i := 216) rfl) rfl)) (hts (.instanceMethod objectInit) (tb_1 (List.mem_of_getElem? (i := 25) rfl) rfl)) (hts (.code objectInit ⟨#[0xb1]⟩ 1 none) (tb_1 (List.mem_of_getElem? (i := 26) rfl) rfl)) rfl (by rw [hml]; exact hl.1) rfl d_K_RuleReader_init_1 (Nat.le_of_ble_eq_true rfl) (Nat.le_of_ble_eq_true rfl) ?_
  refine W.eq (g2 := F0 m 4 ls []) rfl ?_
  refine lv_aload_n hx hb d_K_RuleReader_init_4 rfl (lv_at hl 0 rfl) ?_
  refine lv_bipush (v := 62) hx hb d_K_RuleReader_init_5 (by decide) ?_
  refine va_newa (ty := .int) (a0 := (62, .inl (fun _ => 0))) (N' := 62) hx hb (hts _ (tb_1 (List.mem_of_getElem? (i := 103) rfl) rfl)) rfl hK hP hD hS hA (fun _ => rfl) (by decide) (by decide) (by decide) (by decide) (by decide) d_K_RuleReader_init_7 (fun q7 cI H hK hP hD hS => ?_)
  have hK : va_K D classes [(cI, .int)] s := hK
  refine W.widen (k := 1) (n := 62) (by decide) (by decide) ?_
  have hP : va_P D classes [(h0, .inr (6, [.null, .null, .null, .null, .int 0, .int 0, .long 0, .long 0, .long 0])), (q7, .inl (cI, 62, .inl (fun _ => 0)))] H := hP
  have hD : va_D A [(h0, .inr (6, [.null, .null, .null, .null, .int 0, .int 0, .long 0, .long 0, .long 0])), (q7, .inl (cI, 62, .inl (fun _ => 0)))] := hD
  refine va_putF (D := D) (ci := 6) (v := .ref q7) (ty := .array .int) (C := R_RuleReader) (T := F_RuleReader) (N := 9) hx hb hts i_RuleReader t_RuleReader t_RuleReader_ok n_RuleReader hown hK hP hD hS 0 rfl rfl 0 (by decide) (hts _ (tb_1 (List.mem_of_getElem? (i := 219) rfl) rfl)) (fun _ h9 => h9) rfl hin rfl (by decide +kernel) rfl rfl (Nat.le_of_ble_eq_true rfl) d_K_RuleReader_init_9 (fun H locs hP hD hS => ?_)
  have hP : va_P D classes [(h0, .inr (6, [.ref q7, .null, .null, .null, .int 0, .int 0, .long 0, .long 0, .long 0])), (q7, .inl (cI, 62, .inl (fun _ => 0)))] H := hP
  have hD : va_D A [(h0, .inr (6, [.ref q7, .null, .null, .null, .int 0, .int 0, .long 0, .long 0, .long 0])), (q7, .inl (cI, 62, .inl (fun _ => 0)))] := hD
  refine lv_aload_n hx hb d_K_RuleReader_init_12 rfl (lv_at hl 0 rfl) ?_
  refine lv_bipush (v := 62) hx hb d_K_RuleReader_init_13 (by decide) ?_
  refine va_newa (ty := .int) (a0 := (62, .inl (fun _ => 0))) (N' := 62) hx hb (hts _ (tb_1 (List.mem_of_getElem? (i := 103) rfl) rfl)) rfl hK hP hD hS hA (fun _ => rfl) (by decide) (by decide) (by decide) (by decide) (by decide) d_K_RuleReader_init_15 (fun q15 c15 H hK hP hD hS => ?_)
  obtain rfl := sk_same hK 0 1 (ty := .int) rfl rfl (by decide)
  have hK : va_K D classes [(cI, .int)] s := hK.sub [0] rfl
  refine W.widen (k := 2) (n := 124) (by decide) (by decide) ?_
  have hP : va_P D classes [(h0, .inr (6, [.ref q7, .null, .null, .null, .int 0, .int 0, .long 0, .long 0, .long 0])), (q7, .inl (cI, 62, .inl (fun _ => 0))), (q15, .inl (cI, 62, .inl (fun _ => 0)))] H := hP
  have hD : va_D A [(h0, .inr (6, [.ref q7, .null, .null, .null, .int 0, .int 0, .long 0, .long 0, .long 0])), (q7, .inl (cI, 62, .inl (fun _ => 0))), (q15, .inl (cI, 62, .inl (fun _ => 0)))] := hD
  refine va_putF (D := D) (ci := 6) (v := .ref q15) (ty := .array .int) (C := R_RuleReader) (T := F_RuleReader) (N := 9) hx hb hts i_RuleReader t_RuleReader t_RuleReader_ok n_RuleReader hown hK hP hD hS 0 rfl rfl 1 (by decide) (hts _ (tb_1 (List.mem_of_getElem? (i := 220) rfl) rfl)) (fun _ h9 => h9) rfl hin rfl (by decide +kernel) rfl rfl (Nat.le_of_ble_eq_true rfl) d_K_RuleReader_init_17 (fun H locs hP hD hS => ?_)
  have hP : va_P D classes [(h0, .inr (6, [.ref q7, .ref q15, .null, .null, .int 0, .int 0, .long 0, .long 0, .long 0])), (q7, .inl (cI, 62, .inl (fun _ => 0))), (q15, .inl (cI, 62, .inl (fun _ => 0)))] H := hP
  have hD : va_D A [(h0, .inr (6, [.ref q7, .ref q15, .null, .null, .int 0, .int 0, .long 0, .long 0, .long 0])), (q7, .inl (cI, 62, .inl (fun _ => 0))), (q15, .inl (cI, 62, .inl (fun _ => 0)))] := hD
  refine lv_aload_n hx hb d_K_RuleReader_init_20 rfl (lv_at hl 0 rfl) ?_
  refine va_new (ci := 7) (fs := [.null, .int 0]) (C := R_Text) (T := F_Text) (N := 2) hx hb hts i_Text t_Text t_Text_ok hown (hts _ (tb_1 (List.mem_of_getElem? (i := 217) rfl) rfl)) (hts _ (tb_1 (List.mem_of_getElem? (i := 195) rfl) rfl)) (hts _ (tb_1 (List.mem_of_getElem? (i := 6) rfl) rfl)) hK hP hD hS hA rfl (fun j hj => match j, hj with | 0, _ => rfl | 1, _ => rfl | j + 2, h => absurd h (by omega)) (by decide) (by decide) d_K_RuleReader_init_21 (fun q21 H hP hD hS => ?_)
  refine W.widen (k := 3) (n := 126) (by decide) (by decide) ?_
  have hP : va_P D classes [(h0, .inr (6, [.ref q7, .ref q15, .null, .null, .int 0, .int 0, .long 0, .long 0, .long 0])), (q7, .inl (cI, 62, .inl (fun _ => 0))), (q15, .inl (cI, 62, .inl (fun _ => 0))), (q21, .inr (7, [.null, .int 0]))] H := hP
  have hD : va_D A [(h0, .inr (6, [.ref q7, .ref q15, .null, .null, .int 0, .int 0, .long 0, .long 0, .long 0])), (q7, .inl (cI, 62, .inl (fun _ => 0))), (q15, .inl (cI, 62, .inl (fun _ => 0))), (q21, .inr (7, [.null, .int 0]))] := hD
  refine lv_dup hx hb d_K_RuleReader_init_24 rfl ?_
  refine lv_bipush (v := 8) hx hb d_K_RuleReader_init_25 (by decide) ?_
  have hPc := hP.sub (ws' := [(q21, .inr (7, [.null, .int 0]))]) [3] rfl
  have hDc := hD.sub (ws' := [(q21, .inr (7, [.null, .int 0]))]) [3] (by decide) rfl
  have hKc := hK.sub (tys' := []) [] rfl
  have hFc := va_free (wc := [(q21, .inr (7, [.null, .int 0]))]) hD hS hA [3] rfl
  refine va_callv (va_runI (As := [.int 8]) (rest := [.ref q21, .ref h0]) ⟨hx, hb, hml, hown, hts⟩ (ci_Text8 (h0 := q21) (sz := H.size)) (cwI 1 hts (tb_good k_K_Text_init) rfl rfl rfl (hts _ (tb_1 (List.mem_of_getElem? (i := 6) rfl) rfl)) (hts _ (tb_1 (List.mem_of_getElem? (i := 218) rfl) rfl)) (hts _ (tb_1 (List.mem_of_getElem? (i := 197) rfl) rfl)) rfl (by decide +kernel) (by decide)) ⟨fun a U g mk q => ⟨q.1, q.2.1, q.2.2.1, va_K.moved (u := U) (U := U.calling g mk a) (Vm.Alike.refl U.vm) q.2.2.2.1, q.2.2.2.2.1, (nwN_ok (A := A)).2 U g mk a q.2.2.2.2.2⟩, fun U hU hW => ⟨rfl, by rw [hU], by rw [hU]; exact hPc, va_K.moved hW.alike hKc, hDc.weaken (fun _ _ _ _ => trivial), fun w hw => nt_warm hW hw (hnw w hw)⟩⟩ rfl rfl hl.1 rfl (lv_room (Nat.le_of_ble_eq_true rfl)) d_K_RuleReader_init_27 ⟨by decide, by decide⟩) hS (fun q _ h => hFc q h) hFc (fun u t H1 locs ht hvm hw hB hz1 hk1 hS => ?_)
  obtain ⟨q6_27, cC_27, hP1, hK1, hD1⟩ := hB
  rw [ht] at hP1
  have hK1 := va_K.moved hvm.symm hK1
  obtain ⟨hP, hD⟩ := va_join (wr := [(h0, .inr (6, [.ref q7, .ref q15, .null, .null, .int 0, .int 0, .long 0, .long 0, .long 0])), (q7, .inl (cI, 62, .inl (fun _ => 0))), (q15, .inl (cI, 62, .inl (fun _ => 0)))]) (w1 := [(q21, .inr (7, [.ref q6_27, .int 0])), (q6_27, .inl (cC_27, 8, .inl (fun _ => 0)))]) hP hD [3] [0, 1, 2] rfl rfl (by decide) (by decide) hk1 hFc hP1 hD1
  have hK := (hK.sub (tys' := [(cI, .int)]) [0] rfl).app hK1
  generalize H1 = H at hP hS ⊢
  have hK : va_K D classes [(cI, .int), (cC_27, .char)] s := hK
  obtain ⟨cC, ecC⟩ : ∃ z, z = cC_27 := ⟨_, rfl⟩
  subst ecC
  have hK : va_K D classes [(cI, .int), (cC, .char)] s := hK.sub [0, 1] rfl
  refine W.widen (k := 4) (n := 134) (by decide) (by decide) ?_
  have hP : va_P D classes [(h0, .inr (6, [.ref q7, .ref q15, .null, .null, .int 0, .int 0, .long 0, .long 0, .long 0])), (q7, .inl (cI, 62, .inl (fun _ => 0))), (q15, .inl (cI, 62, .inl (fun _ => 0))), (q21, .inr (7, [.ref q6_27, .int 0])), (q6_27, .inl (cC, 8, .inl (fun _ => 0)))] H := hP
  have hD : va_D A [(h0, .inr (6, [.ref q7, .ref q15, .null, .null, .int 0, .int 0, .long 0, .long 0, .long 0])), (q7, .inl (cI, 62, .inl (fun _ => 0))), (q15, .inl (cI, 62, .inl (fun _ => 0))), (q21, .inr (7, [.ref q6_27, .int 0])), (q6_27, .inl (cC, 8, .inl (fun _ => 0)))] := hD
  refine va_putF (D := D) (ci := 6) (v := .ref q21) (ty := .object "ShrinkForge$Text") (C := R_RuleReader) (T := F_RuleReader) (N := 9) hx hb hts i_RuleReader t_RuleReader t_RuleReader_ok n_RuleReader hown hK hP hD hS 0 rfl rfl 2 (by decide) (hts _ (tb_1 (List.mem_of_getElem? (i := 221) rfl) rfl)) (fun _ h9 => h9) rfl hin rfl (by decide +kernel) rfl rfl (Nat.le_of_ble_eq_true rfl) d_K_RuleReader_init_30 (fun H locs hP hD hS => ?_)
  have hP : va_P D classes [(h0, .inr (6, [.ref q7, .ref q15, .ref q21, .null, .int 0, .int 0, .long 0, .long 0, .long 0])), (q7, .inl (cI, 62, .inl (fun _ => 0))), (q15, .inl (cI, 62, .inl (fun _ => 0))), (q21, .inr (7, [.ref q6_27, .int 0])), (q6_27, .inl (cC, 8, .inl (fun _ => 0)))] H := hP
  have hD : va_D A [(h0, .inr (6, [.ref q7, .ref q15, .ref q21, .null, .int 0, .int 0, .long 0, .long 0, .long 0])), (q7, .inl (cI, 62, .inl (fun _ => 0))), (q15, .inl (cI, 62, .inl (fun _ => 0))), (q21, .inr (7, [.ref q6_27, .int 0])), (q6_27, .inl (cC, 8, .inl (fun _ => 0)))] := hD
  refine lv_aload_n hx hb d_K_RuleReader_init_33 rfl (lv_at hl 0 rfl) ?_
  refine lv_aload_n hx hb d_K_RuleReader_init_34 rfl (lv_at hl 1 rfl) ?_
  refine va_putF (D := D) (ci := 6) (v := .ref p1) (ty := .object "ShrinkForge$Text") (C := R_RuleReader) (T := F_RuleReader) (N := 9) hx hb hts i_RuleReader t_RuleReader t_RuleReader_ok n_RuleReader hown hK hP hD hS 0 rfl rfl 3 (by decide) (hts _ (tb_1 (List.mem_of_getElem? (i := 222) rfl) rfl)) (fun _ h9 => h9) rfl hin rfl (by decide +kernel) rfl rfl (Nat.le_of_ble_eq_true rfl) d_K_RuleReader_init_35 (fun H locs hP hD hS => ?_)
  have hP : va_P D classes [(h0, .inr (6, [.ref q7, .ref q15, .ref q21, .ref p1, .int 0, .int 0, .long 0, .long 0, .long 0])), (q7, .inl (cI, 62, .inl (fun _ => 0))), (q15, .inl (cI, 62, .inl (fun _ => 0))), (q21, .inr (7, [.ref q6_27, .int 0])), (q6_27, .inl (cC, 8, .inl (fun _ => 0)))] H := hP
  have hD : va_D A [(h0, .inr (6, [.ref q7, .ref q15, .ref q21, .ref p1, .int 0, .int 0, .long 0, .long 0, .long 0])), (q7, .inl (cI, 62, .inl (fun _ => 0))), (q15, .inl (cI, 62, .inl (fun _ => 0))), (q21, .inr (7, [.ref q6_27, .int 0])), (q6_27, .inl (cC, 8, .inl (fun _ => 0)))] := hD
  have hP9 := hP.sub (ws' := [(h0, .inr (6, [.ref q7, .ref q15, .ref q21, .ref p1, .int 0, .int 0, .long 0, .long 0, .long 0])), (q7, .inl (cI, 62, .inl (fun _ => 0))), (q15, .inl (cI, 62, .inl (fun _ => 0))), (q21, .inr (7, [.ref q6_27, .int 0])), (q6_27, .inl (cC, 8, .inl (fun _ => 0)))]) [0, 1, 2, 3, 4] rfl
  have hD9 := hD.sub (ws' := [(h0, .inr (6, [.ref q7, .ref q15, .ref q21, .ref p1, .int 0, .int 0, .long 0, .long 0, .long 0])), (q7, .inl (cI, 62, .inl (fun _ => 0))), (q15, .inl (cI, 62, .inl (fun _ => 0))), (q21, .inr (7, [.ref q6_27, .int 0])), (q6_27, .inl (cC, 8, .inl (fun _ => 0)))]) [0, 1, 2, 3, 4] (by decide) rfl
  exact W.vret hx hb hr (fun t ht hW => ⟨⟨(), rfl, trivial, q7, q15, q21, q6_27, cI, cC, by rw [ht]; exact hP9, va_K.moved hW.alike hK, hD9⟩, hS.F ht⟩) hS.2.2 d_K_RuleReader_init_38
set_option maxHeartbeats 4000000 in
set_option maxRecDepth 100000 in
theorem ci_Mapping {l : Launch} {D : va_G} {h0 sz : Nat} {p1 : Nat} {p2 : Nat} {p3 : Nat} {p4 : Nat}  : Met l y_K_Mapping_init w_K_Mapping_init ({ frames := 2, cells := 2, slots := 1122, locals := 41 }) (va_Pc [.ref h0, .ref p1, .ref p2, .ref p3, .ref p4] (fun U => U.heap.size = sz ∧ va_P D classes [(h0, .inr (0, [.null, .null, .null, .null, .null, .int 0]))] U.heap ∧ va_K D classes [] U ∧ va_D (fun _ => True) [(h0, .inr (0, [.null, .null, .null, .null, .null, .int 0]))] ∧ nwN U)) (va_Qv (fun _ : Unit => True) (fun _ t => ∃ (q5 q6_12 : Nat) (cC : ClassId), va_P D classes [(h0, .inr (0, [.ref p1, .ref p2, .ref p3, .ref p4, .ref q5, .int 0])), (q5, .inr (7, [.ref q6_12, .int 0])), (q6_12, .inl (cC, 1120, .inl (fun _ => 0)))] t.heap ∧ va_K D classes [(cC, .char)] t ∧ va_D (va_A [(h0, .inr (0, [.null, .null, .null, .null, .null, .int 0]))] sz) [(h0, .inr (0, [.ref p1, .ref p2, .ref p3, .ref p4, .ref q5, .int 0])), (q5, .inr (7, [.ref q6_12, .int 0])), (q6_12, .inl (cC, 1120, .inl (fun _ => 0)))]) (va_A [(h0, .inr (0, [.null, .null, .null, .null, .null, .int 0]))] sz)) 2 1122 (va_A [(h0, .inr (0, [.null, .null, .null, .null, .null, .int 0]))] sz) := by
  refine Met.ofW (cc := b_K_Mapping_init) (maxL := 5) (ret := none) (by decide) rfl ?_
  intro p e s m args below meth c s₁ B hml hv
  obtain ⟨rfl, hsz, hP, hK, hD0, hnw⟩ := hv
  have hx := B.exec
  have hb := B.bytes
  have hr := B.returns
  have hts0 := atoms_spec (ws := w_K_Mapping_init) B.pre
  have hts : ∀ w ∈ TB, w.before _ s = true := fun w h => hts0 w (List.mem_cons_of_mem _ h)
  have hown : s.vm.findClass R_Mapping = some m.cls := findClass_of_methodNamed B.named
  have hlocks := B.notSynchronized
  have hin : meth.name = "<init>" := (name_of_methodNamed B.named B.method).1
  subst hsz
  have hD := hD0.self (sz := s.heap.size)
  generalize hAe : va_A [(h0, .inr (0, [.null, .null, .null, .null, .null, .int 0]))] s.heap.size = A at hD ⊢
  have hA : ∀ q : Nat, s.heap.size ≤ q → A q := fun q h => by rw [← hAe]; exact Or.inr h
  have hS : va_S A s.heap s.heap [] := va_S.rf
  have hl := lv_entry [.ref h0, .ref p1, .ref p2, .ref p3, .ref p4] (n := 5) (Nat.le_of_ble_eq_true rfl)
  rw [lg_entry_eq]
  generalize (lg_sl ([.ref h0, .ref p1, .ref p2, .ref p3, .ref p4]) ++ List.replicate (5 - (lg_sl ([.ref h0, .ref p1, .ref p2, .ref p3, .ref p4])).length) Slot.unset).toArray = ls at hl ⊢
  have hl : lv_has ls 5 [(0, .ref h0), (1, .ref p1), (2, .ref p2), (3, .ref p3), (4, .ref p4)] := hl
  refine lv_aload_n hx hb d_K_Mapping_init_0 rfl (lv_at hl 0 rfl) ?_
  refine W.objInit hx hb hown (hts (.methodLink R_Mapping 3 objectInit) (tb_2 (List.mem_of_getElem? (i := 125) rfl) rfl)) (hts (.instanceMethod objectInit) (tb_1 (List.mem_of_getElem? (i := 25) rfl) rfl)) (hts (.code objectInit ⟨#[0xb1]⟩ 1 none) (tb_1 (List.mem_of_getElem? (i := 26) rfl) rfl)) rfl (by rw [hml]; exact hl.1) rfl d_K_Mapping_init_1 (Nat.le_of_ble_eq_true rfl) (Nat.le_of_ble_eq_true rfl) ?_
  refine W.eq (g2 := F0 m 4 ls []) rfl ?_
  refine lv_aload_n hx hb d_K_Mapping_init_4 rfl (lv_at hl 0 rfl) ?_
  refine va_new (ci := 7) (fs := [.null, .int 0]) (C := R_Text) (T := F_Text) (N := 2) hx hb hts i_Text t_Text t_Text_ok hown (hts _ (tb_2 (List.mem_of_getElem? (i := 126) rfl) rfl)) (hts _ (tb_1 (List.mem_of_getElem? (i := 195) rfl) rfl)) (hts _ (tb_1 (List.mem_of_getElem? (i := 6) rfl) rfl)) hK hP hD hS hA rfl (fun j hj => match j, hj with | 0, _ => rfl | 1, _ => rfl | j + 2, h => absurd h (by omega)) (by decide) (by decide) d_K_Mapping_init_5 (fun q5 H hP hD hS => ?_)
  refine W.widen (k := 1) (n := 2) (by decide) (by decide) ?_
  have hP : va_P D classes [(h0, .inr (0, [.null, .null, .null, .null, .null, .int 0])), (q5, .inr (7, [.null, .int 0]))] H := hP
  have hD : va_D A [(h0, .inr (0, [.null, .null, .null, .null, .null, .int 0])), (q5, .inr (7, [.null, .int 0]))] := hD
  refine lv_dup hx hb d_K_Mapping_init_8 rfl ?_
  refine lv_sipush (v := 1120) hx hb d_K_Mapping_init_9 (by decide) ?_
  have hPc := hP.sub (ws' := [(q5, .inr (7, [.null, .int 0]))]) [1] rfl
  have hDc := hD.sub (ws' := [(q5, .inr (7, [.null, .int 0]))]) [1] (by decide) rfl
  have hKc := hK.sub (tys' := []) [] rfl
  have hFc := va_free (wc := [(q5, .inr (7, [.null, .int 0]))]) hD hS hA [1] rfl
  refine va_callv (va_runI (As := [.int 1120]) (rest := [.ref q5, .ref h0]) ⟨hx, hb, hml, hown, hts⟩ (ci_Text1120 (h0 := q5) (sz := H.size)) (cwI 1 hts (tb_good k_K_Text_init) rfl rfl rfl (hts _ (tb_1 (List.mem_of_getElem? (i := 6) rfl) rfl)) (hts _ (tb_2 (List.mem_of_getElem? (i := 127) rfl) rfl)) (hts _ (tb_1 (List.mem_of_getElem? (i := 197) rfl) rfl)) rfl (by decide +kernel) (by decide)) ⟨fun a U g mk q => ⟨q.1, q.2.1, q.2.2.1, va_K.moved (u := U) (U := U.calling g mk a) (Vm.Alike.refl U.vm) q.2.2.2.1, q.2.2.2.2.1, (nwN_ok (A := A)).2 U g mk a q.2.2.2.2.2⟩, fun U hU hW => ⟨rfl, by rw [hU], by rw [hU]; exact hPc, va_K.moved hW.alike hKc, hDc.weaken (fun _ _ _ _ => trivial), fun w hw => nt_warm hW hw (hnw w hw)⟩⟩ rfl rfl hl.1 rfl (lv_room (Nat.le_of_ble_eq_true rfl)) d_K_Mapping_init_12 ⟨by decide, by decide⟩) hS (fun q _ h => hFc q h) hFc (fun u t H1 locs ht hvm hw hB hz1 hk1 hS => ?_)
  obtain ⟨q6_12, cC_12, hP1, hK1, hD1⟩ := hB
  rw [ht] at hP1
  have hK1 := va_K.moved hvm.symm hK1
  obtain ⟨hP, hD⟩ := va_join (wr := [(h0, .inr (0, [.null, .null, .null, .null, .null, .int 0]))]) (w1 := [(q5, .inr (7, [.ref q6_12, .int 0])), (q6_12, .inl (cC_12, 1120, .inl (fun _ => 0)))]) hP hD [1] [0] rfl rfl (by decide) (by decide) hk1 hFc hP1 hD1
  have hK := (hK.sub (tys' := []) [] rfl).app hK1
  generalize H1 = H at hP hS ⊢
  have hK : va_K D classes [(cC_12, .char)] s := hK
  obtain ⟨cC, ecC⟩ : ∃ z, z = cC_12 := ⟨_, rfl⟩
  subst ecC
  have hK : va_K D classes [(cC, .char)] s := hK.sub [0] rfl
  refine W.widen (k := 2) (n := 1122) (by decide) (by decide) ?_
  have hP : va_P D classes [(h0, .inr (0, [.null, .null, .null, .null, .null, .int 0])), (q5, .inr (7, [.ref q6_12, .int 0])), (q6_12, .inl (cC, 1120, .inl (fun _ => 0)))] H := hP
  have hD : va_D A [(h0, .inr (0, [.null, .null, .null, .null, .null, .int 0])), (q5, .inr (7, [.ref q6_12, .int 0])), (q6_12, .inl (cC, 1120, .inl (fun _ => 0)))] := hD
  refine va_putF (D := D) (ci := 0) (v := .ref q5) (ty := .object "ShrinkForge$Text") (C := R_Mapping) (T := F_Mapping) (N := 6) hx hb hts i_Mapping t_Mapping t_Mapping_ok n_Mapping hown hK hP hD hS 0 rfl rfl 4 (by decide) (hts _ (tb_2 (List.mem_of_getElem? (i := 132) rfl) rfl)) (fun _ h9 => h9) rfl hin rfl (by decide +kernel) rfl rfl (Nat.le_of_ble_eq_true rfl) d_K_Mapping_init_15 (fun H locs hP hD hS => ?_)
  have hP : va_P D classes [(h0, .inr (0, [.null, .null, .null, .null, .ref q5, .int 0])), (q5, .inr (7, [.ref q6_12, .int 0])), (q6_12, .inl (cC, 1120, .inl (fun _ => 0)))] H := hP
  have hD : va_D A [(h0, .inr (0, [.null, .null, .null, .null, .ref q5, .int 0])), (q5, .inr (7, [.ref q6_12, .int 0])), (q6_12, .inl (cC, 1120, .inl (fun _ => 0)))] := hD
  refine lv_aload_n hx hb d_K_Mapping_init_18 rfl (lv_at hl 0 rfl) ?_
  refine lv_aload_n hx hb d_K_Mapping_init_19 rfl (lv_at hl 1 rfl) ?_
  refine va_putF (D := D) (ci := 0) (v := .ref p1) (ty := .object "ShrinkForge$Types") (C := R_Mapping) (T := F_Mapping) (N := 6) hx hb hts i_Mapping t_Mapping t_Mapping_ok n_Mapping hown hK hP hD hS 0 rfl rfl 0 (by decide) (hts _ (tb_2 (List.mem_of_getElem? (i := 128) rfl) rfl)) (fun _ h9 => h9) rfl hin rfl (by decide +kernel) rfl rfl (Nat.le_of_ble_eq_true rfl) d_K_Mapping_init_20 (fun H locs hP hD hS => ?_)
  have hP : va_P D classes [(h0, .inr (0, [.ref p1, .null, .null, .null, .ref q5, .int 0])), (q5, .inr (7, [.ref q6_12, .int 0])), (q6_12, .inl (cC, 1120, .inl (fun _ => 0)))] H := hP
  have hD : va_D A [(h0, .inr (0, [.ref p1, .null, .null, .null, .ref q5, .int 0])), (q5, .inr (7, [.ref q6_12, .int 0])), (q6_12, .inl (cC, 1120, .inl (fun _ => 0)))] := hD
  refine lv_aload_n hx hb d_K_Mapping_init_23 rfl (lv_at hl 0 rfl) ?_
  refine lv_aload_n hx hb d_K_Mapping_init_24 rfl (lv_at hl 2 rfl) ?_
  refine va_putF (D := D) (ci := 0) (v := .ref p2) (ty := .object "ShrinkForge$Members") (C := R_Mapping) (T := F_Mapping) (N := 6) hx hb hts i_Mapping t_Mapping t_Mapping_ok n_Mapping hown hK hP hD hS 0 rfl rfl 1 (by decide) (hts _ (tb_2 (List.mem_of_getElem? (i := 129) rfl) rfl)) (fun _ h9 => h9) rfl hin rfl (by decide +kernel) rfl rfl (Nat.le_of_ble_eq_true rfl) d_K_Mapping_init_25 (fun H locs hP hD hS => ?_)
  have hP : va_P D classes [(h0, .inr (0, [.ref p1, .ref p2, .null, .null, .ref q5, .int 0])), (q5, .inr (7, [.ref q6_12, .int 0])), (q6_12, .inl (cC, 1120, .inl (fun _ => 0)))] H := hP
  have hD : va_D A [(h0, .inr (0, [.ref p1, .ref p2, .null, .null, .ref q5, .int 0])), (q5, .inr (7, [.ref q6_12, .int 0])), (q6_12, .inl (cC, 1120, .inl (fun _ => 0)))] := hD
  refine lv_aload_n hx hb d_K_Mapping_init_28 rfl (lv_at hl 0 rfl) ?_
  refine lv_aload_n hx hb d_K_Mapping_init_29 rfl (lv_at hl 3 rfl) ?_
  refine va_putF (D := D) (ci := 0) (v := .ref p3) (ty := .object "ShrinkForge$Needs") (C := R_Mapping) (T := F_Mapping) (N := 6) hx hb hts i_Mapping t_Mapping t_Mapping_ok n_Mapping hown hK hP hD hS 0 rfl rfl 2 (by decide) (hts _ (tb_2 (List.mem_of_getElem? (i := 130) rfl) rfl)) (fun _ h9 => h9) rfl hin rfl (by decide +kernel) rfl rfl (Nat.le_of_ble_eq_true rfl) d_K_Mapping_init_30 (fun H locs hP hD hS => ?_)
  have hP : va_P D classes [(h0, .inr (0, [.ref p1, .ref p2, .ref p3, .null, .ref q5, .int 0])), (q5, .inr (7, [.ref q6_12, .int 0])), (q6_12, .inl (cC, 1120, .inl (fun _ => 0)))] H := hP
  have hD : va_D A [(h0, .inr (0, [.ref p1, .ref p2, .ref p3, .null, .ref q5, .int 0])), (q5, .inr (7, [.ref q6_12, .int 0])), (q6_12, .inl (cC, 1120, .inl (fun _ => 0)))] := hD
  refine lv_aload_n hx hb d_K_Mapping_init_33 rfl (lv_at hl 0 rfl) ?_
  refine lv_aload hx hb d_K_Mapping_init_34 (lv_at hl 4 rfl) ?_
  refine va_putF (D := D) (ci := 0) (v := .ref p4) (ty := .object "ShrinkForge$Names") (C := R_Mapping) (T := F_Mapping) (N := 6) hx hb hts i_Mapping t_Mapping t_Mapping_ok n_Mapping hown hK hP hD hS 0 rfl rfl 3 (by decide) (hts _ (tb_2 (List.mem_of_getElem? (i := 131) rfl) rfl)) (fun _ h9 => h9) rfl hin rfl (by decide +kernel) rfl rfl (Nat.le_of_ble_eq_true rfl) d_K_Mapping_init_36 (fun H locs hP hD hS => ?_)
  have hP : va_P D classes [(h0, .inr (0, [.ref p1, .ref p2, .ref p3, .ref p4, .ref q5, .int 0])), (q5, .inr (7, [.ref q6_12, .int 0])), (q6_12, .inl (cC, 1120, .inl (fun _ => 0)))] H := hP
  have hD : va_D A [(h0, .inr (0, [.ref p1, .ref p2, .ref p3, .ref p4, .ref q5, .int 0])), (q5, .inr (7, [.ref q6_12, .int 0])), (q6_12, .inl (cC, 1120, .inl (fun _ => 0)))] := hD
  have hP9 := hP.sub (ws' := [(h0, .inr (0, [.ref p1, .ref p2, .ref p3, .ref p4, .ref q5, .int 0])), (q5, .inr (7, [.ref q6_12, .int 0])), (q6_12, .inl (cC, 1120, .inl (fun _ => 0)))]) [0, 1, 2] rfl
  have hD9 := hD.sub (ws' := [(h0, .inr (0, [.ref p1, .ref p2, .ref p3, .ref p4, .ref q5, .int 0])), (q5, .inr (7, [.ref q6_12, .int 0])), (q6_12, .inl (cC, 1120, .inl (fun _ => 0)))]) [0, 1, 2] (by decide) rfl
  exact W.vret hx hb hr (fun t ht hW => ⟨⟨(), rfl, trivial, q5, q6_12, cC, by rw [ht]; exact hP9, va_K.moved hW.alike hK, hD9⟩, hS.F ht⟩) hS.2.2 d_K_Mapping_init_39
set_option maxHeartbeats 4000000 in
set_option maxRecDepth 100000 in
theorem ci_Types {l : Launch} {D : va_G} {h0 sz : Nat}  {N : Nat} {stT : sk_M} (hTT : K_Types_reset N sk_0 = some stT) : Met l y_K_Types_init w_K_Types_init ({ frames := 5, cells := 8, slots := 80, locals := 108 }) (va_Pc [.ref h0] (fun U => U.heap.size = sz ∧ va_P D classes [(h0, .inr (8, [.null, .null, .null, .null, .null, .null, .null, .null, .long 0, .long 0, .long 0]))] U.heap ∧ va_K D classes [] U ∧ va_D (fun _ => True) [(h0, .inr (8, [.null, .null, .null, .null, .null, .null, .null, .null, .long 0, .long 0, .long 0]))] ∧ nwN U)) (va_Qv (fun _ : Unit => True) (fun _ t => ∃ (q7 q15 q23 q31 q39 q47 q55 q63 : Nat) (cI cJ : ClassId), va_P D classes [(h0, .inr (8, [.ref q7, .ref q15, .ref q23, .ref q31, .ref q39, .ref q47, .ref q55, .ref q63, .long (stT.2 0 11), .long (stT.2 0 12), .long (stT.2 0 13)])), (q7, .inl (cI, 10, .inl (stT.1 35))), (q15, .inl (cI, 10, .inl (stT.1 36))), (q23, .inl (cI, 10, .inl (stT.1 37))), (q31, .inl (cI, 10, .inl (stT.1 38))), (q39, .inl (cI, 10, .inl (stT.1 39))), (q47, .inl (cJ, 10, .inr (.inl (stT.2 40)))), (q55, .inl (cJ, 10, .inr (.inl (stT.2 41)))), (q63, .inl (cJ, 10, .inr (.inl (stT.2 42))))] t.heap ∧ va_K D classes [(cI, .int), (cJ, .long)] t ∧ va_D (va_A [(h0, .inr (8, [.null, .null, .null, .null, .null, .null, .null, .null, .long 0, .long 0, .long 0]))] sz) [(h0, .inr (8, [.ref q7, .ref q15, .ref q23, .ref q31, .ref q39, .ref q47, .ref q55, .ref q63, .long (stT.2 0 11), .long (stT.2 0 12), .long (stT.2 0 13)])), (q7, .inl (cI, 10, .inl (stT.1 35))), (q15, .inl (cI, 10, .inl (stT.1 36))), (q23, .inl (cI, 10, .inl (stT.1 37))), (q31, .inl (cI, 10, .inl (stT.1 38))), (q39, .inl (cI, 10, .inl (stT.1 39))), (q47, .inl (cJ, 10, .inr (.inl (stT.2 40)))), (q55, .inl (cJ, 10, .inr (.inl (stT.2 41)))), (q63, .inl (cJ, 10, .inr (.inl (stT.2 42))))]) (va_A [(h0, .inr (8, [.null, .null, .null, .null, .null, .null, .null, .null, .long 0, .long 0, .long 0]))] sz)) 8 80 (va_A [(h0, .inr (8, [.null, .null, .null, .null, .null, .null, .null, .null, .long 0, .long 0, .long 0]))] sz) := by
  refine Met.ofW (cc := b_K_Types_init) (maxL := 1) (ret := none) (by decide) rfl ?_
  intro p e s m args below meth c s₁ B hml hv
  obtain ⟨rfl, hsz, hP, hK, hD0, hnw⟩ := hv
  have hx := B.exec
  have hb := B.bytes
  have hr := B.returns
  have hts0 := atoms_spec (ws := w_K_Types_init) B.pre
  have hts : ∀ w ∈ TB, w.before _ s = true := fun w h => hts0 w (List.mem_cons_of_mem _ h)
  have hown : s.vm.findClass R_Types = some m.cls := findClass_of_methodNamed B.named
  have hlocks := B.notSynchronized
  have hin : meth.name = "<init>" := (name_of_methodNamed B.named B.method).1
  subst hsz
  have hD := hD0.self (sz := s.heap.size)
  generalize hAe : va_A [(h0, .inr (8, [.null, .null, .null, .null, .null, .null, .null, .null, .long 0, .long 0, .long 0]))] s.heap.size = A at hD ⊢
  have hA : ∀ q : Nat, s.heap.size ≤ q → A q := fun q h => by rw [← hAe]; exact Or.inr h
  have hS : va_S A s.heap s.heap [] := va_S.rf
  have hl := lv_entry [.ref h0] (n := 1) (Nat.le_of_ble_eq_true rfl)
  rw [lg_entry_eq]
  generalize (lg_sl ([.ref h0]) ++ List.replicate (1 - (lg_sl ([.ref h0])).length) Slot.unset).toArray = ls at hl ⊢
  have hl : lv_has ls 1 [(0, .ref h0)] := hl
  refine lv_aload_n hx hb d_K_Types_init_0 rfl (lv_at hl 0 rfl) ?_
  refine W.objInit hx hb hown (hts (.methodLink R_Types 3 objectInit) (tb_1 (List.mem_of_getElem? (i := 32) rfl) rfl)) (hts (.instanceMethod objectInit) (tb_1 (List.mem_of_getElem? (i := 25) rfl) rfl)) (hts (.code objectInit ⟨#[0xb1]⟩ 1 none) (tb_1 (List.mem_of_getElem? (i := 26) rfl) rfl)) rfl (by rw [hml]; exact hl.1) rfl d_K_Types_init_1 (Nat.le_of_ble_eq_true rfl) (Nat.le_of_ble_eq_true rfl) ?_
  refine W.eq (g2 := F0 m 4 ls []) rfl ?_
  refine lv_aload_n hx hb d_K_Types_init_4 rfl (lv_at hl 0 rfl) ?_
  refine lv_bipush (v := 10) hx hb d_K_Types_init_5 (by decide) ?_
  refine va_newa (ty := .int) (a0 := (10, .inl (fun _ => 0))) (N' := 10) hx hb (hts _ (tb_1 (List.mem_of_getElem? (i := 103) rfl) rfl)) rfl hK hP hD hS hA (fun _ => rfl) (by decide) (by decide) (by decide) (by decide) (by decide) d_K_Types_init_7 (fun q7 cI H hK hP hD hS => ?_)
  have hK : va_K D classes [(cI, .int)] s := hK
  refine W.widen (k := 1) (n := 10) (by decide) (by decide) ?_
  have hP : va_P D classes [(h0, .inr (8, [.null, .null, .null, .null, .null, .null, .null, .null, .long 0, .long 0, .long 0])), (q7, .inl (cI, 10, .inl (fun _ => 0)))] H := hP
  have hD : va_D A [(h0, .inr (8, [.null, .null, .null, .null, .null, .null, .null, .null, .long 0, .long 0, .long 0])), (q7, .inl (cI, 10, .inl (fun _ => 0)))] := hD
  refine va_putF (D := D) (ci := 8) (v := .ref q7) (ty := .array .int) (C := R_Types) (T := F_Types) (N := 11) hx hb hts i_Types t_Types t_Types_ok n_Types hown hK hP hD hS 0 rfl rfl 0 (by decide) (hts _ (tb_1 (List.mem_of_getElem? (i := 55) rfl) rfl)) (fun _ h9 => h9) rfl hin rfl (by decide +kernel) rfl rfl (Nat.le_of_ble_eq_true rfl) d_K_Types_init_9 (fun H locs hP hD hS => ?_)
  have hP : va_P D classes [(h0, .inr (8, [.ref q7, .null, .null, .null, .null, .null, .null, .null, .long 0, .long 0, .long 0])), (q7, .inl (cI, 10, .inl (fun _ => 0)))] H := hP
  have hD : va_D A [(h0, .inr (8, [.ref q7, .null, .null, .null, .null, .null, .null, .null, .long 0, .long 0, .long 0])), (q7, .inl (cI, 10, .inl (fun _ => 0)))] := hD
  refine lv_aload_n hx hb d_K_Types_init_12 rfl (lv_at hl 0 rfl) ?_
  refine lv_bipush (v := 10) hx hb d_K_Types_init_13 (by decide) ?_
  refine va_newa (ty := .int) (a0 := (10, .inl (fun _ => 0))) (N' := 10) hx hb (hts _ (tb_1 (List.mem_of_getElem? (i := 103) rfl) rfl)) rfl hK hP hD hS hA (fun _ => rfl) (by decide) (by decide) (by decide) (by decide) (by decide) d_K_Types_init_15 (fun q15 c15 H hK hP hD hS => ?_)
  obtain rfl := sk_same hK 0 1 (ty := .int) rfl rfl (by decide)
  have hK : va_K D classes [(cI, .int)] s := hK.sub [0] rfl
  refine W.widen (k := 2) (n := 20) (by decide) (by decide) ?_
  have hP : va_P D classes [(h0, .inr (8, [.ref q7, .null, .null, .null, .null, .null, .null, .null, .long 0, .long 0, .long 0])), (q7, .inl (cI, 10, .inl (fun _ => 0))), (q15, .inl (cI, 10, .inl (fun _ => 0)))] H := hP
  have hD : va_D A [(h0, .inr (8, [.ref q7, .null, .null, .null, .null, .null, .null, .null, .long 0, .long 0, .long 0])), (q7, .inl (cI, 10, .inl (fun _ => 0))), (q15, .inl (cI, 10, .inl (fun _ => 0)))] := hD
  refine va_putF (D := D) (ci := 8) (v := .ref q15) (ty := .array .int) (C := R_Types) (T := F_Types) (N := 11) hx hb hts i_Types t_Types t_Types_ok n_Types hown hK hP hD hS 0 rfl rfl 1 (by decide) (hts _ (tb_1 (List.mem_of_getElem? (i := 59) rfl) rfl)) (fun _ h9 => h9) rfl hin rfl (by decide +kernel) rfl rfl (Nat.le_of_ble_eq_true rfl) d_K_Types_init_17 (fun H locs hP hD hS => ?_)
  have hP : va_P D classes [(h0, .inr (8, [.ref q7, .ref q15, .null, .null, .null, .null, .null, .null, .long 0, .long 0, .long 0])), (q7, .inl (cI, 10, .inl (fun _ => 0))), (q15, .inl (cI, 10, .inl (fun _ => 0)))] H := hP
  have hD : va_D A [(h0, .inr (8, [.ref q7, .ref q15, .null, .null, .null, .null, .null, .null, .long 0, .long 0, .long 0])), (q7, .inl (cI, 10, .inl (fun _ => 0))), (q15, .inl (cI, 10, .inl (fun _ => 0)))] := hD
  refine lv_aload_n hx hb d_K_Types_init_20 rfl (lv_at hl 0 rfl) ?_
  refine lv_bipush (v := 10) hx hb d_K_Types_init_21 (by decide) ?_
  refine va_newa (ty := .int) (a0 := (10, .inl (fun _ => 0))) (N' := 10) hx hb (hts _ (tb_1 (List.mem_of_getElem? (i := 103) rfl) rfl)) rfl hK hP hD hS hA (fun _ => rfl) (by decide) (by decide) (by decide) (by decide) (by decide) d_K_Types_init_23 (fun q23 c23 H hK hP hD hS => ?_)
  obtain rfl := sk_same hK 0 1 (ty := .int) rfl rfl (by decide)
  have hK : va_K D classes [(cI, .int)] s := hK.sub [0] rfl
  refine W.widen (k := 3) (n := 30) (by decide) (by decide) ?_
  have hP : va_P D classes [(h0, .inr (8, [.ref q7, .ref q15, .null, .null, .null, .null, .null, .null, .long 0, .long 0, .long 0])), (q7, .inl (cI, 10, .inl (fun _ => 0))), (q15, .inl (cI, 10, .inl (fun _ => 0))), (q23, .inl (cI, 10, .inl (fun _ => 0)))] H := hP
  have hD : va_D A [(h0, .inr (8, [.ref q7, .ref q15, .null, .null, .null, .null, .null, .null, .long 0, .long 0, .long 0])), (q7, .inl (cI, 10, .inl (fun _ => 0))), (q15, .inl (cI, 10, .inl (fun _ => 0))), (q23, .inl (cI, 10, .inl (fun _ => 0)))] := hD
  refine va_putF (D := D) (ci := 8) (v := .ref q23) (ty := .array .int) (C := R_Types) (T := F_Types) (N := 11) hx hb hts i_Types t_Types t_Types_ok n_Types hown hK hP hD hS 0 rfl rfl 2 (by decide) (hts _ (tb_1 (List.mem_of_getElem? (i := 60) rfl) rfl)) (fun _ h9 => h9) rfl hin rfl (by decide +kernel) rfl rfl (Nat.le_of_ble_eq_true rfl) d_K_Types_init_25 (fun H locs hP hD hS => ?_)
  have hP : va_P D classes [(h0, .inr (8, [.ref q7, .ref q15, .ref q23, .null, .null, .null, .null, .null, .long 0, .long 0, .long 0])), (q7, .inl (cI, 10, .inl (fun _ => 0))), (q15, .inl (cI, 10, .inl (fun _ => 0))), (q23, .inl (cI, 10, .inl (fun _ => 0)))] H := hP
  have hD : va_D A [(h0, .inr (8, [.ref q7, .ref q15, .ref q23, .null, .null, .null, .null, .null, .long 0, .long 0, .long 0])), (q7, .inl (cI, 10, .inl (fun _ => 0))), (q15, .inl (cI, 10, .inl (fun _ => 0))), (q23, .inl (cI, 10, .inl (fun _ => 0)))] := hD
  refine lv_aload_n hx hb d_K_Types_init_28 rfl (lv_at hl 0 rfl) ?_
  refine lv_bipush (v := 10) hx hb d_K_Types_init_29 (by decide) ?_
  refine va_newa (ty := .int) (a0 := (10, .inl (fun _ => 0))) (N' := 10) hx hb (hts _ (tb_1 (List.mem_of_getElem? (i := 103) rfl) rfl)) rfl hK hP hD hS hA (fun _ => rfl) (by decide) (by decide) (by decide) (by decide) (by decide) d_K_Types_init_31 (fun q31 c31 H hK hP hD hS => ?_)
  obtain rfl := sk_same hK 0 1 (ty := .int) rfl rfl (by decide)
  have hK : va_K D classes [(cI, .int)] s := hK.sub [0] rfl
  refine W.widen (k := 4) (n := 40) (by decide) (by decide) ?_
  have hP : va_P D classes [(h0, .inr (8, [.ref q7, .ref q15, .ref q23, .null, .null, .null, .null, .null, .long 0, .long 0, .long 0])), (q7, .inl (cI, 10, .inl (fun _ => 0))), (q15, .inl (cI, 10, .inl (fun _ => 0))), (q23, .inl (cI, 10, .inl (fun _ => 0))), (q31, .inl (cI, 10, .inl (fun _ => 0)))] H := hP
  have hD : va_D A [(h0, .inr (8, [.ref q7, .ref q15, .ref q23, .null, .null, .null, .null, .null, .long 0, .long 0, .long 0])), (q7, .inl (cI, 10, .inl (fun _ => 0))), (q15, .inl (cI, 10, .inl (fun _ => 0))), (q23, .inl (cI, 10, .inl (fun _ => 0))), (q31, .inl (cI, 10, .inl (fun _ => 0)))] := hD
  refine va_putF (D := D) (ci := 8) (v := .ref q31) (ty := .array .int) (C := R_Types) (T := F_Types) (N := 11) hx hb hts i_Types t_Types t_Types_ok n_Types hown hK hP hD hS 0 rfl rfl 3 (by decide) (hts _ (tb_1 (List.mem_of_getElem? (i := 61) rfl) rfl)) (fun _ h9 => h9) rfl hin rfl (by decide +kernel) rfl rfl (Nat.le_of_ble_eq_true rfl) d_K_Types_init_33 (fun H locs hP hD hS => ?_)
  have hP : va_P D classes [(h0, .inr (8, [.ref q7, .ref q15, .ref q23, .ref q31, .null, .null, .null, .null, .long 0, .long 0, .long 0])), (q7, .inl (cI, 10, .inl (fun _ => 0))), (q15, .inl (cI, 10, .inl (fun _ => 0))), (q23, .inl (cI, 10, .inl (fun _ => 0))), (q31, .inl (cI, 10, .inl (fun _ => 0)))] H := hP
  have hD : va_D A [(h0, .inr (8, [.ref q7, .ref q15, .ref q23, .ref q31, .null, .null, .null, .null, .long 0, .long 0, .long 0])), (q7, .inl (cI, 10, .inl (fun _ => 0))), (q15, .inl (cI, 10, .inl (fun _ => 0))), (q23, .inl (cI, 10, .inl (fun _ => 0))), (q31, .inl (cI, 10, .inl (fun _ => 0)))] := hD
  refine lv_aload_n hx hb d_K_Types_init_36 rfl (lv_at hl 0 rfl) ?_
  refine lv_bipush (v := 10) hx hb d_K_Types_init_37 (by decide) ?_
  refine va_newa (ty := .int) (a0 := (10, .inl (fun _ => 0))) (N' := 10) hx hb (hts _ (tb_1 (List.mem_of_getElem? (i := 103) rfl) rfl)) rfl hK hP hD hS hA (fun _ => rfl) (by decide) (by decide) (by decide) (by decide) (by decide) d_K_Types_init_39 (fun q39 c39 H hK hP hD hS => ?_)
  obtain rfl := sk_same hK 0 1 (ty := .int) rfl rfl (by decide)
  have hK : va_K D classes [(cI, .int)] s := hK.sub [0] rfl
  refine W.widen (k := 5) (n := 50) (by decide) (by decide) ?_
  have hP : va_P D classes [(h0, .inr (8, [.ref q7, .ref q15, .ref q23, .ref q31, .null, .null, .null, .null, .long 0, .long 0, .long 0])), (q7, .inl (cI, 10, .inl (fun _ => 0))), (q15, .inl (cI, 10, .inl (fun _ => 0))), (q23, .inl (cI, 10, .inl (fun _ => 0))), (q31, .inl (cI, 10, .inl (fun _ => 0))), (q39, .inl (cI, 10, .inl (fun _ => 0)))] H := hP
  have hD : va_D A [(h0, .inr (8, [.ref q7, .ref q15, .ref q23, .ref q31, .null, .null, .null, .null, .long 0, .long 0, .long 0])), (q7, .inl (cI, 10, .inl (fun _ => 0))), (q15, .inl (cI, 10, .inl (fun _ => 0))), (q23, .inl (cI, 10, .inl (fun _ => 0))), (q31, .inl (cI, 10, .inl (fun _ => 0))), (q39, .inl (cI, 10, .inl (fun _ => 0)))] := hD
  refine va_putF (D := D) (ci := 8) (v := .ref q39) (ty := .array .int) (C := R_Types) (T := F_Types) (N := 11) hx hb hts i_Types t_Types t_Types_ok n_Types hown hK hP hD hS 0 rfl rfl 4 (by decide) (hts _ (tb_1 (List.mem_of_getElem? (i := 62) rfl) rfl)) (fun _ h9 => h9) rfl hin rfl (by decide +kernel) rfl rfl (Nat.le_of_ble_eq_true rfl) d_K_Types_init_41 (fun H locs hP hD hS => ?_)
  have hP : va_P D classes [(h0, .inr (8, [.ref q7, .ref q15, .ref q23, .ref q31, .ref q39, .null, .null, .null, .long 0, .long 0, .long 0])), (q7, .inl (cI, 10, .inl (fun _ => 0))), (q15, .inl (cI, 10, .inl (fun _ => 0))), (q23, .inl (cI, 10, .inl (fun _ => 0))), (q31, .inl (cI, 10, .inl (fun _ => 0))), (q39, .inl (cI, 10, .inl (fun _ => 0)))] H := hP
  have hD : va_D A [(h0, .inr (8, [.ref q7, .ref q15, .ref q23, .ref q31, .ref q39, .null, .null, .null, .long 0, .long 0, .long 0])), (q7, .inl (cI, 10, .inl (fun _ => 0))), (q15, .inl (cI, 10, .inl (fun _ => 0))), (q23, .inl (cI, 10, .inl (fun _ => 0))), (q31, .inl (cI, 10, .inl (fun _ => 0))), (q39, .inl (cI, 10, .inl (fun _ => 0)))] := hD
  refine lv_aload_n hx hb d_K_Types_init_44 rfl (lv_at hl 0 rfl) ?_
  refine lv_bipush (v := 10) hx hb d_K_Types_init_45 (by decide) ?_
  refine va_newa (ty := .long) (a0 := (10, .inr (.inl (fun _ => 0)))) (N' := 10) hx hb (hts _ (tb_1 (List.mem_of_getElem? (i := 104) rfl) rfl)) rfl hK hP hD hS hA (fun _ => rfl) (by decide) (by decide) (by decide) (by decide) (by decide) d_K_Types_init_47 (fun q47 cJ H hK hP hD hS => ?_)
  have hK : va_K D classes [(cI, .int), (cJ, .long)] s := hK
  refine W.widen (k := 6) (n := 60) (by decide) (by decide) ?_
  have hP : va_P D classes [(h0, .inr (8, [.ref q7, .ref q15, .ref q23, .ref q31, .ref q39, .null, .null, .null, .long 0, .long 0, .long 0])), (q7, .inl (cI, 10, .inl (fun _ => 0))), (q15, .inl (cI, 10, .inl (fun _ => 0))), (q23, .inl (cI, 10, .inl (fun _ => 0))), (q31, .inl (cI, 10, .inl (fun _ => 0))), (q39, .inl (cI, 10, .inl (fun _ => 0))), (q47, .inl (cJ, 10, .inr (.inl (fun _ => 0))))] H := hP
  have hD : va_D A [(h0, .inr (8, [.ref q7, .ref q15, .ref q23, .ref q31, .ref q39, .null, .null, .null, .long 0, .long 0, .long 0])), (q7, .inl (cI, 10, .inl (fun _ => 0))), (q15, .inl (cI, 10, .inl (fun _ => 0))), (q23, .inl (cI, 10, .inl (fun _ => 0))), (q31, .inl (cI, 10, .inl (fun _ => 0))), (q39, .inl (cI, 10, .inl (fun _ => 0))), (q47, .inl (cJ, 10, .inr (.inl (fun _ => 0))))] := hD
  refine va_putF (D := D) (ci := 8) (v := .ref q47) (ty := .array .long) (C := R_Types) (T := F_Types) (N := 11) hx hb hts i_Types t_Types t_Types_ok n_Types hown hK hP hD hS 0 rfl rfl 5 (by decide) (hts _ (tb_1 (List.mem_of_getElem? (i := 64) rfl) rfl)) (fun _ h9 => h9) rfl hin rfl (by decide +kernel) rfl rfl (Nat.le_of_ble_eq_true rfl) d_K_Types_init_49 (fun H locs hP hD hS => ?_)
  have hP : va_P D classes [(h0, .inr (8, [.ref q7, .ref q15, .ref q23, .ref q31, .ref q39, .ref q47, .null, .null, .long 0, .long 0, .long 0])), (q7, .inl (cI, 10, .inl (fun _ => 0))), (q15, .inl (cI, 10, .inl (fun _ => 0))), (q23, .inl (cI, 10, .inl (fun _ => 0))), (q31, .inl (cI, 10, .inl (fun _ => 0))), (q39, .inl (cI, 10, .inl (fun _ => 0))), (q47, .inl (cJ, 10, .inr (.inl (fun _ => 0))))] H := hP
  have hD : va_D A [(h0, .inr (8, [.ref q7, .ref q15, .ref q23, .ref q31, .ref q39, .ref q47, .null, .null, .long 0, .long 0, .long 0])), (q7, .inl (cI, 10, .inl (fun _ => 0))), (q15, .inl (cI, 10, .inl (fun _ => 0))), (q23, .inl (cI, 10, .inl (fun _ => 0))), (q31, .inl (cI, 10, .inl (fun _ => 0))), (q39, .inl (cI, 10, .inl (fun _ => 0))), (q47, .inl (cJ, 10, .inr (.inl (fun _ => 0))))] := hD
  refine lv_aload_n hx hb d_K_Types_init_52 rfl (lv_at hl 0 rfl) ?_
  refine lv_bipush (v := 10) hx hb d_K_Types_init_53 (by decide) ?_
  refine va_newa (ty := .long) (a0 := (10, .inr (.inl (fun _ => 0)))) (N' := 10) hx hb (hts _ (tb_1 (List.mem_of_getElem? (i := 104) rfl) rfl)) rfl hK hP hD hS hA (fun _ => rfl) (by decide) (by decide) (by decide) (by decide) (by decide) d_K_Types_init_55 (fun q55 c55 H hK hP hD hS => ?_)
  obtain rfl := sk_same hK 1 2 (ty := .long) rfl rfl (by decide)
  have hK : va_K D classes [(cI, .int), (cJ, .long)] s := hK.sub [0, 1] rfl
  refine W.widen (k := 7) (n := 70) (by decide) (by decide) ?_
  have hP : va_P D classes [(h0, .inr (8, [.ref q7, .ref q15, .ref q23, .ref q31, .ref q39, .ref q47, .null, .null, .long 0, .long 0, .long 0])), (q7, .inl (cI, 10, .inl (fun _ => 0))), (q15, .inl (cI, 10, .inl (fun _ => 0))), (q23, .inl (cI, 10, .inl (fun _ => 0))), (q31, .inl (cI, 10, .inl (fun _ => 0))), (q39, .inl (cI, 10, .inl (fun _ => 0))), (q47, .inl (cJ, 10, .inr (.inl (fun _ => 0)))), (q55, .inl (cJ, 10, .inr (.inl (fun _ => 0))))] H := hP
  have hD : va_D A [(h0, .inr (8, [.ref q7, .ref q15, .ref q23, .ref q31, .ref q39, .ref q47, .null, .null, .long 0, .long 0, .long 0])), (q7, .inl (cI, 10, .inl (fun _ => 0))), (q15, .inl (cI, 10, .inl (fun _ => 0))), (q23, .inl (cI, 10, .inl (fun _ => 0))), (q31, .inl (cI, 10, .inl (fun _ => 0))), (q39, .inl (cI, 10, .inl (fun _ => 0))), (q47, .inl (cJ, 10, .inr (.inl (fun _ => 0)))), (q55, .inl (cJ, 10, .inr (.inl (fun _ => 0))))] := hD
  refine va_putF (D := D) (ci := 8) (v := .ref q55) (ty := .array .long) (C := R_Types) (T := F_Types) (N := 11) hx hb hts i_Types t_Types t_Types_ok n_Types hown hK hP hD hS 0 rfl rfl 6 (by decide) (hts _ (tb_1 (List.mem_of_getElem? (i := 66) rfl) rfl)) (fun _ h9 => h9) rfl hin rfl (by decide +kernel) rfl rfl (Nat.le_of_ble_eq_true rfl) d_K_Types_init_57 (fun H locs hP hD hS => ?_)
  have hP : va_P D classes [(h0, .inr (8, [.ref q7, .ref q15, .ref q23, .ref q31, .ref q39, .ref q47, .ref q55, .null, .long 0, .long 0, .long 0])), (q7, .inl (cI, 10, .inl (fun _ => 0))), (q15, .inl (cI, 10, .inl (fun _ => 0))), (q23, .inl (cI, 10, .inl (fun _ => 0))), (q31, .inl (cI, 10, .inl (fun _ => 0))), (q39, .inl (cI, 10, .inl (fun _ => 0))), (q47, .inl (cJ, 10, .inr (.inl (fun _ => 0)))), (q55, .inl (cJ, 10, .inr (.inl (fun _ => 0))))] H := hP
  have hD : va_D A [(h0, .inr (8, [.ref q7, .ref q15, .ref q23, .ref q31, .ref q39, .ref q47, .ref q55, .null, .long 0, .long 0, .long 0])), (q7, .inl (cI, 10, .inl (fun _ => 0))), (q15, .inl (cI, 10, .inl (fun _ => 0))), (q23, .inl (cI, 10, .inl (fun _ => 0))), (q31, .inl (cI, 10, .inl (fun _ => 0))), (q39, .inl (cI, 10, .inl (fun _ => 0))), (q47, .inl (cJ, 10, .inr (.inl (fun _ => 0)))), (q55, .inl (cJ, 10, .inr (.inl (fun _ => 0))))] := hD
  refine lv_aload_n hx hb d_K_Types_init_60 rfl (lv_at hl 0 rfl) ?_
  refine lv_bipush (v := 10) hx hb d_K_Types_init_61 (by decide) ?_
  refine va_newa (ty := .long) (a0 := (10, .inr (.inl (fun _ => 0)))) (N' := 10) hx hb (hts _ (tb_1 (List.mem_of_getElem? (i := 104) rfl) rfl)) rfl hK hP hD hS hA (fun _ => rfl) (by decide) (by decide) (by decide) (by decide) (by decide) d_K_Types_init_63 (fun q63 c63 H hK hP hD hS => ?_)
  obtain rfl := sk_same hK 1 2 (ty := .long) rfl rfl (by decide)
  have hK : va_K D classes [(cI, .int), (cJ, .long)] s := hK.sub [0, 1] rfl
  refine W.widen (k := 8) (n := 80) (by decide) (by decide) ?_
  have hP : va_P D classes [(h0, .inr (8, [.ref q7, .ref q15, .ref q23, .ref q31, .ref q39, .ref q47, .ref q55, .null, .long 0, .long 0, .long 0])), (q7, .inl (cI, 10, .inl (fun _ => 0))), (q15, .inl (cI, 10, .inl (fun _ => 0))), (q23, .inl (cI, 10, .inl (fun _ => 0))), (q31, .inl (cI, 10, .inl (fun _ => 0))), (q39, .inl (cI, 10, .inl (fun _ => 0))), (q47, .inl (cJ, 10, .inr (.inl (fun _ => 0)))), (q55, .inl (cJ, 10, .inr (.inl (fun _ => 0)))), (q63, .inl (cJ, 10, .inr (.inl (fun _ => 0))))] H := hP
  have hD : va_D A [(h0, .inr (8, [.ref q7, .ref q15, .ref q23, .ref q31, .ref q39, .ref q47, .ref q55, .null, .long 0, .long 0, .long 0])), (q7, .inl (cI, 10, .inl (fun _ => 0))), (q15, .inl (cI, 10, .inl (fun _ => 0))), (q23, .inl (cI, 10, .inl (fun _ => 0))), (q31, .inl (cI, 10, .inl (fun _ => 0))), (q39, .inl (cI, 10, .inl (fun _ => 0))), (q47, .inl (cJ, 10, .inr (.inl (fun _ => 0)))), (q55, .inl (cJ, 10, .inr (.inl (fun _ => 0)))), (q63, .inl (cJ, 10, .inr (.inl (fun _ => 0))))] := hD
  refine va_putF (D := D) (ci := 8) (v := .ref q63) (ty := .array .long) (C := R_Types) (T := F_Types) (N := 11) hx hb hts i_Types t_Types t_Types_ok n_Types hown hK hP hD hS 0 rfl rfl 7 (by decide) (hts _ (tb_1 (List.mem_of_getElem? (i := 68) rfl) rfl)) (fun _ h9 => h9) rfl hin rfl (by decide +kernel) rfl rfl (Nat.le_of_ble_eq_true rfl) d_K_Types_init_65 (fun H locs hP hD hS => ?_)
  have hP : va_P D classes [(h0, .inr (8, [.ref q7, .ref q15, .ref q23, .ref q31, .ref q39, .ref q47, .ref q55, .ref q63, .long 0, .long 0, .long 0])), (q7, .inl (cI, 10, .inl (fun _ => 0))), (q15, .inl (cI, 10, .inl (fun _ => 0))), (q23, .inl (cI, 10, .inl (fun _ => 0))), (q31, .inl (cI, 10, .inl (fun _ => 0))), (q39, .inl (cI, 10, .inl (fun _ => 0))), (q47, .inl (cJ, 10, .inr (.inl (fun _ => 0)))), (q55, .inl (cJ, 10, .inr (.inl (fun _ => 0)))), (q63, .inl (cJ, 10, .inr (.inl (fun _ => 0))))] H := hP
  have hD : va_D A [(h0, .inr (8, [.ref q7, .ref q15, .ref q23, .ref q31, .ref q39, .ref q47, .ref q55, .ref q63, .long 0, .long 0, .long 0])), (q7, .inl (cI, 10, .inl (fun _ => 0))), (q15, .inl (cI, 10, .inl (fun _ => 0))), (q23, .inl (cI, 10, .inl (fun _ => 0))), (q31, .inl (cI, 10, .inl (fun _ => 0))), (q39, .inl (cI, 10, .inl (fun _ => 0))), (q47, .inl (cJ, 10, .inr (.inl (fun _ => 0)))), (q55, .inl (cJ, 10, .inr (.inl (fun _ => 0)))), (q63, .inl (cJ, 10, .inr (.inl (fun _ => 0))))] := hD
  refine lv_aload_n hx hb d_K_Types_init_68 rfl (lv_at hl 0 rfl) ?_
  have hw : sk_w D (tyU cI cJ cI) A (ceU (fun k => ([0, h0, 0, 0, 0, 0, 0, 0, 0, 0, 0, 0, 0, 0, 0, 0, 0, 0, 0, 0, 0, 0, 0, 0, 0, 0, 0, 0, 0, 0, 0, 0, 0, 0, 0, q7, q15, q23, q31, q39, q47, q55, q63] : List Nat).getD k 0) cI cJ cI) s sk_0 H locs := ⟨hK, hP.sub [0, 1, 2, 3, 4, 5, 6, 7, 8] rfl, hD.sub [0, 1, 2, 3, 4, 5, 6, 7, 8] (by decide) rfl, hS⟩
  refine sk_callVvC (As := []) (rest := []) ⟨hx, hb, hml, hown, hts⟩ hw hnw nwN_ok (cU_K_Types_reset nwN_ok hTT) (cwIU_Types_37 hts (by decide)) (rc_U1 hw) rfl hl.1 rfl (Nat.le_of_ble_eq_true rfl) d_K_Types_init_69 (by decide) (fun H locs hw => ?_)
  obtain ⟨hK, hP, hD, hS⟩ := hw
  have hK : va_K D classes [(cI, .int), (cJ, .long)] s := hK
  have hP : va_P D classes [(h0, .inr (8, [.ref q7, .ref q15, .ref q23, .ref q31, .ref q39, .ref q47, .ref q55, .ref q63, .long (stT.2 0 11), .long (stT.2 0 12), .long (stT.2 0 13)])), (q7, .inl (cI, 10, .inl (stT.1 35))), (q15, .inl (cI, 10, .inl (stT.1 36))), (q23, .inl (cI, 10, .inl (stT.1 37))), (q31, .inl (cI, 10, .inl (stT.1 38))), (q39, .inl (cI, 10, .inl (stT.1 39))), (q47, .inl (cJ, 10, .inr (.inl (stT.2 40)))), (q55, .inl (cJ, 10, .inr (.inl (stT.2 41)))), (q63, .inl (cJ, 10, .inr (.inl (stT.2 42))))] H := hP
  have hD : va_D A [(h0, .inr (8, [.ref q7, .ref q15, .ref q23, .ref q31, .ref q39, .ref q47, .ref q55, .ref q63, .long (stT.2 0 11), .long (stT.2 0 12), .long (stT.2 0 13)])), (q7, .inl (cI, 10, .inl (stT.1 35))), (q15, .inl (cI, 10, .inl (stT.1 36))), (q23, .inl (cI, 10, .inl (stT.1 37))), (q31, .inl (cI, 10, .inl (stT.1 38))), (q39, .inl (cI, 10, .inl (stT.1 39))), (q47, .inl (cJ, 10, .inr (.inl (stT.2 40)))), (q55, .inl (cJ, 10, .inr (.inl (stT.2 41)))), (q63, .inl (cJ, 10, .inr (.inl (stT.2 42))))] := hD
  have hP9 := hP.sub (ws' := [(h0, .inr (8, [.ref q7, .ref q15, .ref q23, .ref q31, .ref q39, .ref q47, .ref q55, .ref q63, .long (stT.2 0 11), .long (stT.2 0 12), .long (stT.2 0 13)])), (q7, .inl (cI, 10, .inl (stT.1 35))), (q15, .inl (cI, 10, .inl (stT.1 36))), (q23, .inl (cI, 10, .inl (stT.1 37))), (q31, .inl (cI, 10, .inl (stT.1 38))), (q39, .inl (cI, 10, .inl (stT.1 39))), (q47, .inl (cJ, 10, .inr (.inl (stT.2 40)))), (q55, .inl (cJ, 10, .inr (.inl (stT.2 41)))), (q63, .inl (cJ, 10, .inr (.inl (stT.2 42))))]) [0, 1, 2, 3, 4, 5, 6, 7, 8] rfl
  have hD9 := hD.sub (ws' := [(h0, .inr (8, [.ref q7, .ref q15, .ref q23, .ref q31, .ref q39, .ref q47, .ref q55, .ref q63, .long (stT.2 0 11), .long (stT.2 0 12), .long (stT.2 0 13)])), (q7, .inl (cI, 10, .inl (stT.1 35))), (q15, .inl (cI, 10, .inl (stT.1 36))), (q23, .inl (cI, 10, .inl (stT.1 37))), (q31, .inl (cI, 10, .inl (stT.1 38))), (q39, .inl (cI, 10, .inl (stT.1 39))), (q47, .inl (cJ, 10, .inr (.inl (stT.2 40)))), (q55, .inl (cJ, 10, .inr (.inl (stT.2 41)))), (q63, .inl (cJ, 10, .inr (.inl (stT.2 42))))]) [0, 1, 2, 3, 4, 5, 6, 7, 8] (by decide) rfl
  exact W.vret hx hb hr (fun t ht hW => ⟨⟨(), rfl, trivial, q7, q15, q23, q31, q39, q47, q55, q63, cI, cJ, by rw [ht]; exact hP9, va_K.moved hW.alike hK, hD9⟩, hS.F ht⟩) hS.2.2 d_K_Types_init_72
set_option maxHeartbeats 4000000 in
set_option maxRecDepth 100000 in
theorem ci_Members {l : Launch} {D : va_G} {h0 sz : Nat} {p1 : Nat} {N : Nat} {stM : sk_M} (hTM : K_Members_reset N sk_0 = some stM) : Met l y_K_Members_init w_K_Members_init ({ frames := 3, cells := 4, slots := 440, locals := 64 }) (va_Pc [.ref h0, .ref p1] (fun U => U.heap.size = sz ∧ va_P D classes [(h0, .inr (1, [.null, .null, .null, .null, .null, .int 0, .long 0, .long 0]))] U.heap ∧ va_K D classes [] U ∧ va_D (fun _ => True) [(h0, .inr (1, [.null, .null, .null, .null, .null, .int 0, .long 0, .long 0]))] ∧ nwN U)) (va_Qv (fun _ : Unit => True) (fun _ t => ∃ (q7 q15 q23 q32 : Nat) (cI : ClassId), va_P D classes [(h0, .inr (1, [.ref p1, .ref q7, .ref q15, .ref q23, .ref q32, .int (stM.1 0 5), .long (stM.2 0 0), .long (stM.2 0 1)])), (q7, .inl (cI, 40, .inl (stM.1 17))), (q15, .inl (cI, 40, .inl (stM.1 18))), (q23, .inl (cI, 40, .inl (stM.1 19))), (q32, .inl (cI, 320, .inl (stM.1 20)))] t.heap ∧ va_K D classes [(cI, .int)] t ∧ va_D (va_A [(h0, .inr (1, [.null, .null, .null, .null, .null, .int 0, .long 0, .long 0]))] sz) [(h0, .inr (1, [.ref p1, .ref q7, .ref q15, .ref q23, .ref q32, .int (stM.1 0 5), .long (stM.2 0 0), .long (stM.2 0 1)])), (q7, .inl (cI, 40, .inl (stM.1 17))), (q15, .inl (cI, 40, .inl (stM.1 18))), (q23, .inl (cI, 40, .inl (stM.1 19))), (q32, .inl (cI, 320, .inl (stM.1 20)))]) (va_A [(h0, .inr (1, [.null, .null, .null, .null, .null, .int 0, .long 0, .long 0]))] sz)) 4 440 (va_A [(h0, .inr (1, [.null, .null, .null, .null, .null, .int 0, .long 0, .long 0]))] sz) := by
  refine Met.ofW (cc := b_K_Members_init) (maxL := 2) (ret := none) (by decide) rfl ?_
  intro p e s m args below meth c s₁ B hml hv
  obtain ⟨rfl, hsz, hP, hK, hD0, hnw⟩ := hv
  have hx := B.exec
  have hb := B.bytes
  have hr := B.returns
  have hts0 := atoms_spec (ws := w_K_Members_init) B.pre
  have hts : ∀ w ∈ TB, w.before _ s = true := fun w h => hts0 w (List.mem_cons_of_mem _ h)
  have hown : s.vm.findClass R_Members = some m.cls := findClass_of_methodNamed B.named
  have hlocks := B.notSynchronized
  have hin : meth.name = "<init>" := (name_of_methodNamed B.named B.method).1
  subst hsz
  have hD := hD0.self (sz := s.heap.size)
  generalize hAe : va_A [(h0, .inr (1, [.null, .null, .null, .null, .null, .int 0, .long 0, .long 0]))] s.heap.size = A at hD ⊢
  have hA : ∀ q : Nat, s.heap.size ≤ q → A q := fun q h => by rw [← hAe]; exact Or.inr h
  have hS : va_S A s.heap s.heap [] := va_S.rf
  have hl := lv_entry [.ref h0, .ref p1] (n := 2) (Nat.le_of_ble_eq_true rfl)
  rw [lg_entry_eq]
  generalize (lg_sl ([.ref h0, .ref p1]) ++ List.replicate (2 - (lg_sl ([.ref h0, .ref p1])).length) Slot.unset).toArray = ls at hl ⊢
  have hl : lv_has ls 2 [(0, .ref h0), (1, .ref p1)] := hl
  refine lv_aload_n hx hb d_K_Members_init_0 rfl (lv_at hl 0 rfl) ?_
  refine W.objInit hx hb hown (hts (.methodLink R_Members 3 objectInit) (tb_1 (List.mem_of_getElem? (i := 110) rfl) rfl)) (hts (.instanceMethod objectInit) (tb_1 (List.mem_of_getElem? (i := 25) rfl) rfl)) (hts (.code objectInit ⟨#[0xb1]⟩ 1 none) (tb_1 (List.mem_of_getElem? (i := 26) rfl) rfl)) rfl (by rw [hml]; exact hl.1) rfl d_K_Members_init_1 (Nat.le_of_ble_eq_true rfl) (Nat.le_of_ble_eq_true rfl) ?_
  refine W.eq (g2 := F0 m 4 ls []) rfl ?_
  refine lv_aload_n hx hb d_K_Members_init_4 rfl (lv_at hl 0 rfl) ?_
  refine lv_bipush (v := 40) hx hb d_K_Members_init_5 (by decide) ?_
  refine va_newa (ty := .int) (a0 := (40, .inl (fun _ => 0))) (N' := 40) hx hb (hts _ (tb_1 (List.mem_of_getElem? (i := 103) rfl) rfl)) rfl hK hP hD hS hA (fun _ => rfl) (by decide) (by decide) (by decide) (by decide) (by decide) d_K_Members_init_7 (fun q7 cI H hK hP hD hS => ?_)
  have hK : va_K D classes [(cI, .int)] s := hK
  refine W.widen (k := 1) (n := 40) (by decide) (by decide) ?_
  have hP : va_P D classes [(h0, .inr (1, [.null, .null, .null, .null, .null, .int 0, .long 0, .long 0])), (q7, .inl (cI, 40, .inl (fun _ => 0)))] H := hP
  have hD : va_D A [(h0, .inr (1, [.null, .null, .null, .null, .null, .int 0, .long 0, .long 0])), (q7, .inl (cI, 40, .inl (fun _ => 0)))] := hD
  refine va_putF (D := D) (ci := 1) (v := .ref q7) (ty := .array .int) (C := R_Members) (T := F_Members) (N := 8) hx hb hts i_Members t_Members t_Members_ok n_Members hown hK hP hD hS 0 rfl rfl 1 (by decide) (hts _ (tb_1 (List.mem_of_getElem? (i := 124) rfl) rfl)) (fun _ h9 => h9) rfl hin rfl (by decide +kernel) rfl rfl (Nat.le_of_ble_eq_true rfl) d_K_Members_init_9 (fun H locs hP hD hS => ?_)
  have hP : va_P D classes [(h0, .inr (1, [.null, .ref q7, .null, .null, .null, .int 0, .long 0, .long 0])), (q7, .inl (cI, 40, .inl (fun _ => 0)))] H := hP
  have hD : va_D A [(h0, .inr (1, [.null, .ref q7, .null, .null, .null, .int 0, .long 0, .long 0])), (q7, .inl (cI, 40, .inl (fun _ => 0)))] := hD
  refine lv_aload_n hx hb d_K_Members_init_12 rfl (lv_at hl 0 rfl) ?_
  refine lv_bipush (v := 40) hx hb d_K_Members_init_13 (by decide) ?_
  refine va_newa (ty := .int) (a0 := (40, .inl (fun _ => 0))) (N' := 40) hx hb (hts _ (tb_1 (List.mem_of_getElem? (i := 103) rfl) rfl)) rfl hK hP hD hS hA (fun _ => rfl) (by decide) (by decide) (by decide) (by decide) (by decide) d_K_Members_init_15 (fun q15 c15 H hK hP hD hS => ?_)
  obtain rfl := sk_same hK 0 1 (ty := .int) rfl rfl (by decide)
  have hK : va_K D classes [(cI, .int)] s := hK.sub [0] rfl
  refine W.widen (k := 2) (n := 80) (by decide) (by decide) ?_
  have hP : va_P D classes [(h0, .inr (1, [.null, .ref q7, .null, .null, .null, .int 0, .long 0, .long 0])), (q7, .inl (cI, 40, .inl (fun _ => 0))), (q15, .inl (cI, 40, .inl (fun _ => 0)))] H := hP
  have hD : va_D A [(h0, .inr (1, [.null, .ref q7, .null, .null, .null, .int 0, .long 0, .long 0])), (q7, .inl (cI, 40, .inl (fun _ => 0))), (q15, .inl (cI, 40, .inl (fun _ => 0)))] := hD
  refine va_putF (D := D) (ci := 1) (v := .ref q15) (ty := .array .int) (C := R_Members) (T := F_Members) (N := 8) hx hb hts i_Members t_Members t_Members_ok n_Members hown hK hP hD hS 0 rfl rfl 2 (by decide) (hts _ (tb_1 (List.mem_of_getElem? (i := 129) rfl) rfl)) (fun _ h9 => h9) rfl hin rfl (by decide +kernel) rfl rfl (Nat.le_of_ble_eq_true rfl) d_K_Members_init_17 (fun H locs hP hD hS => ?_)
  have hP : va_P D classes [(h0, .inr (1, [.null, .ref q7, .ref q15, .null, .null, .int 0, .long 0, .long 0])), (q7, .inl (cI, 40, .inl (fun _ => 0))), (q15, .inl (cI, 40, .inl (fun _ => 0)))] H := hP
  have hD : va_D A [(h0, .inr (1, [.null, .ref q7, .ref q15, .null, .null, .int 0, .long 0, .long 0])), (q7, .inl (cI, 40, .inl (fun _ => 0))), (q15, .inl (cI, 40, .inl (fun _ => 0)))] := hD
  refine lv_aload_n hx hb d_K_Members_init_20 rfl (lv_at hl 0 rfl) ?_
  refine lv_bipush (v := 40) hx hb d_K_Members_init_21 (by decide) ?_
  refine va_newa (ty := .int) (a0 := (40, .inl (fun _ => 0))) (N' := 40) hx hb (hts _ (tb_1 (List.mem_of_getElem? (i := 103) rfl) rfl)) rfl hK hP hD hS hA (fun _ => rfl) (by decide) (by decide) (by decide) (by decide) (by decide) d_K_Members_init_23 (fun q23 c23 H hK hP hD hS => ?_)
  obtain rfl := sk_same hK 0 1 (ty := .int) rfl rfl (by decide)
  have hK : va_K D classes [(cI, .int)] s := hK.sub [0] rfl
  refine W.widen (k := 3) (n := 120) (by decide) (by decide) ?_
  have hP : va_P D classes [(h0, .inr (1, [.null, .ref q7, .ref q15, .null, .null, .int 0, .long 0, .long 0])), (q7, .inl (cI, 40, .inl (fun _ => 0))), (q15, .inl (cI, 40, .inl (fun _ => 0))), (q23, .inl (cI, 40, .inl (fun _ => 0)))] H := hP
  have hD : va_D A [(h0, .inr (1, [.null, .ref q7, .ref q15, .null, .null, .int 0, .long 0, .long 0])), (q7, .inl (cI, 40, .inl (fun _ => 0))), (q15, .inl (cI, 40, .inl (fun _ => 0))), (q23, .inl (cI, 40, .inl (fun _ => 0)))] := hD
  refine va_putF (D := D) (ci := 1) (v := .ref q23) (ty := .array .int) (C := R_Members) (T := F_Members) (N := 8) hx hb hts i_Members t_Members t_Members_ok n_Members hown hK hP hD hS 0 rfl rfl 3 (by decide) (hts _ (tb_1 (List.mem_of_getElem? (i := 134) rfl) rfl)) (fun _ h9 => h9) rfl hin rfl (by decide +kernel) rfl rfl (Nat.le_of_ble_eq_true rfl) d_K_Members_init_25 (fun H locs hP hD hS => ?_)
  have hP : va_P D classes [(h0, .inr (1, [.null, .ref q7, .ref q15, .ref q23, .null, .int 0, .long 0, .long 0])), (q7, .inl (cI, 40, .inl (fun _ => 0))), (q15, .inl (cI, 40, .inl (fun _ => 0))), (q23, .inl (cI, 40, .inl (fun _ => 0)))] H := hP
  have hD : va_D A [(h0, .inr (1, [.null, .ref q7, .ref q15, .ref q23, .null, .int 0, .long 0, .long 0])), (q7, .inl (cI, 40, .inl (fun _ => 0))), (q15, .inl (cI, 40, .inl (fun _ => 0))), (q23, .inl (cI, 40, .inl (fun _ => 0)))] := hD
  refine lv_aload_n hx hb d_K_Members_init_28 rfl (lv_at hl 0 rfl) ?_
  refine lv_sipush (v := 320) hx hb d_K_Members_init_29 (by decide) ?_
  refine va_newa (ty := .int) (a0 := (320, .inl (fun _ => 0))) (N' := 320) hx hb (hts _ (tb_1 (List.mem_of_getElem? (i := 103) rfl) rfl)) rfl hK hP hD hS hA (fun _ => rfl) (by decide) (by decide) (by decide) (by decide) (by decide) d_K_Members_init_32 (fun q32 c32 H hK hP hD hS => ?_)
  obtain rfl := sk_same hK 0 1 (ty := .int) rfl rfl (by decide)
  have hK : va_K D classes [(cI, .int)] s := hK.sub [0] rfl
  refine W.widen (k := 4) (n := 440) (by decide) (by decide) ?_
  have hP : va_P D classes [(h0, .inr (1, [.null, .ref q7, .ref q15, .ref q23, .null, .int 0, .long 0, .long 0])), (q7, .inl (cI, 40, .inl (fun _ => 0))), (q15, .inl (cI, 40, .inl (fun _ => 0))), (q23, .inl (cI, 40, .inl (fun _ => 0))), (q32, .inl (cI, 320, .inl (fun _ => 0)))] H := hP
  have hD : va_D A [(h0, .inr (1, [.null, .ref q7, .ref q15, .ref q23, .null, .int 0, .long 0, .long 0])), (q7, .inl (cI, 40, .inl (fun _ => 0))), (q15, .inl (cI, 40, .inl (fun _ => 0))), (q23, .inl (cI, 40, .inl (fun _ => 0))), (q32, .inl (cI, 320, .inl (fun _ => 0)))] := hD
  refine va_putF (D := D) (ci := 1) (v := .ref q32) (ty := .array .int) (C := R_Members) (T := F_Members) (N := 8) hx hb hts i_Members t_Members t_Members_ok n_Members hown hK hP hD hS 0 rfl rfl 4 (by decide) (hts _ (tb_1 (List.mem_of_getElem? (i := 136) rfl) rfl)) (fun _ h9 => h9) rfl hin rfl (by decide +kernel) rfl rfl (Nat.le_of_ble_eq_true rfl) d_K_Members_init_34 (fun H locs hP hD hS => ?_)
  have hP : va_P D classes [(h0, .inr (1, [.null, .ref q7, .ref q15, .ref q23, .ref q32, .int 0, .long 0, .long 0])), (q7, .inl (cI, 40, .inl (fun _ => 0))), (q15, .inl (cI, 40, .inl (fun _ => 0))), (q23, .inl (cI, 40, .inl (fun _ => 0))), (q32, .inl (cI, 320, .inl (fun _ => 0)))] H := hP
  have hD : va_D A [(h0, .inr (1, [.null, .ref q7, .ref q15, .ref q23, .ref q32, .int 0, .long 0, .long 0])), (q7, .inl (cI, 40, .inl (fun _ => 0))), (q15, .inl (cI, 40, .inl (fun _ => 0))), (q23, .inl (cI, 40, .inl (fun _ => 0))), (q32, .inl (cI, 320, .inl (fun _ => 0)))] := hD
  refine lv_aload_n hx hb d_K_Members_init_37 rfl (lv_at hl 0 rfl) ?_
  refine lv_aload_n hx hb d_K_Members_init_38 rfl (lv_at hl 1 rfl) ?_
  refine va_putF (D := D) (ci := 1) (v := .ref p1) (ty := .object "ShrinkForge$Types") (C := R_Members) (T := F_Members) (N := 8) hx hb hts i_Members t_Members t_Members_ok n_Members hown hK hP hD hS 0 rfl rfl 0 (by decide) (hts _ (tb_1 (List.mem_of_getElem? (i := 123) rfl) rfl)) (fun _ h9 => h9) rfl hin rfl (by decide +kernel) rfl rfl (Nat.le_of_ble_eq_true rfl) d_K_Members_init_39 (fun H locs hP hD hS => ?_)
  have hP : va_P D classes [(h0, .inr (1, [.ref p1, .ref q7, .ref q15, .ref q23, .ref q32, .int 0, .long 0, .long 0])), (q7, .inl (cI, 40, .inl (fun _ => 0))), (q15, .inl (cI, 40, .inl (fun _ => 0))), (q23, .inl (cI, 40, .inl (fun _ => 0))), (q32, .inl (cI, 320, .inl (fun _ => 0)))] H := hP
  have hD : va_D A [(h0, .inr (1, [.ref p1, .ref q7, .ref q15, .ref q23, .ref q32, .int 0, .long 0, .long 0])), (q7, .inl (cI, 40, .inl (fun _ => 0))), (q15, .inl (cI, 40, .inl (fun _ => 0))), (q23, .inl (cI, 40, .inl (fun _ => 0))), (q32, .inl (cI, 320, .inl (fun _ => 0)))] := hD
  refine lv_aload_n hx hb d_K_Members_init_42 rfl (lv_at hl 0 rfl) ?_
  have hw : sk_w D (tyV cI cI cI) A (ceV (fun k => ([0, p1, h0, 0, 0, 0, 0, 0, 0, 0, 0, 0, 0, 0, 0, 0, 0, q7, q15, q23, q32] : List Nat).getD k 0) cI cI cI) s sk_0 H locs := ⟨hK, hP.sub [0, 1, 2, 3, 4] rfl, hD.sub [0, 1, 2, 3, 4] (by decide) rfl, hS⟩
  refine sk_callVvC (As := []) (rest := []) ⟨hx, hb, hml, hown, hts⟩ hw hnw nwN_ok (cV_K_Members_reset nwN_ok hTM) (cwIV_Members_28 hts (by decide)) (rc_V2 hw) rfl hl.1 rfl (Nat.le_of_ble_eq_true rfl) d_K_Members_init_43 (by decide) (fun H locs hw => ?_)
  obtain ⟨hK, hP, hD, hS⟩ := hw
  have hK : va_K D classes [(cI, .int)] s := hK
  have hP : va_P D classes [(h0, .inr (1, [.ref p1, .ref q7, .ref q15, .ref q23, .ref q32, .int (stM.1 0 5), .long (stM.2 0 0), .long (stM.2 0 1)])), (q7, .inl (cI, 40, .inl (stM.1 17))), (q15, .inl (cI, 40, .inl (stM.1 18))), (q23, .inl (cI, 40, .inl (stM.1 19))), (q32, .inl (cI, 320, .inl (stM.1 20)))] H := hP
  have hD : va_D A [(h0, .inr (1, [.ref p1, .ref q7, .ref q15, .ref q23, .ref q32, .int (stM.1 0 5), .long (stM.2 0 0), .long (stM.2 0 1)])), (q7, .inl (cI, 40, .inl (stM.1 17))), (q15, .inl (cI, 40, .inl (stM.1 18))), (q23, .inl (cI, 40, .inl (stM.1 19))), (q32, .inl (cI, 320, .inl (stM.1 20)))] := hD
  have hP9 := hP.sub (ws' := [(h0, .inr (1, [.ref p1, .ref q7, .ref q15, .ref q23, .ref q32, .int (stM.1 0 5), .long (stM.2 0 0), .long (stM.2 0 1)])), (q7, .inl (cI, 40, .inl (stM.1 17))), (q15, .inl (cI, 40, .inl (stM.1 18))), (q23, .inl (cI, 40, .inl (stM.1 19))), (q32, .inl (cI, 320, .inl (stM.1 20)))]) [0, 1, 2, 3, 4] rfl
  have hD9 := hD.sub (ws' := [(h0, .inr (1, [.ref p1, .ref q7, .ref q15, .ref q23, .ref q32, .int (stM.1 0 5), .long (stM.2 0 0), .long (stM.2 0 1)])), (q7, .inl (cI, 40, .inl (stM.1 17))), (q15, .inl (cI, 40, .inl (stM.1 18))), (q23, .inl (cI, 40, .inl (stM.1 19))), (q32, .inl (cI, 320, .inl (stM.1 20)))]) [0, 1, 2, 3, 4] (by decide) rfl
  exact W.vret hx hb hr (fun t ht hW => ⟨⟨(), rfl, trivial, q7, q15, q23, q32, cI, by rw [ht]; exact hP9, va_K.moved hW.alike hK, hD9⟩, hS.F ht⟩) hS.2.2 d_K_Members_init_46
