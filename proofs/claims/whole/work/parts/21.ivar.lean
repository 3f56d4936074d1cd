def sk_0 : sk_M := (fun _ _ => 0, fun _ _ => 0)
def sk_prim : FieldType → Bool
  | .object _ => false
  | _ => true
theorem sk_same {D : va_G} {cl : List vw_C} {tys : List (ClassId × FieldType)} {s : State} (hK : va_K D cl tys s) (i j : Nat) {c1 c2 : ClassId} {ty : FieldType} (h1 : tys[i]? = some (c1, ty)) (h2 : tys[j]? = some (c2, ty)) (hp : sk_prim ty = true) : c1 = c2 := by
  have a1 := (hK.2 i _ h1).2
  have a2 := (hK.2 j _ h2).2
  cases ty <;> first | exact Option.some.inj (a1.symm.trans a2) | exact absurd hp (by decide) | (simp [sk_prim] at hp)
theorem sk_callVvC {p : Program} {l : Launch} {e : Env} {R : Room} {s : State} {m : MethodId} {args : Array Value} {below : List Frame} {meth : Method} {c : Code} {H : Heap} {locs : List Loc} {Q : State → Prop} {cells slots : Nat}
    {y : MethodName} {ws Ts : List Cond} {rm : Room} {D : va_G} {tys : List (ClassId × FieldType)} {A : Nat → Prop} {ce : sk_M → va_W} {nw : State → Prop} {st st2 : sk_M} {cc bytes : ByteArray} {maxL nL n index pc : Nat} {own C : String} {ret : Option FieldType} {b : Addr} {As rest st0 : List Value} {ls : Array Slot}
    (S : CallFix p m c cc nL s args Ts own) (hw : sk_w D tys A ce s st H locs) (hnw : nw s) (hok : sk_ok A nw) (hM : sk_Cv l y ws rm D tys A ce nw (.ref b :: As) st st2) (cw : CallW R s args own C index y bytes maxL ret ws rm 0 0 n) (hrc : ∃ cellB : Cell, H[b]? = some cellB ∧ cellB.vm.isStatics = false ∧ s.vm.findClass C = some cellB.cls) (hn : As.length = n) (hsize : ls.size = nL) (hstack : st0 = As.reverse ++ .ref b :: rest) (hroom : (rest.map fun v => v.category).sum ≤ 8) (hdg : decode cc pc = .ok (.invokevirtual index, 3)) (hf : cells + 0 ≤ R.cells ∧ slots + 0 ≤ R.slots)
    (kk : ∀ (H1 : Heap) (locs1 : List Loc), sk_w D tys A ce s st2 H1 locs1 → W p l e R s m args below meth c H1 locs1 cells slots Q (F0 m (pc + 3) ls rest)) : W p l e R s m args below meth c H locs cells slots Q (F0 m pc ls st0) := by
  refine va_callv (va_runV (As := As) (rest := rest) S hM cw ⟨sk_blind hok, hrc, sk_pre hw hnw hok⟩ rfl hn hsize hstack (lv_room hroom) hdg hf) hw.2.2.2 (fun q _ h => h) (fun q h => h) (fun u t H1 locs1 ht hvm hp hB hz hk hS => ?_)
  subst hp
  exact kk H1 locs1 ⟨hw.1, by rw [← ht]; exact hB.1, hB.2, hS⟩
def ceU (a : Nat → Nat) (cI cJ cC : ClassId) (st : sk_M) : va_W := [(a 1, .inr (8, [.ref (a 35), .ref (a 36), .ref (a 37), .ref (a 38), .ref (a 39), .ref (a 40), .ref (a 41), .ref (a 42), .long (st.2 0 11), .long (st.2 0 12), .long (st.2 0 13)])), (a 35, .inl (cI, 10, .inl (st.1 35))), (a 36, .inl (cI, 10, .inl (st.1 36))), (a 37, .inl (cI, 10, .inl (st.1 37))), (a 38, .inl (cI, 10, .inl (st.1 38))), (a 39, .inl (cI, 10, .inl (st.1 39))), (a 40, .inl (cJ, 10, .inr (.inl (st.2 40)))), (a 41, .inl (cJ, 10, .inr (.inl (st.2 41)))), (a 42, .inl (cJ, 10, .inr (.inl (st.2 42))))]
def tyU (cI cJ cC : ClassId) : List (ClassId × FieldType) := [(cI, .int), (cJ, .long)]
def nwN (U : State) : Prop := ∀ w ∈ NT, va_Nw w U
theorem nwN_ok {A : Nat → Prop} : sk_ok A nwN := ⟨fun s U hW _ _ h w hw => nt_warm hW hw (h w hw), fun U g mk a h w hw => nt_same (s := U) (U := U.calling g mk a) rfl hw (h w hw)⟩
theorem al_U35 {p : Program} {l : Launch} {e : Env} {R : Room} {s : State} {m : MethodId} {args : Array Value} {below : List Frame} {meth : Method} {c : Code} {H : Heap} {locs : List Loc} {Q : State → Prop} {cc : ByteArray} {pc : Nat} {ls : Array Slot} {rest : List Value} {D : va_G} {A : Nat → Prop} {a : Nat → Nat} {st : sk_M} {cI cJ cC : ClassId} (hx : p.tables.exec = Jvm.exec) (hb : c.code = cc) (hw : sk_w D (tyU cI cJ cC) A (ceU a cI cJ cC) s st H locs) {i : Int32} {x : Int32} (hin : vp_in i 10) (hv : st.1 35 i.toNatClampNeg = x) (hdg : decode cc pc = .ok (.iaload, 1)) (kk : W p l e R s m args below meth c H locs 0 0 Q (F0 m (pc + 1) ls (.int x :: rest))) : W p l e R s m args below meth c H locs 0 0 Q (F0 m (pc) ls (.int i :: .ref (a 35) :: rest)) := by
  subst hv
  exact va_iald hx hb hw.1 hw.2.1 1 0 rfl rfl hin hdg kk
theorem as_U35 {p : Program} {l : Launch} {e : Env} {R : Room} {s : State} {m : MethodId} {args : Array Value} {below : List Frame} {meth : Method} {c : Code} {H : Heap} {locs : List Loc} {Q : State → Prop} {cc : ByteArray} {pc : Nat} {ls : Array Slot} {rest : List Value} {D : va_G} {A : Nat → Prop} {a : Nat → Nat} {st : sk_M} {cI cJ cC : ClassId} {st2 : sk_M} (hx : p.tables.exec = Jvm.exec) (hb : c.code = cc) (hw : sk_w D (tyU cI cJ cC) A (ceU a cI cJ cC) s st H locs) {i : Int32} {x : Int32} (hin : vp_in i 10) (hv : sk_wi st 35 i.toNatClampNeg x = st2) (hdg : decode cc pc = .ok (.iastore, 1)) (kk : ∀ (H1 : Heap) (locs1 : List Loc), sk_w D (tyU cI cJ cC) A (ceU a cI cJ cC) s st2 H1 locs1 → W p l e R s m args below meth c H1 locs1 0 0 Q (F0 m (pc + 1) ls (rest))) : W p l e R s m args below meth c H locs 0 0 Q (F0 m (pc) ls (.int x :: .int i :: .ref (a 35) :: rest)) := by
  subst hv
  exact va_iast hx hb hw.1 hw.2.1 hw.2.2.1 hw.2.2.2 1 0 rfl rfl hin hdg (fun H1 locs1 hP hD hS => kk H1 locs1 ⟨hw.1, hP, hD, hS⟩)
theorem an_U35 {p : Program} {l : Launch} {e : Env} {R : Room} {s : State} {m : MethodId} {args : Array Value} {below : List Frame} {meth : Method} {c : Code} {H : Heap} {locs : List Loc} {Q : State → Prop} {cc : ByteArray} {pc : Nat} {ls : Array Slot} {rest : List Value} {D : va_G} {A : Nat → Prop} {a : Nat → Nat} {st : sk_M} {cI cJ cC : ClassId} (hx : p.tables.exec = Jvm.exec) (hb : c.code = cc) (hw : sk_w D (tyU cI cJ cC) A (ceU a cI cJ cC) s st H locs) (hdg : decode cc pc = .ok (.arraylength, 1)) (kk : W p l e R s m args below meth c H locs 0 0 Q (F0 m (pc + 1) ls (.int (nI 10) :: rest))) : W p l e R s m args below meth c H locs 0 0 Q (F0 m (pc) ls (.ref (a 35) :: rest)) := va_alen hx hb hw.1 hw.2.1 1 0 rfl rfl rfl hdg kk
theorem al_U36 {p : Program} {l : Launch} {e : Env} {R : Room} {s : State} {m : MethodId} {args : Array Value} {below : List Frame} {meth : Method} {c : Code} {H : Heap} {locs : List Loc} {Q : State → Prop} {cc : ByteArray} {pc : Nat} {ls : Array Slot} {rest : List Value} {D : va_G} {A : Nat → Prop} {a : Nat → Nat} {st : sk_M} {cI cJ cC : ClassId} (hx : p.tables.exec = Jvm.exec) (hb : c.code = cc) (hw : sk_w D (tyU cI cJ cC) A (ceU a cI cJ cC) s st H locs) {i : Int32} {x : Int32} (hin : vp_in i 10) (hv : st.1 36 i.toNatClampNeg = x) (hdg : decode cc pc = .ok (.iaload, 1)) (kk : W p l e R s m args below meth c H locs 0 0 Q (F0 m (pc + 1) ls (.int x :: rest))) : W p l e R s m args below meth c H locs 0 0 Q (F0 m (pc) ls (.int i :: .ref (a 36) :: rest)) := by
  subst hv
  exact va_iald hx hb hw.1 hw.2.1 2 0 rfl rfl hin hdg kk
theorem as_U36 {p : Program} {l : Launch} {e : Env} {R : Room} {s : State} {m : MethodId} {args : Array Value} {below : List Frame} {meth : Method} {c : Code} {H : Heap} {locs : List Loc} {Q : State → Prop} {cc : ByteArray} {pc : Nat} {ls : Array Slot} {rest : List Value} {D : va_G} {A : Nat → Prop} {a : Nat → Nat} {st : sk_M} {cI cJ cC : ClassId} {st2 : sk_M} (hx : p.tables.exec = Jvm.exec) (hb : c.code = cc) (hw : sk_w D (tyU cI cJ cC) A (ceU a cI cJ cC) s st H locs) {i : Int32} {x : Int32} (hin : vp_in i 10) (hv : sk_wi st 36 i.toNatClampNeg x = st2) (hdg : decode cc pc = .ok (.iastore, 1)) (kk : ∀ (H1 : Heap) (locs1 : List Loc), sk_w D (tyU cI cJ cC) A (ceU a cI cJ cC) s st2 H1 locs1 → W p l e R s m args below meth c H1 locs1 0 0 Q (F0 m (pc + 1) ls (rest))) : W p l e R s m args below meth c H locs 0 0 Q (F0 m (pc) ls (.int x :: .int i :: .ref (a 36) :: rest)) := by
  subst hv
  exact va_iast hx hb hw.1 hw.2.1 hw.2.2.1 hw.2.2.2 2 0 rfl rfl hin hdg (fun H1 locs1 hP hD hS => kk H1 locs1 ⟨hw.1, hP, hD, hS⟩)
theorem an_U36 {p : Program} {l : Launch} {e : Env} {R : Room} {s : State} {m : MethodId} {args : Array Value} {below : List Frame} {meth : Method} {c : Code} {H : Heap} {locs : List Loc} {Q : State → Prop} {cc : ByteArray} {pc : Nat} {ls : Array Slot} {rest : List Value} {D : va_G} {A : Nat → Prop} {a : Nat → Nat} {st : sk_M} {cI cJ cC : ClassId} (hx : p.tables.exec = Jvm.exec) (hb : c.code = cc) (hw : sk_w D (tyU cI cJ cC) A (ceU a cI cJ cC) s st H locs) (hdg : decode cc pc = .ok (.arraylength, 1)) (kk : W p l e R s m args below meth c H locs 0 0 Q (F0 m (pc + 1) ls (.int (nI 10) :: rest))) : W p l e R s m args below meth c H locs 0 0 Q (F0 m (pc) ls (.ref (a 36) :: rest)) := va_alen hx hb hw.1 hw.2.1 2 0 rfl rfl rfl hdg kk
theorem al_U37 {p : Program} {l : Launch} {e : Env} {R : Room} {s : State} {m : MethodId} {args : Array Value} {below : List Frame} {meth : Method} {c : Code} {H : Heap} {locs : List Loc} {Q : State → Prop} {cc : ByteArray} {pc : Nat} {ls : Array Slot} {rest : List Value} {D : va_G} {A : Nat → Prop} {a : Nat → Nat} {st : sk_M} {cI cJ cC : ClassId} (hx : p.tables.exec = Jvm.exec) (hb : c.code = cc) (hw : sk_w D (tyU cI cJ cC) A (ceU a cI cJ cC) s st H locs) {i : Int32} {x : Int32} (hin : vp_in i 10) (hv : st.1 37 i.toNatClampNeg = x) (hdg : decode cc pc = .ok (.iaload, 1)) (kk : W p l e R s m args below meth c H locs 0 0 Q (F0 m (pc + 1) ls (.int x :: rest))) : W p l e R s m args below meth c H locs 0 0 Q (F0 m (pc) ls (.int i :: .ref (a 37) :: rest)) := by
  subst hv
  exact va_iald hx hb hw.1 hw.2.1 3 0 rfl rfl hin hdg kk
theorem as_U37 {p : Program} {l : Launch} {e : Env} {R : Room} {s : State} {m : MethodId} {args : Array Value} {below : List Frame} {meth : Method} {c : Code} {H : Heap} {locs : List Loc} {Q : State → Prop} {cc : ByteArray} {pc : Nat} {ls : Array Slot} {rest : List Value} {D : va_G} {A : Nat → Prop} {a : Nat → Nat} {st : sk_M} {cI cJ cC : ClassId} {st2 : sk_M} (hx : p.tables.exec = Jvm.exec) (hb : c.code = cc) (hw : sk_w D (tyU cI cJ cC) A (ceU a cI cJ cC) s st H locs) {i : Int32} {x : Int32} (hin : vp_in i 10) (hv : sk_wi st 37 i.toNatClampNeg x = st2) (hdg : decode cc pc = .ok (.iastore, 1)) (kk : ∀ (H1 : Heap) (locs1 : List Loc), sk_w D (tyU cI cJ cC) A (ceU a cI cJ cC) s st2 H1 locs1 → W p l e R s m args below meth c H1 locs1 0 0 Q (F0 m (pc + 1) ls (rest))) : W p l e R s m args below meth c H locs 0 0 Q (F0 m (pc) ls (.int x :: .int i :: .ref (a 37) :: rest)) := by
  subst hv
  exact va_iast hx hb hw.1 hw.2.1 hw.2.2.1 hw.2.2.2 3 0 rfl rfl hin hdg (fun H1 locs1 hP hD hS => kk H1 locs1 ⟨hw.1, hP, hD, hS⟩)
theorem an_U37 {p : Program} {l : Launch} {e : Env} {R : Room} {s : State} {m : MethodId} {args : Array Value} {below : List Frame} {meth : Method} {c : Code} {H : Heap} {locs : List Loc} {Q : State → Prop} {cc : ByteArray} {pc : Nat} {ls : Array Slot} {rest : List Value} {D : va_G} {A : Nat → Prop} {a : Nat → Nat} {st : sk_M} {cI cJ cC : ClassId} (hx : p.tables.exec = Jvm.exec) (hb : c.code = cc) (hw : sk_w D (tyU cI cJ cC) A (ceU a cI cJ cC) s st H locs) (hdg : decode cc pc = .ok (.arraylength, 1)) (kk : W p l e R s m args below meth c H locs 0 0 Q (F0 m (pc + 1) ls (.int (nI 10) :: rest))) : W p l e R s m args below meth c H locs 0 0 Q (F0 m (pc) ls (.ref (a 37) :: rest)) := va_alen hx hb hw.1 hw.2.1 3 0 rfl rfl rfl hdg kk
theorem al_U38 {p : Program} {l : Launch} {e : Env} {R : Room} {s : State} {m : MethodId} {args : Array Value} {below : List Frame} {meth : Method} {c : Code} {H : Heap} {locs : List Loc} {Q : State → Prop} {cc : ByteArray} {pc : Nat} {ls : Array Slot} {rest : List Value} {D : va_G} {A : Nat → Prop} {a : Nat → Nat} {st : sk_M} {cI cJ cC : ClassId} (hx : p.tables.exec = Jvm.exec) (hb : c.code = cc) (hw : sk_w D (tyU cI cJ cC) A (ceU a cI cJ cC) s st H locs) {i : Int32} {x : Int32} (hin : vp_in i 10) (hv : st.1 38 i.toNatClampNeg = x) (hdg : decode cc pc = .ok (.iaload, 1)) (kk : W p l e R s m args below meth c H locs 0 0 Q (F0 m (pc + 1) ls (.int x :: rest))) : W p l e R s m args below meth c H locs 0 0 Q (F0 m (pc) ls (.int i :: .ref (a 38) :: rest)) := by
  subst hv
  exact va_iald hx hb hw.1 hw.2.1 4 0 rfl rfl hin hdg kk
theorem as_U38 {p : Program} {l : Launch} {e : Env} {R : Room} {s : State} {m : MethodId} {args : Array Value} {below : List Frame} {meth : Method} {c : Code} {H : Heap} {locs : List Loc} {Q : State → Prop} {cc : ByteArray} {pc : Nat} {ls : Array Slot} {rest : List Value} {D : va_G} {A : Nat → Prop} {a : Nat → Nat} {st : sk_M} {cI cJ cC : ClassId} {st2 : sk_M} (hx : p.tables.exec = Jvm.exec) (hb : c.code = cc) (hw : sk_w D (tyU cI cJ cC) A (ceU a cI cJ cC) s st H locs) {i : Int32} {x : Int32} (hin : vp_in i 10) (hv : sk_wi st 38 i.toNatClampNeg x = st2) (hdg : decode cc pc = .ok (.iastore, 1)) (kk : ∀ (H1 : Heap) (locs1 : List Loc), sk_w D (tyU cI cJ cC) A (ceU a cI cJ cC) s st2 H1 locs1 → W p l e R s m args below meth c H1 locs1 0 0 Q (F0 m (pc + 1) ls (rest))) : W p l e R s m args below meth c H locs 0 0 Q (F0 m (pc) ls (.int x :: .int i :: .ref (a 38) :: rest)) := by
  subst hv
  exact va_iast hx hb hw.1 hw.2.1 hw.2.2.1 hw.2.2.2 4 0 rfl rfl hin hdg (fun H1 locs1 hP hD hS => kk H1 locs1 ⟨hw.1, hP, hD, hS⟩)
theorem an_U38 {p : Program} {l : Launch} {e : Env} {R : Room} {s : State} {m : MethodId} {args : Array Value} {below : List Frame} {meth : Method} {c : Code} {H : Heap} {locs : List Loc} {Q : State → Prop} {cc : ByteArray} {pc : Nat} {ls : Array Slot} {rest : List Value} {D : va_G} {A : Nat → Prop} {a : Nat → Nat} {st : sk_M} {cI cJ cC : ClassId} (hx : p.tables.exec = Jvm.exec) (hb : c.code = cc) (hw : sk_w D (tyU cI cJ cC) A (ceU a cI cJ cC) s st H locs) (hdg : decode cc pc = .ok (.arraylength, 1)) (kk : W p l e R s m args below meth c H locs 0 0 Q (F0 m (pc + 1) ls (.int (nI 10) :: rest))) : W p l e R s m args below meth c H locs 0 0 Q (F0 m (pc) ls (.ref (a 38) :: rest)) := va_alen hx hb hw.1 hw.2.1 4 0 rfl rfl rfl hdg kk
theorem al_U39 {p : Program} {l : Launch} {e : Env} {R : Room} {s : State} {m : MethodId} {args : Array Value} {below : List Frame} {meth : Method} {c : Code} {H : Heap} {locs : List Loc} {Q : State → Prop} {cc : ByteArray} {pc : Nat} {ls : Array Slot} {rest : List Value} {D : va_G} {A : Nat → Prop} {a : Nat → Nat} {st : sk_M} {cI cJ cC : ClassId} (hx : p.tables.exec = Jvm.exec) (hb : c.code = cc) (hw : sk_w D (tyU cI cJ cC) A (ceU a cI cJ cC) s st H locs) {i : Int32} {x : Int32} (hin : vp_in i 10) (hv : st.1 39 i.toNatClampNeg = x) (hdg : decode cc pc = .ok (.iaload, 1)) (kk : W p l e R s m args below meth c H locs 0 0 Q (F0 m (pc + 1) ls (.int x :: rest))) : W p l e R s m args below meth c H locs 0 0 Q (F0 m (pc) ls (.int i :: .ref (a 39) :: rest)) := by
  subst hv
  exact va_iald hx hb hw.1 hw.2.1 5 0 rfl rfl hin hdg kk
theorem as_U39 {p : Program} {l : Launch} {e : Env} {R : Room} {s : State} {m : MethodId} {args : Array Value} {below : List Frame} {meth : Method} {c : Code} {H : Heap} {locs : List Loc} {Q : State → Prop} {cc : ByteArray} {pc : Nat} {ls : Array Slot} {rest : List Value} {D : va_G} {A : Nat → Prop} {a : Nat → Nat} {st : sk_M} {cI cJ cC : ClassId} {st2 : sk_M} (hx : p.tables.exec = Jvm.exec) (hb : c.code = cc) (hw : sk_w D (tyU cI cJ cC) A (ceU a cI cJ cC) s st H locs) {i : Int32} {x : Int32} (hin : vp_in i 10) (hv : sk_wi st 39 i.toNatClampNeg x = st2) (hdg : decode cc pc = .ok (.iastore, 1)) (kk : ∀ (H1 : Heap) (locs1 : List Loc), sk_w D (tyU cI cJ cC) A (ceU a cI cJ cC) s st2 H1 locs1 → W p l e R s m args below meth c H1 locs1 0 0 Q (F0 m (pc + 1) ls (rest))) : W p l e R s m args below meth c H locs 0 0 Q (F0 m (pc) ls (.int x :: .int i :: .ref (a 39) :: rest)) := by
  subst hv
  exact va_iast hx hb hw.1 hw.2.1 hw.2.2.1 hw.2.2.2 5 0 rfl rfl hin hdg (fun H1 locs1 hP hD hS => kk H1 locs1 ⟨hw.1, hP, hD, hS⟩)
theorem an_U39 {p : Program} {l : Launch} {e : Env} {R : Room} {s : State} {m : MethodId} {args : Array Value} {below : List Frame} {meth : Method} {c : Code} {H : Heap} {locs : List Loc} {Q : State → Prop} {cc : ByteArray} {pc : Nat} {ls : Array Slot} {rest : List Value} {D : va_G} {A : Nat → Prop} {a : Nat → Nat} {st : sk_M} {cI cJ cC : ClassId} (hx : p.tables.exec = Jvm.exec) (hb : c.code = cc) (hw : sk_w D (tyU cI cJ cC) A (ceU a cI cJ cC) s st H locs) (hdg : decode cc pc = .ok (.arraylength, 1)) (kk : W p l e R s m args below meth c H locs 0 0 Q (F0 m (pc + 1) ls (.int (nI 10) :: rest))) : W p l e R s m args below meth c H locs 0 0 Q (F0 m (pc) ls (.ref (a 39) :: rest)) := va_alen hx hb hw.1 hw.2.1 5 0 rfl rfl rfl hdg kk
theorem al_U40 {p : Program} {l : Launch} {e : Env} {R : Room} {s : State} {m : MethodId} {args : Array Value} {below : List Frame} {meth : Method} {c : Code} {H : Heap} {locs : List Loc} {Q : State → Prop} {cc : ByteArray} {pc : Nat} {ls : Array Slot} {rest : List Value} {D : va_G} {A : Nat → Prop} {a : Nat → Nat} {st : sk_M} {cI cJ cC : ClassId} (hx : p.tables.exec = Jvm.exec) (hb : c.code = cc) (hw : sk_w D (tyU cI cJ cC) A (ceU a cI cJ cC) s st H locs) {i : Int32} {x : Int64} (hin : vp_in i 10) (hv : st.2 40 i.toNatClampNeg = x) (hdg : decode cc pc = .ok (.laload, 1)) (kk : W p l e R s m args below meth c H locs 0 0 Q (F0 m (pc + 1) ls (.long x :: rest))) : W p l e R s m args below meth c H locs 0 0 Q (F0 m (pc) ls (.int i :: .ref (a 40) :: rest)) := by
  subst hv
  exact va_lald hx hb hw.1 hw.2.1 6 1 rfl rfl hin hdg kk
theorem as_U40 {p : Program} {l : Launch} {e : Env} {R : Room} {s : State} {m : MethodId} {args : Array Value} {below : List Frame} {meth : Method} {c : Code} {H : Heap} {locs : List Loc} {Q : State → Prop} {cc : ByteArray} {pc : Nat} {ls : Array Slot} {rest : List Value} {D : va_G} {A : Nat → Prop} {a : Nat → Nat} {st : sk_M} {cI cJ cC : ClassId} {st2 : sk_M} (hx : p.tables.exec = Jvm.exec) (hb : c.code = cc) (hw : sk_w D (tyU cI cJ cC) A (ceU a cI cJ cC) s st H locs) {i : Int32} {x : Int64} (hin : vp_in i 10) (hv : sk_wl st 40 i.toNatClampNeg x = st2) (hdg : decode cc pc = .ok (.lastore, 1)) (kk : ∀ (H1 : Heap) (locs1 : List Loc), sk_w D (tyU cI cJ cC) A (ceU a cI cJ cC) s st2 H1 locs1 → W p l e R s m args below meth c H1 locs1 0 0 Q (F0 m (pc + 1) ls (rest))) : W p l e R s m args below meth c H locs 0 0 Q (F0 m (pc) ls (.long x :: .int i :: .ref (a 40) :: rest)) := by
  subst hv
  exact va_last hx hb hw.1 hw.2.1 hw.2.2.1 hw.2.2.2 6 1 rfl rfl hin hdg (fun H1 locs1 hP hD hS => kk H1 locs1 ⟨hw.1, hP, hD, hS⟩)
theorem an_U40 {p : Program} {l : Launch} {e : Env} {R : Room} {s : State} {m : MethodId} {args : Array Value} {below : List Frame} {meth : Method} {c : Code} {H : Heap} {locs : List Loc} {Q : State → Prop} {cc : ByteArray} {pc : Nat} {ls : Array Slot} {rest : List Value} {D : va_G} {A : Nat → Prop} {a : Nat → Nat} {st : sk_M} {cI cJ cC : ClassId} (hx : p.tables.exec = Jvm.exec) (hb : c.code = cc) (hw : sk_w D (tyU cI cJ cC) A (ceU a cI cJ cC) s st H locs) (hdg : decode cc pc = .ok (.arraylength, 1)) (kk : W p l e R s m args below meth c H locs 0 0 Q (F0 m (pc + 1) ls (.int (nI 10) :: rest))) : W p l e R s m args below meth c H locs 0 0 Q (F0 m (pc) ls (.ref (a 40) :: rest)) := va_alen hx hb hw.1 hw.2.1 6 1 rfl rfl rfl hdg kk
theorem al_U41 {p : Program} {l : Launch} {e : Env} {R : Room} {s : State} {m : MethodId} {args : Array Value} {below : List Frame} {meth : Method} {c : Code} {H : Heap} {locs : List Loc} {Q : State → Prop} {cc : ByteArray} {pc : Nat} {ls : Array Slot} {rest : List Value} {D : va_G} {A : Nat → Prop} {a : Nat → Nat} {st : sk_M} {cI cJ cC : ClassId} (hx : p.tables.exec = Jvm.exec) (hb : c.code = cc) (hw : sk_w D (tyU cI cJ cC) A (ceU a cI cJ cC) s st H locs) {i : Int32} {x : Int64} (hin : vp_in i 10) (hv : st.2 41 i.toNatClampNeg = x) (hdg : decode cc pc = .ok (.laload, 1)) (kk : W p l e R s m args below meth c H locs 0 0 Q (F0 m (pc + 1) ls (.long x :: rest))) : W p l e R s m args below meth c H locs 0 0 Q (F0 m (pc) ls (.int i :: .ref (a 41) :: rest)) := by
  subst hv
  exact va_lald hx hb hw.1 hw.2.1 7 1 rfl rfl hin hdg kk
theorem as_U41 {p : Program} {l : Launch} {e : Env} {R : Room} {s : State} {m : MethodId} {args : Array Value} {below : List Frame} {meth : Method} {c : Code} {H : Heap} {locs : List Loc} {Q : State → Prop} {cc : ByteArray} {pc : Nat} {ls : Array Slot} {rest : List Value} {D : va_G} {A : Nat → Prop} {a : Nat → Nat} {st : sk_M} {cI cJ cC : ClassId} {st2 : sk_M} (hx : p.tables.exec = Jvm.exec) (hb : c.code = cc) (hw : sk_w D (tyU cI cJ cC) A (ceU a cI cJ cC) s st H locs) {i : Int32} {x : Int64} (hin : vp_in i 10) (hv : sk_wl st 41 i.toNatClampNeg x = st2) (hdg : decode cc pc = .ok (.lastore, 1)) (kk : ∀ (H1 : Heap) (locs1 : List Loc), sk_w D (tyU cI cJ cC) A (ceU a cI cJ cC) s st2 H1 locs1 → W p l e R s m args below meth c H1 locs1 0 0 Q (F0 m (pc + 1) ls (rest))) : W p l e R s m args below meth c H locs 0 0 Q (F0 m (pc) ls (.long x :: .int i :: .ref (a 41) :: rest)) := by
  subst hv
  exact va_last hx hb hw.1 hw.2.1 hw.2.2.1 hw.2.2.2 7 1 rfl rfl hin hdg (fun H1 locs1 hP hD hS => kk H1 locs1 ⟨hw.1, hP, hD, hS⟩)
theorem an_U41 {p : Program} {l : Launch} {e : Env} {R : Room} {s : State} {m : MethodId} {args : Array Value} {below : List Frame} {meth : Method} {c : Code} {H : Heap} {locs : List Loc} {Q : State → Prop} {cc : ByteArray} {pc : Nat} {ls : Array Slot} {rest : List Value} {D : va_G} {A : Nat → Prop} {a : Nat → Nat} {st : sk_M} {cI cJ cC : ClassId} (hx : p.tables.exec = Jvm.exec) (hb : c.code = cc) (hw : sk_w D (tyU cI cJ cC) A (ceU a cI cJ cC) s st H locs) (hdg : decode cc pc = .ok (.arraylength, 1)) (kk : W p l e R s m args below meth c H locs 0 0 Q (F0 m (pc + 1) ls (.int (nI 10) :: rest))) : W p l e R s m args below meth c H locs 0 0 Q (F0 m (pc) ls (.ref (a 41) :: rest)) := va_alen hx hb hw.1 hw.2.1 7 1 rfl rfl rfl hdg kk
theorem al_U42 {p : Program} {l : Launch} {e : Env} {R : Room} {s : State} {m : MethodId} {args : Array Value} {below : List Frame} {meth : Method} {c : Code} {H : Heap} {locs : List Loc} {Q : State → Prop} {cc : ByteArray} {pc : Nat} {ls : Array Slot} {rest : List Value} {D : va_G} {A : Nat → Prop} {a : Nat → Nat} {st : sk_M} {cI cJ cC : ClassId} (hx : p.tables.exec = Jvm.exec) (hb : c.code = cc) (hw : sk_w D (tyU cI cJ cC) A (ceU a cI cJ cC) s st H locs) {i : Int32} {x : Int64} (hin : vp_in i 10) (hv : st.2 42 i.toNatClampNeg = x) (hdg : decode cc pc = .ok (.laload, 1)) (kk : W p l e R s m args below meth c H locs 0 0 Q (F0 m (pc + 1) ls (.long x :: rest))) : W p l e R s m args below meth c H locs 0 0 Q (F0 m (pc) ls (.int i :: .ref (a 42) :: rest)) := by
  subst hv
  exact va_lald hx hb hw.1 hw.2.1 8 1 rfl rfl hin hdg kk
theorem as_U42 {p : Program} {l : Launch} {e : Env} {R : Room} {s : State} {m : MethodId} {args : Array Value} {below : List Frame} {meth : Method} {c : Code} {H : Heap} {locs : List Loc} {Q : State → Prop} {cc : ByteArray} {pc : Nat} {ls : Array Slot} {rest : List Value} {D : va_G} {A : Nat → Prop} {a : Nat → Nat} {st : sk_M} {cI cJ cC : ClassId} {st2 : sk_M} (hx : p.tables.exec = Jvm.exec) (hb : c.code = cc) (hw : sk_w D (tyU cI cJ cC) A (ceU a cI cJ cC) s st H locs) {i : Int32} {x : Int64} (hin : vp_in i 10) (hv : sk_wl st 42 i.toNatClampNeg x = st2) (hdg : decode cc pc = .ok (.lastore, 1)) (kk : ∀ (H1 : Heap) (locs1 : List Loc), sk_w D (tyU cI cJ cC) A (ceU a cI cJ cC) s st2 H1 locs1 → W p l e R s m args below meth c H1 locs1 0 0 Q (F0 m (pc + 1) ls (rest))) : W p l e R s m args below meth c H locs 0 0 Q (F0 m (pc) ls (.long x :: .int i :: .ref (a 42) :: rest)) := by
  subst hv
  exact va_last hx hb hw.1 hw.2.1 hw.2.2.1 hw.2.2.2 8 1 rfl rfl hin hdg (fun H1 locs1 hP hD hS => kk H1 locs1 ⟨hw.1, hP, hD, hS⟩)
theorem an_U42 {p : Program} {l : Launch} {e : Env} {R : Room} {s : State} {m : MethodId} {args : Array Value} {below : List Frame} {meth : Method} {c : Code} {H : Heap} {locs : List Loc} {Q : State → Prop} {cc : ByteArray} {pc : Nat} {ls : Array Slot} {rest : List Value} {D : va_G} {A : Nat → Prop} {a : Nat → Nat} {st : sk_M} {cI cJ cC : ClassId} (hx : p.tables.exec = Jvm.exec) (hb : c.code = cc) (hw : sk_w D (tyU cI cJ cC) A (ceU a cI cJ cC) s st H locs) (hdg : decode cc pc = .ok (.arraylength, 1)) (kk : W p l e R s m args below meth c H locs 0 0 Q (F0 m (pc + 1) ls (.int (nI 10) :: rest))) : W p l e R s m args below meth c H locs 0 0 Q (F0 m (pc) ls (.ref (a 42) :: rest)) := va_alen hx hb hw.1 hw.2.1 8 1 rfl rfl rfl hdg kk
theorem rc_U1 {s : State} {D : va_G} {A : Nat → Prop} {a : Nat → Nat} {cI cJ cC : ClassId} {st : sk_M} {H : Heap} {locs : List Loc} (hw : sk_w D (tyU cI cJ cC) A (ceU a cI cJ cC) s st H locs) : ∃ cellB : Cell, H[a 1]? = some cellB ∧ cellB.vm.isStatics = false ∧ s.vm.findClass R_Types = some cellB.cls := va_recv hw.1 hw.2.1 (ci := 8) (q0 := 0) rfl rfl
theorem gfU_Types_15 {p : Program} {l : Launch} {e : Env} {R : Room} {s : State} {m : MethodId} {args : Array Value} {below : List Frame} {meth : Method} {c : Code} {H : Heap} {locs : List Loc} {Q : State → Prop} {cc : ByteArray} {pc : Nat} {ls : Array Slot} {rest : List Value} {D : va_G} {A : Nat → Prop} {a : Nat → Nat} {st : sk_M} {cI cJ cC : ClassId} (hx : p.tables.exec = Jvm.exec) (hb : c.code = cc) (hts : ∀ w ∈ TB, w.before args s = true) (hnw : nwN s) (hown : s.vm.findClass R_Types = some m.cls) (hw : sk_w D (tyU cI cJ cC) A (ceU a cI cJ cC) s st H locs) (hdg : decode cc pc = .ok (.getfield 15, 3)) (kk : W p l e R s m args below meth c H locs 0 0 Q (F0 m (pc + 3) ls (.ref (a 36) :: rest))) : W p l e R s m args below meth c H locs 0 0 Q (F0 m (pc) ls (.ref (a 1) :: rest)) :=
  va_get (D := D) (ci := 8) (C := R_Types) (T := F_Types) (N := 11) hx hb hts i_Types hown hw.1 hw.2.1 0 rfl rfl 1 (by decide) (hts _ (tb_1 (List.mem_of_getElem? (i := 59) rfl) rfl)) (fun _ h9 => h9) rfl hdg kk
theorem gfU_Types_18 {p : Program} {l : Launch} {e : Env} {R : Room} {s : State} {m : MethodId} {args : Array Value} {below : List Frame} {meth : Method} {c : Code} {H : Heap} {locs : List Loc} {Q : State → Prop} {cc : ByteArray} {pc : Nat} {ls : Array Slot} {rest : List Value} {D : va_G} {A : Nat → Prop} {a : Nat → Nat} {st : sk_M} {cI cJ cC : ClassId} (hx : p.tables.exec = Jvm.exec) (hb : c.code = cc) (hts : ∀ w ∈ TB, w.before args s = true) (hnw : nwN s) (hown : s.vm.findClass R_Types = some m.cls) (hw : sk_w D (tyU cI cJ cC) A (ceU a cI cJ cC) s st H locs) (hdg : decode cc pc = .ok (.getfield 18, 3)) (kk : W p l e R s m args below meth c H locs 0 0 Q (F0 m (pc + 3) ls (.ref (a 37) :: rest))) : W p l e R s m args below meth c H locs 0 0 Q (F0 m (pc) ls (.ref (a 1) :: rest)) :=
  va_get (D := D) (ci := 8) (C := R_Types) (T := F_Types) (N := 11) hx hb hts i_Types hown hw.1 hw.2.1 0 rfl rfl 2 (by decide) (hts _ (tb_1 (List.mem_of_getElem? (i := 60) rfl) rfl)) (fun _ h9 => h9) rfl hdg kk
theorem gfU_Types_21 {p : Program} {l : Launch} {e : Env} {R : Room} {s : State} {m : MethodId} {args : Array Value} {below : List Frame} {meth : Method} {c : Code} {H : Heap} {locs : List Loc} {Q : State → Prop} {cc : ByteArray} {pc : Nat} {ls : Array Slot} {rest : List Value} {D : va_G} {A : Nat → Prop} {a : Nat → Nat} {st : sk_M} {cI cJ cC : ClassId} (hx : p.tables.exec = Jvm.exec) (hb : c.code = cc) (hts : ∀ w ∈ TB, w.before args s = true) (hnw : nwN s) (hown : s.vm.findClass R_Types = some m.cls) (hw : sk_w D (tyU cI cJ cC) A (ceU a cI cJ cC) s st H locs) (hdg : decode cc pc = .ok (.getfield 21, 3)) (kk : W p l e R s m args below meth c H locs 0 0 Q (F0 m (pc + 3) ls (.ref (a 38) :: rest))) : W p l e R s m args below meth c H locs 0 0 Q (F0 m (pc) ls (.ref (a 1) :: rest)) :=
  va_get (D := D) (ci := 8) (C := R_Types) (T := F_Types) (N := 11) hx hb hts i_Types hown hw.1 hw.2.1 0 rfl rfl 3 (by decide) (hts _ (tb_1 (List.mem_of_getElem? (i := 61) rfl) rfl)) (fun _ h9 => h9) rfl hdg kk
theorem gfU_Types_24 {p : Program} {l : Launch} {e : Env} {R : Room} {s : State} {m : MethodId} {args : Array Value} {below : List Frame} {meth : Method} {c : Code} {H : Heap} {locs : List Loc} {Q : State → Prop} {cc : ByteArray} {pc : Nat} {ls : Array Slot} {rest : List Value} {D : va_G} {A : Nat → Prop} {a : Nat → Nat} {st : sk_M} {cI cJ cC : ClassId} (hx : p.tables.exec = Jvm.exec) (hb : c.code = cc) (hts : ∀ w ∈ TB, w.before args s = true) (hnw : nwN s) (hown : s.vm.findClass R_Types = some m.cls) (hw : sk_w D (tyU cI cJ cC) A (ceU a cI cJ cC) s st H locs) (hdg : decode cc pc = .ok (.getfield 24, 3)) (kk : W p l e R s m args below meth c H locs 0 0 Q (F0 m (pc + 3) ls (.ref (a 39) :: rest))) : W p l e R s m args below meth c H locs 0 0 Q (F0 m (pc) ls (.ref (a 1) :: rest)) :=
  va_get (D := D) (ci := 8) (C := R_Types) (T := F_Types) (N := 11) hx hb hts i_Types hown hw.1 hw.2.1 0 rfl rfl 4 (by decide) (hts _ (tb_1 (List.mem_of_getElem? (i := 62) rfl) rfl)) (fun _ h9 => h9) rfl hdg kk
theorem gfU_Types_27 {p : Program} {l : Launch} {e : Env} {R : Room} {s : State} {m : MethodId} {args : Array Value} {below : List Frame} {meth : Method} {c : Code} {H : Heap} {locs : List Loc} {Q : State → Prop} {cc : ByteArray} {pc : Nat} {ls : Array Slot} {rest : List Value} {D : va_G} {A : Nat → Prop} {a : Nat → Nat} {st : sk_M} {cI cJ cC : ClassId} (hx : p.tables.exec = Jvm.exec) (hb : c.code = cc) (hts : ∀ w ∈ TB, w.before args s = true) (hnw : nwN s) (hown : s.vm.findClass R_Types = some m.cls) (hw : sk_w D (tyU cI cJ cC) A (ceU a cI cJ cC) s st H locs) (hdg : decode cc pc = .ok (.getfield 27, 3)) (kk : W p l e R s m args below meth c H locs 0 0 Q (F0 m (pc + 3) ls (.ref (a 40) :: rest))) : W p l e R s m args below meth c H locs 0 0 Q (F0 m (pc) ls (.ref (a 1) :: rest)) :=
  va_get (D := D) (ci := 8) (C := R_Types) (T := F_Types) (N := 11) hx hb hts i_Types hown hw.1 hw.2.1 0 rfl rfl 5 (by decide) (hts _ (tb_1 (List.mem_of_getElem? (i := 64) rfl) rfl)) (fun _ h9 => h9) rfl hdg kk
theorem gfU_Types_31 {p : Program} {l : Launch} {e : Env} {R : Room} {s : State} {m : MethodId} {args : Array Value} {below : List Frame} {meth : Method} {c : Code} {H : Heap} {locs : List Loc} {Q : State → Prop} {cc : ByteArray} {pc : Nat} {ls : Array Slot} {rest : List Value} {D : va_G} {A : Nat → Prop} {a : Nat → Nat} {st : sk_M} {cI cJ cC : ClassId} (hx : p.tables.exec = Jvm.exec) (hb : c.code = cc) (hts : ∀ w ∈ TB, w.before args s = true) (hnw : nwN s) (hown : s.vm.findClass R_Types = some m.cls) (hw : sk_w D (tyU cI cJ cC) A (ceU a cI cJ cC) s st H locs) (hdg : decode cc pc = .ok (.getfield 31, 3)) (kk : W p l e R s m args below meth c H locs 0 0 Q (F0 m (pc + 3) ls (.ref (a 41) :: rest))) : W p l e R s m args below meth c H locs 0 0 Q (F0 m (pc) ls (.ref (a 1) :: rest)) :=
  va_get (D := D) (ci := 8) (C := R_Types) (T := F_Types) (N := 11) hx hb hts i_Types hown hw.1 hw.2.1 0 rfl rfl 6 (by decide) (hts _ (tb_1 (List.mem_of_getElem? (i := 66) rfl) rfl)) (fun _ h9 => h9) rfl hdg kk
theorem gfU_Types_34 {p : Program} {l : Launch} {e : Env} {R : Room} {s : State} {m : MethodId} {args : Array Value} {below : List Frame} {meth : Method} {c : Code} {H : Heap} {locs : List Loc} {Q : State → Prop} {cc : ByteArray} {pc : Nat} {ls : Array Slot} {rest : List Value} {D : va_G} {A : Nat → Prop} {a : Nat → Nat} {st : sk_M} {cI cJ cC : ClassId} (hx : p.tables.exec = Jvm.exec) (hb : c.code = cc) (hts : ∀ w ∈ TB, w.before args s = true) (hnw : nwN s) (hown : s.vm.findClass R_Types = some m.cls) (hw : sk_w D (tyU cI cJ cC) A (ceU a cI cJ cC) s st H locs) (hdg : decode cc pc = .ok (.getfield 34, 3)) (kk : W p l e R s m args below meth c H locs 0 0 Q (F0 m (pc + 3) ls (.ref (a 42) :: rest))) : W p l e R s m args below meth c H locs 0 0 Q (F0 m (pc) ls (.ref (a 1) :: rest)) :=
  va_get (D := D) (ci := 8) (C := R_Types) (T := F_Types) (N := 11) hx hb hts i_Types hown hw.1 hw.2.1 0 rfl rfl 7 (by decide) (hts _ (tb_1 (List.mem_of_getElem? (i := 68) rfl) rfl)) (fun _ h9 => h9) rfl hdg kk
theorem gfU_Types_44 {p : Program} {l : Launch} {e : Env} {R : Room} {s : State} {m : MethodId} {args : Array Value} {below : List Frame} {meth : Method} {c : Code} {H : Heap} {locs : List Loc} {Q : State → Prop} {cc : ByteArray} {pc : Nat} {ls : Array Slot} {rest : List Value} {D : va_G} {A : Nat → Prop} {a : Nat → Nat} {st : sk_M} {cI cJ cC : ClassId} (hx : p.tables.exec = Jvm.exec) (hb : c.code = cc) (hts : ∀ w ∈ TB, w.before args s = true) (hnw : nwN s) (hown : s.vm.findClass R_Types = some m.cls) (hw : sk_w D (tyU cI cJ cC) A (ceU a cI cJ cC) s st H locs) (hdg : decode cc pc = .ok (.getfield 44, 3)) (kk : W p l e R s m args below meth c H locs 0 0 Q (F0 m (pc + 3) ls (.long (st.2 0 11) :: rest))) : W p l e R s m args below meth c H locs 0 0 Q (F0 m (pc) ls (.ref (a 1) :: rest)) :=
  va_get (D := D) (ci := 8) (C := R_Types) (T := F_Types) (N := 11) hx hb hts i_Types hown hw.1 hw.2.1 0 rfl rfl 8 (by decide) (hts _ (tb_1 (List.mem_of_getElem? (i := 72) rfl) rfl)) (fun _ h9 => h9) rfl hdg kk
theorem pfU_Types_44 {p : Program} {l : Launch} {e : Env} {R : Room} {s : State} {m : MethodId} {args : Array Value} {below : List Frame} {meth : Method} {c : Code} {H : Heap} {locs : List Loc} {Q : State → Prop} {cc : ByteArray} {pc : Nat} {ls : Array Slot} {rest : List Value} {D : va_G} {A : Nat → Prop} {a : Nat → Nat} {st : sk_M} {cI cJ cC : ClassId} {st2 : sk_M} {x : Int64} (hx : p.tables.exec = Jvm.exec) (hb : c.code = cc) (hts : ∀ w ∈ TB, w.before args s = true) (hnw : nwN s) (hown : s.vm.findClass R_Types = some m.cls) (hw : sk_w D (tyU cI cJ cC) A (ceU a cI cJ cC) s st H locs) (hv : sk_wl st 0 11 x = st2) (hdg : decode cc pc = .ok (.putfield 44, 3)) (kk : ∀ (H1 : Heap) (locs1 : List Loc), sk_w D (tyU cI cJ cC) A (ceU a cI cJ cC) s st2 H1 locs1 → W p l e R s m args below meth c H1 locs1 0 0 Q (F0 m (pc + 3) ls (rest))) : W p l e R s m args below meth c H locs 0 0 Q (F0 m (pc) ls (.long x :: .ref (a 1) :: rest)) := by
  subst hv
  exact va_put (D := D) (ci := 8) (v := .long x) (ty := .long) (C := R_Types) (T := F_Types) (N := 11) hx hb hts i_Types t_Types t_Types_ok n_Types hown hw.1 hw.2.1 hw.2.2.1 hw.2.2.2 0 rfl rfl 8 (by decide) (hts _ (tb_1 (List.mem_of_getElem? (i := 72) rfl) rfl)) (fun _ h9 => h9) rfl (by decide +kernel) rfl rfl (Nat.le_of_ble_eq_true rfl) hdg (fun H1 locs1 hP hD hS => kk H1 locs1 ⟨hw.1, hP, hD, hS⟩)
theorem gfU_Types_57 {p : Program} {l : Launch} {e : Env} {R : Room} {s : State} {m : MethodId} {args : Array Value} {below : List Frame} {meth : Method} {c : Code} {H : Heap} {locs : List Loc} {Q : State → Prop} {cc : ByteArray} {pc : Nat} {ls : Array Slot} {rest : List Value} {D : va_G} {A : Nat → Prop} {a : Nat → Nat} {st : sk_M} {cI cJ cC : ClassId} (hx : p.tables.exec = Jvm.exec) (hb : c.code = cc) (hts : ∀ w ∈ TB, w.before args s = true) (hnw : nwN s) (hown : s.vm.findClass R_Types = some m.cls) (hw : sk_w D (tyU cI cJ cC) A (ceU a cI cJ cC) s st H locs) (hdg : decode cc pc = .ok (.getfield 57, 3)) (kk : W p l e R s m args below meth c H locs 0 0 Q (F0 m (pc + 3) ls (.long (st.2 0 12) :: rest))) : W p l e R s m args below meth c H locs 0 0 Q (F0 m (pc) ls (.ref (a 1) :: rest)) :=
  va_get (D := D) (ci := 8) (C := R_Types) (T := F_Types) (N := 11) hx hb hts i_Types hown hw.1 hw.2.1 0 rfl rfl 9 (by decide) (hts _ (tb_1 (List.mem_of_getElem? (i := 76) rfl) rfl)) (fun _ h9 => h9) rfl hdg kk
theorem pfU_Types_57 {p : Program} {l : Launch} {e : Env} {R : Room} {s : State} {m : MethodId} {args : Array Value} {below : List Frame} {meth : Method} {c : Code} {H : Heap} {locs : List Loc} {Q : State → Prop} {cc : ByteArray} {pc : Nat} {ls : Array Slot} {rest : List Value} {D : va_G} {A : Nat → Prop} {a : Nat → Nat} {st : sk_M} {cI cJ cC : ClassId} {st2 : sk_M} {x : Int64} (hx : p.tables.exec = Jvm.exec) (hb : c.code = cc) (hts : ∀ w ∈ TB, w.before args s = true) (hnw : nwN s) (hown : s.vm.findClass R_Types = some m.cls) (hw : sk_w D (tyU cI cJ cC) A (ceU a cI cJ cC) s st H locs) (hv : sk_wl st 0 12 x = st2) (hdg : decode cc pc = .ok (.putfield 57, 3)) (kk : ∀ (H1 : Heap) (locs1 : List Loc), sk_w D (tyU cI cJ cC) A (ceU a cI cJ cC) s st2 H1 locs1 → W p l e R s m args below meth c H1 locs1 0 0 Q (F0 m (pc + 3) ls (rest))) : W p l e R s m args below meth c H locs 0 0 Q (F0 m (pc) ls (.long x :: .ref (a 1) :: rest)) := by
  subst hv
  exact va_put (D := D) (ci := 8) (v := .long x) (ty := .long) (C := R_Types) (T := F_Types) (N := 11) hx hb hts i_Types t_Types t_Types_ok n_Types hown hw.1 hw.2.1 hw.2.2.1 hw.2.2.2 0 rfl rfl 9 (by decide) (hts _ (tb_1 (List.mem_of_getElem? (i := 76) rfl) rfl)) (fun _ h9 => h9) rfl (by decide +kernel) rfl rfl (Nat.le_of_ble_eq_true rfl) hdg (fun H1 locs1 hP hD hS => kk H1 locs1 ⟨hw.1, hP, hD, hS⟩)
theorem gfU_Types_60 {p : Program} {l : Launch} {e : Env} {R : Room} {s : State} {m : MethodId} {args : Array Value} {below : List Frame} {meth : Method} {c : Code} {H : Heap} {locs : List Loc} {Q : State → Prop} {cc : ByteArray} {pc : Nat} {ls : Array Slot} {rest : List Value} {D : va_G} {A : Nat → Prop} {a : Nat → Nat} {st : sk_M} {cI cJ cC : ClassId} (hx : p.tables.exec = Jvm.exec) (hb : c.code = cc) (hts : ∀ w ∈ TB, w.before args s = true) (hnw : nwN s) (hown : s.vm.findClass R_Types = some m.cls) (hw : sk_w D (tyU cI cJ cC) A (ceU a cI cJ cC) s st H locs) (hdg : decode cc pc = .ok (.getfield 60, 3)) (kk : W p l e R s m args below meth c H locs 0 0 Q (F0 m (pc + 3) ls (.long (st.2 0 13) :: rest))) : W p l e R s m args below meth c H locs 0 0 Q (F0 m (pc) ls (.ref (a 1) :: rest)) :=
  va_get (D := D) (ci := 8) (C := R_Types) (T := F_Types) (N := 11) hx hb hts i_Types hown hw.1 hw.2.1 0 rfl rfl 10 (by decide) (hts _ (tb_1 (List.mem_of_getElem? (i := 79) rfl) rfl)) (fun _ h9 => h9) rfl hdg kk
theorem pfU_Types_60 {p : Program} {l : Launch} {e : Env} {R : Room} {s : State} {m : MethodId} {args : Array Value} {below : List Frame} {meth : Method} {c : Code} {H : Heap} {locs : List Loc} {Q : State → Prop} {cc : ByteArray} {pc : Nat} {ls : Array Slot} {rest : List Value} {D : va_G} {A : Nat → Prop} {a : Nat → Nat} {st : sk_M} {cI cJ cC : ClassId} {st2 : sk_M} {x : Int64} (hx : p.tables.exec = Jvm.exec) (hb : c.code = cc) (hts : ∀ w ∈ TB, w.before args s = true) (hnw : nwN s) (hown : s.vm.findClass R_Types = some m.cls) (hw : sk_w D (tyU cI cJ cC) A (ceU a cI cJ cC) s st H locs) (hv : sk_wl st 0 13 x = st2) (hdg : decode cc pc = .ok (.putfield 60, 3)) (kk : ∀ (H1 : Heap) (locs1 : List Loc), sk_w D (tyU cI cJ cC) A (ceU a cI cJ cC) s st2 H1 locs1 → W p l e R s m args below meth c H1 locs1 0 0 Q (F0 m (pc + 3) ls (rest))) : W p l e R s m args below meth c H locs 0 0 Q (F0 m (pc) ls (.long x :: .ref (a 1) :: rest)) := by
  subst hv
  exact va_put (D := D) (ci := 8) (v := .long x) (ty := .long) (C := R_Types) (T := F_Types) (N := 11) hx hb hts i_Types t_Types t_Types_ok n_Types hown hw.1 hw.2.1 hw.2.2.1 hw.2.2.2 0 rfl rfl 10 (by decide) (hts _ (tb_1 (List.mem_of_getElem? (i := 79) rfl) rfl)) (fun _ h9 => h9) rfl (by decide +kernel) rfl rfl (Nat.le_of_ble_eq_true rfl) hdg (fun H1 locs1 hP hD hS => kk H1 locs1 ⟨hw.1, hP, hD, hS⟩)
theorem cwU_Types_53 {R : Room} {s : State} {args : Array Value} (hts : ∀ w ∈ TB, w.before args s = true) (hnw : nwN s) (hR : rm_K_SF_has.frames + 1 ≤ R.frames ∧ 8 + (3 + 11) + rm_K_SF_has.locals ≤ R.locals) : va_CN R s args R_Types 53 y_K_SF_has R_SF b_K_SF_has 3 (some .boolean) w_K_SF_has rm_K_SF_has 0 0 2 ∧ (Cond.static y_K_SF_has).before args s = true ∧ True :=
  tb_cwSN 2 hts (hnw _ (tn_1 (List.mem_of_getElem? (i := 48) rfl) rfl)) (tb_1 (List.mem_of_getElem? (i := 49) rfl) rfl) (tb_1 (List.mem_of_getElem? (i := 1) rfl) rfl) k_K_SF_has rfl rfl ⟨by decide, by decide, by decide +kernel⟩ hR
theorem cwU_Types_63 {R : Room} {s : State} {args : Array Value} (hts : ∀ w ∈ TB, w.before args s = true) (hnw : nwN s) (hR : rm_K_Types_isThere.frames + 1 ≤ R.frames ∧ 8 + (2 + 11) + rm_K_Types_isThere.locals ≤ R.locals) : CallW R s args R_Types R_Types 63 y_K_Types_isThere b_K_Types_isThere 2 (some .boolean) w_K_Types_isThere rm_K_Types_isThere 0 0 1 :=
  tb_cwV 1 hts (tb_1 (List.mem_of_getElem? (i := 44) rfl) rfl) (tb_1 (List.mem_of_getElem? (i := 45) rfl) rfl) (tb_1 (List.mem_of_getElem? (i := 46) rfl) rfl) (tb_1 (List.mem_of_getElem? (i := 2) rfl) rfl) k_K_Types_isThere rfl rfl ⟨rfl, by decide, by decide, by decide +kernel⟩ hR
theorem cwU_Types_40 {R : Room} {s : State} {args : Array Value} (hts : ∀ w ∈ TB, w.before args s = true) (hnw : nwN s) (hR : rm_K_SF_bit.frames + 1 ≤ R.frames ∧ 8 + (1 + 11) + rm_K_SF_bit.locals ≤ R.locals) : va_CN R s args R_Types 40 y_K_SF_bit R_SF b_K_SF_bit 1 (some .long) w_K_SF_bit rm_K_SF_bit 0 0 1 ∧ (Cond.static y_K_SF_bit).before args s = true ∧ True :=
  tb_cwSN 1 hts (hnw _ (tn_1 (List.mem_of_getElem? (i := 37) rfl) rfl)) (tb_1 (List.mem_of_getElem? (i := 38) rfl) rfl) (tb_1 (List.mem_of_getElem? (i := 1) rfl) rfl) k_K_SF_bit rfl rfl ⟨by decide, by decide, by decide +kernel⟩ hR
theorem cwU_Types_67 {R : Room} {s : State} {args : Array Value} (hts : ∀ w ∈ TB, w.before args s = true) (hnw : nwN s) (hR : rm_K_Types_relateOne.frames + 1 ≤ R.frames ∧ 8 + (5 + 11) + rm_K_Types_relateOne.locals ≤ R.locals) : CallW R s args R_Types R_Types 67 y_K_Types_relateOne b_K_Types_relateOne 5 none w_K_Types_relateOne rm_K_Types_relateOne 0 0 1 :=
  tb_cwV 1 hts (tb_1 (List.mem_of_getElem? (i := 51) rfl) rfl) (tb_1 (List.mem_of_getElem? (i := 53) rfl) rfl) sl_K_Types_relateOne (tb_1 (List.mem_of_getElem? (i := 2) rfl) rfl) k_K_Types_relateOne rfl rfl ⟨rfl, by decide, by decide, by decide +kernel⟩ hR
theorem cwU_Types_48 {R : Room} {s : State} {args : Array Value} (hts : ∀ w ∈ TB, w.before args s = true) (hnw : nwN s) (hR : rm_K_Types_relate.frames + 1 ≤ R.frames ∧ 8 + (2 + 11) + rm_K_Types_relate.locals ≤ R.locals) : CallW R s args R_Types R_Types 48 y_K_Types_relate b_K_Types_relate 2 none w_K_Types_relate rm_K_Types_relate 0 0 0 :=
  tb_cwV 0 hts (tb_1 (List.mem_of_getElem? (i := 40) rfl) rfl) (tb_1 (List.mem_of_getElem? (i := 42) rfl) rfl) sl_K_Types_relate (tb_1 (List.mem_of_getElem? (i := 2) rfl) rfl) k_K_Types_relate rfl rfl ⟨rfl, by decide, by decide, by decide +kernel⟩ hR
set_option maxHeartbeats 4000000 in
set_option maxRecDepth 100000 in
theorem cU_K_SF_bit {l : Launch} {D : va_G} {A : Nat → Prop} {a : Nat → Nat} {cI cJ cC : ClassId} {st : sk_M} {v0 : Int32} {res : Int64} (hok : sk_ok A (nwN)) (h : K_SF_bit v0 = res) : sk_Cl l y_K_SF_bit w_K_SF_bit rm_K_SF_bit D (tyU cI cJ cC) A (ceU a cI cJ cC) (nwN) [.int v0] st res st := by
  refine sk_headl (by decide) rfl (Nat.le_of_ble_eq_true rfl) ?_
  intro p e s m args below meth c Q hx hb hml hown hts0 hnw hret ls hl hw
  have hts : ∀ w ∈ TB, w.before args s = true := fun w h => hts0 w (List.mem_cons_of_mem _ h)
  have hown : s.vm.findClass R_SF = some m.cls := hown
  have hl : lv_has ls 1 [(0, .int v0)] := hl
  unfold K_SF_bit at h
  refine lv_lconst (v := 1) hx hb d_K_SF_bit_0 (by decide) ?_
  refine lv_iload_n hx hb d_K_SF_bit_1 rfl (lv_at hl 0 rfl) ?_
  refine lv_lshl hx hb d_K_SF_bit_2 rfl ?_
  exact hret _ _ _ _ _ _ h rfl hw d_K_SF_bit_3
set_option maxHeartbeats 4000000 in
set_option maxRecDepth 100000 in
theorem cU_K_SF_has {l : Launch} {D : va_G} {A : Nat → Prop} {a : Nat → Nat} {cI cJ cC : ClassId} {st : sk_M} {v0 : Int64} {v2 : Int32} {res : Int32} (hok : sk_ok A (nwN)) (h : K_SF_has v0 v2 = res) : sk_Ci l y_K_SF_has w_K_SF_has rm_K_SF_has D (tyU cI cJ cC) A (ceU a cI cJ cC) (nwN) [.long v0, .int v2] st res st := by
  refine sk_headi .boolean (by decide) rfl (Nat.le_of_ble_eq_true rfl) ?_
  intro p e s m args below meth c Q hx hb hml hown hts0 hnw hret ls hl hw
  have hts : ∀ w ∈ TB, w.before args s = true := fun w h => hts0 w (List.mem_cons_of_mem _ h)
  have hown : s.vm.findClass R_SF = some m.cls := hown
  have hl : lv_has ls 3 [(0, .long v0), (2, .int v2)] := hl
  unfold K_SF_has at h
  refine lv_iload_n hx hb d_K_SF_has_0 rfl (lv_at hl 1 rfl) ?_
  refine lv_if_lt (tgt := 24) hx hb d_K_SF_has_1 (by decide) (fun c_1 => ?_) (fun c_1 => ?_)
  · have h := (if_pos c_1).symm.trans h
    refine lv_iconst (v := 0) hx hb d_K_SF_has_24 (by decide) ?_
    exact hret _ _ _ _ _ _ h rfl rfl hw d_K_SF_has_25
  · have h := (if_neg c_1).symm.trans h
    refine lv_iload_n hx hb d_K_SF_has_4 rfl (lv_at hl 1 rfl) ?_
    refine lv_bipush (v := 64) hx hb d_K_SF_has_5 (by decide) ?_
    refine lv_icmp_ge (tgt := 24) hx hb d_K_SF_has_7 (by decide) (fun c_7 => ?_) (fun c_7 => ?_)
    · have h := (if_pos c_7).symm.trans h
      refine lv_iconst (v := 0) hx hb d_K_SF_has_24 (by decide) ?_
      exact hret _ _ _ _ _ _ h rfl rfl hw d_K_SF_has_25
    · have h := (if_neg c_7).symm.trans h
      refine lv_lload_n hx hb d_K_SF_has_10 rfl (lv_at hl 0 rfl) ?_
      refine lv_iload_n hx hb d_K_SF_has_11 rfl (lv_at hl 1 rfl) ?_
      refine lv_lushr hx hb d_K_SF_has_12 rfl ?_
      refine lv_lconst (v := 1) hx hb d_K_SF_has_13 (by decide) ?_
      refine lv_land hx hb d_K_SF_has_14 ?_
      refine lv_lconst (v := 0) hx hb d_K_SF_has_15 (by decide) ?_
      refine W.lcmp hx hb d_K_SF_has_16 ?_
      refine lv_if_eq (tgt := 24) hx hb d_K_SF_has_17 (by decide) (fun c_17 => ?_) (fun c_17 => ?_)
      · have h := (if_pos c_17).symm.trans h
        refine lv_iconst (v := 0) hx hb d_K_SF_has_24 (by decide) ?_
        exact hret _ _ _ _ _ _ h rfl rfl hw d_K_SF_has_25
      · have h := (if_neg c_17).symm.trans h
        refine lv_iconst (v := 1) hx hb d_K_SF_has_20 (by decide) ?_
        refine lv_goto (tgt := 25) hx hb d_K_SF_has_21 (by decide) ?_
        exact hret _ _ _ _ _ _ h rfl rfl hw d_K_SF_has_25
set_option maxHeartbeats 4000000 in
set_option maxRecDepth 100000 in
theorem cU_K_Types_isThere {l : Launch} {D : va_G} {A : Nat → Prop} {a : Nat → Nat} {cI cJ cC : ClassId} {st : sk_M} {v1 : Int32} {res : Int32} (hok : sk_ok A (nwN)) (h : K_Types_isThere st v1 = res) : sk_Ci l y_K_Types_isThere w_K_Types_isThere rm_K_Types_isThere D (tyU cI cJ cC) A (ceU a cI cJ cC) (nwN) [.ref (a 1), .int v1] st res st := by
  refine sk_headi .boolean (by decide) rfl (Nat.le_of_ble_eq_true rfl) ?_
  intro p e s m args below meth c Q hx hb hml hown hts0 hnw hret ls hl hw
  have hts : ∀ w ∈ TB, w.before args s = true := fun w h => hts0 w (List.mem_cons_of_mem _ h)
  have hown : s.vm.findClass R_Types = some m.cls := hown
  have hl : lv_has ls 2 [(0, .ref (a 1)), (1, .int v1)] := hl
  unfold K_Types_isThere at h
  refine lv_aload_n hx hb d_K_Types_isThere_0 rfl (lv_at hl 0 rfl) ?_
  refine gfU_Types_44 hx hb hts hnw hown hw d_K_Types_isThere_1 ?_
  refine lv_iload_n hx hb d_K_Types_isThere_4 rfl (lv_at hl 1 rfl) ?_
  refine sk_callSNi (As := [.long (st.2 0 11), .int v1]) (rest := []) ⟨hx, hb, hml, hown, hts⟩ hw hnw hok (cU_K_SF_has hok rfl) (cwU_Types_53 hts hnw (by decide)) rfl hl.1 rfl (Nat.le_of_ble_eq_true rfl) d_K_Types_isThere_5 (fun H locs hw => ?_)
  exact hret _ _ _ _ _ _ h rfl (congrArg Value.int (bz_K_SF_has _ _)) hw d_K_Types_isThere_8
set_option maxHeartbeats 4000000 in
set_option maxRecDepth 100000 in
theorem cU_K_Types_relateOne {l : Launch} {D : va_G} {A : Nat → Prop} {a : Nat → Nat} {cI cJ cC : ClassId} {N : Nat} {st : sk_M} {v1 : Int32} {res : sk_M} (hok : sk_ok A (nwN)) (h : K_Types_relateOne N st v1 = some res) : sk_Cv l y_K_Types_relateOne w_K_Types_relateOne rm_K_Types_relateOne D (tyU cI cJ cC) A (ceU a cI cJ cC) (nwN) [.ref (a 1), .int v1] st res := by
  refine sk_headv (by decide) rfl (Nat.le_of_ble_eq_true rfl) ?_
  intro p e s m args below meth c Q hx hb hml hown hts0 hnw hret ls hl hw
  have hts : ∀ w ∈ TB, w.before args s = true := fun w h => hts0 w (List.mem_cons_of_mem _ h)
  have hown : s.vm.findClass R_Types = some m.cls := hown
  have hl : lv_has ls 5 [(0, .ref (a 1)), (1, .int v1)] := hl
  unfold K_Types_relateOne at h
  refine lv_aload_n hx hb d_K_Types_relateOne_0 rfl (lv_at hl 0 rfl) ?_
  refine gfU_Types_18 hx hb hts hnw hown hw d_K_Types_relateOne_1 ?_
  refine lv_iload_n hx hb d_K_Types_relateOne_4 rfl (lv_at hl 1 rfl) ?_
  obtain ⟨x5, g_5, e_5, h⟩ := sk_rI_some h
  refine al_U37 hx hb hw g_5 e_5 d_K_Types_relateOne_5 ?_
  refine lv_istore_n (lv' := [(2, .int x5), (0, .ref (a 1)), (1, .int v1)]) hx hb d_K_Types_relateOne_6 rfl hl (by decide) rfl (fun ls hl => ?_)
  refine lv_aload_n hx hb d_K_Types_relateOne_7 rfl (lv_at hl 1 rfl) ?_
  refine lv_iload_n hx hb d_K_Types_relateOne_8 rfl (lv_at hl 0 rfl) ?_
  refine sk_callVi (As := [.int x5]) (rest := []) ⟨hx, hb, hml, hown, hts⟩ hw hnw hok (cU_K_Types_isThere hok rfl) (cwU_Types_63 hts hnw (by decide)) (rc_U1 hw) rfl hl.1 rfl (Nat.le_of_ble_eq_true rfl) d_K_Types_relateOne_9 (fun H locs hw => ?_)
  have hJ42 : ∀ (st : sk_M) (v1 : Int32) (v2 : Int32) (s0 : Int32) (H : Heap) (locs : List Loc) (ls : Array Slot), K_Types_relateOne_J42 N st v1 v2 s0 = some res → sk_w D (tyU cI cJ cC) A (ceU a cI cJ cC) s st H locs → lv_has ls 5 [(0, .ref (a 1)), (1, .int v1), (2, .int v2)] → W p l e rm_K_Types_relateOne s m args below meth c H locs 0 0 Q (F0 m 42 ls [.int s0]) := by
    intro st v1 v2 s0 H locs ls h hw hl
    unfold K_Types_relateOne_J42 at h
    refine lv_istore_n (lv' := [(3, .int s0), (0, .ref (a 1)), (1, .int v1), (2, .int v2)]) hx hb d_K_Types_relateOne_42 rfl hl (by decide) rfl (fun ls hl => ?_)
    refine lv_aload_n hx hb d_K_Types_relateOne_43 rfl (lv_at hl 1 rfl) ?_
    refine gfU_Types_24 hx hb hts hnw hown hw d_K_Types_relateOne_44 ?_
    refine lv_iload_n hx hb d_K_Types_relateOne_47 rfl (lv_at hl 2 rfl) ?_
    refine lv_iload_n hx hb d_K_Types_relateOne_48 rfl (lv_at hl 0 rfl) ?_
    have hJ57 : ∀ (st : sk_M) (v1 : Int32) (s1 : Int32) (s2 : Int32) (H : Heap) (locs : List Loc) (ls : Array Slot), K_Types_relateOne_J57 N st v1 s1 s2 = some res → sk_w D (tyU cI cJ cC) A (ceU a cI cJ cC) s st H locs → lv_has ls 5 [(0, .ref (a 1)), (1, .int v1)] → W p l e rm_K_Types_relateOne s m args below meth c H locs 0 0 Q (F0 m 57 ls [.int s2, .int s1, .ref (a 39)]) := by
      intro st v1 s1 s2 H locs ls h hw hl
      unfold K_Types_relateOne_J57 at h
      obtain ⟨st57, g_57, e_57, h⟩ := sk_wI_some h
      refine as_U39 hx hb hw g_57 e_57 d_K_Types_relateOne_57 (fun H locs hw => ?_)
      refine lv_aload_n hx hb d_K_Types_relateOne_58 rfl (lv_at hl 0 rfl) ?_
      refine gfU_Types_27 hx hb hts hnw hown hw d_K_Types_relateOne_59 ?_
      refine lv_iload_n hx hb d_K_Types_relateOne_62 rfl (lv_at hl 1 rfl) ?_
      refine lv_aload_n hx hb d_K_Types_relateOne_63 rfl (lv_at hl 0 rfl) ?_
      refine gfU_Types_21 hx hb hts hnw hown hw d_K_Types_relateOne_64 ?_
      refine lv_iload_n hx hb d_K_Types_relateOne_67 rfl (lv_at hl 1 rfl) ?_
      obtain ⟨x68, g_68, e_68, h⟩ := sk_rI_some h
      refine al_U38 hx hb hw g_68 e_68 d_K_Types_relateOne_68 ?_
      refine lv_i2l hx hb d_K_Types_relateOne_69 rfl ?_
      refine lv_iload_n hx hb d_K_Types_relateOne_70 rfl (lv_at hl 1 rfl) ?_
      refine sk_callSNl (As := [.int v1]) (rest := [.long x68.toInt64, .int v1, .ref (a 40)]) ⟨hx, hb, hml, hown, hts⟩ hw hnw hok (cU_K_SF_bit hok rfl) (cwU_Types_40 hts hnw (by decide)) rfl hl.1 rfl (Nat.le_of_ble_eq_true rfl) d_K_Types_relateOne_71 (fun H locs hw => ?_)
      refine lv_lconst (v := 1) hx hb d_K_Types_relateOne_74 (by decide) ?_
      refine lv_lsub hx hb d_K_Types_relateOne_75 ?_
      refine lv_land hx hb d_K_Types_relateOne_76 ?_
      refine lv_aload_n hx hb d_K_Types_relateOne_77 rfl (lv_at hl 0 rfl) ?_
      refine gfU_Types_57 hx hb hts hnw hown hw d_K_Types_relateOne_78 ?_
      refine lv_land hx hb d_K_Types_relateOne_81 ?_
      obtain ⟨st82, g_82, e_82, h⟩ := sk_wL_some h
      refine as_U40 hx hb hw g_82 e_82 d_K_Types_relateOne_82 (fun H locs hw => ?_)
      refine lv_aload_n hx hb d_K_Types_relateOne_83 rfl (lv_at hl 0 rfl) ?_
      refine gfU_Types_31 hx hb hts hnw hown hw d_K_Types_relateOne_84 ?_
      refine lv_iload_n hx hb d_K_Types_relateOne_87 rfl (lv_at hl 1 rfl) ?_
      refine lv_iload_n hx hb d_K_Types_relateOne_88 rfl (lv_at hl 1 rfl) ?_
      refine sk_callSNl (As := [.int v1]) (rest := [.int v1, .ref (a 41)]) ⟨hx, hb, hml, hown, hts⟩ hw hnw hok (cU_K_SF_bit hok rfl) (cwU_Types_40 hts hnw (by decide)) rfl hl.1 rfl (Nat.le_of_ble_eq_true rfl) d_K_Types_relateOne_89 (fun H locs hw => ?_)
      refine lv_aload_n hx hb d_K_Types_relateOne_92 rfl (lv_at hl 0 rfl) ?_
      refine gfU_Types_31 hx hb hts hnw hown hw d_K_Types_relateOne_93 ?_
      refine lv_aload_n hx hb d_K_Types_relateOne_96 rfl (lv_at hl 0 rfl) ?_
      refine gfU_Types_24 hx hb hts hnw hown hw d_K_Types_relateOne_97 ?_
      refine lv_iload_n hx hb d_K_Types_relateOne_100 rfl (lv_at hl 1 rfl) ?_
      obtain ⟨x101, g_101, e_101, h⟩ := sk_rI_some h
      refine al_U39 hx hb hw g_101 e_101 d_K_Types_relateOne_101 ?_
      obtain ⟨x102, g_102, e_102, h⟩ := sk_rL_some h
      refine al_U41 hx hb hw g_102 e_102 d_K_Types_relateOne_102 ?_
      refine lv_lor hx hb d_K_Types_relateOne_103 ?_
      obtain ⟨st104, g_104, e_104, h⟩ := sk_wL_some h
      refine as_U41 hx hb hw g_104 e_104 d_K_Types_relateOne_104 (fun H locs hw => ?_)
      refine lv_aload_n hx hb d_K_Types_relateOne_105 rfl (lv_at hl 0 rfl) ?_
      refine gfU_Types_34 hx hb hts hnw hown hw d_K_Types_relateOne_106 ?_
      refine lv_iload_n hx hb d_K_Types_relateOne_109 rfl (lv_at hl 1 rfl) ?_
      refine lv_aload_n hx hb d_K_Types_relateOne_110 rfl (lv_at hl 0 rfl) ?_
      refine gfU_Types_24 hx hb hts hnw hown hw d_K_Types_relateOne_111 ?_
      refine lv_iload_n hx hb d_K_Types_relateOne_114 rfl (lv_at hl 1 rfl) ?_
      obtain ⟨x115, g_115, e_115, h⟩ := sk_rI_some h
      refine al_U39 hx hb hw g_115 e_115 d_K_Types_relateOne_115 ?_
      refine sk_callSNl (As := [.int x115]) (rest := [.int v1, .ref (a 42)]) ⟨hx, hb, hml, hown, hts⟩ hw hnw hok (cU_K_SF_bit hok rfl) (cwU_Types_40 hts hnw (by decide)) rfl hl.1 rfl (Nat.le_of_ble_eq_true rfl) d_K_Types_relateOne_116 (fun H locs hw => ?_)
      refine lv_aload_n hx hb d_K_Types_relateOne_119 rfl (lv_at hl 0 rfl) ?_
      refine gfU_Types_34 hx hb hts hnw hown hw d_K_Types_relateOne_120 ?_
      refine lv_aload_n hx hb d_K_Types_relateOne_123 rfl (lv_at hl 0 rfl) ?_
      refine gfU_Types_24 hx hb hts hnw hown hw d_K_Types_relateOne_124 ?_
      refine lv_iload_n hx hb d_K_Types_relateOne_127 rfl (lv_at hl 1 rfl) ?_
      obtain ⟨x128, g_128, e_128, h⟩ := sk_rI_some h
      refine al_U39 hx hb hw g_128 e_128 d_K_Types_relateOne_128 ?_
      obtain ⟨x129, g_129, e_129, h⟩ := sk_rL_some h
      refine al_U42 hx hb hw g_129 e_129 d_K_Types_relateOne_129 ?_
      refine lv_lor hx hb d_K_Types_relateOne_130 ?_
      refine lv_aload_n hx hb d_K_Types_relateOne_131 rfl (lv_at hl 0 rfl) ?_
      refine gfU_Types_27 hx hb hts hnw hown hw d_K_Types_relateOne_132 ?_
      refine lv_iload_n hx hb d_K_Types_relateOne_135 rfl (lv_at hl 1 rfl) ?_
      obtain ⟨x136, g_136, e_136, h⟩ := sk_rL_some h
      refine al_U40 hx hb hw g_136 e_136 d_K_Types_relateOne_136 ?_
      refine lv_lor hx hb d_K_Types_relateOne_137 ?_
      obtain ⟨st138, g_138, e_138, h⟩ := sk_wL_some h
      refine as_U42 hx hb hw g_138 e_138 d_K_Types_relateOne_138 (fun H locs hw => ?_)
      refine lv_iconst (v := 0) hx hb d_K_Types_relateOne_139 (by decide) ?_
      refine lv_istore (lv' := [(4, .int (0 : Int32)), (0, .ref (a 1)), (1, .int v1)]) hx hb d_K_Types_relateOne_140 hl (by decide) rfl (fun ls hl => ?_)
      refine sk_lp_run (G := fun (z : sk_M × Int32 × Int32) => ∀ (H : Heap) (locs : List Loc) (ls : Array Slot), sk_w D (tyU cI cJ cC) A (ceU a cI cJ cC) s z.1 H locs → lv_has ls 5 [(0, .ref (a 1)), (1, .int z.2.1), (4, .int z.2.2)] → W p l e rm_K_Types_relateOne s m args below meth c H locs 0 0 Q (F0 m 142 ls [])) ?_ N _ h _ _ _ hw (lv_sub hl [1, 2, 0] rfl)
      rintro self142 ⟨st, v1, v4⟩ hself142 h H locs ls hw hl
      unfold K_Types_relateOne_L142 at h
      refine lv_iload hx hb d_K_Types_relateOne_142 (lv_at hl 2 rfl) ?_
      refine lv_iload_n hx hb d_K_Types_relateOne_144 rfl (lv_at hl 1 rfl) ?_
      refine lv_icmp_ge (tgt := 184) hx hb d_K_Types_relateOne_145 (by decide) (fun c_145 => ?_) (fun c_145 => ?_)
      · have h := (if_pos c_145).symm.trans h
        exact hret _ _ _ _ _ (Option.some.inj h) hw d_K_Types_relateOne_184
      · have h := (if_neg c_145).symm.trans h
        refine lv_aload_n hx hb d_K_Types_relateOne_148 rfl (lv_at hl 0 rfl) ?_
        refine gfU_Types_27 hx hb hts hnw hown hw d_K_Types_relateOne_149 ?_
        refine lv_iload_n hx hb d_K_Types_relateOne_152 rfl (lv_at hl 1 rfl) ?_
        obtain ⟨x153, g_153, e_153, h⟩ := sk_rL_some h
        refine al_U40 hx hb hw g_153 e_153 d_K_Types_relateOne_153 ?_
        refine lv_iload hx hb d_K_Types_relateOne_154 (lv_at hl 2 rfl) ?_
        refine sk_callSNi (As := [.long x153, .int v4]) (rest := []) ⟨hx, hb, hml, hown, hts⟩ hw hnw hok (cU_K_SF_has hok rfl) (cwU_Types_53 hts hnw (by decide)) rfl hl.1 rfl (Nat.le_of_ble_eq_true rfl) d_K_Types_relateOne_156 (fun H locs hw => ?_)
        refine lv_if_eq (tgt := 178) hx hb d_K_Types_relateOne_159 (by decide) (fun c_159 => ?_) (fun c_159 => ?_)
        · have h := (if_pos c_159).symm.trans h
          refine lv_iinc (v := v4 + 1) (lv' := [(4, .int (v4 + 1)), (0, .ref (a 1)), (1, .int v1)]) hx hb d_K_Types_relateOne_178 hl (k := 2) rfl rfl (by decide) rfl (fun ls hl => ?_)
          refine lv_goto (tgt := 142) hx hb d_K_Types_relateOne_181 (by decide) ?_
          exact hself142 (st, v1, (v4 + 1)) h _ _ _ hw (lv_sub hl [1, 2, 0] rfl)
        · have h := (if_neg c_159).symm.trans h
          refine lv_aload_n hx hb d_K_Types_relateOne_162 rfl (lv_at hl 0 rfl) ?_
          refine gfU_Types_34 hx hb hts hnw hown hw d_K_Types_relateOne_163 ?_
          refine lv_iload_n hx hb d_K_Types_relateOne_166 rfl (lv_at hl 1 rfl) ?_
          refine lv_dup2_11 hx hb d_K_Types_relateOne_167 rfl rfl ?_
          obtain ⟨x168, g_168, e_168, h⟩ := sk_rL_some h
          refine al_U42 hx hb hw g_168 e_168 d_K_Types_relateOne_168 ?_
          refine lv_aload_n hx hb d_K_Types_relateOne_169 rfl (lv_at hl 0 rfl) ?_
          refine gfU_Types_34 hx hb hts hnw hown hw d_K_Types_relateOne_170 ?_
          refine lv_iload hx hb d_K_Types_relateOne_173 (lv_at hl 2 rfl) ?_
          obtain ⟨x175, g_175, e_175, h⟩ := sk_rL_some h
          refine al_U42 hx hb hw g_175 e_175 d_K_Types_relateOne_175 ?_
          refine lv_lor hx hb d_K_Types_relateOne_176 ?_
          obtain ⟨st177, g_177, e_177, h⟩ := sk_wL_some h
          refine as_U42 hx hb hw g_177 e_177 d_K_Types_relateOne_177 (fun H locs hw => ?_)
          refine lv_iinc (v := v4 + 1) (lv' := [(4, .int (v4 + 1)), (0, .ref (a 1)), (1, .int v1)]) hx hb d_K_Types_relateOne_178 hl (k := 2) rfl rfl (by decide) rfl (fun ls hl => ?_)
          refine lv_goto (tgt := 142) hx hb d_K_Types_relateOne_181 (by decide) ?_
          exact hself142 (st177, v1, (v4 + 1)) h _ _ _ hw (lv_sub hl [1, 2, 0] rfl)
    refine lv_if_eq (tgt := 56) hx hb d_K_Types_relateOne_49 (by decide) (fun c_49 => ?_) (fun c_49 => ?_)
    · have h := (if_pos c_49).symm.trans h
      refine lv_iconst (v := 0) hx hb d_K_Types_relateOne_56 (by decide) ?_
      exact hJ57 _ _ _ _ _ _ _ h hw (lv_sub hl [1, 2] rfl)
    · have h := (if_neg c_49).symm.trans h
      refine lv_iload_n hx hb d_K_Types_relateOne_52 rfl (lv_at hl 3 rfl) ?_
      refine lv_goto (tgt := 57) hx hb d_K_Types_relateOne_53 (by decide) ?_
      exact hJ57 _ _ _ _ _ _ _ h hw (lv_sub hl [1, 2] rfl)
  have hJ41 : ∀ (st : sk_M) (v1 : Int32) (v2 : Int32) (H : Heap) (locs : List Loc) (ls : Array Slot), K_Types_relateOne_J41 N st v1 v2 = some res → sk_w D (tyU cI cJ cC) A (ceU a cI cJ cC) s st H locs → lv_has ls 5 [(0, .ref (a 1)), (1, .int v1), (2, .int v2)] → W p l e rm_K_Types_relateOne s m args below meth c H locs 0 0 Q (F0 m 41 ls []) := by
    intro st v1 v2 H locs ls h hw hl
    unfold K_Types_relateOne_J41 at h
    refine lv_iconst (v := 0) hx hb d_K_Types_relateOne_41 (by decide) ?_
    exact hJ42 _ _ _ _ _ _ _ h hw (lv_sub hl [0, 1, 2] rfl)
  refine lv_if_eq (tgt := 41) hx hb d_K_Types_relateOne_12 (by decide) (fun c_12 => ?_) (fun c_12 => ?_)
  · have h := (if_pos c_12).symm.trans h
    exact hJ41 _ _ _ _ _ _ h hw (lv_sub hl [1, 2, 0] rfl)
  · have h := (if_neg c_12).symm.trans h
    refine lv_aload_n hx hb d_K_Types_relateOne_15 rfl (lv_at hl 1 rfl) ?_
    refine gfU_Types_57 hx hb hts hnw hown hw d_K_Types_relateOne_16 ?_
    refine lv_iload_n hx hb d_K_Types_relateOne_19 rfl (lv_at hl 0 rfl) ?_
    refine sk_callSNi (As := [.long (st.2 0 12), .int x5]) (rest := []) ⟨hx, hb, hml, hown, hts⟩ hw hnw hok (cU_K_SF_has hok rfl) (cwU_Types_53 hts hnw (by decide)) rfl hl.1 rfl (Nat.le_of_ble_eq_true rfl) d_K_Types_relateOne_20 (fun H locs hw => ?_)
    refine lv_if_ne (tgt := 41) hx hb d_K_Types_relateOne_23 (by decide) (fun c_23 => ?_) (fun c_23 => ?_)
    · have h := (if_neg c_23).symm.trans h
      exact hJ41 _ _ _ _ _ _ h hw (lv_sub hl [1, 2, 0] rfl)
    · have h := (if_pos c_23).symm.trans h
      refine lv_aload_n hx hb d_K_Types_relateOne_26 rfl (lv_at hl 1 rfl) ?_
      refine gfU_Types_57 hx hb hts hnw hown hw d_K_Types_relateOne_27 ?_
      refine lv_iload_n hx hb d_K_Types_relateOne_30 rfl (lv_at hl 2 rfl) ?_
      refine sk_callSNi (As := [.long (st.2 0 12), .int v1]) (rest := []) ⟨hx, hb, hml, hown, hts⟩ hw hnw hok (cU_K_SF_has hok rfl) (cwU_Types_53 hts hnw (by decide)) rfl hl.1 rfl (Nat.le_of_ble_eq_true rfl) d_K_Types_relateOne_31 (fun H locs hw => ?_)
      refine lv_if_ne (tgt := 41) hx hb d_K_Types_relateOne_34 (by decide) (fun c_34 => ?_) (fun c_34 => ?_)
      · have h := (if_neg c_34).symm.trans h
        exact hJ41 _ _ _ _ _ _ h hw (lv_sub hl [1, 2, 0] rfl)
      · have h := (if_pos c_34).symm.trans h
        refine lv_iconst (v := 1) hx hb d_K_Types_relateOne_37 (by decide) ?_
        refine lv_goto (tgt := 42) hx hb d_K_Types_relateOne_38 (by decide) ?_
        exact hJ42 _ _ _ _ _ _ _ h hw (lv_sub hl [1, 2, 0] rfl)
set_option maxHeartbeats 4000000 in
set_option maxRecDepth 100000 in
theorem cU_K_Types_relate {l : Launch} {D : va_G} {A : Nat → Prop} {a : Nat → Nat} {cI cJ cC : ClassId} {N : Nat} {st : sk_M} {res : sk_M} (hok : sk_ok A (nwN)) (h : K_Types_relate N st = some res) : sk_Cv l y_K_Types_relate w_K_Types_relate rm_K_Types_relate D (tyU cI cJ cC) A (ceU a cI cJ cC) (nwN) [.ref (a 1)] st res := by
  refine sk_headv (by decide) rfl (Nat.le_of_ble_eq_true rfl) ?_
  intro p e s m args below meth c Q hx hb hml hown hts0 hnw hret ls hl hw
  have hts : ∀ w ∈ TB, w.before args s = true := fun w h => hts0 w (List.mem_cons_of_mem _ h)
  have hown : s.vm.findClass R_Types = some m.cls := hown
  have hl : lv_has ls 2 [(0, .ref (a 1))] := hl
  unfold K_Types_relate at h
  refine lv_aload_n hx hb d_K_Types_relate_0 rfl (lv_at hl 0 rfl) ?_
  refine lv_lconst (v := 0) hx hb d_K_Types_relate_1 (by decide) ?_
  obtain ⟨st2, e_2, h⟩ := sk_fL_some h
  refine pfU_Types_57 hx hb hts hnw hown hw e_2 d_K_Types_relate_2 (fun H locs hw => ?_)
  refine lv_aload_n hx hb d_K_Types_relate_5 rfl (lv_at hl 0 rfl) ?_
  refine lv_lconst (v := 0) hx hb d_K_Types_relate_6 (by decide) ?_
  obtain ⟨st7, e_7, h⟩ := sk_fL_some h
  refine pfU_Types_60 hx hb hts hnw hown hw e_7 d_K_Types_relate_7 (fun H locs hw => ?_)
  refine lv_aload_n hx hb d_K_Types_relate_10 rfl (lv_at hl 0 rfl) ?_
  refine gfU_Types_31 hx hb hts hnw hown hw d_K_Types_relate_11 ?_
  refine lv_iconst (v := 0) hx hb d_K_Types_relate_14 (by decide) ?_
  refine lv_iconst (v := 0) hx hb d_K_Types_relate_15 (by decide) ?_
  refine sk_callSNl (As := [.int (0 : Int32)]) (rest := [.int (0 : Int32), .ref (a 41)]) ⟨hx, hb, hml, hown, hts⟩ hw hnw hok (cU_K_SF_bit hok rfl) (cwU_Types_40 hts hnw (by decide)) rfl hl.1 rfl (Nat.le_of_ble_eq_true rfl) d_K_Types_relate_16 (fun H locs hw => ?_)
  obtain ⟨st19, g_19, e_19, h⟩ := sk_wL_some h
  refine as_U41 hx hb hw g_19 e_19 d_K_Types_relate_19 (fun H locs hw => ?_)
  refine lv_iconst (v := 0) hx hb d_K_Types_relate_20 (by decide) ?_
  refine lv_istore_n (lv' := [(1, .int (0 : Int32)), (0, .ref (a 1))]) hx hb d_K_Types_relate_21 rfl hl (by decide) rfl (fun ls hl => ?_)
  refine sk_lp_run (G := fun (z : sk_M × Int32) => ∀ (H : Heap) (locs : List Loc) (ls : Array Slot), sk_w D (tyU cI cJ cC) A (ceU a cI cJ cC) s z.1 H locs → lv_has ls 2 [(0, .ref (a 1)), (1, .int z.2)] → W p l e rm_K_Types_relate s m args below meth c H locs 0 0 Q (F0 m 22 ls [])) ?_ N _ h _ _ _ hw (lv_sub hl [1, 0] rfl)
  rintro self22 ⟨st, v1⟩ hself22 h H locs ls hw hl
  unfold K_Types_relate_L22 at h
  refine lv_iload_n hx hb d_K_Types_relate_22 rfl (lv_at hl 1 rfl) ?_
  refine lv_bipush (v := 10) hx hb d_K_Types_relate_23 (by decide) ?_
  refine lv_icmp_ge (tgt := 97) hx hb d_K_Types_relate_25 (by decide) (fun c_25 => ?_) (fun c_25 => ?_)
  · have h := (if_pos c_25).symm.trans h
    exact hret _ _ _ _ _ (Option.some.inj h) hw d_K_Types_relate_97
  · have h := (if_neg c_25).symm.trans h
    refine lv_aload_n hx hb d_K_Types_relate_28 rfl (lv_at hl 0 rfl) ?_
    refine lv_iload_n hx hb d_K_Types_relate_29 rfl (lv_at hl 1 rfl) ?_
    refine sk_callVi (As := [.int v1]) (rest := []) ⟨hx, hb, hml, hown, hts⟩ hw hnw hok (cU_K_Types_isThere hok rfl) (cwU_Types_63 hts hnw (by decide)) (rc_U1 hw) rfl hl.1 rfl (Nat.le_of_ble_eq_true rfl) d_K_Types_relate_30 (fun H locs hw => ?_)
    refine lv_if_eq (tgt := 91) hx hb d_K_Types_relate_33 (by decide) (fun c_33 => ?_) (fun c_33 => ?_)
    · have h := (if_pos c_33).symm.trans h
      refine lv_iinc (v := v1 + 1) (lv' := [(1, .int (v1 + 1)), (0, .ref (a 1))]) hx hb d_K_Types_relate_91 hl (k := 1) rfl rfl (by decide) rfl (fun ls hl => ?_)
      refine lv_goto (tgt := 22) hx hb d_K_Types_relate_94 (by decide) ?_
      exact hself22 (st, (v1 + 1)) h _ _ _ hw (lv_sub hl [1, 0] rfl)
    · have h := (if_neg c_33).symm.trans h
      refine lv_aload_n hx hb d_K_Types_relate_36 rfl (lv_at hl 0 rfl) ?_
      refine gfU_Types_15 hx hb hts hnw hown hw d_K_Types_relate_37 ?_
      refine lv_iload_n hx hb d_K_Types_relate_40 rfl (lv_at hl 1 rfl) ?_
      obtain ⟨x41, g_41, e_41, h⟩ := sk_rI_some h
      refine al_U36 hx hb hw g_41 e_41 d_K_Types_relate_41 ?_
      refine lv_iconst (v := 1) hx hb d_K_Types_relate_42 (by decide) ?_
      refine lv_iand hx hb d_K_Types_relate_43 ?_
      have hJ60 : ∀ (st : sk_M) (v1 : Int32) (H : Heap) (locs : List Loc) (ls : Array Slot), K_Types_relate_J60 N self22 st v1 = some res → sk_w D (tyU cI cJ cC) A (ceU a cI cJ cC) s st H locs → lv_has ls 2 [(0, .ref (a 1)), (1, .int v1)] → W p l e rm_K_Types_relate s m args below meth c H locs 0 0 Q (F0 m 60 ls []) := by
        intro st v1 H locs ls h hw hl
        unfold K_Types_relate_J60 at h
        refine lv_aload_n hx hb d_K_Types_relate_60 rfl (lv_at hl 0 rfl) ?_
        refine gfU_Types_15 hx hb hts hnw hown hw d_K_Types_relate_61 ?_
        refine lv_iload_n hx hb d_K_Types_relate_64 rfl (lv_at hl 1 rfl) ?_
        obtain ⟨x65, g_65, e_65, h⟩ := sk_rI_some h
        refine al_U36 hx hb hw g_65 e_65 d_K_Types_relate_65 ?_
        have hJ82 : ∀ (st : sk_M) (v1 : Int32) (H : Heap) (locs : List Loc) (ls : Array Slot), K_Types_relate_J82 N self22 st v1 = some res → sk_w D (tyU cI cJ cC) A (ceU a cI cJ cC) s st H locs → lv_has ls 2 [(0, .ref (a 1)), (1, .int v1)] → W p l e rm_K_Types_relate s m args below meth c H locs 0 0 Q (F0 m 82 ls []) := by
          intro st v1 H locs ls h hw hl
          unfold K_Types_relate_J82 at h
          refine lv_iload_n hx hb d_K_Types_relate_82 rfl (lv_at hl 1 rfl) ?_
          refine lv_if_le (tgt := 91) hx hb d_K_Types_relate_83 (by decide) (fun c_83 => ?_) (fun c_83 => ?_)
          · have h := (if_pos c_83).symm.trans h
            refine lv_iinc (v := v1 + 1) (lv' := [(1, .int (v1 + 1)), (0, .ref (a 1))]) hx hb d_K_Types_relate_91 hl (k := 1) rfl rfl (by decide) rfl (fun ls hl => ?_)
            refine lv_goto (tgt := 22) hx hb d_K_Types_relate_94 (by decide) ?_
            exact hself22 (st, (v1 + 1)) h _ _ _ hw (lv_sub hl [1, 0] rfl)
          · have h := (if_neg c_83).symm.trans h
            refine lv_aload_n hx hb d_K_Types_relate_86 rfl (lv_at hl 0 rfl) ?_
            refine lv_iload_n hx hb d_K_Types_relate_87 rfl (lv_at hl 1 rfl) ?_
            obtain ⟨st88, q_88, h⟩ := sk_oR_some h
            refine sk_callVv (As := [.int v1]) (rest := []) ⟨hx, hb, hml, hown, hts⟩ hw hnw hok (cU_K_Types_relateOne hok q_88) (cwU_Types_67 hts hnw (by decide)) (rc_U1 hw) rfl hl.1 rfl (Nat.le_of_ble_eq_true rfl) d_K_Types_relate_88 (fun H locs hw => ?_)
            refine lv_iinc (v := v1 + 1) (lv' := [(1, .int (v1 + 1)), (0, .ref (a 1))]) hx hb d_K_Types_relate_91 hl (k := 1) rfl rfl (by decide) rfl (fun ls hl => ?_)
            refine lv_goto (tgt := 22) hx hb d_K_Types_relate_94 (by decide) ?_
            exact hself22 (st88, (v1 + 1)) h _ _ _ hw (lv_sub hl [1, 0] rfl)
        refine lv_if_ne (tgt := 82) hx hb d_K_Types_relate_66 (by decide) (fun c_66 => ?_) (fun c_66 => ?_)
        · have h := (if_neg c_66).symm.trans h
          exact hJ82 _ _ _ _ _ h hw (lv_sub hl [0, 1] rfl)
        · have h := (if_pos c_66).symm.trans h
          refine lv_aload_n hx hb d_K_Types_relate_69 rfl (lv_at hl 0 rfl) ?_
          refine lv_dup hx hb d_K_Types_relate_70 rfl ?_
          refine gfU_Types_60 hx hb hts hnw hown hw d_K_Types_relate_71 ?_
          refine lv_iload_n hx hb d_K_Types_relate_74 rfl (lv_at hl 1 rfl) ?_
          refine sk_callSNl (As := [.int v1]) (rest := [.long (st.2 0 13), .ref (a 1)]) ⟨hx, hb, hml, hown, hts⟩ hw hnw hok (cU_K_SF_bit hok rfl) (cwU_Types_40 hts hnw (by decide)) rfl hl.1 rfl (Nat.le_of_ble_eq_true rfl) d_K_Types_relate_75 (fun H locs hw => ?_)
          refine lv_lor hx hb d_K_Types_relate_78 ?_
          obtain ⟨st79, e_79, h⟩ := sk_fL_some h
          refine pfU_Types_60 hx hb hts hnw hown hw e_79 d_K_Types_relate_79 (fun H locs hw => ?_)
          exact hJ82 _ _ _ _ _ h hw (lv_sub hl [0, 1] rfl)
      refine lv_if_eq (tgt := 60) hx hb d_K_Types_relate_44 (by decide) (fun c_44 => ?_) (fun c_44 => ?_)
      · have h := (if_pos c_44).symm.trans h
        exact hJ60 _ _ _ _ _ h hw (lv_sub hl [0, 1] rfl)
      · have h := (if_neg c_44).symm.trans h
        refine lv_aload_n hx hb d_K_Types_relate_47 rfl (lv_at hl 0 rfl) ?_
        refine lv_dup hx hb d_K_Types_relate_48 rfl ?_
        refine gfU_Types_57 hx hb hts hnw hown hw d_K_Types_relate_49 ?_
        refine lv_iload_n hx hb d_K_Types_relate_52 rfl (lv_at hl 1 rfl) ?_
        refine sk_callSNl (As := [.int v1]) (rest := [.long (st.2 0 12), .ref (a 1)]) ⟨hx, hb, hml, hown, hts⟩ hw hnw hok (cU_K_SF_bit hok rfl) (cwU_Types_40 hts hnw (by decide)) rfl hl.1 rfl (Nat.le_of_ble_eq_true rfl) d_K_Types_relate_53 (fun H locs hw => ?_)
        refine lv_lor hx hb d_K_Types_relate_56 ?_
        obtain ⟨st57, e_57, h⟩ := sk_fL_some h
        refine pfU_Types_57 hx hb hts hnw hown hw e_57 d_K_Types_relate_57 (fun H locs hw => ?_)
        exact hJ60 _ _ _ _ _ h hw (lv_sub hl [0, 1] rfl)
set_option maxHeartbeats 4000000 in
set_option maxRecDepth 100000 in
theorem cU_K_Types_reset {l : Launch} {D : va_G} {A : Nat → Prop} {a : Nat → Nat} {cI cJ cC : ClassId} {N : Nat} {st : sk_M} {res : sk_M} (hok : sk_ok A (nwN)) (h : K_Types_reset N st = some res) : sk_Cv l y_K_Types_reset w_K_Types_reset rm_K_Types_reset D (tyU cI cJ cC) A (ceU a cI cJ cC) (nwN) [.ref (a 1)] st res := by
  refine sk_headv (by decide) rfl (Nat.le_of_ble_eq_true rfl) ?_
  intro p e s m args below meth c Q hx hb hml hown hts0 hnw hret ls hl hw
  have hts : ∀ w ∈ TB, w.before args s = true := fun w h => hts0 w (List.mem_cons_of_mem _ h)
  have hown : s.vm.findClass R_Types = some m.cls := hown
  have hl : lv_has ls 1 [(0, .ref (a 1))] := hl
  unfold K_Types_reset at h
  refine lv_aload_n hx hb d_K_Types_reset_0 rfl (lv_at hl 0 rfl) ?_
  refine lv_iconst (v := 0) hx hb d_K_Types_reset_1 (by decide) ?_
  refine sk_callSNl (As := [.int (0 : Int32)]) (rest := [.ref (a 1)]) ⟨hx, hb, hml, hown, hts⟩ hw hnw hok (cU_K_SF_bit hok rfl) (cwU_Types_40 hts hnw (by decide)) rfl hl.1 rfl (Nat.le_of_ble_eq_true rfl) d_K_Types_reset_2 (fun H locs hw => ?_)
  obtain ⟨st5, e_5, h⟩ := sk_fL_some h
  refine pfU_Types_44 hx hb hts hnw hown hw e_5 d_K_Types_reset_5 (fun H locs hw => ?_)
  refine lv_aload_n hx hb d_K_Types_reset_8 rfl (lv_at hl 0 rfl) ?_
  obtain ⟨st9, q_9, h⟩ := sk_oR_some h
  refine sk_callVv (As := []) (rest := []) ⟨hx, hb, hml, hown, hts⟩ hw hnw hok (cU_K_Types_relate hok q_9) (cwU_Types_48 hts hnw (by decide)) (rc_U1 hw) rfl hl.1 rfl (Nat.le_of_ble_eq_true rfl) d_K_Types_reset_9 (fun H locs hw => ?_)
  exact hret _ _ _ _ _ (Option.some.inj h) hw d_K_Types_reset_12
def ceV (a : Nat → Nat) (cI cJ cC : ClassId) (st : sk_M) : va_W := [(a 2, .inr (1, [.ref (a 1), .ref (a 17), .ref (a 18), .ref (a 19), .ref (a 20), .int (st.1 0 5), .long (st.2 0 0), .long (st.2 0 1)])), (a 17, .inl (cI, 40, .inl (st.1 17))), (a 18, .inl (cI, 40, .inl (st.1 18))), (a 19, .inl (cI, 40, .inl (st.1 19))), (a 20, .inl (cI, 320, .inl (st.1 20)))]
def tyV (cI cJ cC : ClassId) : List (ClassId × FieldType) := [(cI, .int)]
theorem al_V17 {p : Program} {l : Launch} {e : Env} {R : Room} {s : State} {m : MethodId} {args : Array Value} {below : List Frame} {meth : Method} {c : Code} {H : Heap} {locs : List Loc} {Q : State → Prop} {cc : ByteArray} {pc : Nat} {ls : Array Slot} {rest : List Value} {D : va_G} {A : Nat → Prop} {a : Nat → Nat} {st : sk_M} {cI cJ cC : ClassId} (hx : p.tables.exec = Jvm.exec) (hb : c.code = cc) (hw : sk_w D (tyV cI cJ cC) A (ceV a cI cJ cC) s st H locs) {i : Int32} {x : Int32} (hin : vp_in i 40) (hv : st.1 17 i.toNatClampNeg = x) (hdg : decode cc pc = .ok (.iaload, 1)) (kk : W p l e R s m args below meth c H locs 0 0 Q (F0 m (pc + 1) ls (.int x :: rest))) : W p l e R s m args below meth c H locs 0 0 Q (F0 m (pc) ls (.int i :: .ref (a 17) :: rest)) := by
  subst hv
  exact va_iald hx hb hw.1 hw.2.1 1 0 rfl rfl hin hdg kk
theorem as_V17 {p : Program} {l : Launch} {e : Env} {R : Room} {s : State} {m : MethodId} {args : Array Value} {below : List Frame} {meth : Method} {c : Code} {H : Heap} {locs : List Loc} {Q : State → Prop} {cc : ByteArray} {pc : Nat} {ls : Array Slot} {rest : List Value} {D : va_G} {A : Nat → Prop} {a : Nat → Nat} {st : sk_M} {cI cJ cC : ClassId} {st2 : sk_M} (hx : p.tables.exec = Jvm.exec) (hb : c.code = cc) (hw : sk_w D (tyV cI cJ cC) A (ceV a cI cJ cC) s st H locs) {i : Int32} {x : Int32} (hin : vp_in i 40) (hv : sk_wi st 17 i.toNatClampNeg x = st2) (hdg : decode cc pc = .ok (.iastore, 1)) (kk : ∀ (H1 : Heap) (locs1 : List Loc), sk_w D (tyV cI cJ cC) A (ceV a cI cJ cC) s st2 H1 locs1 → W p l e R s m args below meth c H1 locs1 0 0 Q (F0 m (pc + 1) ls (rest))) : W p l e R s m args below meth c H locs 0 0 Q (F0 m (pc) ls (.int x :: .int i :: .ref (a 17) :: rest)) := by
  subst hv
  exact va_iast hx hb hw.1 hw.2.1 hw.2.2.1 hw.2.2.2 1 0 rfl rfl hin hdg (fun H1 locs1 hP hD hS => kk H1 locs1 ⟨hw.1, hP, hD, hS⟩)
theorem an_V17 {p : Program} {l : Launch} {e : Env} {R : Room} {s : State} {m : MethodId} {args : Array Value} {below : List Frame} {meth : Method} {c : Code} {H : Heap} {locs : List Loc} {Q : State → Prop} {cc : ByteArray} {pc : Nat} {ls : Array Slot} {rest : List Value} {D : va_G} {A : Nat → Prop} {a : Nat → Nat} {st : sk_M} {cI cJ cC : ClassId} (hx : p.tables.exec = Jvm.exec) (hb : c.code = cc) (hw : sk_w D (tyV cI cJ cC) A (ceV a cI cJ cC) s st H locs) (hdg : decode cc pc = .ok (.arraylength, 1)) (kk : W p l e R s m args below meth c H locs 0 0 Q (F0 m (pc + 1) ls (.int (nI 40) :: rest))) : W p l e R s m args below meth c H locs 0 0 Q (F0 m (pc) ls (.ref (a 17) :: rest)) := va_alen hx hb hw.1 hw.2.1 1 0 rfl rfl rfl hdg kk
theorem al_V18 {p : Program} {l : Launch} {e : Env} {R : Room} {s : State} {m : MethodId} {args : Array Value} {below : List Frame} {meth : Method} {c : Code} {H : Heap} {locs : List Loc} {Q : State → Prop} {cc : ByteArray} {pc : Nat} {ls : Array Slot} {rest : List Value} {D : va_G} {A : Nat → Prop} {a : Nat → Nat} {st : sk_M} {cI cJ cC : ClassId} (hx : p.tables.exec = Jvm.exec) (hb : c.code = cc) (hw : sk_w D (tyV cI cJ cC) A (ceV a cI cJ cC) s st H locs) {i : Int32} {x : Int32} (hin : vp_in i 40) (hv : st.1 18 i.toNatClampNeg = x) (hdg : decode cc pc = .ok (.iaload, 1)) (kk : W p l e R s m args below meth c H locs 0 0 Q (F0 m (pc + 1) ls (.int x :: rest))) : W p l e R s m args below meth c H locs 0 0 Q (F0 m (pc) ls (.int i :: .ref (a 18) :: rest)) := by
  subst hv
  exact va_iald hx hb hw.1 hw.2.1 2 0 rfl rfl hin hdg kk
theorem as_V18 {p : Program} {l : Launch} {e : Env} {R : Room} {s : State} {m : MethodId} {args : Array Value} {below : List Frame} {meth : Method} {c : Code} {H : Heap} {locs : List Loc} {Q : State → Prop} {cc : ByteArray} {pc : Nat} {ls : Array Slot} {rest : List Value} {D : va_G} {A : Nat → Prop} {a : Nat → Nat} {st : sk_M} {cI cJ cC : ClassId} {st2 : sk_M} (hx : p.tables.exec = Jvm.exec) (hb : c.code = cc) (hw : sk_w D (tyV cI cJ cC) A (ceV a cI cJ cC) s st H locs) {i : Int32} {x : Int32} (hin : vp_in i 40) (hv : sk_wi st 18 i.toNatClampNeg x = st2) (hdg : decode cc pc = .ok (.iastore, 1)) (kk : ∀ (H1 : Heap) (locs1 : List Loc), sk_w D (tyV cI cJ cC) A (ceV a cI cJ cC) s st2 H1 locs1 → W p l e R s m args below meth c H1 locs1 0 0 Q (F0 m (pc + 1) ls (rest))) : W p l e R s m args below meth c H locs 0 0 Q (F0 m (pc) ls (.int x :: .int i :: .ref (a 18) :: rest)) := by
  subst hv
  exact va_iast hx hb hw.1 hw.2.1 hw.2.2.1 hw.2.2.2 2 0 rfl rfl hin hdg (fun H1 locs1 hP hD hS => kk H1 locs1 ⟨hw.1, hP, hD, hS⟩)
theorem an_V18 {p : Program} {l : Launch} {e : Env} {R : Room} {s : State} {m : MethodId} {args : Array Value} {below : List Frame} {meth : Method} {c : Code} {H : Heap} {locs : List Loc} {Q : State → Prop} {cc : ByteArray} {pc : Nat} {ls : Array Slot} {rest : List Value} {D : va_G} {A : Nat → Prop} {a : Nat → Nat} {st : sk_M} {cI cJ cC : ClassId} (hx : p.tables.exec = Jvm.exec) (hb : c.code = cc) (hw : sk_w D (tyV cI cJ cC) A (ceV a cI cJ cC) s st H locs) (hdg : decode cc pc = .ok (.arraylength, 1)) (kk : W p l e R s m args below meth c H locs 0 0 Q (F0 m (pc + 1) ls (.int (nI 40) :: rest))) : W p l e R s m args below meth c H locs 0 0 Q (F0 m (pc) ls (.ref (a 18) :: rest)) := va_alen hx hb hw.1 hw.2.1 2 0 rfl rfl rfl hdg kk
theorem al_V19 {p : Program} {l : Launch} {e : Env} {R : Room} {s : State} {m : MethodId} {args : Array Value} {below : List Frame} {meth : Method} {c : Code} {H : Heap} {locs : List Loc} {Q : State → Prop} {cc : ByteArray} {pc : Nat} {ls : Array Slot} {rest : List Value} {D : va_G} {A : Nat → Prop} {a : Nat → Nat} {st : sk_M} {cI cJ cC : ClassId} (hx : p.tables.exec = Jvm.exec) (hb : c.code = cc) (hw : sk_w D (tyV cI cJ cC) A (ceV a cI cJ cC) s st H locs) {i : Int32} {x : Int32} (hin : vp_in i 40) (hv : st.1 19 i.toNatClampNeg = x) (hdg : decode cc pc = .ok (.iaload, 1)) (kk : W p l e R s m args below meth c H locs 0 0 Q (F0 m (pc + 1) ls (.int x :: rest))) : W p l e R s m args below meth c H locs 0 0 Q (F0 m (pc) ls (.int i :: .ref (a 19) :: rest)) := by
  subst hv
  exact va_iald hx hb hw.1 hw.2.1 3 0 rfl rfl hin hdg kk
theorem as_V19 {p : Program} {l : Launch} {e : Env} {R : Room} {s : State} {m : MethodId} {args : Array Value} {below : List Frame} {meth : Method} {c : Code} {H : Heap} {locs : List Loc} {Q : State → Prop} {cc : ByteArray} {pc : Nat} {ls : Array Slot} {rest : List Value} {D : va_G} {A : Nat → Prop} {a : Nat → Nat} {st : sk_M} {cI cJ cC : ClassId} {st2 : sk_M} (hx : p.tables.exec = Jvm.exec) (hb : c.code = cc) (hw : sk_w D (tyV cI cJ cC) A (ceV a cI cJ cC) s st H locs) {i : Int32} {x : Int32} (hin : vp_in i 40) (hv : sk_wi st 19 i.toNatClampNeg x = st2) (hdg : decode cc pc = .ok (.iastore, 1)) (kk : ∀ (H1 : Heap) (locs1 : List Loc), sk_w D (tyV cI cJ cC) A (ceV a cI cJ cC) s st2 H1 locs1 → W p l e R s m args below meth c H1 locs1 0 0 Q (F0 m (pc + 1) ls (rest))) : W p l e R s m args below meth c H locs 0 0 Q (F0 m (pc) ls (.int x :: .int i :: .ref (a 19) :: rest)) := by
  subst hv
  exact va_iast hx hb hw.1 hw.2.1 hw.2.2.1 hw.2.2.2 3 0 rfl rfl hin hdg (fun H1 locs1 hP hD hS => kk H1 locs1 ⟨hw.1, hP, hD, hS⟩)
theorem an_V19 {p : Program} {l : Launch} {e : Env} {R : Room} {s : State} {m : MethodId} {args : Array Value} {below : List Frame} {meth : Method} {c : Code} {H : Heap} {locs : List Loc} {Q : State → Prop} {cc : ByteArray} {pc : Nat} {ls : Array Slot} {rest : List Value} {D : va_G} {A : Nat → Prop} {a : Nat → Nat} {st : sk_M} {cI cJ cC : ClassId} (hx : p.tables.exec = Jvm.exec) (hb : c.code = cc) (hw : sk_w D (tyV cI cJ cC) A (ceV a cI cJ cC) s st H locs) (hdg : decode cc pc = .ok (.arraylength, 1)) (kk : W p l e R s m args below meth c H locs 0 0 Q (F0 m (pc + 1) ls (.int (nI 40) :: rest))) : W p l e R s m args below meth c H locs 0 0 Q (F0 m (pc) ls (.ref (a 19) :: rest)) := va_alen hx hb hw.1 hw.2.1 3 0 rfl rfl rfl hdg kk
theorem al_V20 {p : Program} {l : Launch} {e : Env} {R : Room} {s : State} {m : MethodId} {args : Array Value} {below : List Frame} {meth : Method} {c : Code} {H : Heap} {locs : List Loc} {Q : State → Prop} {cc : ByteArray} {pc : Nat} {ls : Array Slot} {rest : List Value} {D : va_G} {A : Nat → Prop} {a : Nat → Nat} {st : sk_M} {cI cJ cC : ClassId} (hx : p.tables.exec = Jvm.exec) (hb : c.code = cc) (hw : sk_w D (tyV cI cJ cC) A (ceV a cI cJ cC) s st H locs) {i : Int32} {x : Int32} (hin : vp_in i 320) (hv : st.1 20 i.toNatClampNeg = x) (hdg : decode cc pc = .ok (.iaload, 1)) (kk : W p l e R s m args below meth c H locs 0 0 Q (F0 m (pc + 1) ls (.int x :: rest))) : W p l e R s m args below meth c H locs 0 0 Q (F0 m (pc) ls (.int i :: .ref (a 20) :: rest)) := by
  subst hv
  exact va_iald hx hb hw.1 hw.2.1 4 0 rfl rfl hin hdg kk
theorem as_V20 {p : Program} {l : Launch} {e : Env} {R : Room} {s : State} {m : MethodId} {args : Array Value} {below : List Frame} {meth : Method} {c : Code} {H : Heap} {locs : List Loc} {Q : State → Prop} {cc : ByteArray} {pc : Nat} {ls : Array Slot} {rest : List Value} {D : va_G} {A : Nat → Prop} {a : Nat → Nat} {st : sk_M} {cI cJ cC : ClassId} {st2 : sk_M} (hx : p.tables.exec = Jvm.exec) (hb : c.code = cc) (hw : sk_w D (tyV cI cJ cC) A (ceV a cI cJ cC) s st H locs) {i : Int32} {x : Int32} (hin : vp_in i 320) (hv : sk_wi st 20 i.toNatClampNeg x = st2) (hdg : decode cc pc = .ok (.iastore, 1)) (kk : ∀ (H1 : Heap) (locs1 : List Loc), sk_w D (tyV cI cJ cC) A (ceV a cI cJ cC) s st2 H1 locs1 → W p l e R s m args below meth c H1 locs1 0 0 Q (F0 m (pc + 1) ls (rest))) : W p l e R s m args below meth c H locs 0 0 Q (F0 m (pc) ls (.int x :: .int i :: .ref (a 20) :: rest)) := by
  subst hv
  exact va_iast hx hb hw.1 hw.2.1 hw.2.2.1 hw.2.2.2 4 0 rfl rfl hin hdg (fun H1 locs1 hP hD hS => kk H1 locs1 ⟨hw.1, hP, hD, hS⟩)
theorem an_V20 {p : Program} {l : Launch} {e : Env} {R : Room} {s : State} {m : MethodId} {args : Array Value} {below : List Frame} {meth : Method} {c : Code} {H : Heap} {locs : List Loc} {Q : State → Prop} {cc : ByteArray} {pc : Nat} {ls : Array Slot} {rest : List Value} {D : va_G} {A : Nat → Prop} {a : Nat → Nat} {st : sk_M} {cI cJ cC : ClassId} (hx : p.tables.exec = Jvm.exec) (hb : c.code = cc) (hw : sk_w D (tyV cI cJ cC) A (ceV a cI cJ cC) s st H locs) (hdg : decode cc pc = .ok (.arraylength, 1)) (kk : W p l e R s m args below meth c H locs 0 0 Q (F0 m (pc + 1) ls (.int (nI 320) :: rest))) : W p l e R s m args below meth c H locs 0 0 Q (F0 m (pc) ls (.ref (a 20) :: rest)) := va_alen hx hb hw.1 hw.2.1 4 0 rfl rfl rfl hdg kk
theorem rc_V2 {s : State} {D : va_G} {A : Nat → Prop} {a : Nat → Nat} {cI cJ cC : ClassId} {st : sk_M} {H : Heap} {locs : List Loc} (hw : sk_w D (tyV cI cJ cC) A (ceV a cI cJ cC) s st H locs) : ∃ cellB : Cell, H[a 2]? = some cellB ∧ cellB.vm.isStatics = false ∧ s.vm.findClass R_Members = some cellB.cls := va_recv hw.1 hw.2.1 (ci := 1) (q0 := 0) rfl rfl
theorem gfV_Members_9 {p : Program} {l : Launch} {e : Env} {R : Room} {s : State} {m : MethodId} {args : Array Value} {below : List Frame} {meth : Method} {c : Code} {H : Heap} {locs : List Loc} {Q : State → Prop} {cc : ByteArray} {pc : Nat} {ls : Array Slot} {rest : List Value} {D : va_G} {A : Nat → Prop} {a : Nat → Nat} {st : sk_M} {cI cJ cC : ClassId} (hx : p.tables.exec = Jvm.exec) (hb : c.code = cc) (hts : ∀ w ∈ TB, w.before args s = true) (hnw : nwN s) (hown : s.vm.findClass R_Members = some m.cls) (hw : sk_w D (tyV cI cJ cC) A (ceV a cI cJ cC) s st H locs) (hdg : decode cc pc = .ok (.getfield 9, 3)) (kk : W p l e R s m args below meth c H locs 0 0 Q (F0 m (pc + 3) ls (.ref (a 17) :: rest))) : W p l e R s m args below meth c H locs 0 0 Q (F0 m (pc) ls (.ref (a 2) :: rest)) :=
  va_get (D := D) (ci := 1) (C := R_Members) (T := F_Members) (N := 8) hx hb hts i_Members hown hw.1 hw.2.1 0 rfl rfl 1 (by decide) (hts _ (tb_1 (List.mem_of_getElem? (i := 124) rfl) rfl)) (fun _ h9 => h9) rfl hdg kk
theorem gfV_Members_15 {p : Program} {l : Launch} {e : Env} {R : Room} {s : State} {m : MethodId} {args : Array Value} {below : List Frame} {meth : Method} {c : Code} {H : Heap} {locs : List Loc} {Q : State → Prop} {cc : ByteArray} {pc : Nat} {ls : Array Slot} {rest : List Value} {D : va_G} {A : Nat → Prop} {a : Nat → Nat} {st : sk_M} {cI cJ cC : ClassId} (hx : p.tables.exec = Jvm.exec) (hb : c.code = cc) (hts : ∀ w ∈ TB, w.before args s = true) (hnw : nwN s) (hown : s.vm.findClass R_Members = some m.cls) (hw : sk_w D (tyV cI cJ cC) A (ceV a cI cJ cC) s st H locs) (hdg : decode cc pc = .ok (.getfield 15, 3)) (kk : W p l e R s m args below meth c H locs 0 0 Q (F0 m (pc + 3) ls (.ref (a 18) :: rest))) : W p l e R s m args below meth c H locs 0 0 Q (F0 m (pc) ls (.ref (a 2) :: rest)) :=
  va_get (D := D) (ci := 1) (C := R_Members) (T := F_Members) (N := 8) hx hb hts i_Members hown hw.1 hw.2.1 0 rfl rfl 2 (by decide) (hts _ (tb_1 (List.mem_of_getElem? (i := 129) rfl) rfl)) (fun _ h9 => h9) rfl hdg kk
theorem gfV_Members_18 {p : Program} {l : Launch} {e : Env} {R : Room} {s : State} {m : MethodId} {args : Array Value} {below : List Frame} {meth : Method} {c : Code} {H : Heap} {locs : List Loc} {Q : State → Prop} {cc : ByteArray} {pc : Nat} {ls : Array Slot} {rest : List Value} {D : va_G} {A : Nat → Prop} {a : Nat → Nat} {st : sk_M} {cI cJ cC : ClassId} (hx : p.tables.exec = Jvm.exec) (hb : c.code = cc) (hts : ∀ w ∈ TB, w.before args s = true) (hnw : nwN s) (hown : s.vm.findClass R_Members = some m.cls) (hw : sk_w D (tyV cI cJ cC) A (ceV a cI cJ cC) s st H locs) (hdg : decode cc pc = .ok (.getfield 18, 3)) (kk : W p l e R s m args below meth c H locs 0 0 Q (F0 m (pc + 3) ls (.ref (a 19) :: rest))) : W p l e R s m args below meth c H locs 0 0 Q (F0 m (pc) ls (.ref (a 2) :: rest)) :=
  va_get (D := D) (ci := 1) (C := R_Members) (T := F_Members) (N := 8) hx hb hts i_Members hown hw.1 hw.2.1 0 rfl rfl 3 (by decide) (hts _ (tb_1 (List.mem_of_getElem? (i := 134) rfl) rfl)) (fun _ h9 => h9) rfl hdg kk
theorem gfV_Members_21 {p : Program} {l : Launch} {e : Env} {R : Room} {s : State} {m : MethodId} {args : Array Value} {below : List Frame} {meth : Method} {c : Code} {H : Heap} {locs : List Loc} {Q : State → Prop} {cc : ByteArray} {pc : Nat} {ls : Array Slot} {rest : List Value} {D : va_G} {A : Nat → Prop} {a : Nat → Nat} {st : sk_M} {cI cJ cC : ClassId} (hx : p.tables.exec = Jvm.exec) (hb : c.code = cc) (hts : ∀ w ∈ TB, w.before args s = true) (hnw : nwN s) (hown : s.vm.findClass R_Members = some m.cls) (hw : sk_w D (tyV cI cJ cC) A (ceV a cI cJ cC) s st H locs) (hdg : decode cc pc = .ok (.getfield 21, 3)) (kk : W p l e R s m args below meth c H locs 0 0 Q (F0 m (pc + 3) ls (.ref (a 20) :: rest))) : W p l e R s m args below meth c H locs 0 0 Q (F0 m (pc) ls (.ref (a 2) :: rest)) :=
  va_get (D := D) (ci := 1) (C := R_Members) (T := F_Members) (N := 8) hx hb hts i_Members hown hw.1 hw.2.1 0 rfl rfl 4 (by decide) (hts _ (tb_1 (List.mem_of_getElem? (i := 136) rfl) rfl)) (fun _ h9 => h9) rfl hdg kk
theorem gfV_Members_37 {p : Program} {l : Launch} {e : Env} {R : Room} {s : State} {m : MethodId} {args : Array Value} {below : List Frame} {meth : Method} {c : Code} {H : Heap} {locs : List Loc} {Q : State → Prop} {cc : ByteArray} {pc : Nat} {ls : Array Slot} {rest : List Value} {D : va_G} {A : Nat → Prop} {a : Nat → Nat} {st : sk_M} {cI cJ cC : ClassId} (hx : p.tables.exec = Jvm.exec) (hb : c.code = cc) (hts : ∀ w ∈ TB, w.before args s = true) (hnw : nwN s) (hown : s.vm.findClass R_Members = some m.cls) (hw : sk_w D (tyV cI cJ cC) A (ceV a cI cJ cC) s st H locs) (hdg : decode cc pc = .ok (.getfield 37, 3)) (kk : W p l e R s m args below meth c H locs 0 0 Q (F0 m (pc + 3) ls (.int (st.1 0 5) :: rest))) : W p l e R s m args below meth c H locs 0 0 Q (F0 m (pc) ls (.ref (a 2) :: rest)) :=
  va_get (D := D) (ci := 1) (C := R_Members) (T := F_Members) (N := 8) hx hb hts i_Members hown hw.1 hw.2.1 0 rfl rfl 5 (by decide) (hts _ (tb_1 (List.mem_of_getElem? (i := 137) rfl) rfl)) (fun _ h9 => h9) rfl hdg kk
theorem pfV_Members_37 {p : Program} {l : Launch} {e : Env} {R : Room} {s : State} {m : MethodId} {args : Array Value} {below : List Frame} {meth : Method} {c : Code} {H : Heap} {locs : List Loc} {Q : State → Prop} {cc : ByteArray} {pc : Nat} {ls : Array Slot} {rest : List Value} {D : va_G} {A : Nat → Prop} {a : Nat → Nat} {st : sk_M} {cI cJ cC : ClassId} {st2 : sk_M} {x : Int32} (hx : p.tables.exec = Jvm.exec) (hb : c.code = cc) (hts : ∀ w ∈ TB, w.before args s = true) (hnw : nwN s) (hown : s.vm.findClass R_Members = some m.cls) (hw : sk_w D (tyV cI cJ cC) A (ceV a cI cJ cC) s st H locs) (hv : sk_wi st 0 5 x = st2) (hdg : decode cc pc = .ok (.putfield 37, 3)) (kk : ∀ (H1 : Heap) (locs1 : List Loc), sk_w D (tyV cI cJ cC) A (ceV a cI cJ cC) s st2 H1 locs1 → W p l e R s m args below meth c H1 locs1 0 0 Q (F0 m (pc + 3) ls (rest))) : W p l e R s m args below meth c H locs 0 0 Q (F0 m (pc) ls (.int x :: .ref (a 2) :: rest)) := by
  subst hv
  exact va_put (D := D) (ci := 1) (v := .int x) (ty := .int) (C := R_Members) (T := F_Members) (N := 8) hx hb hts i_Members t_Members t_Members_ok n_Members hown hw.1 hw.2.1 hw.2.2.1 hw.2.2.2 0 rfl rfl 5 (by decide) (hts _ (tb_1 (List.mem_of_getElem? (i := 137) rfl) rfl)) (fun _ h9 => h9) rfl (by decide +kernel) rfl rfl (Nat.le_of_ble_eq_true rfl) hdg (fun H1 locs1 hP hD hS => kk H1 locs1 ⟨hw.1, hP, hD, hS⟩)
theorem gfV_Members_41 {p : Program} {l : Launch} {e : Env} {R : Room} {s : State} {m : MethodId} {args : Array Value} {below : List Frame} {meth : Method} {c : Code} {H : Heap} {locs : List Loc} {Q : State → Prop} {cc : ByteArray} {pc : Nat} {ls : Array Slot} {rest : List Value} {D : va_G} {A : Nat → Prop} {a : Nat → Nat} {st : sk_M} {cI cJ cC : ClassId} (hx : p.tables.exec = Jvm.exec) (hb : c.code = cc) (hts : ∀ w ∈ TB, w.before args s = true) (hnw : nwN s) (hown : s.vm.findClass R_Members = some m.cls) (hw : sk_w D (tyV cI cJ cC) A (ceV a cI cJ cC) s st H locs) (hdg : decode cc pc = .ok (.getfield 41, 3)) (kk : W p l e R s m args below meth c H locs 0 0 Q (F0 m (pc + 3) ls (.long (st.2 0 0) :: rest))) : W p l e R s m args below meth c H locs 0 0 Q (F0 m (pc) ls (.ref (a 2) :: rest)) :=
  va_get (D := D) (ci := 1) (C := R_Members) (T := F_Members) (N := 8) hx hb hts i_Members hown hw.1 hw.2.1 0 rfl rfl 6 (by decide) (hts _ (tb_1 (List.mem_of_getElem? (i := 142) rfl) rfl)) (fun _ h9 => h9) rfl hdg kk
theorem pfV_Members_41 {p : Program} {l : Launch} {e : Env} {R : Room} {s : State} {m : MethodId} {args : Array Value} {below : List Frame} {meth : Method} {c : Code} {H : Heap} {locs : List Loc} {Q : State → Prop} {cc : ByteArray} {pc : Nat} {ls : Array Slot} {rest : List Value} {D : va_G} {A : Nat → Prop} {a : Nat → Nat} {st : sk_M} {cI cJ cC : ClassId} {st2 : sk_M} {x : Int64} (hx : p.tables.exec = Jvm.exec) (hb : c.code = cc) (hts : ∀ w ∈ TB, w.before args s = true) (hnw : nwN s) (hown : s.vm.findClass R_Members = some m.cls) (hw : sk_w D (tyV cI cJ cC) A (ceV a cI cJ cC) s st H locs) (hv : sk_wl st 0 0 x = st2) (hdg : decode cc pc = .ok (.putfield 41, 3)) (kk : ∀ (H1 : Heap) (locs1 : List Loc), sk_w D (tyV cI cJ cC) A (ceV a cI cJ cC) s st2 H1 locs1 → W p l e R s m args below meth c H1 locs1 0 0 Q (F0 m (pc + 3) ls (rest))) : W p l e R s m args below meth c H locs 0 0 Q (F0 m (pc) ls (.long x :: .ref (a 2) :: rest)) := by
  subst hv
  exact va_put (D := D) (ci := 1) (v := .long x) (ty := .long) (C := R_Members) (T := F_Members) (N := 8) hx hb hts i_Members t_Members t_Members_ok n_Members hown hw.1 hw.2.1 hw.2.2.1 hw.2.2.2 0 rfl rfl 6 (by decide) (hts _ (tb_1 (List.mem_of_getElem? (i := 142) rfl) rfl)) (fun _ h9 => h9) rfl (by decide +kernel) rfl rfl (Nat.le_of_ble_eq_true rfl) hdg (fun H1 locs1 hP hD hS => kk H1 locs1 ⟨hw.1, hP, hD, hS⟩)
theorem gfV_Members_45 {p : Program} {l : Launch} {e : Env} {R : Room} {s : State} {m : MethodId} {args : Array Value} {below : List Frame} {meth : Method} {c : Code} {H : Heap} {locs : List Loc} {Q : State → Prop} {cc : ByteArray} {pc : Nat} {ls : Array Slot} {rest : List Value} {D : va_G} {A : Nat → Prop} {a : Nat → Nat} {st : sk_M} {cI cJ cC : ClassId} (hx : p.tables.exec = Jvm.exec) (hb : c.code = cc) (hts : ∀ w ∈ TB, w.before args s = true) (hnw : nwN s) (hown : s.vm.findClass R_Members = some m.cls) (hw : sk_w D (tyV cI cJ cC) A (ceV a cI cJ cC) s st H locs) (hdg : decode cc pc = .ok (.getfield 45, 3)) (kk : W p l e R s m args below meth c H locs 0 0 Q (F0 m (pc + 3) ls (.long (st.2 0 1) :: rest))) : W p l e R s m args below meth c H locs 0 0 Q (F0 m (pc) ls (.ref (a 2) :: rest)) :=
  va_get (D := D) (ci := 1) (C := R_Members) (T := F_Members) (N := 8) hx hb hts i_Members hown hw.1 hw.2.1 0 rfl rfl 7 (by decide) (hts _ (tb_1 (List.mem_of_getElem? (i := 146) rfl) rfl)) (fun _ h9 => h9) rfl hdg kk
theorem pfV_Members_45 {p : Program} {l : Launch} {e : Env} {R : Room} {s : State} {m : MethodId} {args : Array Value} {below : List Frame} {meth : Method} {c : Code} {H : Heap} {locs : List Loc} {Q : State → Prop} {cc : ByteArray} {pc : Nat} {ls : Array Slot} {rest : List Value} {D : va_G} {A : Nat → Prop} {a : Nat → Nat} {st : sk_M} {cI cJ cC : ClassId} {st2 : sk_M} {x : Int64} (hx : p.tables.exec = Jvm.exec) (hb : c.code = cc) (hts : ∀ w ∈ TB, w.before args s = true) (hnw : nwN s) (hown : s.vm.findClass R_Members = some m.cls) (hw : sk_w D (tyV cI cJ cC) A (ceV a cI cJ cC) s st H locs) (hv : sk_wl st 0 1 x = st2) (hdg : decode cc pc = .ok (.putfield 45, 3)) (kk : ∀ (H1 : Heap) (locs1 : List Loc), sk_w D (tyV cI cJ cC) A (ceV a cI cJ cC) s st2 H1 locs1 → W p l e R s m args below meth c H1 locs1 0 0 Q (F0 m (pc + 3) ls (rest))) : W p l e R s m args below meth c H locs 0 0 Q (F0 m (pc) ls (.long x :: .ref (a 2) :: rest)) := by
  subst hv
  exact va_put (D := D) (ci := 1) (v := .long x) (ty := .long) (C := R_Members) (T := F_Members) (N := 8) hx hb hts i_Members t_Members t_Members_ok n_Members hown hw.1 hw.2.1 hw.2.2.1 hw.2.2.2 0 rfl rfl 7 (by decide) (hts _ (tb_1 (List.mem_of_getElem? (i := 146) rfl) rfl)) (fun _ h9 => h9) rfl (by decide +kernel) rfl rfl (Nat.le_of_ble_eq_true rfl) hdg (fun H1 locs1 hP hD hS => kk H1 locs1 ⟨hw.1, hP, hD, hS⟩)
theorem cwV_Members_52 {R : Room} {s : State} {args : Array Value} (hts : ∀ w ∈ TB, w.before args s = true) (hnw : nwN s) (hR : rm_K_SF_bit.frames + 1 ≤ R.frames ∧ 8 + (1 + 11) + rm_K_SF_bit.locals ≤ R.locals) : va_CN R s args R_Members 52 y_K_SF_bit R_SF b_K_SF_bit 1 (some .long) w_K_SF_bit rm_K_SF_bit 0 0 1 ∧ (Cond.static y_K_SF_bit).before args s = true ∧ True :=
  tb_cwSN 1 hts (hnw _ (tn_1 (List.mem_of_getElem? (i := 122) rfl) rfl)) (tb_1 (List.mem_of_getElem? (i := 38) rfl) rfl) (tb_1 (List.mem_of_getElem? (i := 1) rfl) rfl) k_K_SF_bit rfl rfl ⟨by decide, by decide, by decide +kernel⟩ hR
theorem cwV_Members_31 {R : Room} {s : State} {args : Array Value} (hts : ∀ w ∈ TB, w.before args s = true) (hnw : nwN s) (hR : rm_J_fill.frames + 1 ≤ R.frames ∧ 8 + (4 + 11) + rm_J_fill.locals ≤ R.locals) : CallB R s args R_Members 31 y_J_fill b_J_fill 4 none w_J_fill rm_J_fill 0 0 2 ∧ (Cond.static y_J_fill).before args s = true :=
  tb_cwS 2 hts (tb_1 (List.mem_of_getElem? (i := 115) rfl) rfl) (tb_1 (List.mem_of_getElem? (i := 116) rfl) rfl) (tb_1 (List.mem_of_getElem? (i := 4) rfl) rfl) k_J_fill rfl rfl ⟨by decide, by decide, by decide +kernel⟩ hR
theorem cwV_Members_48 {R : Room} {s : State} {args : Array Value} (hts : ∀ w ∈ TB, w.before args s = true) (hnw : nwN s) (hR : rm_K_Members_add.frames + 1 ≤ R.frames ∧ 8 + (5 + 11) + rm_K_Members_add.locals ≤ R.locals) : CallW R s args R_Members R_Members 48 y_K_Members_add b_K_Members_add 5 (some .int) w_K_Members_add rm_K_Members_add 0 0 3 :=
  tb_cwV 3 hts (tb_1 (List.mem_of_getElem? (i := 118) rfl) rfl) (tb_1 (List.mem_of_getElem? (i := 119) rfl) rfl) (tb_1 (List.mem_of_getElem? (i := 120) rfl) rfl) (tb_1 (List.mem_of_getElem? (i := 3) rfl) rfl) k_K_Members_add rfl rfl ⟨rfl, by decide, by decide, by decide +kernel⟩ hR
set_option maxHeartbeats 4000000 in
set_option maxRecDepth 100000 in
theorem cV_J_fill {l : Launch} {D : va_G} {A : Nat → Prop} {a : Nat → Nat} {cI cJ cC : ClassId} {N : Nat} {st : sk_M} {v1 : Int32} {res : sk_M} (hok : sk_ok A (nwN)) (h : J_fill N st v1 = some res) : sk_Cv l y_J_fill w_J_fill rm_J_fill D (tyV cI cJ cC) A (ceV a cI cJ cC) (nwN) [.ref (a 20), .int v1] st res := by
  refine sk_headv (by decide) rfl (Nat.le_of_ble_eq_true rfl) ?_
  intro p e s m args below meth c Q hx hb hml hown hts0 hnw hret ls hl hw
  have hts : ∀ w ∈ TB, w.before args s = true := fun w h => hts0 w (List.mem_cons_of_mem _ h)
  have hown : s.vm.findClass R_Arr = some m.cls := hown
  have hl : lv_has ls 4 [(0, .ref (a 20)), (1, .int v1)] := hl
  unfold J_fill at h
  refine lv_iconst (v := 0) hx hb d_J_fill_0 (by decide) ?_
  refine lv_istore_n (lv' := [(2, .int (0 : Int32)), (0, .ref (a 20)), (1, .int v1)]) hx hb d_J_fill_1 rfl hl (by decide) rfl (fun ls hl => ?_)
  refine lv_aload_n hx hb d_J_fill_2 rfl (lv_at hl 1 rfl) ?_
  refine an_V20 hx hb hw d_J_fill_3 ?_
  refine lv_istore_n (lv' := [(3, .int (nI 320)), (2, .int (0 : Int32)), (0, .ref (a 20)), (1, .int v1)]) hx hb d_J_fill_4 rfl hl (by decide) rfl (fun ls hl => ?_)
  refine sk_lp_run (G := fun (z : sk_M × Int32 × Int32 × Int32) => ∀ (H : Heap) (locs : List Loc) (ls : Array Slot), sk_w D (tyV cI cJ cC) A (ceV a cI cJ cC) s z.1 H locs → lv_has ls 4 [(0, .ref (a 20)), (1, .int z.2.1), (2, .int z.2.2.1), (3, .int z.2.2.2)] → W p l e rm_J_fill s m args below meth c H locs 0 0 Q (F0 m 5 ls [])) ?_ N _ h _ _ _ hw (lv_sub hl [2, 3, 1, 0] rfl)
  rintro self5 ⟨st, v1, v2, v3⟩ hself5 h H locs ls hw hl
  unfold J_fill_L5 at h
  refine lv_iload_n hx hb d_J_fill_5 rfl (lv_at hl 2 rfl) ?_
  refine lv_iload_n hx hb d_J_fill_6 rfl (lv_at hl 3 rfl) ?_
  refine lv_icmp_ge (tgt := 20) hx hb d_J_fill_7 (by decide) (fun c_7 => ?_) (fun c_7 => ?_)
  · have h := (if_pos c_7).symm.trans h
    exact hret _ _ _ _ _ (Option.some.inj h) hw d_J_fill_20
  · have h := (if_neg c_7).symm.trans h
    refine lv_aload_n hx hb d_J_fill_10 rfl (lv_at hl 0 rfl) ?_
    refine lv_iload_n hx hb d_J_fill_11 rfl (lv_at hl 2 rfl) ?_
    refine lv_iload_n hx hb d_J_fill_12 rfl (lv_at hl 1 rfl) ?_
    obtain ⟨st13, g_13, e_13, h⟩ := sk_wI_some h
    refine as_V20 hx hb hw g_13 e_13 d_J_fill_13 (fun H locs hw => ?_)
    refine lv_iinc (v := v2 + 1) (lv' := [(2, .int (v2 + 1)), (0, .ref (a 20)), (1, .int v1), (3, .int v3)]) hx hb d_J_fill_14 hl (k := 2) rfl rfl (by decide) rfl (fun ls hl => ?_)
    refine lv_goto (tgt := 5) hx hb d_J_fill_17 (by decide) ?_
    exact hself5 (st13, v1, (v2 + 1), v3) h _ _ _ hw (lv_sub hl [1, 2, 0, 3] rfl)
set_option maxHeartbeats 4000000 in
set_option maxRecDepth 100000 in
theorem cV_K_SF_bit {l : Launch} {D : va_G} {A : Nat → Prop} {a : Nat → Nat} {cI cJ cC : ClassId} {st : sk_M} {v0 : Int32} {res : Int64} (hok : sk_ok A (nwN)) (h : K_SF_bit v0 = res) : sk_Cl l y_K_SF_bit w_K_SF_bit rm_K_SF_bit D (tyV cI cJ cC) A (ceV a cI cJ cC) (nwN) [.int v0] st res st := by
  refine sk_headl (by decide) rfl (Nat.le_of_ble_eq_true rfl) ?_
  intro p e s m args below meth c Q hx hb hml hown hts0 hnw hret ls hl hw
  have hts : ∀ w ∈ TB, w.before args s = true := fun w h => hts0 w (List.mem_cons_of_mem _ h)
  have hown : s.vm.findClass R_SF = some m.cls := hown
  have hl : lv_has ls 1 [(0, .int v0)] := hl
  unfold K_SF_bit at h
  refine lv_lconst (v := 1) hx hb d_K_SF_bit_0 (by decide) ?_
  refine lv_iload_n hx hb d_K_SF_bit_1 rfl (lv_at hl 0 rfl) ?_
  refine lv_lshl hx hb d_K_SF_bit_2 rfl ?_
  exact hret _ _ _ _ _ _ h rfl hw d_K_SF_bit_3
set_option maxHeartbeats 4000000 in
set_option maxRecDepth 100000 in
theorem cV_K_Members_add {l : Launch} {D : va_G} {A : Nat → Prop} {a : Nat → Nat} {cI cJ cC : ClassId} {st : sk_M} {v1 : Int32} {v2 : Int32} {v3 : Int32} {res : Int32 × sk_M} (hok : sk_ok A (nwN)) (h : K_Members_add st v1 v2 v3 = some res) : sk_Ci l y_K_Members_add w_K_Members_add rm_K_Members_add D (tyV cI cJ cC) A (ceV a cI cJ cC) (nwN) [.ref (a 2), .int v1, .int v2, .int v3] st res.1 res.2 := by
  refine sk_headi .int (by decide) rfl (Nat.le_of_ble_eq_true rfl) ?_
  intro p e s m args below meth c Q hx hb hml hown hts0 hnw hret ls hl hw
  have hts : ∀ w ∈ TB, w.before args s = true := fun w h => hts0 w (List.mem_cons_of_mem _ h)
  have hown : s.vm.findClass R_Members = some m.cls := hown
  have hl : lv_has ls 5 [(0, .ref (a 2)), (1, .int v1), (2, .int v2), (3, .int v3)] := hl
  unfold K_Members_add at h
  refine lv_aload_n hx hb d_K_Members_add_0 rfl (lv_at hl 0 rfl) ?_
  refine gfV_Members_37 hx hb hts hnw hown hw d_K_Members_add_1 ?_
  refine lv_bipush (v := 40) hx hb d_K_Members_add_4 (by decide) ?_
  refine lv_icmp_lt (tgt := 12) hx hb d_K_Members_add_6 (by decide) (fun c_6 => ?_) (fun c_6 => ?_)
  · have h := (if_pos c_6).symm.trans h
    refine lv_aload_n hx hb d_K_Members_add_12 rfl (lv_at hl 0 rfl) ?_
    refine gfV_Members_37 hx hb hts hnw hown hw d_K_Members_add_13 ?_
    refine lv_istore (lv' := [(4, .int (st.1 0 5)), (0, .ref (a 2)), (1, .int v1), (2, .int v2), (3, .int v3)]) hx hb d_K_Members_add_16 hl (by decide) rfl (fun ls hl => ?_)
    refine lv_aload_n hx hb d_K_Members_add_18 rfl (lv_at hl 1 rfl) ?_
    refine lv_dup hx hb d_K_Members_add_19 rfl ?_
    refine gfV_Members_37 hx hb hts hnw hown hw d_K_Members_add_20 ?_
    refine lv_iconst (v := 1) hx hb d_K_Members_add_23 (by decide) ?_
    refine lv_iadd hx hb d_K_Members_add_24 ?_
    obtain ⟨st25, e_25, h⟩ := sk_fI_some h
    refine pfV_Members_37 hx hb hts hnw hown hw e_25 d_K_Members_add_25 (fun H locs hw => ?_)
    refine lv_aload_n hx hb d_K_Members_add_28 rfl (lv_at hl 1 rfl) ?_
    refine gfV_Members_9 hx hb hts hnw hown hw d_K_Members_add_29 ?_
    refine lv_iload hx hb d_K_Members_add_32 (lv_at hl 0 rfl) ?_
    refine lv_iload_n hx hb d_K_Members_add_34 rfl (lv_at hl 2 rfl) ?_
    obtain ⟨st35, g_35, e_35, h⟩ := sk_wI_some h
    refine as_V17 hx hb hw g_35 e_35 d_K_Members_add_35 (fun H locs hw => ?_)
    refine lv_aload_n hx hb d_K_Members_add_36 rfl (lv_at hl 1 rfl) ?_
    refine gfV_Members_15 hx hb hts hnw hown hw d_K_Members_add_37 ?_
    refine lv_iload hx hb d_K_Members_add_40 (lv_at hl 0 rfl) ?_
    refine lv_iload_n hx hb d_K_Members_add_42 rfl (lv_at hl 3 rfl) ?_
    obtain ⟨st43, g_43, e_43, h⟩ := sk_wI_some h
    refine as_V18 hx hb hw g_43 e_43 d_K_Members_add_43 (fun H locs hw => ?_)
    refine lv_aload_n hx hb d_K_Members_add_44 rfl (lv_at hl 1 rfl) ?_
    refine gfV_Members_18 hx hb hts hnw hown hw d_K_Members_add_45 ?_
    refine lv_iload hx hb d_K_Members_add_48 (lv_at hl 0 rfl) ?_
    refine lv_iload_n hx hb d_K_Members_add_50 rfl (lv_at hl 4 rfl) ?_
    obtain ⟨st51, g_51, e_51, h⟩ := sk_wI_some h
    refine as_V19 hx hb hw g_51 e_51 d_K_Members_add_51 (fun H locs hw => ?_)
    refine lv_aload_n hx hb d_K_Members_add_52 rfl (lv_at hl 1 rfl) ?_
    refine gfV_Members_21 hx hb hts hnw hown hw d_K_Members_add_53 ?_
    refine lv_iload_n hx hb d_K_Members_add_56 rfl (lv_at hl 2 rfl) ?_
    refine lv_bipush (v := 32) hx hb d_K_Members_add_57 (by decide) ?_
    refine lv_imul hx hb d_K_Members_add_59 ?_
    refine lv_iload_n hx hb d_K_Members_add_60 rfl (lv_at hl 3 rfl) ?_
    refine lv_iadd hx hb d_K_Members_add_61 ?_
    refine lv_iload hx hb d_K_Members_add_62 (lv_at hl 0 rfl) ?_
    obtain ⟨st64, g_64, e_64, h⟩ := sk_wI_some h
    refine as_V20 hx hb hw g_64 e_64 d_K_Members_add_64 (fun H locs hw => ?_)
    refine lv_aload_n hx hb d_K_Members_add_65 rfl (lv_at hl 1 rfl) ?_
    refine lv_dup hx hb d_K_Members_add_66 rfl ?_
    refine gfV_Members_41 hx hb hts hnw hown hw d_K_Members_add_67 ?_
    refine lv_iload hx hb d_K_Members_add_70 (lv_at hl 0 rfl) ?_
    refine sk_callSNl (As := [.int (st.1 0 5)]) (rest := [.long (st64.2 0 0), .ref (a 2)]) ⟨hx, hb, hml, hown, hts⟩ hw hnw hok (cV_K_SF_bit hok rfl) (cwV_Members_52 hts hnw (by decide)) rfl hl.1 rfl (Nat.le_of_ble_eq_true rfl) d_K_Members_add_72 (fun H locs hw => ?_)
    refine lv_lor hx hb d_K_Members_add_75 ?_
    obtain ⟨st76, e_76, h⟩ := sk_fL_some h
    refine pfV_Members_41 hx hb hts hnw hown hw e_76 d_K_Members_add_76 (fun H locs hw => ?_)
    refine lv_iload_n hx hb d_K_Members_add_79 rfl (lv_at hl 4 rfl) ?_
    refine lv_iconst (v := 1) hx hb d_K_Members_add_80 (by decide) ?_
    refine lv_icmp_ne (tgt := 98) hx hb d_K_Members_add_81 (by decide) (fun c_81 => ?_) (fun c_81 => ?_)
    · have h := (if_neg c_81).symm.trans h
      refine lv_iload hx hb d_K_Members_add_98 (lv_at hl 0 rfl) ?_
      exact hret _ _ _ _ _ _ (sk_p1 h) (sk_p2 h) (vp_nar_int _) hw d_K_Members_add_100
    · have h := (if_pos c_81).symm.trans h
      refine lv_aload_n hx hb d_K_Members_add_84 rfl (lv_at hl 1 rfl) ?_
      refine lv_dup hx hb d_K_Members_add_85 rfl ?_
      refine gfV_Members_45 hx hb hts hnw hown hw d_K_Members_add_86 ?_
      refine lv_iload hx hb d_K_Members_add_89 (lv_at hl 0 rfl) ?_
      refine sk_callSNl (As := [.int (st.1 0 5)]) (rest := [.long (st76.2 0 1), .ref (a 2)]) ⟨hx, hb, hml, hown, hts⟩ hw hnw hok (cV_K_SF_bit hok rfl) (cwV_Members_52 hts hnw (by decide)) rfl hl.1 rfl (Nat.le_of_ble_eq_true rfl) d_K_Members_add_91 (fun H locs hw => ?_)
      refine lv_lor hx hb d_K_Members_add_94 ?_
      obtain ⟨st95, e_95, h⟩ := sk_fL_some h
      refine pfV_Members_45 hx hb hts hnw hown hw e_95 d_K_Members_add_95 (fun H locs hw => ?_)
      refine lv_iload hx hb d_K_Members_add_98 (lv_at hl 0 rfl) ?_
      exact hret _ _ _ _ _ _ (sk_p1 h) (sk_p2 h) (vp_nar_int _) hw d_K_Members_add_100
  · have h := (if_neg c_6).symm.trans h
    refine lv_bipush (v := -3) hx hb d_K_Members_add_9 (by decide) ?_
    exact hret _ _ _ _ _ _ (sk_p1 h) (sk_p2 h) (vp_nar_int _) hw d_K_Members_add_11
set_option maxHeartbeats 4000000 in
set_option maxRecDepth 100000 in
theorem cV_K_Members_reset {l : Launch} {D : va_G} {A : Nat → Prop} {a : Nat → Nat} {cI cJ cC : ClassId} {N : Nat} {st : sk_M} {res : sk_M} (hok : sk_ok A (nwN)) (h : K_Members_reset N st = some res) : sk_Cv l y_K_Members_reset w_K_Members_reset rm_K_Members_reset D (tyV cI cJ cC) A (ceV a cI cJ cC) (nwN) [.ref (a 2)] st res := by
  refine sk_headv (by decide) rfl (Nat.le_of_ble_eq_true rfl) ?_
  intro p e s m args below meth c Q hx hb hml hown hts0 hnw hret ls hl hw
  have hts : ∀ w ∈ TB, w.before args s = true := fun w h => hts0 w (List.mem_cons_of_mem _ h)
  have hown : s.vm.findClass R_Members = some m.cls := hown
  have hl : lv_has ls 1 [(0, .ref (a 2))] := hl
  unfold K_Members_reset at h
  refine lv_aload_n hx hb d_K_Members_reset_0 rfl (lv_at hl 0 rfl) ?_
  refine gfV_Members_21 hx hb hts hnw hown hw d_K_Members_reset_1 ?_
  refine lv_bipush (v := -2) hx hb d_K_Members_reset_4 (by decide) ?_
  obtain ⟨st6, q_6, h⟩ := sk_oR_some h
  refine sk_callSv (As := [.ref (a 20), .int (-2 : Int32)]) (rest := []) ⟨hx, hb, hml, hown, hts⟩ hw hnw hok (cV_J_fill hok q_6) (cwV_Members_31 hts hnw (by decide)) rfl hl.1 rfl (Nat.le_of_ble_eq_true rfl) d_K_Members_reset_6 (fun H locs hw => ?_)
  refine lv_aload_n hx hb d_K_Members_reset_9 rfl (lv_at hl 0 rfl) ?_
  refine lv_iconst (v := 0) hx hb d_K_Members_reset_10 (by decide) ?_
  obtain ⟨st11, e_11, h⟩ := sk_fI_some h
  refine pfV_Members_37 hx hb hts hnw hown hw e_11 d_K_Members_reset_11 (fun H locs hw => ?_)
  refine lv_aload_n hx hb d_K_Members_reset_14 rfl (lv_at hl 0 rfl) ?_
  refine lv_lconst (v := 0) hx hb d_K_Members_reset_15 (by decide) ?_
  obtain ⟨st16, e_16, h⟩ := sk_fL_some h
  refine pfV_Members_41 hx hb hts hnw hown hw e_16 d_K_Members_reset_16 (fun H locs hw => ?_)
  refine lv_aload_n hx hb d_K_Members_reset_19 rfl (lv_at hl 0 rfl) ?_
  refine lv_lconst (v := 0) hx hb d_K_Members_reset_20 (by decide) ?_
  obtain ⟨st21, e_21, h⟩ := sk_fL_some h
  refine pfV_Members_45 hx hb hts hnw hown hw e_21 d_K_Members_reset_21 (fun H locs hw => ?_)
  refine lv_aload_n hx hb d_K_Members_reset_24 rfl (lv_at hl 0 rfl) ?_
  refine lv_iconst (v := 0) hx hb d_K_Members_reset_25 (by decide) ?_
  refine lv_bipush (v := 16) hx hb d_K_Members_reset_26 (by decide) ?_
  refine lv_iconst (v := 1) hx hb d_K_Members_reset_28 (by decide) ?_
  obtain ⟨x29, st29, q_29, h⟩ := sk_oW_some h
  refine sk_callVi (As := [.int (0 : Int32), .int (16 : Int32), .int (1 : Int32)]) (rest := []) ⟨hx, hb, hml, hown, hts⟩ hw hnw hok (cV_K_Members_add hok q_29) (cwV_Members_48 hts hnw (by decide)) (rc_V2 hw) rfl hl.1 rfl (Nat.le_of_ble_eq_true rfl) d_K_Members_reset_29 (fun H locs hw => ?_)
  refine lv_pop hx hb d_K_Members_reset_32 rfl ?_
  exact hret _ _ _ _ _ (Option.some.inj h) hw d_K_Members_reset_33
theorem cwIU_Types_37 {R : Room} {s : State} {args : Array Value} (hts : ∀ w ∈ TB, w.before args s = true) (hR : rm_K_Types_reset.frames + 1 ≤ R.frames ∧ 8 + (1 + 11) + rm_K_Types_reset.locals ≤ R.locals) : CallW R s args R_Types R_Types 37 y_K_Types_reset b_K_Types_reset 1 none w_K_Types_reset rm_K_Types_reset 0 0 0 :=
  tb_cwV 0 hts (tb_1 (List.mem_of_getElem? (i := 33) rfl) rfl) (tb_1 (List.mem_of_getElem? (i := 34) rfl) rfl) (tb_1 (List.mem_of_getElem? (i := 35) rfl) rfl) (tb_1 (List.mem_of_getElem? (i := 2) rfl) rfl) k_K_Types_reset rfl rfl ⟨rfl, by decide, by decide, by decide +kernel⟩ hR
theorem cwIV_Members_28 {R : Room} {s : State} {args : Array Value} (hts : ∀ w ∈ TB, w.before args s = true) (hR : rm_K_Members_reset.frames + 1 ≤ R.frames ∧ 8 + (1 + 11) + rm_K_Members_reset.locals ≤ R.locals) : CallW R s args R_Members R_Members 28 y_K_Members_reset b_K_Members_reset 1 none w_K_Members_reset rm_K_Members_reset 0 0 0 :=
  tb_cwV 0 hts (tb_1 (List.mem_of_getElem? (i := 111) rfl) rfl) (tb_1 (List.mem_of_getElem? (i := 112) rfl) rfl) (tb_1 (List.mem_of_getElem? (i := 113) rfl) rfl) (tb_1 (List.mem_of_getElem? (i := 3) rfl) rfl) k_K_Members_reset rfl rfl ⟨rfl, by decide, by decide, by decide +kernel⟩ hR
