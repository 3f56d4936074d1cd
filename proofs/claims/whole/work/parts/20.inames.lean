abbrev b_K_Mapping_init : ByteArray := prog_2_method_1_code
def y_K_Mapping_init : MethodName := ⟨R_Mapping, "<init>", "(LShrinkForge$Types;LShrinkForge$Members;LShrinkForge$Needs;LShrinkForge$Names;)V"⟩
def rm_K_Mapping_init : Room := { frames := 2, cells := 0, slots := 0, locals := 41 }
theorem k_K_Mapping_init : Cond.code y_K_Mapping_init b_K_Mapping_init 5 none ∈ TB := (tb_2 (List.mem_of_getElem? (i := 124) rfl) rfl)
abbrev w_K_Mapping_init : List Cond := Cond.code y_K_Mapping_init b_K_Mapping_init 5 none :: TB
abbrev b_K_Members_init : ByteArray := prog_3_method_1_code
def y_K_Members_init : MethodName := ⟨R_Members, "<init>", "(LShrinkForge$Types;)V"⟩
def rm_K_Members_init : Room := { frames := 3, cells := 0, slots := 0, locals := 64 }
theorem k_K_Members_init : Cond.code y_K_Members_init b_K_Members_init 2 none ∈ TB := (tb_1 (List.mem_of_getElem? (i := 109) rfl) rfl)
abbrev w_K_Members_init : List Cond := Cond.code y_K_Members_init b_K_Members_init 2 none :: TB
abbrev b_K_Names_init : ByteArray := prog_4_method_1_code
def y_K_Names_init : MethodName := ⟨R_Names, "<init>", "(LShrinkForge$Types;LShrinkForge$Members;LShrinkForge$RuleBook;LShrinkForge$Needs;)V"⟩
def rm_K_Names_init : Room := { frames := 1, cells := 0, slots := 0, locals := 20 }
theorem k_K_Names_init : Cond.code y_K_Names_init b_K_Names_init 5 none ∈ TB := (tb_2 (List.mem_of_getElem? (i := 91) rfl) rfl)
abbrev w_K_Names_init : List Cond := Cond.code y_K_Names_init b_K_Names_init 5 none :: TB
abbrev b_K_Needs_init : ByteArray := prog_5_method_1_code
def y_K_Needs_init : MethodName := ⟨R_Needs, "<init>", "(LShrinkForge$Types;LShrinkForge$Members;LShrinkForge$References;LShrinkForge$RuleBook;)V"⟩
def rm_K_Needs_init : Room := { frames := 1, cells := 0, slots := 0, locals := 20 }
theorem k_K_Needs_init : Cond.code y_K_Needs_init b_K_Needs_init 5 none ∈ TB := (tb_2 (List.mem_of_getElem? (i := 52) rfl) rfl)
abbrev w_K_Needs_init : List Cond := Cond.code y_K_Needs_init b_K_Needs_init 5 none :: TB
abbrev b_K_References_init : ByteArray := prog_6_method_1_code
def y_K_References_init : MethodName := ⟨R_References, "<init>", "()V"⟩
def rm_K_References_init : Room := { frames := 1, cells := 0, slots := 0, locals := 20 }
theorem k_K_References_init : Cond.code y_K_References_init b_K_References_init 1 none ∈ TB := (tb_1 (List.mem_of_getElem? (i := 170) rfl) rfl)
abbrev w_K_References_init : List Cond := Cond.code y_K_References_init b_K_References_init 1 none :: TB
abbrev b_K_RuleBook_init : ByteArray := prog_7_method_1_code
def y_K_RuleBook_init : MethodName := ⟨R_RuleBook, "<init>", "()V"⟩
def rm_K_RuleBook_init : Room := { frames := 1, cells := 0, slots := 0, locals := 20 }
theorem k_K_RuleBook_init : Cond.code y_K_RuleBook_init b_K_RuleBook_init 1 none ∈ TB := (tb_2 (List.mem_of_getElem? (i := 15) rfl) rfl)
abbrev w_K_RuleBook_init : List Cond := Cond.code y_K_RuleBook_init b_K_RuleBook_init 1 none :: TB
abbrev b_K_RuleReader_init : ByteArray := prog_8_method_1_code
def y_K_RuleReader_init : MethodName := ⟨R_RuleReader, "<init>", "(LShrinkForge$Text;)V"⟩
def rm_K_RuleReader_init : Room := { frames := 2, cells := 0, slots := 0, locals := 41 }
theorem k_K_RuleReader_init : Cond.code y_K_RuleReader_init b_K_RuleReader_init 2 none ∈ TB := (tb_1 (List.mem_of_getElem? (i := 215) rfl) rfl)
abbrev w_K_RuleReader_init : List Cond := Cond.code y_K_RuleReader_init b_K_RuleReader_init 2 none :: TB
abbrev b_K_Text_init : ByteArray := prog_9_method_1_code
def y_K_Text_init : MethodName := ⟨R_Text, "<init>", "(I)V"⟩
def rm_K_Text_init : Room := { frames := 1, cells := 0, slots := 0, locals := 20 }
theorem k_K_Text_init : Cond.code y_K_Text_init b_K_Text_init 2 none ∈ TB := (tb_1 (List.mem_of_getElem? (i := 198) rfl) rfl)
abbrev w_K_Text_init : List Cond := Cond.code y_K_Text_init b_K_Text_init 2 none :: TB
abbrev b_K_Types_init : ByteArray := prog_10_method_1_code
def y_K_Types_init : MethodName := ⟨R_Types, "<init>", "()V"⟩
def rm_K_Types_init : Room := { frames := 5, cells := 0, slots := 0, locals := 108 }
theorem k_K_Types_init : Cond.code y_K_Types_init b_K_Types_init 1 none ∈ TB := (tb_1 (List.mem_of_getElem? (i := 31) rfl) rfl)
abbrev w_K_Types_init : List Cond := Cond.code y_K_Types_init b_K_Types_init 1 none :: TB
abbrev b_K_SF_init : ByteArray := prog_1_method_1_code
def y_K_SF_init : MethodName := ⟨R_SF, "<init>", "()V"⟩
def rm_K_SF_init : Room := { frames := 6, cells := 0, slots := 0, locals := 128 }
theorem k_K_SF_init : Cond.code y_K_SF_init b_K_SF_init 1 none ∈ TB := (tb_1 (List.mem_of_getElem? (i := 23) rfl) rfl)
abbrev w_K_SF_init : List Cond := Cond.code y_K_SF_init b_K_SF_init 1 none :: TB
abbrev b_M_init : ByteArray := prog_12_method_1_code
def y_M_init : MethodName := ⟨R_M, "<init>", "()V"⟩
def rm_M_init : Room := { frames := 1, cells := 0, slots := 0, locals := 20 }
theorem k_M_init : Cond.code y_M_init b_M_init 1 none ∈ TB := (tb_4 (List.mem_of_getElem? (i := 162) rfl) rfl)
abbrev w_M_init : List Cond := Cond.code y_M_init b_M_init 1 none :: TB
theorem d_K_Mapping_init_0 : decode b_K_Mapping_init 0 = .ok (.aload_n 0, 1) := by decide +kernel
theorem d_K_Mapping_init_1 : decode b_K_Mapping_init 1 = .ok (.invokespecial 3, 3) := by decide +kernel
theorem d_K_Mapping_init_4 : decode b_K_Mapping_init 4 = .ok (.aload_n 0, 1) := by decide +kernel
theorem d_K_Mapping_init_5 : decode b_K_Mapping_init 5 = .ok (.new 9, 3) := by decide +kernel
theorem d_K_Mapping_init_8 : decode b_K_Mapping_init 8 = .ok (.dup, 1) := by decide +kernel
theorem d_K_Mapping_init_9 : decode b_K_Mapping_init 9 = .ok (.sipush 1120, 3) := by decide +kernel
theorem d_K_Mapping_init_12 : decode b_K_Mapping_init 12 = .ok (.invokespecial 13, 3) := by decide +kernel
theorem d_K_Mapping_init_15 : decode b_K_Mapping_init 15 = .ok (.putfield 16, 3) := by decide +kernel
theorem d_K_Mapping_init_18 : decode b_K_Mapping_init 18 = .ok (.aload_n 0, 1) := by decide +kernel
theorem d_K_Mapping_init_19 : decode b_K_Mapping_init 19 = .ok (.aload_n 1, 1) := by decide +kernel
theorem d_K_Mapping_init_20 : decode b_K_Mapping_init 20 = .ok (.putfield 20, 3) := by decide +kernel
theorem d_K_Mapping_init_23 : decode b_K_Mapping_init 23 = .ok (.aload_n 0, 1) := by decide +kernel
theorem d_K_Mapping_init_24 : decode b_K_Mapping_init 24 = .ok (.aload_n 2, 1) := by decide +kernel
theorem d_K_Mapping_init_25 : decode b_K_Mapping_init 25 = .ok (.putfield 24, 3) := by decide +kernel
theorem d_K_Mapping_init_28 : decode b_K_Mapping_init 28 = .ok (.aload_n 0, 1) := by decide +kernel
theorem d_K_Mapping_init_29 : decode b_K_Mapping_init 29 = .ok (.aload_n 3, 1) := by decide +kernel
theorem d_K_Mapping_init_30 : decode b_K_Mapping_init 30 = .ok (.putfield 28, 3) := by decide +kernel
theorem d_K_Mapping_init_33 : decode b_K_Mapping_init 33 = .ok (.aload_n 0, 1) := by decide +kernel
theorem d_K_Mapping_init_34 : decode b_K_Mapping_init 34 = .ok (.aload 4, 2) := by decide +kernel
theorem d_K_Mapping_init_36 : decode b_K_Mapping_init 36 = .ok (.putfield 32, 3) := by decide +kernel
theorem d_K_Mapping_init_39 : decode b_K_Mapping_init 39 = .ok (.return_, 1) := by decide +kernel
theorem d_K_Members_init_0 : decode b_K_Members_init 0 = .ok (.aload_n 0, 1) := by decide +kernel
theorem d_K_Members_init_1 : decode b_K_Members_init 1 = .ok (.invokespecial 3, 3) := by decide +kernel
theorem d_K_Members_init_4 : decode b_K_Members_init 4 = .ok (.aload_n 0, 1) := by decide +kernel
theorem d_K_Members_init_5 : decode b_K_Members_init 5 = .ok (.bipush 40, 2) := by decide +kernel
theorem d_K_Members_init_7 : decode b_K_Members_init 7 = .ok (.newarray .int, 2) := by decide +kernel
theorem d_K_Members_init_9 : decode b_K_Members_init 9 = .ok (.putfield 9, 3) := by decide +kernel
theorem d_K_Members_init_12 : decode b_K_Members_init 12 = .ok (.aload_n 0, 1) := by decide +kernel
theorem d_K_Members_init_13 : decode b_K_Members_init 13 = .ok (.bipush 40, 2) := by decide +kernel
theorem d_K_Members_init_15 : decode b_K_Members_init 15 = .ok (.newarray .int, 2) := by decide +kernel
theorem d_K_Members_init_17 : decode b_K_Members_init 17 = .ok (.putfield 15, 3) := by decide +kernel
theorem d_K_Members_init_20 : decode b_K_Members_init 20 = .ok (.aload_n 0, 1) := by decide +kernel
theorem d_K_Members_init_21 : decode b_K_Members_init 21 = .ok (.bipush 40, 2) := by decide +kernel
theorem d_K_Members_init_23 : decode b_K_Members_init 23 = .ok (.newarray .int, 2) := by decide +kernel
theorem d_K_Members_init_25 : decode b_K_Members_init 25 = .ok (.putfield 18, 3) := by decide +kernel
theorem d_K_Members_init_28 : decode b_K_Members_init 28 = .ok (.aload_n 0, 1) := by decide +kernel
theorem d_K_Members_init_29 : decode b_K_Members_init 29 = .ok (.sipush 320, 3) := by decide +kernel
theorem d_K_Members_init_32 : decode b_K_Members_init 32 = .ok (.newarray .int, 2) := by decide +kernel
theorem d_K_Members_init_34 : decode b_K_Members_init 34 = .ok (.putfield 21, 3) := by decide +kernel
theorem d_K_Members_init_37 : decode b_K_Members_init 37 = .ok (.aload_n 0, 1) := by decide +kernel
theorem d_K_Members_init_38 : decode b_K_Members_init 38 = .ok (.aload_n 1, 1) := by decide +kernel
theorem d_K_Members_init_39 : decode b_K_Members_init 39 = .ok (.putfield 24, 3) := by decide +kernel
theorem d_K_Members_init_42 : decode b_K_Members_init 42 = .ok (.aload_n 0, 1) := by decide +kernel
theorem d_K_Members_init_43 : decode b_K_Members_init 43 = .ok (.invokevirtual 28, 3) := by decide +kernel
theorem d_K_Members_init_46 : decode b_K_Members_init 46 = .ok (.return_, 1) := by decide +kernel
theorem d_K_Names_init_0 : decode b_K_Names_init 0 = .ok (.aload_n 0, 1) := by decide +kernel
theorem d_K_Names_init_1 : decode b_K_Names_init 1 = .ok (.invokespecial 3, 3) := by decide +kernel
theorem d_K_Names_init_4 : decode b_K_Names_init 4 = .ok (.aload_n 0, 1) := by decide +kernel
theorem d_K_Names_init_5 : decode b_K_Names_init 5 = .ok (.bipush 10, 2) := by decide +kernel
theorem d_K_Names_init_7 : decode b_K_Names_init 7 = .ok (.newarray .char, 2) := by decide +kernel
theorem d_K_Names_init_9 : decode b_K_Names_init 9 = .ok (.putfield 9, 3) := by decide +kernel
theorem d_K_Names_init_12 : decode b_K_Names_init 12 = .ok (.aload_n 0, 1) := by decide +kernel
theorem d_K_Names_init_13 : decode b_K_Names_init 13 = .ok (.bipush 32, 2) := by decide +kernel
theorem d_K_Names_init_15 : decode b_K_Names_init 15 = .ok (.newarray .char, 2) := by decide +kernel
theorem d_K_Names_init_17 : decode b_K_Names_init 17 = .ok (.putfield 15, 3) := by decide +kernel
theorem d_K_Names_init_20 : decode b_K_Names_init 20 = .ok (.aload_n 0, 1) := by decide +kernel
theorem d_K_Names_init_21 : decode b_K_Names_init 21 = .ok (.aload_n 1, 1) := by decide +kernel
theorem d_K_Names_init_22 : decode b_K_Names_init 22 = .ok (.putfield 18, 3) := by decide +kernel
theorem d_K_Names_init_25 : decode b_K_Names_init 25 = .ok (.aload_n 0, 1) := by decide +kernel
theorem d_K_Names_init_26 : decode b_K_Names_init 26 = .ok (.aload_n 2, 1) := by decide +kernel
theorem d_K_Names_init_27 : decode b_K_Names_init 27 = .ok (.putfield 22, 3) := by decide +kernel
theorem d_K_Names_init_30 : decode b_K_Names_init 30 = .ok (.aload_n 0, 1) := by decide +kernel
theorem d_K_Names_init_31 : decode b_K_Names_init 31 = .ok (.aload_n 3, 1) := by decide +kernel
theorem d_K_Names_init_32 : decode b_K_Names_init 32 = .ok (.putfield 26, 3) := by decide +kernel
theorem d_K_Names_init_35 : decode b_K_Names_init 35 = .ok (.aload_n 0, 1) := by decide +kernel
theorem d_K_Names_init_36 : decode b_K_Names_init 36 = .ok (.aload 4, 2) := by decide +kernel
theorem d_K_Names_init_38 : decode b_K_Names_init 38 = .ok (.putfield 30, 3) := by decide +kernel
theorem d_K_Names_init_41 : decode b_K_Names_init 41 = .ok (.return_, 1) := by decide +kernel
theorem d_K_Needs_init_0 : decode b_K_Needs_init 0 = .ok (.aload_n 0, 1) := by decide +kernel
theorem d_K_Needs_init_1 : decode b_K_Needs_init 1 = .ok (.invokespecial 3, 3) := by decide +kernel
theorem d_K_Needs_init_4 : decode b_K_Needs_init 4 = .ok (.aload_n 0, 1) := by decide +kernel
theorem d_K_Needs_init_5 : decode b_K_Needs_init 5 = .ok (.aload_n 1, 1) := by decide +kernel
theorem d_K_Needs_init_6 : decode b_K_Needs_init 6 = .ok (.putfield 9, 3) := by decide +kernel
theorem d_K_Needs_init_9 : decode b_K_Needs_init 9 = .ok (.aload_n 0, 1) := by decide +kernel
theorem d_K_Needs_init_10 : decode b_K_Needs_init 10 = .ok (.aload_n 2, 1) := by decide +kernel
theorem d_K_Needs_init_11 : decode b_K_Needs_init 11 = .ok (.putfield 15, 3) := by decide +kernel
theorem d_K_Needs_init_14 : decode b_K_Needs_init 14 = .ok (.aload_n 0, 1) := by decide +kernel
theorem d_K_Needs_init_15 : decode b_K_Needs_init 15 = .ok (.aload_n 3, 1) := by decide +kernel
theorem d_K_Needs_init_16 : decode b_K_Needs_init 16 = .ok (.putfield 19, 3) := by decide +kernel
theorem d_K_Needs_init_19 : decode b_K_Needs_init 19 = .ok (.aload_n 0, 1) := by decide +kernel
theorem d_K_Needs_init_20 : decode b_K_Needs_init 20 = .ok (.aload 4, 2) := by decide +kernel
theorem d_K_Needs_init_22 : decode b_K_Needs_init 22 = .ok (.putfield 23, 3) := by decide +kernel
theorem d_K_Needs_init_25 : decode b_K_Needs_init 25 = .ok (.return_, 1) := by decide +kernel
theorem d_K_References_init_0 : decode b_K_References_init 0 = .ok (.aload_n 0, 1) := by decide +kernel
theorem d_K_References_init_1 : decode b_K_References_init 1 = .ok (.invokespecial 3, 3) := by decide +kernel
theorem d_K_References_init_4 : decode b_K_References_init 4 = .ok (.aload_n 0, 1) := by decide +kernel
theorem d_K_References_init_5 : decode b_K_References_init 5 = .ok (.bipush 60, 2) := by decide +kernel
theorem d_K_References_init_7 : decode b_K_References_init 7 = .ok (.newarray .int, 2) := by decide +kernel
theorem d_K_References_init_9 : decode b_K_References_init 9 = .ok (.putfield 9, 3) := by decide +kernel
theorem d_K_References_init_12 : decode b_K_References_init 12 = .ok (.aload_n 0, 1) := by decide +kernel
theorem d_K_References_init_13 : decode b_K_References_init 13 = .ok (.bipush 60, 2) := by decide +kernel
theorem d_K_References_init_15 : decode b_K_References_init 15 = .ok (.newarray .int, 2) := by decide +kernel
theorem d_K_References_init_17 : decode b_K_References_init 17 = .ok (.putfield 15, 3) := by decide +kernel
theorem d_K_References_init_20 : decode b_K_References_init 20 = .ok (.aload_n 0, 1) := by decide +kernel
theorem d_K_References_init_21 : decode b_K_References_init 21 = .ok (.bipush 60, 2) := by decide +kernel
theorem d_K_References_init_23 : decode b_K_References_init 23 = .ok (.newarray .int, 2) := by decide +kernel
theorem d_K_References_init_25 : decode b_K_References_init 25 = .ok (.putfield 18, 3) := by decide +kernel
theorem d_K_References_init_28 : decode b_K_References_init 28 = .ok (.aload_n 0, 1) := by decide +kernel
theorem d_K_References_init_29 : decode b_K_References_init 29 = .ok (.bipush 60, 2) := by decide +kernel
theorem d_K_References_init_31 : decode b_K_References_init 31 = .ok (.newarray .int, 2) := by decide +kernel
theorem d_K_References_init_33 : decode b_K_References_init 33 = .ok (.putfield 21, 3) := by decide +kernel
theorem d_K_References_init_36 : decode b_K_References_init 36 = .ok (.return_, 1) := by decide +kernel
theorem d_K_RuleBook_init_0 : decode b_K_RuleBook_init 0 = .ok (.aload_n 0, 1) := by decide +kernel
theorem d_K_RuleBook_init_1 : decode b_K_RuleBook_init 1 = .ok (.invokespecial 3, 3) := by decide +kernel
theorem d_K_RuleBook_init_4 : decode b_K_RuleBook_init 4 = .ok (.aload_n 0, 1) := by decide +kernel
theorem d_K_RuleBook_init_5 : decode b_K_RuleBook_init 5 = .ok (.bipush 8, 2) := by decide +kernel
theorem d_K_RuleBook_init_7 : decode b_K_RuleBook_init 7 = .ok (.newarray .int, 2) := by decide +kernel
theorem d_K_RuleBook_init_9 : decode b_K_RuleBook_init 9 = .ok (.putfield 9, 3) := by decide +kernel
theorem d_K_RuleBook_init_12 : decode b_K_RuleBook_init 12 = .ok (.aload_n 0, 1) := by decide +kernel
theorem d_K_RuleBook_init_13 : decode b_K_RuleBook_init 13 = .ok (.bipush 8, 2) := by decide +kernel
theorem d_K_RuleBook_init_15 : decode b_K_RuleBook_init 15 = .ok (.newarray .long, 2) := by decide +kernel
theorem d_K_RuleBook_init_17 : decode b_K_RuleBook_init 17 = .ok (.putfield 15, 3) := by decide +kernel
theorem d_K_RuleBook_init_20 : decode b_K_RuleBook_init 20 = .ok (.aload_n 0, 1) := by decide +kernel
theorem d_K_RuleBook_init_21 : decode b_K_RuleBook_init 21 = .ok (.bipush 8, 2) := by decide +kernel
theorem d_K_RuleBook_init_23 : decode b_K_RuleBook_init 23 = .ok (.newarray .long, 2) := by decide +kernel
theorem d_K_RuleBook_init_25 : decode b_K_RuleBook_init 25 = .ok (.putfield 19, 3) := by decide +kernel
theorem d_K_RuleBook_init_28 : decode b_K_RuleBook_init 28 = .ok (.aload_n 0, 1) := by decide +kernel
theorem d_K_RuleBook_init_29 : decode b_K_RuleBook_init 29 = .ok (.bipush 8, 2) := by decide +kernel
theorem d_K_RuleBook_init_31 : decode b_K_RuleBook_init 31 = .ok (.newarray .long, 2) := by decide +kernel
theorem d_K_RuleBook_init_33 : decode b_K_RuleBook_init 33 = .ok (.putfield 22, 3) := by decide +kernel
theorem d_K_RuleBook_init_36 : decode b_K_RuleBook_init 36 = .ok (.aload_n 0, 1) := by decide +kernel
theorem d_K_RuleBook_init_37 : decode b_K_RuleBook_init 37 = .ok (.bipush 8, 2) := by decide +kernel
theorem d_K_RuleBook_init_39 : decode b_K_RuleBook_init 39 = .ok (.newarray .long, 2) := by decide +kernel
theorem d_K_RuleBook_init_41 : decode b_K_RuleBook_init 41 = .ok (.putfield 25, 3) := by decide +kernel
theorem d_K_RuleBook_init_44 : decode b_K_RuleBook_init 44 = .ok (.aload_n 0, 1) := by decide +kernel
theorem d_K_RuleBook_init_45 : decode b_K_RuleBook_init 45 = .ok (.bipush 8, 2) := by decide +kernel
theorem d_K_RuleBook_init_47 : decode b_K_RuleBook_init 47 = .ok (.newarray .long, 2) := by decide +kernel
theorem d_K_RuleBook_init_49 : decode b_K_RuleBook_init 49 = .ok (.putfield 28, 3) := by decide +kernel
theorem d_K_RuleBook_init_52 : decode b_K_RuleBook_init 52 = .ok (.return_, 1) := by decide +kernel
theorem d_K_RuleReader_init_0 : decode b_K_RuleReader_init 0 = .ok (.aload_n 0, 1) := by decide +kernel
theorem d_K_RuleReader_init_1 : decode b_K_RuleReader_init 1 = .ok (.invokespecial 3, 3) := by decide +kernel
theorem d_K_RuleReader_init_4 : decode b_K_RuleReader_init 4 = .ok (.aload_n 0, 1) := by decide +kernel
theorem d_K_RuleReader_init_5 : decode b_K_RuleReader_init 5 = .ok (.bipush 62, 2) := by decide +kernel
theorem d_K_RuleReader_init_7 : decode b_K_RuleReader_init 7 = .ok (.newarray .int, 2) := by decide +kernel
theorem d_K_RuleReader_init_9 : decode b_K_RuleReader_init 9 = .ok (.putfield 9, 3) := by decide +kernel
theorem d_K_RuleReader_init_12 : decode b_K_RuleReader_init 12 = .ok (.aload_n 0, 1) := by decide +kernel
theorem d_K_RuleReader_init_13 : decode b_K_RuleReader_init 13 = .ok (.bipush 62, 2) := by decide +kernel
theorem d_K_RuleReader_init_15 : decode b_K_RuleReader_init 15 = .ok (.newarray .int, 2) := by decide +kernel
theorem d_K_RuleReader_init_17 : decode b_K_RuleReader_init 17 = .ok (.putfield 15, 3) := by decide +kernel
theorem d_K_RuleReader_init_20 : decode b_K_RuleReader_init 20 = .ok (.aload_n 0, 1) := by decide +kernel
theorem d_K_RuleReader_init_21 : decode b_K_RuleReader_init 21 = .ok (.new 18, 3) := by decide +kernel
theorem d_K_RuleReader_init_24 : decode b_K_RuleReader_init 24 = .ok (.dup, 1) := by decide +kernel
theorem d_K_RuleReader_init_25 : decode b_K_RuleReader_init 25 = .ok (.bipush 8, 2) := by decide +kernel
theorem d_K_RuleReader_init_27 : decode b_K_RuleReader_init 27 = .ok (.invokespecial 20, 3) := by decide +kernel
theorem d_K_RuleReader_init_30 : decode b_K_RuleReader_init 30 = .ok (.putfield 23, 3) := by decide +kernel
theorem d_K_RuleReader_init_33 : decode b_K_RuleReader_init 33 = .ok (.aload_n 0, 1) := by decide +kernel
theorem d_K_RuleReader_init_34 : decode b_K_RuleReader_init 34 = .ok (.aload_n 1, 1) := by decide +kernel
theorem d_K_RuleReader_init_35 : decode b_K_RuleReader_init 35 = .ok (.putfield 27, 3) := by decide +kernel
theorem d_K_RuleReader_init_38 : decode b_K_RuleReader_init 38 = .ok (.return_, 1) := by decide +kernel
theorem d_K_Text_init_0 : decode b_K_Text_init 0 = .ok (.aload_n 0, 1) := by decide +kernel
theorem d_K_Text_init_1 : decode b_K_Text_init 1 = .ok (.invokespecial 3, 3) := by decide +kernel
theorem d_K_Text_init_4 : decode b_K_Text_init 4 = .ok (.aload_n 0, 1) := by decide +kernel
theorem d_K_Text_init_5 : decode b_K_Text_init 5 = .ok (.iload_n 1, 1) := by decide +kernel
theorem d_K_Text_init_6 : decode b_K_Text_init 6 = .ok (.newarray .char, 2) := by decide +kernel
theorem d_K_Text_init_8 : decode b_K_Text_init 8 = .ok (.putfield 9, 3) := by decide +kernel
theorem d_K_Text_init_11 : decode b_K_Text_init 11 = .ok (.return_, 1) := by decide +kernel
theorem d_K_Types_init_0 : decode b_K_Types_init 0 = .ok (.aload_n 0, 1) := by decide +kernel
theorem d_K_Types_init_1 : decode b_K_Types_init 1 = .ok (.invokespecial 3, 3) := by decide +kernel
theorem d_K_Types_init_4 : decode b_K_Types_init 4 = .ok (.aload_n 0, 1) := by decide +kernel
theorem d_K_Types_init_5 : decode b_K_Types_init 5 = .ok (.bipush 10, 2) := by decide +kernel
theorem d_K_Types_init_7 : decode b_K_Types_init 7 = .ok (.newarray .int, 2) := by decide +kernel
theorem d_K_Types_init_9 : decode b_K_Types_init 9 = .ok (.putfield 9, 3) := by decide +kernel
theorem d_K_Types_init_12 : decode b_K_Types_init 12 = .ok (.aload_n 0, 1) := by decide +kernel
theorem d_K_Types_init_13 : decode b_K_Types_init 13 = .ok (.bipush 10, 2) := by decide +kernel
theorem d_K_Types_init_15 : decode b_K_Types_init 15 = .ok (.newarray .int, 2) := by decide +kernel
theorem d_K_Types_init_17 : decode b_K_Types_init 17 = .ok (.putfield 15, 3) := by decide +kernel
theorem d_K_Types_init_20 : decode b_K_Types_init 20 = .ok (.aload_n 0, 1) := by decide +kernel
theorem d_K_Types_init_21 : decode b_K_Types_init 21 = .ok (.bipush 10, 2) := by decide +kernel
theorem d_K_Types_init_23 : decode b_K_Types_init 23 = .ok (.newarray .int, 2) := by decide +kernel
theorem d_K_Types_init_25 : decode b_K_Types_init 25 = .ok (.putfield 18, 3) := by decide +kernel
theorem d_K_Types_init_28 : decode b_K_Types_init 28 = .ok (.aload_n 0, 1) := by decide +kernel
theorem d_K_Types_init_29 : decode b_K_Types_init 29 = .ok (.bipush 10, 2) := by decide +kernel
theorem d_K_Types_init_31 : decode b_K_Types_init 31 = .ok (.newarray .int, 2) := by decide +kernel
theorem d_K_Types_init_33 : decode b_K_Types_init 33 = .ok (.putfield 21, 3) := by decide +kernel
theorem d_K_Types_init_36 : decode b_K_Types_init 36 = .ok (.aload_n 0, 1) := by decide +kernel
theorem d_K_Types_init_37 : decode b_K_Types_init 37 = .ok (.bipush 10, 2) := by decide +kernel
theorem d_K_Types_init_39 : decode b_K_Types_init 39 = .ok (.newarray .int, 2) := by decide +kernel
theorem d_K_Types_init_41 : decode b_K_Types_init 41 = .ok (.putfield 24, 3) := by decide +kernel
theorem d_K_Types_init_44 : decode b_K_Types_init 44 = .ok (.aload_n 0, 1) := by decide +kernel
theorem d_K_Types_init_45 : decode b_K_Types_init 45 = .ok (.bipush 10, 2) := by decide +kernel
theorem d_K_Types_init_47 : decode b_K_Types_init 47 = .ok (.newarray .long, 2) := by decide +kernel
theorem d_K_Types_init_49 : decode b_K_Types_init 49 = .ok (.putfield 27, 3) := by decide +kernel
theorem d_K_Types_init_52 : decode b_K_Types_init 52 = .ok (.aload_n 0, 1) := by decide +kernel
theorem d_K_Types_init_53 : decode b_K_Types_init 53 = .ok (.bipush 10, 2) := by decide +kernel
theorem d_K_Types_init_55 : decode b_K_Types_init 55 = .ok (.newarray .long, 2) := by decide +kernel
theorem d_K_Types_init_57 : decode b_K_Types_init 57 = .ok (.putfield 31, 3) := by decide +kernel
theorem d_K_Types_init_60 : decode b_K_Types_init 60 = .ok (.aload_n 0, 1) := by decide +kernel
theorem d_K_Types_init_61 : decode b_K_Types_init 61 = .ok (.bipush 10, 2) := by decide +kernel
theorem d_K_Types_init_63 : decode b_K_Types_init 63 = .ok (.newarray .long, 2) := by decide +kernel
theorem d_K_Types_init_65 : decode b_K_Types_init 65 = .ok (.putfield 34, 3) := by decide +kernel
theorem d_K_Types_init_68 : decode b_K_Types_init 68 = .ok (.aload_n 0, 1) := by decide +kernel
theorem d_K_Types_init_69 : decode b_K_Types_init 69 = .ok (.invokevirtual 37, 3) := by decide +kernel
theorem d_K_Types_init_72 : decode b_K_Types_init 72 = .ok (.return_, 1) := by decide +kernel
theorem d_K_SF_init_0 : decode b_K_SF_init 0 = .ok (.aload_n 0, 1) := by decide +kernel
theorem d_K_SF_init_1 : decode b_K_SF_init 1 = .ok (.invokespecial 3, 3) := by decide +kernel
theorem d_K_SF_init_4 : decode b_K_SF_init 4 = .ok (.aload_n 0, 1) := by decide +kernel
theorem d_K_SF_init_5 : decode b_K_SF_init 5 = .ok (.new 9, 3) := by decide +kernel
theorem d_K_SF_init_8 : decode b_K_SF_init 8 = .ok (.dup, 1) := by decide +kernel
theorem d_K_SF_init_9 : decode b_K_SF_init 9 = .ok (.invokespecial 11, 3) := by decide +kernel
theorem d_K_SF_init_12 : decode b_K_SF_init 12 = .ok (.putfield 12, 3) := by decide +kernel
theorem d_K_SF_init_15 : decode b_K_SF_init 15 = .ok (.aload_n 0, 1) := by decide +kernel
theorem d_K_SF_init_16 : decode b_K_SF_init 16 = .ok (.new 16, 3) := by decide +kernel
theorem d_K_SF_init_19 : decode b_K_SF_init 19 = .ok (.dup, 1) := by decide +kernel
theorem d_K_SF_init_20 : decode b_K_SF_init 20 = .ok (.aload_n 0, 1) := by decide +kernel
theorem d_K_SF_init_21 : decode b_K_SF_init 21 = .ok (.getfield 12, 3) := by decide +kernel
theorem d_K_SF_init_24 : decode b_K_SF_init 24 = .ok (.invokespecial 18, 3) := by decide +kernel
theorem d_K_SF_init_27 : decode b_K_SF_init 27 = .ok (.putfield 21, 3) := by decide +kernel
theorem d_K_SF_init_30 : decode b_K_SF_init 30 = .ok (.aload_n 0, 1) := by decide +kernel
theorem d_K_SF_init_31 : decode b_K_SF_init 31 = .ok (.new 25, 3) := by decide +kernel
theorem d_K_SF_init_34 : decode b_K_SF_init 34 = .ok (.dup, 1) := by decide +kernel
theorem d_K_SF_init_35 : decode b_K_SF_init 35 = .ok (.invokespecial 27, 3) := by decide +kernel
theorem d_K_SF_init_38 : decode b_K_SF_init 38 = .ok (.putfield 28, 3) := by decide +kernel
theorem d_K_SF_init_41 : decode b_K_SF_init 41 = .ok (.aload_n 0, 1) := by decide +kernel
theorem d_K_SF_init_42 : decode b_K_SF_init 42 = .ok (.new 32, 3) := by decide +kernel
theorem d_K_SF_init_45 : decode b_K_SF_init 45 = .ok (.dup, 1) := by decide +kernel
theorem d_K_SF_init_46 : decode b_K_SF_init 46 = .ok (.bipush 60, 2) := by decide +kernel
theorem d_K_SF_init_48 : decode b_K_SF_init 48 = .ok (.invokespecial 34, 3) := by decide +kernel
theorem d_K_SF_init_51 : decode b_K_SF_init 51 = .ok (.putfield 37, 3) := by decide +kernel
theorem d_K_SF_init_54 : decode b_K_SF_init 54 = .ok (.aload_n 0, 1) := by decide +kernel
theorem d_K_SF_init_55 : decode b_K_SF_init 55 = .ok (.new 41, 3) := by decide +kernel
theorem d_K_SF_init_58 : decode b_K_SF_init 58 = .ok (.dup, 1) := by decide +kernel
theorem d_K_SF_init_59 : decode b_K_SF_init 59 = .ok (.aload_n 0, 1) := by decide +kernel
theorem d_K_SF_init_60 : decode b_K_SF_init 60 = .ok (.getfield 37, 3) := by decide +kernel
theorem d_K_SF_init_63 : decode b_K_SF_init 63 = .ok (.invokespecial 43, 3) := by decide +kernel
theorem d_K_SF_init_66 : decode b_K_SF_init 66 = .ok (.putfield 46, 3) := by decide +kernel
theorem d_K_SF_init_69 : decode b_K_SF_init 69 = .ok (.aload_n 0, 1) := by decide +kernel
theorem d_K_SF_init_70 : decode b_K_SF_init 70 = .ok (.new 50, 3) := by decide +kernel
theorem d_K_SF_init_73 : decode b_K_SF_init 73 = .ok (.dup, 1) := by decide +kernel
theorem d_K_SF_init_74 : decode b_K_SF_init 74 = .ok (.invokespecial 52, 3) := by decide +kernel
theorem d_K_SF_init_77 : decode b_K_SF_init 77 = .ok (.putfield 53, 3) := by decide +kernel
theorem d_K_SF_init_80 : decode b_K_SF_init 80 = .ok (.aload_n 0, 1) := by decide +kernel
theorem d_K_SF_init_81 : decode b_K_SF_init 81 = .ok (.new 57, 3) := by decide +kernel
theorem d_K_SF_init_84 : decode b_K_SF_init 84 = .ok (.dup, 1) := by decide +kernel
theorem d_K_SF_init_85 : decode b_K_SF_init 85 = .ok (.aload_n 0, 1) := by decide +kernel
theorem d_K_SF_init_86 : decode b_K_SF_init 86 = .ok (.getfield 12, 3) := by decide +kernel
theorem d_K_SF_init_89 : decode b_K_SF_init 89 = .ok (.aload_n 0, 1) := by decide +kernel
theorem d_K_SF_init_90 : decode b_K_SF_init 90 = .ok (.getfield 21, 3) := by decide +kernel
theorem d_K_SF_init_93 : decode b_K_SF_init 93 = .ok (.aload_n 0, 1) := by decide +kernel
theorem d_K_SF_init_94 : decode b_K_SF_init 94 = .ok (.getfield 28, 3) := by decide +kernel
theorem d_K_SF_init_97 : decode b_K_SF_init 97 = .ok (.aload_n 0, 1) := by decide +kernel
theorem d_K_SF_init_98 : decode b_K_SF_init 98 = .ok (.getfield 53, 3) := by decide +kernel
theorem d_K_SF_init_101 : decode b_K_SF_init 101 = .ok (.invokespecial 59, 3) := by decide +kernel
theorem d_K_SF_init_104 : decode b_K_SF_init 104 = .ok (.putfield 62, 3) := by decide +kernel
theorem d_K_SF_init_107 : decode b_K_SF_init 107 = .ok (.aload_n 0, 1) := by decide +kernel
theorem d_K_SF_init_108 : decode b_K_SF_init 108 = .ok (.new 66, 3) := by decide +kernel
theorem d_K_SF_init_111 : decode b_K_SF_init 111 = .ok (.dup, 1) := by decide +kernel
theorem d_K_SF_init_112 : decode b_K_SF_init 112 = .ok (.aload_n 0, 1) := by decide +kernel
theorem d_K_SF_init_113 : decode b_K_SF_init 113 = .ok (.getfield 12, 3) := by decide +kernel
theorem d_K_SF_init_116 : decode b_K_SF_init 116 = .ok (.aload_n 0, 1) := by decide +kernel
theorem d_K_SF_init_117 : decode b_K_SF_init 117 = .ok (.getfield 21, 3) := by decide +kernel
theorem d_K_SF_init_120 : decode b_K_SF_init 120 = .ok (.aload_n 0, 1) := by decide +kernel
theorem d_K_SF_init_121 : decode b_K_SF_init 121 = .ok (.getfield 53, 3) := by decide +kernel
theorem d_K_SF_init_124 : decode b_K_SF_init 124 = .ok (.aload_n 0, 1) := by decide +kernel
theorem d_K_SF_init_125 : decode b_K_SF_init 125 = .ok (.getfield 62, 3) := by decide +kernel
theorem d_K_SF_init_128 : decode b_K_SF_init 128 = .ok (.invokespecial 68, 3) := by decide +kernel
theorem d_K_SF_init_131 : decode b_K_SF_init 131 = .ok (.putfield 71, 3) := by decide +kernel
theorem d_K_SF_init_134 : decode b_K_SF_init 134 = .ok (.aload_n 0, 1) := by decide +kernel
theorem d_K_SF_init_135 : decode b_K_SF_init 135 = .ok (.new 75, 3) := by decide +kernel
theorem d_K_SF_init_138 : decode b_K_SF_init 138 = .ok (.dup, 1) := by decide +kernel
theorem d_K_SF_init_139 : decode b_K_SF_init 139 = .ok (.aload_n 0, 1) := by decide +kernel
theorem d_K_SF_init_140 : decode b_K_SF_init 140 = .ok (.getfield 12, 3) := by decide +kernel
theorem d_K_SF_init_143 : decode b_K_SF_init 143 = .ok (.aload_n 0, 1) := by decide +kernel
theorem d_K_SF_init_144 : decode b_K_SF_init 144 = .ok (.getfield 21, 3) := by decide +kernel
theorem d_K_SF_init_147 : decode b_K_SF_init 147 = .ok (.aload_n 0, 1) := by decide +kernel
theorem d_K_SF_init_148 : decode b_K_SF_init 148 = .ok (.getfield 62, 3) := by decide +kernel
theorem d_K_SF_init_151 : decode b_K_SF_init 151 = .ok (.aload_n 0, 1) := by decide +kernel
theorem d_K_SF_init_152 : decode b_K_SF_init 152 = .ok (.getfield 71, 3) := by decide +kernel
theorem d_K_SF_init_155 : decode b_K_SF_init 155 = .ok (.invokespecial 77, 3) := by decide +kernel
theorem d_K_SF_init_158 : decode b_K_SF_init 158 = .ok (.putfield 80, 3) := by decide +kernel
theorem d_K_SF_init_161 : decode b_K_SF_init 161 = .ok (.aload_n 0, 1) := by decide +kernel
theorem d_K_SF_init_162 : decode b_K_SF_init 162 = .ok (.new 32, 3) := by decide +kernel
theorem d_K_SF_init_165 : decode b_K_SF_init 165 = .ok (.dup, 1) := by decide +kernel
theorem d_K_SF_init_166 : decode b_K_SF_init 166 = .ok (.bipush 8, 2) := by decide +kernel
theorem d_K_SF_init_168 : decode b_K_SF_init 168 = .ok (.invokespecial 34, 3) := by decide +kernel
theorem d_K_SF_init_171 : decode b_K_SF_init 171 = .ok (.putfield 84, 3) := by decide +kernel
theorem d_K_SF_init_174 : decode b_K_SF_init 174 = .ok (.return_, 1) := by decide +kernel
theorem d_M_init_0 : decode b_M_init 0 = .ok (.aload_n 0, 1) := by decide +kernel
theorem d_M_init_1 : decode b_M_init 1 = .ok (.invokespecial 1, 3) := by decide +kernel
theorem d_M_init_4 : decode b_M_init 4 = .ok (.aload_n 0, 1) := by decide +kernel
theorem d_M_init_5 : decode b_M_init 5 = .ok (.bipush 10, 2) := by decide +kernel
theorem d_M_init_7 : decode b_M_init 7 = .ok (.newarray .boolean, 2) := by decide +kernel
theorem d_M_init_9 : decode b_M_init 9 = .ok (.putfield 7, 3) := by decide +kernel
theorem d_M_init_12 : decode b_M_init 12 = .ok (.aload_n 0, 1) := by decide +kernel
theorem d_M_init_13 : decode b_M_init 13 = .ok (.bipush 10, 2) := by decide +kernel
theorem d_M_init_15 : decode b_M_init 15 = .ok (.newarray .boolean, 2) := by decide +kernel
theorem d_M_init_17 : decode b_M_init 17 = .ok (.putfield 13, 3) := by decide +kernel
theorem d_M_init_20 : decode b_M_init 20 = .ok (.aload_n 0, 1) := by decide +kernel
theorem d_M_init_21 : decode b_M_init 21 = .ok (.bipush 10, 2) := by decide +kernel
theorem d_M_init_23 : decode b_M_init 23 = .ok (.newarray .boolean, 2) := by decide +kernel
theorem d_M_init_25 : decode b_M_init 25 = .ok (.putfield 16, 3) := by decide +kernel
theorem d_M_init_28 : decode b_M_init 28 = .ok (.aload_n 0, 1) := by decide +kernel
theorem d_M_init_29 : decode b_M_init 29 = .ok (.bipush 10, 2) := by decide +kernel
theorem d_M_init_31 : decode b_M_init 31 = .ok (.newarray .int, 2) := by decide +kernel
theorem d_M_init_33 : decode b_M_init 33 = .ok (.putfield 19, 3) := by decide +kernel
theorem d_M_init_36 : decode b_M_init 36 = .ok (.aload_n 0, 1) := by decide +kernel
theorem d_M_init_37 : decode b_M_init 37 = .ok (.bipush 10, 2) := by decide +kernel
theorem d_M_init_39 : decode b_M_init 39 = .ok (.newarray .int, 2) := by decide +kernel
theorem d_M_init_41 : decode b_M_init 41 = .ok (.putfield 23, 3) := by decide +kernel
theorem d_M_init_44 : decode b_M_init 44 = .ok (.aload_n 0, 1) := by decide +kernel
theorem d_M_init_45 : decode b_M_init 45 = .ok (.bipush 10, 2) := by decide +kernel
theorem d_M_init_47 : decode b_M_init 47 = .ok (.newarray .int, 2) := by decide +kernel
theorem d_M_init_49 : decode b_M_init 49 = .ok (.putfield 26, 3) := by decide +kernel
theorem d_M_init_52 : decode b_M_init 52 = .ok (.aload_n 0, 1) := by decide +kernel
theorem d_M_init_53 : decode b_M_init 53 = .ok (.bipush 10, 2) := by decide +kernel
theorem d_M_init_55 : decode b_M_init 55 = .ok (.newarray .int, 2) := by decide +kernel
theorem d_M_init_57 : decode b_M_init 57 = .ok (.putfield 29, 3) := by decide +kernel
theorem d_M_init_60 : decode b_M_init 60 = .ok (.aload_n 0, 1) := by decide +kernel
theorem d_M_init_61 : decode b_M_init 61 = .ok (.bipush 40, 2) := by decide +kernel
theorem d_M_init_63 : decode b_M_init 63 = .ok (.newarray .int, 2) := by decide +kernel
theorem d_M_init_65 : decode b_M_init 65 = .ok (.putfield 32, 3) := by decide +kernel
theorem d_M_init_68 : decode b_M_init 68 = .ok (.aload_n 0, 1) := by decide +kernel
theorem d_M_init_69 : decode b_M_init 69 = .ok (.bipush 40, 2) := by decide +kernel
theorem d_M_init_71 : decode b_M_init 71 = .ok (.newarray .int, 2) := by decide +kernel
theorem d_M_init_73 : decode b_M_init 73 = .ok (.putfield 35, 3) := by decide +kernel
theorem d_M_init_76 : decode b_M_init 76 = .ok (.aload_n 0, 1) := by decide +kernel
theorem d_M_init_77 : decode b_M_init 77 = .ok (.bipush 40, 2) := by decide +kernel
theorem d_M_init_79 : decode b_M_init 79 = .ok (.newarray .int, 2) := by decide +kernel
theorem d_M_init_81 : decode b_M_init 81 = .ok (.putfield 38, 3) := by decide +kernel
theorem d_M_init_84 : decode b_M_init 84 = .ok (.aload_n 0, 1) := by decide +kernel
theorem d_M_init_85 : decode b_M_init 85 = .ok (.bipush 40, 2) := by decide +kernel
theorem d_M_init_87 : decode b_M_init 87 = .ok (.newarray .int, 2) := by decide +kernel
theorem d_M_init_89 : decode b_M_init 89 = .ok (.putfield 41, 3) := by decide +kernel
theorem d_M_init_92 : decode b_M_init 92 = .ok (.aload_n 0, 1) := by decide +kernel
theorem d_M_init_93 : decode b_M_init 93 = .ok (.bipush 40, 2) := by decide +kernel
theorem d_M_init_95 : decode b_M_init 95 = .ok (.newarray .boolean, 2) := by decide +kernel
theorem d_M_init_97 : decode b_M_init 97 = .ok (.putfield 44, 3) := by decide +kernel
theorem d_M_init_100 : decode b_M_init 100 = .ok (.aload_n 0, 1) := by decide +kernel
theorem d_M_init_101 : decode b_M_init 101 = .ok (.iconst 1, 1) := by decide +kernel
theorem d_M_init_102 : decode b_M_init 102 = .ok (.putfield 47, 3) := by decide +kernel
theorem d_M_init_105 : decode b_M_init 105 = .ok (.aload_n 0, 1) := by decide +kernel
theorem d_M_init_106 : decode b_M_init 106 = .ok (.bipush 60, 2) := by decide +kernel
theorem d_M_init_108 : decode b_M_init 108 = .ok (.newarray .int, 2) := by decide +kernel
theorem d_M_init_110 : decode b_M_init 110 = .ok (.putfield 51, 3) := by decide +kernel
theorem d_M_init_113 : decode b_M_init 113 = .ok (.aload_n 0, 1) := by decide +kernel
theorem d_M_init_114 : decode b_M_init 114 = .ok (.bipush 60, 2) := by decide +kernel
theorem d_M_init_116 : decode b_M_init 116 = .ok (.newarray .int, 2) := by decide +kernel
theorem d_M_init_118 : decode b_M_init 118 = .ok (.putfield 54, 3) := by decide +kernel
theorem d_M_init_121 : decode b_M_init 121 = .ok (.aload_n 0, 1) := by decide +kernel
theorem d_M_init_122 : decode b_M_init 122 = .ok (.bipush 60, 2) := by decide +kernel
theorem d_M_init_124 : decode b_M_init 124 = .ok (.newarray .int, 2) := by decide +kernel
theorem d_M_init_126 : decode b_M_init 126 = .ok (.putfield 57, 3) := by decide +kernel
theorem d_M_init_129 : decode b_M_init 129 = .ok (.aload_n 0, 1) := by decide +kernel
theorem d_M_init_130 : decode b_M_init 130 = .ok (.bipush 60, 2) := by decide +kernel
theorem d_M_init_132 : decode b_M_init 132 = .ok (.newarray .int, 2) := by decide +kernel
theorem d_M_init_134 : decode b_M_init 134 = .ok (.putfield 60, 3) := by decide +kernel
theorem d_M_init_137 : decode b_M_init 137 = .ok (.aload_n 0, 1) := by decide +kernel
theorem d_M_init_138 : decode b_M_init 138 = .ok (.bipush 60, 2) := by decide +kernel
theorem d_M_init_140 : decode b_M_init 140 = .ok (.newarray .int, 2) := by decide +kernel
theorem d_M_init_142 : decode b_M_init 142 = .ok (.putfield 63, 3) := by decide +kernel
theorem d_M_init_145 : decode b_M_init 145 = .ok (.aload_n 0, 1) := by decide +kernel
theorem d_M_init_146 : decode b_M_init 146 = .ok (.bipush 60, 2) := by decide +kernel
theorem d_M_init_148 : decode b_M_init 148 = .ok (.newarray .int, 2) := by decide +kernel
theorem d_M_init_150 : decode b_M_init 150 = .ok (.putfield 66, 3) := by decide +kernel
theorem d_M_init_153 : decode b_M_init 153 = .ok (.aload_n 0, 1) := by decide +kernel
theorem d_M_init_154 : decode b_M_init 154 = .ok (.sipush 480, 3) := by decide +kernel
theorem d_M_init_157 : decode b_M_init 157 = .ok (.newarray .int, 2) := by decide +kernel
theorem d_M_init_159 : decode b_M_init 159 = .ok (.putfield 69, 3) := by decide +kernel
theorem d_M_init_162 : decode b_M_init 162 = .ok (.aload_n 0, 1) := by decide +kernel
theorem d_M_init_163 : decode b_M_init 163 = .ok (.bipush 8, 2) := by decide +kernel
theorem d_M_init_165 : decode b_M_init 165 = .ok (.newarray .int, 2) := by decide +kernel
theorem d_M_init_167 : decode b_M_init 167 = .ok (.putfield 72, 3) := by decide +kernel
theorem d_M_init_170 : decode b_M_init 170 = .ok (.aload_n 0, 1) := by decide +kernel
theorem d_M_init_171 : decode b_M_init 171 = .ok (.bipush 8, 2) := by decide +kernel
theorem d_M_init_173 : decode b_M_init 173 = .ok (.newarray .int, 2) := by decide +kernel
theorem d_M_init_175 : decode b_M_init 175 = .ok (.putfield 75, 3) := by decide +kernel
theorem d_M_init_178 : decode b_M_init 178 = .ok (.aload_n 0, 1) := by decide +kernel
theorem d_M_init_179 : decode b_M_init 179 = .ok (.bipush 8, 2) := by decide +kernel
theorem d_M_init_181 : decode b_M_init 181 = .ok (.newarray .int, 2) := by decide +kernel
theorem d_M_init_183 : decode b_M_init 183 = .ok (.putfield 78, 3) := by decide +kernel
theorem d_M_init_186 : decode b_M_init 186 = .ok (.aload_n 0, 1) := by decide +kernel
theorem d_M_init_187 : decode b_M_init 187 = .ok (.bipush 8, 2) := by decide +kernel
theorem d_M_init_189 : decode b_M_init 189 = .ok (.newarray .int, 2) := by decide +kernel
theorem d_M_init_191 : decode b_M_init 191 = .ok (.putfield 81, 3) := by decide +kernel
theorem d_M_init_194 : decode b_M_init 194 = .ok (.aload_n 0, 1) := by decide +kernel
theorem d_M_init_195 : decode b_M_init 195 = .ok (.bipush 8, 2) := by decide +kernel
theorem d_M_init_197 : decode b_M_init 197 = .ok (.newarray .int, 2) := by decide +kernel
theorem d_M_init_199 : decode b_M_init 199 = .ok (.putfield 84, 3) := by decide +kernel
theorem d_M_init_202 : decode b_M_init 202 = .ok (.aload_n 0, 1) := by decide +kernel
theorem d_M_init_203 : decode b_M_init 203 = .ok (.bipush 8, 2) := by decide +kernel
theorem d_M_init_205 : decode b_M_init 205 = .ok (.newarray .int, 2) := by decide +kernel
theorem d_M_init_207 : decode b_M_init 207 = .ok (.putfield 87, 3) := by decide +kernel
theorem d_M_init_210 : decode b_M_init 210 = .ok (.aload_n 0, 1) := by decide +kernel
theorem d_M_init_211 : decode b_M_init 211 = .ok (.sipush 128, 3) := by decide +kernel
theorem d_M_init_214 : decode b_M_init 214 = .ok (.newarray .int, 2) := by decide +kernel
theorem d_M_init_216 : decode b_M_init 216 = .ok (.putfield 90, 3) := by decide +kernel
theorem d_M_init_219 : decode b_M_init 219 = .ok (.aload_n 0, 1) := by decide +kernel
theorem d_M_init_220 : decode b_M_init 220 = .ok (.sipush 128, 3) := by decide +kernel
theorem d_M_init_223 : decode b_M_init 223 = .ok (.newarray .int, 2) := by decide +kernel
theorem d_M_init_225 : decode b_M_init 225 = .ok (.putfield 93, 3) := by decide +kernel
theorem d_M_init_228 : decode b_M_init 228 = .ok (.aload_n 0, 1) := by decide +kernel
theorem d_M_init_229 : decode b_M_init 229 = .ok (.sipush 128, 3) := by decide +kernel
theorem d_M_init_232 : decode b_M_init 232 = .ok (.newarray .int, 2) := by decide +kernel
theorem d_M_init_234 : decode b_M_init 234 = .ok (.putfield 96, 3) := by decide +kernel
theorem d_M_init_237 : decode b_M_init 237 = .ok (.aload_n 0, 1) := by decide +kernel
theorem d_M_init_238 : decode b_M_init 238 = .ok (.bipush 48, 2) := by decide +kernel
theorem d_M_init_240 : decode b_M_init 240 = .ok (.newarray .int, 2) := by decide +kernel
theorem d_M_init_242 : decode b_M_init 242 = .ok (.putfield 99, 3) := by decide +kernel
theorem d_M_init_245 : decode b_M_init 245 = .ok (.aload_n 0, 1) := by decide +kernel
theorem d_M_init_246 : decode b_M_init 246 = .ok (.bipush 64, 2) := by decide +kernel
theorem d_M_init_248 : decode b_M_init 248 = .ok (.newarray .int, 2) := by decide +kernel
theorem d_M_init_250 : decode b_M_init 250 = .ok (.putfield 102, 3) := by decide +kernel
theorem d_M_init_253 : decode b_M_init 253 = .ok (.aload_n 0, 1) := by decide +kernel
theorem d_M_init_254 : decode b_M_init 254 = .ok (.bipush 64, 2) := by decide +kernel
theorem d_M_init_256 : decode b_M_init 256 = .ok (.newarray .int, 2) := by decide +kernel
theorem d_M_init_258 : decode b_M_init 258 = .ok (.putfield 105, 3) := by decide +kernel
theorem d_M_init_261 : decode b_M_init 261 = .ok (.aload_n 0, 1) := by decide +kernel
theorem d_M_init_262 : decode b_M_init 262 = .ok (.bipush 16, 2) := by decide +kernel
theorem d_M_init_264 : decode b_M_init 264 = .ok (.newarray .int, 2) := by decide +kernel
theorem d_M_init_266 : decode b_M_init 266 = .ok (.putfield 108, 3) := by decide +kernel
theorem d_M_init_269 : decode b_M_init 269 = .ok (.aload_n 0, 1) := by decide +kernel
theorem d_M_init_270 : decode b_M_init 270 = .ok (.bipush 20, 2) := by decide +kernel
theorem d_M_init_272 : decode b_M_init 272 = .ok (.newarray .boolean, 2) := by decide +kernel
theorem d_M_init_274 : decode b_M_init 274 = .ok (.putfield 111, 3) := by decide +kernel
theorem d_M_init_277 : decode b_M_init 277 = .ok (.aload_n 0, 1) := by decide +kernel
theorem d_M_init_278 : decode b_M_init 278 = .ok (.bipush 20, 2) := by decide +kernel
theorem d_M_init_280 : decode b_M_init 280 = .ok (.newarray .boolean, 2) := by decide +kernel
theorem d_M_init_282 : decode b_M_init 282 = .ok (.putfield 114, 3) := by decide +kernel
theorem d_M_init_285 : decode b_M_init 285 = .ok (.aload_n 0, 1) := by decide +kernel
theorem d_M_init_286 : decode b_M_init 286 = .ok (.bipush 10, 2) := by decide +kernel
theorem d_M_init_288 : decode b_M_init 288 = .ok (.newarray .boolean, 2) := by decide +kernel
theorem d_M_init_290 : decode b_M_init 290 = .ok (.putfield 117, 3) := by decide +kernel
theorem d_M_init_293 : decode b_M_init 293 = .ok (.aload_n 0, 1) := by decide +kernel
theorem d_M_init_294 : decode b_M_init 294 = .ok (.bipush 10, 2) := by decide +kernel
theorem d_M_init_296 : decode b_M_init 296 = .ok (.newarray .boolean, 2) := by decide +kernel
theorem d_M_init_298 : decode b_M_init 298 = .ok (.putfield 120, 3) := by decide +kernel
theorem d_M_init_301 : decode b_M_init 301 = .ok (.aload_n 0, 1) := by decide +kernel
theorem d_M_init_302 : decode b_M_init 302 = .ok (.bipush 10, 2) := by decide +kernel
theorem d_M_init_304 : decode b_M_init 304 = .ok (.newarray .boolean, 2) := by decide +kernel
theorem d_M_init_306 : decode b_M_init 306 = .ok (.putfield 123, 3) := by decide +kernel
theorem d_M_init_309 : decode b_M_init 309 = .ok (.aload_n 0, 1) := by decide +kernel
theorem d_M_init_310 : decode b_M_init 310 = .ok (.bipush 40, 2) := by decide +kernel
theorem d_M_init_312 : decode b_M_init 312 = .ok (.newarray .boolean, 2) := by decide +kernel
theorem d_M_init_314 : decode b_M_init 314 = .ok (.putfield 126, 3) := by decide +kernel
theorem d_M_init_317 : decode b_M_init 317 = .ok (.aload_n 0, 1) := by decide +kernel
theorem d_M_init_318 : decode b_M_init 318 = .ok (.bipush 80, 2) := by decide +kernel
theorem d_M_init_320 : decode b_M_init 320 = .ok (.newarray .boolean, 2) := by decide +kernel
theorem d_M_init_322 : decode b_M_init 322 = .ok (.putfield 129, 3) := by decide +kernel
theorem d_M_init_325 : decode b_M_init 325 = .ok (.aload_n 0, 1) := by decide +kernel
theorem d_M_init_326 : decode b_M_init 326 = .ok (.sipush 1500, 3) := by decide +kernel
theorem d_M_init_329 : decode b_M_init 329 = .ok (.newarray .int, 2) := by decide +kernel
theorem d_M_init_331 : decode b_M_init 331 = .ok (.putfield 132, 3) := by decide +kernel
theorem d_M_init_334 : decode b_M_init 334 = .ok (.aload_n 0, 1) := by decide +kernel
theorem d_M_init_335 : decode b_M_init 335 = .ok (.getfield 7, 3) := by decide +kernel
theorem d_M_init_338 : decode b_M_init 338 = .ok (.iconst 0, 1) := by decide +kernel
theorem d_M_init_339 : decode b_M_init 339 = .ok (.iconst 1, 1) := by decide +kernel
theorem d_M_init_340 : decode b_M_init 340 = .ok (.bastore, 1) := by decide +kernel
theorem d_M_init_341 : decode b_M_init 341 = .ok (.aload_n 0, 1) := by decide +kernel
theorem d_M_init_342 : decode b_M_init 342 = .ok (.getfield 41, 3) := by decide +kernel
theorem d_M_init_345 : decode b_M_init 345 = .ok (.iconst 0, 1) := by decide +kernel
theorem d_M_init_346 : decode b_M_init 346 = .ok (.iconst 1, 1) := by decide +kernel
theorem d_M_init_347 : decode b_M_init 347 = .ok (.iastore, 1) := by decide +kernel
theorem d_M_init_348 : decode b_M_init 348 = .ok (.return_, 1) := by decide +kernel
