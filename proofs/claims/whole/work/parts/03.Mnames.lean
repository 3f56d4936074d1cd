abbrev b_M_in : ByteArray := prog_12_method_2_code
def y_M_in : MethodName := ⟨R_M, "in", "(III)Z"⟩
def rm_M_in : Room := { frames := 0, cells := 0, slots := 0, locals := 0 }
theorem k_M_in : Cond.code y_M_in b_M_in 3 (some .boolean) ∈ TB := (tb_5 (List.mem_of_getElem? (i := 76) rfl) rfl)
abbrev w_M_in : List Cond := Cond.code y_M_in b_M_in 3 (some .boolean) :: TB
abbrev b_M_type : ByteArray := prog_12_method_3_code
def y_M_type : MethodName := ⟨R_M, "type", "(IIIII)Z"⟩
def rm_M_type : Room := { frames := 1, cells := 0, slots := 0, locals := 22 }
theorem k_M_type : Cond.code y_M_type b_M_type 6 (some .boolean) ∈ TB := (tb_5 (List.mem_of_getElem? (i := 73) rfl) rfl)
abbrev w_M_type : List Cond := Cond.code y_M_type b_M_type 6 (some .boolean) :: TB
abbrev b_M_drop : ByteArray := prog_12_method_4_code
def y_M_drop : MethodName := ⟨R_M, "drop", "(I)Z"⟩
def rm_M_drop : Room := { frames := 1, cells := 0, slots := 0, locals := 22 }
theorem k_M_drop : Cond.code y_M_drop b_M_drop 3 (some .boolean) ∈ TB := (tb_5 (List.mem_of_getElem? (i := 80) rfl) rfl)
abbrev w_M_drop : List Cond := Cond.code y_M_drop b_M_drop 3 (some .boolean) :: TB
abbrev b_M_own : ByteArray := prog_12_method_5_code
def y_M_own : MethodName := ⟨R_M, "own", "(IIII)I"⟩
def rm_M_own : Room := { frames := 0, cells := 0, slots := 0, locals := 0 }
theorem k_M_own : Cond.code y_M_own b_M_own 6 (some .int) ∈ TB := (tb_5 (List.mem_of_getElem? (i := 88) rfl) rfl)
abbrev w_M_own : List Cond := Cond.code y_M_own b_M_own 6 (some .int) :: TB
abbrev b_M_member : ByteArray := prog_12_method_6_code
def y_M_member : MethodName := ⟨R_M, "member", "(IIII)I"⟩
def rm_M_member : Room := { frames := 1, cells := 0, slots := 0, locals := 25 }
theorem k_M_member : Cond.code y_M_member b_M_member 5 (some .int) ∈ TB := (tb_5 (List.mem_of_getElem? (i := 84) rfl) rfl)
abbrev w_M_member : List Cond := Cond.code y_M_member b_M_member 5 (some .int) :: TB
abbrev b_M_remove : ByteArray := prog_12_method_7_code
def y_M_remove : MethodName := ⟨R_M, "remove", "(I)Z"⟩
def rm_M_remove : Room := { frames := 1, cells := 0, slots := 0, locals := 22 }
theorem k_M_remove : Cond.code y_M_remove b_M_remove 2 (some .boolean) ∈ TB := (tb_5 (List.mem_of_getElem? (i := 92) rfl) rfl)
abbrev w_M_remove : List Cond := Cond.code y_M_remove b_M_remove 2 (some .boolean) :: TB
abbrev b_M_refer : ByteArray := prog_12_method_8_code
def y_M_refer : MethodName := ⟨R_M, "refer", "(IIIII)I"⟩
def rm_M_refer : Room := { frames := 1, cells := 0, slots := 0, locals := 22 }
theorem k_M_refer : Cond.code y_M_refer b_M_refer 6 (some .int) ∈ TB := (tb_5 (List.mem_of_getElem? (i := 96) rfl) rfl)
abbrev w_M_refer : List Cond := Cond.code y_M_refer b_M_refer 6 (some .int) :: TB
abbrev b_M_letter : ByteArray := prog_12_method_9_code
def y_M_letter : MethodName := ⟨R_M, "letter", "(I)I"⟩
def rm_M_letter : Room := { frames := 1, cells := 0, slots := 0, locals := 22 }
theorem k_M_letter : Cond.code y_M_letter b_M_letter 2 (some .int) ∈ TB := (tb_5 (List.mem_of_getElem? (i := 100) rfl) rfl)
abbrev w_M_letter : List Cond := Cond.code y_M_letter b_M_letter 2 (some .int) :: TB
abbrev b_M_partW : ByteArray := prog_12_method_10_code
def y_M_partW : MethodName := ⟨R_M, "part", "()V"⟩
def rm_M_partW : Room := { frames := 0, cells := 0, slots := 0, locals := 0 }
theorem k_M_partW : Cond.code y_M_partW b_M_partW 3 none ∈ TB := (tb_5 (List.mem_of_getElem? (i := 108) rfl) rfl)
abbrev w_M_partW : List Cond := Cond.code y_M_partW b_M_partW 3 none :: TB
abbrev b_M_isWord : ByteArray := prog_12_method_11_code
def y_M_isWord : MethodName := ⟨R_M, "isWord", "(IJ)Z"⟩
def rm_M_isWord : Room := { frames := 0, cells := 0, slots := 0, locals := 0 }
theorem k_M_isWord : Cond.code y_M_isWord b_M_isWord 7 (some .boolean) ∈ TB := (tb_5 (List.mem_of_getElem? (i := 127) rfl) rfl)
abbrev w_M_isWord : List Cond := Cond.code y_M_isWord b_M_isWord 7 (some .boolean) :: TB
abbrev b_M_isPattern : ByteArray := prog_12_method_12_code
def y_M_isPattern : MethodName := ⟨R_M, "isPattern", "(II)Z"⟩
def rm_M_isPattern : Room := { frames := 0, cells := 0, slots := 0, locals := 0 }
theorem k_M_isPattern : Cond.code y_M_isPattern b_M_isPattern 4 (some .boolean) ∈ TB := (tb_5 (List.mem_of_getElem? (i := 135) rfl) rfl)
abbrev w_M_isPattern : List Cond := Cond.code y_M_isPattern b_M_isPattern 4 (some .boolean) :: TB
abbrev b_M_code : ByteArray := prog_12_method_13_code
def y_M_code : MethodName := ⟨R_M, "code", "(JI)J"⟩
def rm_M_code : Room := { frames := 0, cells := 0, slots := 0, locals := 0 }
theorem k_M_code : Cond.code y_M_code b_M_code 3 (some .long) ∈ TB := (tb_5 (List.mem_of_getElem? (i := 122) rfl) rfl)
abbrev w_M_code : List Cond := Cond.code y_M_code b_M_code 3 (some .long) :: TB
abbrev b_M_fourOf : ByteArray := prog_12_method_14_code
def y_M_fourOf : MethodName := ⟨R_M, "fourOf", "(IIII)J"⟩
def rm_M_fourOf : Room := { frames := 1, cells := 0, slots := 0, locals := 22 }
theorem k_M_fourOf : Cond.code y_M_fourOf b_M_fourOf 4 (some .long) ∈ TB := (tb_5 (List.mem_of_getElem? (i := 119) rfl) rfl)
abbrev w_M_fourOf : List Cond := Cond.code y_M_fourOf b_M_fourOf 4 (some .long) :: TB
abbrev b_M_isMembers : ByteArray := prog_12_method_16_code
def y_M_isMembers : MethodName := ⟨R_M, "isMembers", "(I)Z"⟩
def rm_M_isMembers : Room := { frames := 0, cells := 0, slots := 0, locals := 0 }
theorem k_M_isMembers : Cond.code y_M_isMembers b_M_isMembers 2 (some .boolean) ∈ TB := (tb_5 (List.mem_of_getElem? (i := 131) rfl) rfl)
abbrev w_M_isMembers : List Cond := Cond.code y_M_isMembers b_M_isMembers 2 (some .boolean) :: TB
abbrev b_M_sortOf : ByteArray := prog_12_method_15_code
def y_M_sortOf : MethodName := ⟨R_M, "sortOf", "()I"⟩
def rm_M_sortOf : Room := { frames := 2, cells := 0, slots := 0, locals := 45 }
theorem k_M_sortOf : Cond.code y_M_sortOf b_M_sortOf 11 (some .int) ∈ TB := (tb_5 (List.mem_of_getElem? (i := 116) rfl) rfl)
abbrev w_M_sortOf : List Cond := Cond.code y_M_sortOf b_M_sortOf 11 (some .int) :: TB
abbrev b_M_reads : ByteArray := prog_12_method_17_code
def y_M_reads : MethodName := ⟨R_M, "reads", "(I)I"⟩
def rm_M_reads : Room := { frames := 3, cells := 0, slots := 0, locals := 75 }
theorem k_M_reads : Cond.code y_M_reads b_M_reads 7 (some .int) ∈ TB := (tb_5 (List.mem_of_getElem? (i := 112) rfl) rfl)
abbrev w_M_reads : List Cond := Cond.code y_M_reads b_M_reads 7 (some .int) :: TB
abbrev b_M_readsFull : ByteArray := prog_12_method_19_code
def y_M_readsFull : MethodName := ⟨R_M, "readsFull", "()I"⟩
def rm_M_readsFull : Room := { frames := 4, cells := 0, slots := 0, locals := 101 }
theorem k_M_readsFull : Cond.code y_M_readsFull b_M_readsFull 9 (some .int) ∈ TB := (tb_5 (List.mem_of_getElem? (i := 141) rfl) rfl)
abbrev w_M_readsFull : List Cond := Cond.code y_M_readsFull b_M_readsFull 9 (some .int) :: TB
abbrev b_M_rule : ByteArray := prog_12_method_18_code
def y_M_rule : MethodName := ⟨R_M, "rule", "()I"⟩
def rm_M_rule : Room := { frames := 5, cells := 0, slots := 0, locals := 129 }
theorem k_M_rule : Cond.code y_M_rule b_M_rule 5 (some .int) ∈ TB := (tb_5 (List.mem_of_getElem? (i := 104) rfl) rfl)
abbrev w_M_rule : List Cond := Cond.code y_M_rule b_M_rule 5 (some .int) :: TB
abbrev b_M_clear : ByteArray := prog_12_method_20_code
def y_M_clear : MethodName := ⟨R_M, "clear", "(Z)I"⟩
def rm_M_clear : Room := { frames := 0, cells := 0, slots := 0, locals := 0 }
theorem k_M_clear : Cond.code y_M_clear b_M_clear 4 (some .int) ∈ TB := (tb_5 (List.mem_of_getElem? (i := 145) rfl) rfl)
abbrev w_M_clear : List Cond := Cond.code y_M_clear b_M_clear 4 (some .int) :: TB
abbrev b_M_fits : ByteArray := prog_12_method_21_code
def y_M_fits : MethodName := ⟨R_M, "fits", "(III)Z"⟩
def rm_M_fits : Room := { frames := 0, cells := 0, slots := 0, locals := 0 }
theorem k_M_fits : Cond.code y_M_fits b_M_fits 10 (some .boolean) ∈ TB := (tb_5 (List.mem_of_getElem? (i := 177) rfl) rfl)
abbrev w_M_fits : List Cond := Cond.code y_M_fits b_M_fits 10 (some .boolean) :: TB
abbrev b_M_className : ByteArray := prog_12_method_22_code
def y_M_className : MethodName := ⟨R_M, "className", "(I)V"⟩
def rm_M_className : Room := { frames := 0, cells := 0, slots := 0, locals := 0 }
theorem k_M_className : Cond.code y_M_className b_M_className 2 none ∈ TB := (tb_5 (List.mem_of_getElem? (i := 173) rfl) rfl)
abbrev w_M_className : List Cond := Cond.code y_M_className b_M_className 2 none :: TB
abbrev b_M_put : ByteArray := prog_12_method_23_code
def y_M_put : MethodName := ⟨R_M, "put", "(I)V"⟩
def rm_M_put : Room := { frames := 0, cells := 0, slots := 0, locals := 0 }
theorem k_M_put : Cond.code y_M_put b_M_put 2 none ∈ TB := (tb_5 (List.mem_of_getElem? (i := 209) rfl) rfl)
abbrev w_M_put : List Cond := Cond.code y_M_put b_M_put 2 none :: TB
abbrev b_M_wordText : ByteArray := prog_12_method_24_code
def y_M_wordText : MethodName := ⟨R_M, "wordText", "(I)V"⟩
def rm_M_wordText : Room := { frames := 1, cells := 0, slots := 0, locals := 21 }
theorem k_M_wordText : Cond.code y_M_wordText b_M_wordText 2 none ∈ TB := (tb_5 (List.mem_of_getElem? (i := 205) rfl) rfl)
abbrev w_M_wordText : List Cond := Cond.code y_M_wordText b_M_wordText 2 none :: TB
abbrev b_M_fitsUp : ByteArray := prog_12_method_25_code
def y_M_fitsUp : MethodName := ⟨R_M, "fitsUp", "(II)Z"⟩
def rm_M_fitsUp : Room := { frames := 1, cells := 0, slots := 0, locals := 29 }
theorem k_M_fitsUp : Cond.code y_M_fitsUp b_M_fitsUp 5 (some .boolean) ∈ TB := (tb_5 (List.mem_of_getElem? (i := 181) rfl) rfl)
abbrev w_M_fitsUp : List Cond := Cond.code y_M_fitsUp b_M_fitsUp 5 (some .boolean) :: TB
abbrev b_M_isAbout : ByteArray := prog_12_method_26_code
def y_M_isAbout : MethodName := ⟨R_M, "isAbout", "(II)Z"⟩
def rm_M_isAbout : Room := { frames := 2, cells := 0, slots := 0, locals := 53 }
theorem k_M_isAbout : Cond.code y_M_isAbout b_M_isAbout 3 (some .boolean) ∈ TB := (tb_5 (List.mem_of_getElem? (i := 169) rfl) rfl)
abbrev w_M_isAbout : List Cond := Cond.code y_M_isAbout b_M_isAbout 3 (some .boolean) :: TB
abbrev b_M_isMeant : ByteArray := prog_12_method_27_code
def y_M_isMeant : MethodName := ⟨R_M, "isMeant", "(II)Z"⟩
def rm_M_isMeant : Room := { frames := 2, cells := 0, slots := 0, locals := 42 }
theorem k_M_isMeant : Cond.code y_M_isMeant b_M_isMeant 6 (some .boolean) ∈ TB := (tb_5 (List.mem_of_getElem? (i := 201) rfl) rfl)
abbrev w_M_isMeant : List Cond := Cond.code y_M_isMeant b_M_isMeant 6 (some .boolean) :: TB
abbrev b_M_superOf : ByteArray := prog_12_method_28_code
def y_M_superOf : MethodName := ⟨R_M, "superOf", "(I)I"⟩
def rm_M_superOf : Room := { frames := 0, cells := 0, slots := 0, locals := 0 }
theorem k_M_superOf : Cond.code y_M_superOf b_M_superOf 2 (some .int) ∈ TB := (tb_5 (List.mem_of_getElem? (i := 161) rfl) rfl)
abbrev w_M_superOf : List Cond := Cond.code y_M_superOf b_M_superOf 2 (some .int) :: TB
abbrev b_M_hasFace : ByteArray := prog_12_method_29_code
def y_M_hasFace : MethodName := ⟨R_M, "hasFace", "(II)Z"⟩
def rm_M_hasFace : Room := { frames := 0, cells := 0, slots := 0, locals := 0 }
theorem k_M_hasFace : Cond.code y_M_hasFace b_M_hasFace 3 (some .boolean) ∈ TB := (tb_5 (List.mem_of_getElem? (i := 165) rfl) rfl)
abbrev w_M_hasFace : List Cond := Cond.code y_M_hasFace b_M_hasFace 3 (some .boolean) :: TB
abbrev b_M_order : ByteArray := prog_12_method_30_code
def y_M_order : MethodName := ⟨R_M, "order", "()V"⟩
def rm_M_order : Room := { frames := 1, cells := 0, slots := 0, locals := 22 }
theorem k_M_order : Cond.code y_M_order b_M_order 5 none ∈ TB := (tb_5 (List.mem_of_getElem? (i := 157) rfl) rfl)
abbrev w_M_order : List Cond := Cond.code y_M_order b_M_order 5 none :: TB
abbrev b_M_isWanted : ByteArray := prog_12_method_32_code
def y_M_isWanted : MethodName := ⟨R_M, "isWanted", "(IZZ)Z"⟩
def rm_M_isWanted : Room := { frames := 0, cells := 0, slots := 0, locals := 0 }
theorem k_M_isWanted : Cond.code y_M_isWanted b_M_isWanted 4 (some .boolean) ∈ TB := (tb_5 (List.mem_of_getElem? (i := 225) rfl) rfl)
abbrev w_M_isWanted : List Cond := Cond.code y_M_isWanted b_M_isWanted 4 (some .boolean) :: TB
abbrev b_M_look : ByteArray := prog_12_method_31_code
def y_M_look : MethodName := ⟨R_M, "look", "(IIIIZZ)I"⟩
def rm_M_look : Room := { frames := 1, cells := 0, slots := 0, locals := 25 }
theorem k_M_look : Cond.code y_M_look b_M_look 9 (some .int) ∈ TB := (tb_5 (List.mem_of_getElem? (i := 221) rfl) rfl)
abbrev w_M_look : List Cond := Cond.code y_M_look b_M_look 9 (some .int) :: TB
abbrev b_M_needClass : ByteArray := prog_12_method_33_code
def y_M_needClass : MethodName := ⟨R_M, "needClass", "(I)V"⟩
def rm_M_needClass : Room := { frames := 0, cells := 0, slots := 0, locals := 0 }
theorem k_M_needClass : Cond.code y_M_needClass b_M_needClass 2 none ∈ TB := (tb_5 (List.mem_of_getElem? (i := 189) rfl) rfl)
abbrev w_M_needClass : List Cond := Cond.code y_M_needClass b_M_needClass 2 none :: TB
abbrev b_M_make : ByteArray := prog_12_method_34_code
def y_M_make : MethodName := ⟨R_M, "make", "(I)V"⟩
def rm_M_make : Room := { frames := 0, cells := 0, slots := 0, locals := 0 }
theorem k_M_make : Cond.code y_M_make b_M_make 2 none ∈ TB := (tb_5 (List.mem_of_getElem? (i := 197) rfl) rfl)
abbrev w_M_make : List Cond := Cond.code y_M_make b_M_make 2 none :: TB
abbrev b_M_start : ByteArray := prog_12_method_35_code
def y_M_start : MethodName := ⟨R_M, "start", "(I)V"⟩
def rm_M_start : Room := { frames := 0, cells := 0, slots := 0, locals := 0 }
theorem k_M_start : Cond.code y_M_start b_M_start 2 none ∈ TB := (tb_5 (List.mem_of_getElem? (i := 193) rfl) rfl)
abbrev w_M_start : List Cond := Cond.code y_M_start b_M_start 2 none :: TB
abbrev b_M_needMember : ByteArray := prog_12_method_36_code
def y_M_needMember : MethodName := ⟨R_M, "needMember", "(I)V"⟩
def rm_M_needMember : Room := { frames := 0, cells := 0, slots := 0, locals := 0 }
theorem k_M_needMember : Cond.code y_M_needMember b_M_needMember 2 none ∈ TB := (tb_5 (List.mem_of_getElem? (i := 213) rfl) rfl)
abbrev w_M_needMember : List Cond := Cond.code y_M_needMember b_M_needMember 2 none :: TB
abbrev b_M_byRules : ByteArray := prog_12_method_37_code
def y_M_byRules : MethodName := ⟨R_M, "byRules", "()V"⟩
def rm_M_byRules : Room := { frames := 3, cells := 0, slots := 0, locals := 67 }
theorem k_M_byRules : Cond.code y_M_byRules b_M_byRules 4 none ∈ TB := (tb_5 (List.mem_of_getElem? (i := 185) rfl) rfl)
abbrev w_M_byRules : List Cond := Cond.code y_M_byRules b_M_byRules 4 none :: TB
abbrev b_M_byClasses : ByteArray := prog_12_method_38_code
def y_M_byClasses : MethodName := ⟨R_M, "byClasses", "()V"⟩
def rm_M_byClasses : Room := { frames := 2, cells := 0, slots := 0, locals := 53 }
theorem k_M_byClasses : Cond.code y_M_byClasses b_M_byClasses 4 none ∈ TB := (tb_5 (List.mem_of_getElem? (i := 217) rfl) rfl)
abbrev w_M_byClasses : List Cond := Cond.code y_M_byClasses b_M_byClasses 4 none :: TB
abbrev b_M_byReference : ByteArray := prog_12_method_39_code
def y_M_byReference : MethodName := ⟨R_M, "byReference", "(I)V"⟩
def rm_M_byReference : Room := { frames := 2, cells := 0, slots := 0, locals := 53 }
theorem k_M_byReference : Cond.code y_M_byReference b_M_byReference 7 none ∈ TB := (tb_5 (List.mem_of_getElem? (i := 233) rfl) rfl)
abbrev w_M_byReference : List Cond := Cond.code y_M_byReference b_M_byReference 7 none :: TB
abbrev b_M_isActive : ByteArray := prog_12_method_40_code
def y_M_isActive : MethodName := ⟨R_M, "isActive", "(I)Z"⟩
def rm_M_isActive : Room := { frames := 0, cells := 0, slots := 0, locals := 0 }
theorem k_M_isActive : Cond.code y_M_isActive b_M_isActive 2 (some .boolean) ∈ TB := (tb_5 (List.mem_of_getElem? (i := 229) rfl) rfl)
abbrev w_M_isActive : List Cond := Cond.code y_M_isActive b_M_isActive 2 (some .boolean) :: TB
abbrev b_M_find : ByteArray := prog_12_method_41_code
def y_M_find : MethodName := ⟨R_M, "find", "()V"⟩
def rm_M_find : Room := { frames := 4, cells := 0, slots := 0, locals := 90 }
theorem k_M_find : Cond.code y_M_find b_M_find 4 none ∈ TB := (tb_5 (List.mem_of_getElem? (i := 153) rfl) rfl)
abbrev w_M_find : List Cond := Cond.code y_M_find b_M_find 4 none :: TB
abbrev b_M_keepsName : ByteArray := prog_12_method_42_code
def y_M_keepsName : MethodName := ⟨R_M, "keepsName", "(I)Z"⟩
def rm_M_keepsName : Room := { frames := 0, cells := 0, slots := 0, locals := 0 }
theorem k_M_keepsName : Cond.code y_M_keepsName b_M_keepsName 3 (some .boolean) ∈ TB := (tb_5 (List.mem_of_getElem? (i := 237) rfl) rfl)
abbrev w_M_keepsName : List Cond := Cond.code y_M_keepsName b_M_keepsName 3 (some .boolean) :: TB
abbrev b_M_keepsText : ByteArray := prog_12_method_43_code
def y_M_keepsText : MethodName := ⟨R_M, "keepsText", "(III)Z"⟩
def rm_M_keepsText : Room := { frames := 3, cells := 0, slots := 0, locals := 67 }
theorem k_M_keepsText : Cond.code y_M_keepsText b_M_keepsText 7 (some .boolean) ∈ TB := (tb_6 (List.mem_of_getElem? (i := 9) rfl) rfl)
abbrev w_M_keepsText : List Cond := Cond.code y_M_keepsText b_M_keepsText 7 (some .boolean) :: TB
abbrev b_M_isUsed : ByteArray := prog_12_method_44_code
def y_M_isUsed : MethodName := ⟨R_M, "isUsed", "(III)Z"⟩
def rm_M_isUsed : Room := { frames := 0, cells := 0, slots := 0, locals := 0 }
theorem k_M_isUsed : Cond.code y_M_isUsed b_M_isUsed 5 (some .boolean) ∈ TB := (tb_6 (List.mem_of_getElem? (i := 29) rfl) rfl)
abbrev w_M_isUsed : List Cond := Cond.code y_M_isUsed b_M_isUsed 5 (some .boolean) :: TB
abbrev b_M_newName : ByteArray := prog_12_method_45_code
def y_M_newName : MethodName := ⟨R_M, "newName", "(I)V"⟩
def rm_M_newName : Room := { frames := 1, cells := 0, slots := 0, locals := 22 }
theorem k_M_newName : Cond.code y_M_newName b_M_newName 6 none ∈ TB := (tb_6 (List.mem_of_getElem? (i := 37) rfl) rfl)
abbrev w_M_newName : List Cond := Cond.code y_M_newName b_M_newName 6 none :: TB
abbrev b_M_isKeptLetter : ByteArray := prog_12_method_46_code
def y_M_isKeptLetter : MethodName := ⟨R_M, "isKeptLetter", "(III)Z"⟩
def rm_M_isKeptLetter : Room := { frames := 4, cells := 0, slots := 0, locals := 93 }
theorem k_M_isKeptLetter : Cond.code y_M_isKeptLetter b_M_isKeptLetter 4 (some .boolean) ∈ TB := (tb_6 (List.mem_of_getElem? (i := 33) rfl) rfl)
abbrev w_M_isKeptLetter : List Cond := Cond.code y_M_isKeptLetter b_M_isKeptLetter 4 (some .boolean) :: TB
abbrev b_M_newText : ByteArray := prog_12_method_47_code
def y_M_newText : MethodName := ⟨R_M, "newText", "(I)V"⟩
def rm_M_newText : Room := { frames := 5, cells := 0, slots := 0, locals := 116 }
theorem k_M_newText : Cond.code y_M_newText b_M_newText 8 none ∈ TB := (tb_6 (List.mem_of_getElem? (i := 25) rfl) rfl)
abbrev w_M_newText : List Cond := Cond.code y_M_newText b_M_newText 8 none :: TB
abbrev b_M_needs : ByteArray := prog_12_method_48_code
def y_M_needs : MethodName := ⟨R_M, "needs", "(II)I"⟩
def rm_M_needs : Room := { frames := 5, cells := 0, slots := 0, locals := 113 }
theorem k_M_needs : Cond.code y_M_needs b_M_needs 6 (some .int) ∈ TB := (tb_5 (List.mem_of_getElem? (i := 149) rfl) rfl)
abbrev w_M_needs : List Cond := Cond.code y_M_needs b_M_needs 6 (some .int) :: TB
abbrev b_M_isMember : ByteArray := prog_12_method_49_code
def y_M_isMember : MethodName := ⟨R_M, "isMember", "(I)Z"⟩
def rm_M_isMember : Room := { frames := 1, cells := 0, slots := 0, locals := 22 }
theorem k_M_isMember : Cond.code y_M_isMember b_M_isMember 2 (some .boolean) ∈ TB := (tb_6 (List.mem_of_getElem? (i := 5) rfl) rfl)
abbrev w_M_isMember : List Cond := Cond.code y_M_isMember b_M_isMember 2 (some .boolean) :: TB
abbrev b_M_part : ByteArray := prog_12_method_50_code
def y_M_part : MethodName := ⟨R_M, "part", "(II)I"⟩
def rm_M_part : Room := { frames := 5, cells := 0, slots := 0, locals := 113 }
theorem k_M_part : Cond.code y_M_part b_M_part 4 (some .int) ∈ TB := (tb_6 (List.mem_of_getElem? (i := 1) rfl) rfl)
abbrev w_M_part : List Cond := Cond.code y_M_part b_M_part 4 (some .int) :: TB
abbrev b_M_found : ByteArray := prog_12_method_51_code
def y_M_found : MethodName := ⟨R_M, "found", "(IIIIZ)I"⟩
def rm_M_found : Room := { frames := 5, cells := 0, slots := 0, locals := 113 }
theorem k_M_found : Cond.code y_M_found b_M_found 6 (some .int) ∈ TB := (tb_6 (List.mem_of_getElem? (i := 13) rfl) rfl)
abbrev w_M_found : List Cond := Cond.code y_M_found b_M_found 6 (some .int) :: TB
abbrev b_M_selected : ByteArray := prog_12_method_52_code
def y_M_selected : MethodName := ⟨R_M, "selected", "(IIIZ)I"⟩
def rm_M_selected : Room := { frames := 5, cells := 0, slots := 0, locals := 113 }
theorem k_M_selected : Cond.code y_M_selected b_M_selected 5 (some .int) ∈ TB := (tb_6 (List.mem_of_getElem? (i := 17) rfl) rfl)
abbrev w_M_selected : List Cond := Cond.code y_M_selected b_M_selected 5 (some .int) :: TB
abbrev b_M_name : ByteArray := prog_12_method_53_code
def y_M_name : MethodName := ⟨R_M, "name", "(ZII)I"⟩
def rm_M_name : Room := { frames := 6, cells := 0, slots := 0, locals := 143 }
theorem k_M_name : Cond.code y_M_name b_M_name 5 (some .int) ∈ TB := (tb_6 (List.mem_of_getElem? (i := 21) rfl) rfl)
abbrev w_M_name : List Cond := Cond.code y_M_name b_M_name 5 (some .int) :: TB
abbrev b_M_copy : ByteArray := prog_12_method_54_code
def y_M_copy : MethodName := ⟨R_M, "copy", "()V"⟩
def rm_M_copy : Room := { frames := 0, cells := 0, slots := 0, locals := 0 }
theorem k_M_copy : Cond.code y_M_copy b_M_copy 2 none ∈ TB := (tb_6 (List.mem_of_getElem? (i := 49) rfl) rfl)
abbrev w_M_copy : List Cond := Cond.code y_M_copy b_M_copy 2 none :: TB
abbrev b_M_write : ByteArray := prog_12_method_55_code
def y_M_write : MethodName := ⟨R_M, "write", "(I)V"⟩
def rm_M_write : Room := { frames := 0, cells := 0, slots := 0, locals := 0 }
theorem k_M_write : Cond.code y_M_write b_M_write 2 none ∈ TB := (tb_6 (List.mem_of_getElem? (i := 53) rfl) rfl)
abbrev w_M_write : List Cond := Cond.code y_M_write b_M_write 2 none :: TB
abbrev b_M_arrow : ByteArray := prog_12_method_56_code
def y_M_arrow : MethodName := ⟨R_M, "arrow", "()V"⟩
def rm_M_arrow : Room := { frames := 1, cells := 0, slots := 0, locals := 21 }
theorem k_M_arrow : Cond.code y_M_arrow b_M_arrow 1 none ∈ TB := (tb_6 (List.mem_of_getElem? (i := 57) rfl) rfl)
abbrev w_M_arrow : List Cond := Cond.code y_M_arrow b_M_arrow 1 none :: TB
abbrev b_M_writeMember : ByteArray := prog_12_method_58_code
def y_M_writeMember : MethodName := ⟨R_M, "writeMember", "(I)V"⟩
def rm_M_writeMember : Room := { frames := 6, cells := 0, slots := 0, locals := 143 }
theorem k_M_writeMember : Cond.code y_M_writeMember b_M_writeMember 2 none ∈ TB := (tb_6 (List.mem_of_getElem? (i := 61) rfl) rfl)
abbrev w_M_writeMember : List Cond := Cond.code y_M_writeMember b_M_writeMember 2 none :: TB
abbrev b_M_writeAll : ByteArray := prog_12_method_57_code
def y_M_writeAll : MethodName := ⟨R_M, "writeAll", "()V"⟩
def rm_M_writeAll : Room := { frames := 7, cells := 0, slots := 0, locals := 164 }
theorem k_M_writeAll : Cond.code y_M_writeAll b_M_writeAll 3 none ∈ TB := (tb_6 (List.mem_of_getElem? (i := 45) rfl) rfl)
abbrev w_M_writeAll : List Cond := Cond.code y_M_writeAll b_M_writeAll 3 none :: TB
abbrev b_M_mapping : ByteArray := prog_12_method_59_code
def y_M_mapping : MethodName := ⟨R_M, "mapping", "(I)I"⟩
def rm_M_mapping : Room := { frames := 8, cells := 0, slots := 0, locals := 186 }
theorem k_M_mapping : Cond.code y_M_mapping b_M_mapping 2 (some .int) ∈ TB := (tb_6 (List.mem_of_getElem? (i := 41) rfl) rfl)
abbrev w_M_mapping : List Cond := Cond.code y_M_mapping b_M_mapping 2 (some .int) :: TB
abbrev b_M_classNamed : ByteArray := prog_12_method_60_code
def y_M_classNamed : MethodName := ⟨R_M, "classNamed", "()I"⟩
def rm_M_classNamed : Room := { frames := 2, cells := 0, slots := 0, locals := 47 }
theorem k_M_classNamed : Cond.code y_M_classNamed b_M_classNamed 4 (some .int) ∈ TB := (tb_6 (List.mem_of_getElem? (i := 69) rfl) rfl)
abbrev w_M_classNamed : List Cond := Cond.code y_M_classNamed b_M_classNamed 4 (some .int) :: TB
abbrev b_M_trace : ByteArray := prog_12_method_61_code
def y_M_trace : MethodName := ⟨R_M, "trace", "(IIZ)I"⟩
def rm_M_trace : Room := { frames := 6, cells := 0, slots := 0, locals := 143 }
theorem k_M_trace : Cond.code y_M_trace b_M_trace 6 (some .int) ∈ TB := (tb_6 (List.mem_of_getElem? (i := 65) rfl) rfl)
abbrev w_M_trace : List Cond := Cond.code y_M_trace b_M_trace 6 (some .int) :: TB
abbrev b_M_active : ByteArray := prog_12_method_62_code
def y_M_active : MethodName := ⟨R_M, "active", "(Z)I"⟩
def rm_M_active : Room := { frames := 2, cells := 0, slots := 0, locals := 53 }
theorem k_M_active : Cond.code y_M_active b_M_active 5 (some .int) ∈ TB := (tb_6 (List.mem_of_getElem? (i := 85) rfl) rfl)
abbrev w_M_active : List Cond := Cond.code y_M_active b_M_active 5 (some .int) :: TB
abbrev b_M_classes : ByteArray := prog_12_method_63_code
def y_M_classes : MethodName := ⟨R_M, "classes", "(I)I"⟩
def rm_M_classes : Room := { frames := 0, cells := 0, slots := 0, locals := 0 }
theorem k_M_classes : Cond.code y_M_classes b_M_classes 4 (some .int) ∈ TB := (tb_6 (List.mem_of_getElem? (i := 77) rfl) rfl)
abbrev w_M_classes : List Cond := Cond.code y_M_classes b_M_classes 4 (some .int) :: TB
abbrev b_M_parts : ByteArray := prog_12_method_64_code
def y_M_parts : MethodName := ⟨R_M, "parts", "(Z)I"⟩
def rm_M_parts : Room := { frames := 0, cells := 0, slots := 0, locals := 0 }
theorem k_M_parts : Cond.code y_M_parts b_M_parts 4 (some .int) ∈ TB := (tb_6 (List.mem_of_getElem? (i := 81) rfl) rfl)
abbrev w_M_parts : List Cond := Cond.code y_M_parts b_M_parts 4 (some .int) :: TB
abbrev b_M_count : ByteArray := prog_12_method_65_code
def y_M_count : MethodName := ⟨R_M, "count", "(I)I"⟩
def rm_M_count : Room := { frames := 5, cells := 0, slots := 0, locals := 113 }
theorem k_M_count : Cond.code y_M_count b_M_count 2 (some .int) ∈ TB := (tb_6 (List.mem_of_getElem? (i := 73) rfl) rfl)
abbrev w_M_count : List Cond := Cond.code y_M_count b_M_count 2 (some .int) :: TB
theorem sv_1 {q : MethodName × Nat} (h : q ∈ lw_privs_1) : Cond.selects q.1.cls q.1 q.1 ∈ TB := List.mem_filter.mpr ⟨List.mem_append_left _ (List.mem_map.mpr ⟨q, (List.mem_append_left _ h), rfl⟩), rfl⟩
theorem sv_2 {q : MethodName × Nat} (h : q ∈ lw_privs_2) : Cond.selects q.1.cls q.1 q.1 ∈ TB := List.mem_filter.mpr ⟨List.mem_append_left _ (List.mem_map.mpr ⟨q, (List.mem_append_right _ (List.mem_append_left _ h)), rfl⟩), rfl⟩
theorem sv_3 {q : MethodName × Nat} (h : q ∈ lw_privs_3) : Cond.selects q.1.cls q.1 q.1 ∈ TB := List.mem_filter.mpr ⟨List.mem_append_left _ (List.mem_map.mpr ⟨q, (List.mem_append_right _ (List.mem_append_right _ (List.mem_append_left _ h))), rfl⟩), rfl⟩
theorem sv_4 {q : MethodName × Nat} (h : q ∈ lw_privs_4) : Cond.selects q.1.cls q.1 q.1 ∈ TB := List.mem_filter.mpr ⟨List.mem_append_left _ (List.mem_map.mpr ⟨q, (List.mem_append_right _ (List.mem_append_right _ (List.mem_append_right _ (List.mem_append_left _ h)))), rfl⟩), rfl⟩
theorem sv_5 {q : MethodName × Nat} (h : q ∈ lw_privs_5) : Cond.selects q.1.cls q.1 q.1 ∈ TB := List.mem_filter.mpr ⟨List.mem_append_left _ (List.mem_map.mpr ⟨q, (List.mem_append_right _ (List.mem_append_right _ (List.mem_append_right _ (List.mem_append_right _ h)))), rfl⟩), rfl⟩
theorem sl_M_active : Cond.selects R_M y_M_active y_M_active ∈ TB := sv_5 (q := (y_M_active, 48)) (List.mem_of_getElem? (i := 15) rfl)
theorem sl_M_arrow : Cond.selects R_M y_M_arrow y_M_arrow ∈ TB := sv_5 (q := (y_M_arrow, 48)) (List.mem_of_getElem? (i := 10) rfl)
theorem sl_M_byClasses : Cond.selects R_M y_M_byClasses y_M_byClasses ∈ TB := sv_4 (q := (y_M_byClasses, 48)) (List.mem_of_getElem? (i := 11) rfl)
theorem sl_M_byReference : Cond.selects R_M y_M_byReference y_M_byReference ∈ TB := sv_4 (q := (y_M_byReference, 48)) (List.mem_of_getElem? (i := 15) rfl)
theorem sl_M_byRules : Cond.selects R_M y_M_byRules y_M_byRules ∈ TB := sv_4 (q := (y_M_byRules, 48)) (List.mem_of_getElem? (i := 3) rfl)
theorem sl_M_className : Cond.selects R_M y_M_className y_M_className ∈ TB := sv_4 (q := (y_M_className, 48)) (List.mem_of_getElem? (i := 0) rfl)
theorem sl_M_classNamed : Cond.selects R_M y_M_classNamed y_M_classNamed ∈ TB := sv_5 (q := (y_M_classNamed, 48)) (List.mem_of_getElem? (i := 12) rfl)
theorem sl_M_classes : Cond.selects R_M y_M_classes y_M_classes ∈ TB := sv_5 (q := (y_M_classes, 48)) (List.mem_of_getElem? (i := 13) rfl)
theorem sl_M_copy : Cond.selects R_M y_M_copy y_M_copy ∈ TB := sv_5 (q := (y_M_copy, 48)) (List.mem_of_getElem? (i := 8) rfl)
theorem sl_M_find : Cond.selects R_M y_M_find y_M_find ∈ TB := sv_3 (q := (y_M_find, 48)) (List.mem_of_getElem? (i := 11) rfl)
theorem sl_M_fits : Cond.selects R_M y_M_fits y_M_fits ∈ TB := sv_4 (q := (y_M_fits, 48)) (List.mem_of_getElem? (i := 1) rfl)
theorem sl_M_fitsUp : Cond.selects R_M y_M_fitsUp y_M_fitsUp ∈ TB := sv_4 (q := (y_M_fitsUp, 48)) (List.mem_of_getElem? (i := 2) rfl)
theorem sl_M_hasFace : Cond.selects R_M y_M_hasFace y_M_hasFace ∈ TB := sv_3 (q := (y_M_hasFace, 48)) (List.mem_of_getElem? (i := 14) rfl)
theorem sl_M_isAbout : Cond.selects R_M y_M_isAbout y_M_isAbout ∈ TB := sv_3 (q := (y_M_isAbout, 48)) (List.mem_of_getElem? (i := 15) rfl)
theorem sl_M_isActive : Cond.selects R_M y_M_isActive y_M_isActive ∈ TB := sv_4 (q := (y_M_isActive, 48)) (List.mem_of_getElem? (i := 14) rfl)
theorem sl_M_isKeptLetter : Cond.selects R_M y_M_isKeptLetter y_M_isKeptLetter ∈ TB := sv_5 (q := (y_M_isKeptLetter, 48)) (List.mem_of_getElem? (i := 5) rfl)
theorem sl_M_isMeant : Cond.selects R_M y_M_isMeant y_M_isMeant ∈ TB := sv_4 (q := (y_M_isMeant, 48)) (List.mem_of_getElem? (i := 7) rfl)
theorem sl_M_isMember : Cond.selects R_M y_M_isMember y_M_isMember ∈ TB := sv_5 (q := (y_M_isMember, 48)) (List.mem_of_getElem? (i := 1) rfl)
theorem sl_M_isMembers : Cond.selects R_M y_M_isMembers y_M_isMembers ∈ TB := sv_3 (q := (y_M_isMembers, 48)) (List.mem_of_getElem? (i := 8) rfl)
theorem sl_M_isPattern : Cond.selects R_M y_M_isPattern y_M_isPattern ∈ TB := sv_3 (q := (y_M_isPattern, 48)) (List.mem_of_getElem? (i := 9) rfl)
theorem sl_M_isUsed : Cond.selects R_M y_M_isUsed y_M_isUsed ∈ TB := sv_5 (q := (y_M_isUsed, 48)) (List.mem_of_getElem? (i := 4) rfl)
theorem sl_M_isWanted : Cond.selects R_M y_M_isWanted y_M_isWanted ∈ TB := sv_4 (q := (y_M_isWanted, 48)) (List.mem_of_getElem? (i := 13) rfl)
theorem sl_M_isWord : Cond.selects R_M y_M_isWord y_M_isWord ∈ TB := sv_3 (q := (y_M_isWord, 48)) (List.mem_of_getElem? (i := 7) rfl)
theorem sl_M_keepsName : Cond.selects R_M y_M_keepsName y_M_keepsName ∈ TB := sv_5 (q := (y_M_keepsName, 48)) (List.mem_of_getElem? (i := 0) rfl)
theorem sl_M_keepsText : Cond.selects R_M y_M_keepsText y_M_keepsText ∈ TB := sv_5 (q := (y_M_keepsText, 48)) (List.mem_of_getElem? (i := 2) rfl)
theorem sl_M_look : Cond.selects R_M y_M_look y_M_look ∈ TB := sv_4 (q := (y_M_look, 48)) (List.mem_of_getElem? (i := 12) rfl)
theorem sl_M_make : Cond.selects R_M y_M_make y_M_make ∈ TB := sv_4 (q := (y_M_make, 48)) (List.mem_of_getElem? (i := 6) rfl)
theorem sl_M_needClass : Cond.selects R_M y_M_needClass y_M_needClass ∈ TB := sv_4 (q := (y_M_needClass, 48)) (List.mem_of_getElem? (i := 4) rfl)
theorem sl_M_needMember : Cond.selects R_M y_M_needMember y_M_needMember ∈ TB := sv_4 (q := (y_M_needMember, 48)) (List.mem_of_getElem? (i := 10) rfl)
theorem sl_M_newName : Cond.selects R_M y_M_newName y_M_newName ∈ TB := sv_5 (q := (y_M_newName, 48)) (List.mem_of_getElem? (i := 6) rfl)
theorem sl_M_newText : Cond.selects R_M y_M_newText y_M_newText ∈ TB := sv_5 (q := (y_M_newText, 48)) (List.mem_of_getElem? (i := 3) rfl)
theorem sl_M_order : Cond.selects R_M y_M_order y_M_order ∈ TB := sv_3 (q := (y_M_order, 48)) (List.mem_of_getElem? (i := 12) rfl)
theorem sl_M_own : Cond.selects R_M y_M_own y_M_own ∈ TB := sv_3 (q := (y_M_own, 48)) (List.mem_of_getElem? (i := 3) rfl)
theorem sl_M_partW : Cond.selects R_M y_M_partW y_M_partW ∈ TB := sv_3 (q := (y_M_partW, 48)) (List.mem_of_getElem? (i := 4) rfl)
theorem sl_M_parts : Cond.selects R_M y_M_parts y_M_parts ∈ TB := sv_5 (q := (y_M_parts, 48)) (List.mem_of_getElem? (i := 14) rfl)
theorem sl_M_put : Cond.selects R_M y_M_put y_M_put ∈ TB := sv_4 (q := (y_M_put, 48)) (List.mem_of_getElem? (i := 9) rfl)
theorem sl_M_reads : Cond.selects R_M y_M_reads y_M_reads ∈ TB := sv_3 (q := (y_M_reads, 48)) (List.mem_of_getElem? (i := 5) rfl)
theorem sl_M_readsFull : Cond.selects R_M y_M_readsFull y_M_readsFull ∈ TB := sv_3 (q := (y_M_readsFull, 48)) (List.mem_of_getElem? (i := 10) rfl)
theorem sl_M_sortOf : Cond.selects R_M y_M_sortOf y_M_sortOf ∈ TB := sv_3 (q := (y_M_sortOf, 48)) (List.mem_of_getElem? (i := 6) rfl)
theorem sl_M_start : Cond.selects R_M y_M_start y_M_start ∈ TB := sv_4 (q := (y_M_start, 48)) (List.mem_of_getElem? (i := 5) rfl)
theorem sl_M_superOf : Cond.selects R_M y_M_superOf y_M_superOf ∈ TB := sv_3 (q := (y_M_superOf, 48)) (List.mem_of_getElem? (i := 13) rfl)
theorem sl_M_wordText : Cond.selects R_M y_M_wordText y_M_wordText ∈ TB := sv_4 (q := (y_M_wordText, 48)) (List.mem_of_getElem? (i := 8) rfl)
theorem sl_M_write : Cond.selects R_M y_M_write y_M_write ∈ TB := sv_5 (q := (y_M_write, 48)) (List.mem_of_getElem? (i := 9) rfl)
theorem sl_M_writeAll : Cond.selects R_M y_M_writeAll y_M_writeAll ∈ TB := sv_5 (q := (y_M_writeAll, 48)) (List.mem_of_getElem? (i := 7) rfl)
theorem sl_M_writeMember : Cond.selects R_M y_M_writeMember y_M_writeMember ∈ TB := sv_5 (q := (y_M_writeMember, 48)) (List.mem_of_getElem? (i := 11) rfl)
