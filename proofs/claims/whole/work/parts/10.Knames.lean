def R_Long : String := "java/lang/Long"
def R_Str : String := "java/lang/String"
def R_Lat : String := "java/lang/StringLatin1"
def R_Arr : String := "java/util/Arrays"
def R_Pre : String := "jdk/internal/util/Preconditions"
abbrev b_K_Text_wipe : ByteArray := prog_9_method_2_code
def y_K_Text_wipe : MethodName := ⟨R_Text, "wipe", "()V"⟩
def rm_K_Text_wipe : Room := { frames := 0, cells := 0, slots := 0, locals := 0 }
theorem k_K_Text_wipe : Cond.code y_K_Text_wipe b_K_Text_wipe 1 none ∈ TB := (tb_3 (List.mem_of_getElem? (i := 103) rfl) rfl)
abbrev w_K_Text_wipe : List Cond := Cond.code y_K_Text_wipe b_K_Text_wipe 1 none :: TB
abbrev b_K_SF_has : ByteArray := prog_1_method_25_code
def y_K_SF_has : MethodName := ⟨R_SF, "has", "(JI)Z"⟩
def rm_K_SF_has : Room := { frames := 0, cells := 0, slots := 0, locals := 0 }
theorem k_K_SF_has : Cond.code y_K_SF_has b_K_SF_has 3 (some .boolean) ∈ TB := (tb_1 (List.mem_of_getElem? (i := 50) rfl) rfl)
abbrev w_K_SF_has : List Cond := Cond.code y_K_SF_has b_K_SF_has 3 (some .boolean) :: TB
abbrev b_K_Text_put : ByteArray := prog_9_method_3_code
def y_K_Text_put : MethodName := ⟨R_Text, "put", "(I)Z"⟩
def rm_K_Text_put : Room := { frames := 0, cells := 0, slots := 0, locals := 0 }
theorem k_K_Text_put : Cond.code y_K_Text_put b_K_Text_put 2 (some .boolean) ∈ TB := (tb_3 (List.mem_of_getElem? (i := 18) rfl) rfl)
abbrev w_K_Text_put : List Cond := Cond.code y_K_Text_put b_K_Text_put 2 (some .boolean) :: TB
abbrev b_K_Text_putOldName : ByteArray := prog_9_method_5_code
def y_K_Text_putOldName : MethodName := ⟨R_Text, "putOldName", "(II)V"⟩
def rm_K_Text_putOldName : Room := { frames := 1, cells := 0, slots := 0, locals := 21 }
theorem k_K_Text_putOldName : Cond.code y_K_Text_putOldName b_K_Text_putOldName 3 none ∈ TB := (tb_3 (List.mem_of_getElem? (i := 107) rfl) rfl)
abbrev w_K_Text_putOldName : List Cond := Cond.code y_K_Text_putOldName b_K_Text_putOldName 3 none :: TB
abbrev b_J_coder : ByteArray := prog_15_method_152_code
def y_J_coder : MethodName := ⟨R_Str, "coder", "()B"⟩
def rm_J_coder : Room := { frames := 0, cells := 0, slots := 0, locals := 0 }
theorem k_J_coder : Cond.code y_J_coder b_J_coder 1 (some .byte) ∈ TB := (tb_3 (List.mem_of_getElem? (i := 47) rfl) rfl)
abbrev w_J_coder : List Cond := Cond.code y_J_coder b_J_coder 1 (some .byte) :: TB
abbrev b_J_length : ByteArray := prog_15_method_54_code
def y_J_length : MethodName := ⟨R_Str, "length", "()I"⟩
def rm_J_length : Room := { frames := 1, cells := 0, slots := 0, locals := 20 }
theorem k_J_length : Cond.code y_J_length b_J_length 1 (some .int) ∈ TB := (tb_3 (List.mem_of_getElem? (i := 43) rfl) rfl)
abbrev w_J_length : List Cond := Cond.code y_J_length b_J_length 1 (some .int) :: TB
abbrev b_J_isLatin1 : ByteArray := prog_15_method_154_code
def y_J_isLatin1 : MethodName := ⟨R_Str, "isLatin1", "()Z"⟩
def rm_J_isLatin1 : Room := { frames := 0, cells := 0, slots := 0, locals := 0 }
theorem k_J_isLatin1 : Cond.code y_J_isLatin1 b_J_isLatin1 1 (some .boolean) ∈ TB := (tb_3 (List.mem_of_getElem? (i := 57) rfl) rfl)
abbrev w_J_isLatin1 : List Cond := Cond.code y_J_isLatin1 b_J_isLatin1 1 (some .boolean) :: TB
abbrev b_J_pci : ByteArray := prog_19_method_11_code
def y_J_pci : MethodName := ⟨R_Pre, "checkIndex", "(IILjava/util/function/BiFunction;)I"⟩
def rm_J_pci : Room := { frames := 0, cells := 0, slots := 0, locals := 0 }
theorem k_J_pci : Cond.code y_J_pci b_J_pci 3 (some .int) ∈ TB := (tb_3 (List.mem_of_getElem? (i := 68) rfl) rfl)
abbrev w_J_pci : List Cond := Cond.code y_J_pci b_J_pci 3 (some .int) :: TB
abbrev b_J_checkIndex : ByteArray := prog_15_method_155_code
def y_J_checkIndex : MethodName := ⟨R_Str, "checkIndex", "(II)V"⟩
def rm_J_checkIndex : Room := { frames := 1, cells := 0, slots := 0, locals := 22 }
theorem k_J_checkIndex : Cond.code y_J_checkIndex b_J_checkIndex 2 none ∈ TB := (tb_3 (List.mem_of_getElem? (i := 63) rfl) rfl)
abbrev w_J_checkIndex : List Cond := Cond.code y_J_checkIndex b_J_checkIndex 2 none :: TB
abbrev b_J_lcharAt : ByteArray := prog_16_method_2_code
def y_J_lcharAt : MethodName := ⟨R_Lat, "charAt", "([BI)C"⟩
def rm_J_lcharAt : Room := { frames := 2, cells := 0, slots := 0, locals := 43 }
theorem k_J_lcharAt : Cond.code y_J_lcharAt b_J_lcharAt 2 (some .char) ∈ TB := (tb_3 (List.mem_of_getElem? (i := 60) rfl) rfl)
abbrev w_J_lcharAt : List Cond := Cond.code y_J_lcharAt b_J_lcharAt 2 (some .char) :: TB
abbrev b_J_charAt : ByteArray := prog_15_method_56_code
def y_J_charAt : MethodName := ⟨R_Str, "charAt", "(I)C"⟩
def rm_J_charAt : Room := { frames := 3, cells := 0, slots := 0, locals := 64 }
theorem k_J_charAt : Cond.code y_J_charAt b_J_charAt 2 (some .char) ∈ TB := (tb_3 (List.mem_of_getElem? (i := 53) rfl) rfl)
abbrev w_J_charAt : List Cond := Cond.code y_J_charAt b_J_charAt 2 (some .char) :: TB
abbrev b_K_Text_putAll : ByteArray := prog_9_method_4_code
def y_K_Text_putAll : MethodName := ⟨R_Text, "putAll", "(Ljava/lang/String;)V"⟩
def rm_K_Text_putAll : Room := { frames := 4, cells := 0, slots := 0, locals := 85 }
theorem k_K_Text_putAll : Cond.code y_K_Text_putAll b_K_Text_putAll 3 none ∈ TB := (tb_3 (List.mem_of_getElem? (i := 151) rfl) rfl)
abbrev w_K_Text_putAll : List Cond := Cond.code y_K_Text_putAll b_K_Text_putAll 3 none :: TB
abbrev b_K_Names_tellName : ByteArray := prog_4_method_3_code
def y_K_Names_tellName : MethodName := ⟨R_Names, "tellName", "(LShrinkForge$Text;I)V"⟩
def rm_K_Names_tellName : Room := { frames := 2, cells := 0, slots := 0, locals := 43 }
theorem k_K_Names_tellName : Cond.code y_K_Names_tellName b_K_Names_tellName 3 none ∈ TB := (tb_4 (List.mem_of_getElem? (i := 92) rfl) rfl)
abbrev w_K_Names_tellName : List Cond := Cond.code y_K_Names_tellName b_K_Names_tellName 3 none :: TB
abbrev b_K_SF_wordOf : ByteArray := prog_1_method_27_code
def y_K_SF_wordOf : MethodName := ⟨R_SF, "wordOf", "(I)I"⟩
def rm_K_SF_wordOf : Room := { frames := 0, cells := 0, slots := 0, locals := 0 }
theorem k_K_SF_wordOf : Cond.code y_K_SF_wordOf b_K_SF_wordOf 1 (some .int) ∈ TB := (tb_3 (List.mem_of_getElem? (i := 142) rfl) rfl)
abbrev w_K_SF_wordOf : List Cond := Cond.code y_K_SF_wordOf b_K_SF_wordOf 1 (some .int) :: TB
abbrev b_K_Text_putOldText : ByteArray := prog_9_method_6_code
def y_K_Text_putOldText : MethodName := ⟨R_Text, "putOldText", "(I)V"⟩
def rm_K_Text_putOldText : Room := { frames := 5, cells := 0, slots := 0, locals := 107 }
theorem k_K_Text_putOldText : Cond.code y_K_Text_putOldText b_K_Text_putOldText 2 none ∈ TB := (tb_3 (List.mem_of_getElem? (i := 146) rfl) rfl)
abbrev w_K_Text_putOldText : List Cond := Cond.code y_K_Text_putOldText b_K_Text_putOldText 2 none :: TB
abbrev b_K_SF_isMethod : ByteArray := prog_1_method_29_code
def y_K_SF_isMethod : MethodName := ⟨R_SF, "isMethod", "(I)Z"⟩
def rm_K_SF_isMethod : Room := { frames := 0, cells := 0, slots := 0, locals := 0 }
theorem k_K_SF_isMethod : Cond.code y_K_SF_isMethod b_K_SF_isMethod 1 (some .boolean) ∈ TB := (tb_3 (List.mem_of_getElem? (i := 157) rfl) rfl)
abbrev w_K_SF_isMethod : List Cond := Cond.code y_K_SF_isMethod b_K_SF_isMethod 1 (some .boolean) :: TB
abbrev b_K_SF_shapeOf : ByteArray := prog_1_method_28_code
def y_K_SF_shapeOf : MethodName := ⟨R_SF, "shapeOf", "(I)I"⟩
def rm_K_SF_shapeOf : Room := { frames := 0, cells := 0, slots := 0, locals := 0 }
theorem k_K_SF_shapeOf : Cond.code y_K_SF_shapeOf b_K_SF_shapeOf 1 (some .int) ∈ TB := (tb_4 (List.mem_of_getElem? (i := 68) rfl) rfl)
abbrev w_K_SF_shapeOf : List Cond := Cond.code y_K_SF_shapeOf b_K_SF_shapeOf 1 (some .int) :: TB
abbrev b_K_Names_tellText : ByteArray := prog_4_method_4_code
def y_K_Names_tellText : MethodName := ⟨R_Names, "tellText", "(LShrinkForge$Text;I)V"⟩
def rm_K_Names_tellText : Room := { frames := 6, cells := 0, slots := 0, locals := 128 }
theorem k_K_Names_tellText : Cond.code y_K_Names_tellText b_K_Names_tellText 3 none ∈ TB := (tb_4 (List.mem_of_getElem? (i := 85) rfl) rfl)
abbrev w_K_Names_tellText : List Cond := Cond.code y_K_Names_tellText b_K_Names_tellText 3 none :: TB
abbrev b_K_Mapping_writeMember : ByteArray := prog_2_method_4_code
def y_K_Mapping_writeMember : MethodName := ⟨R_Mapping, "writeMember", "(I)V"⟩
def rm_K_Mapping_writeMember : Room := { frames := 7, cells := 0, slots := 0, locals := 150 }
theorem k_K_Mapping_writeMember : Cond.code y_K_Mapping_writeMember b_K_Mapping_writeMember 2 none ∈ TB := (tb_4 (List.mem_of_getElem? (i := 121) rfl) rfl)
abbrev w_K_Mapping_writeMember : List Cond := Cond.code y_K_Mapping_writeMember b_K_Mapping_writeMember 2 none :: TB
abbrev b_K_Mapping_writeClass : ByteArray := prog_2_method_3_code
def y_K_Mapping_writeClass : MethodName := ⟨R_Mapping, "writeClass", "(I)V"⟩
def rm_K_Mapping_writeClass : Room := { frames := 8, cells := 0, slots := 0, locals := 171 }
theorem k_K_Mapping_writeClass : Cond.code y_K_Mapping_writeClass b_K_Mapping_writeClass 3 none ∈ TB := (tb_4 (List.mem_of_getElem? (i := 112) rfl) rfl)
abbrev w_K_Mapping_writeClass : List Cond := Cond.code y_K_Mapping_writeClass b_K_Mapping_writeClass 3 none :: TB
abbrev b_K_Mapping_write : ByteArray := prog_2_method_2_code
def y_K_Mapping_write : MethodName := ⟨R_Mapping, "write", "()V"⟩
def rm_K_Mapping_write : Room := { frames := 9, cells := 0, slots := 0, locals := 193 }
theorem k_K_Mapping_write : Cond.code y_K_Mapping_write b_K_Mapping_write 2 none ∈ TB := (tb_4 (List.mem_of_getElem? (i := 106) rfl) rfl)
abbrev w_K_Mapping_write : List Cond := Cond.code y_K_Mapping_write b_K_Mapping_write 2 none :: TB
abbrev b_J_fill : ByteArray := prog_18_method_103_code
def y_J_fill : MethodName := ⟨R_Arr, "fill", "([II)V"⟩
def rm_J_fill : Room := { frames := 0, cells := 0, slots := 0, locals := 0 }
theorem k_J_fill : Cond.code y_J_fill b_J_fill 4 none ∈ TB := (tb_1 (List.mem_of_getElem? (i := 117) rfl) rfl)
abbrev w_J_fill : List Cond := Cond.code y_J_fill b_J_fill 4 none :: TB
abbrev b_K_SF_bit : ByteArray := prog_1_method_24_code
def y_K_SF_bit : MethodName := ⟨R_SF, "bit", "(I)J"⟩
def rm_K_SF_bit : Room := { frames := 0, cells := 0, slots := 0, locals := 0 }
theorem k_K_SF_bit : Cond.code y_K_SF_bit b_K_SF_bit 1 (some .long) ∈ TB := (tb_1 (List.mem_of_getElem? (i := 39) rfl) rfl)
abbrev w_K_SF_bit : List Cond := Cond.code y_K_SF_bit b_K_SF_bit 1 (some .long) :: TB
abbrev b_K_Members_add : ByteArray := prog_3_method_3_code
def y_K_Members_add : MethodName := ⟨R_Members, "add", "(III)I"⟩
def rm_K_Members_add : Room := { frames := 1, cells := 0, slots := 0, locals := 20 }
theorem k_K_Members_add : Cond.code y_K_Members_add b_K_Members_add 5 (some .int) ∈ TB := (tb_1 (List.mem_of_getElem? (i := 121) rfl) rfl)
abbrev w_K_Members_add : List Cond := Cond.code y_K_Members_add b_K_Members_add 5 (some .int) :: TB
abbrev b_K_Members_reset : ByteArray := prog_3_method_2_code
def y_K_Members_reset : MethodName := ⟨R_Members, "reset", "()V"⟩
def rm_K_Members_reset : Room := { frames := 2, cells := 0, slots := 0, locals := 44 }
theorem k_K_Members_reset : Cond.code y_K_Members_reset b_K_Members_reset 1 none ∈ TB := (tb_1 (List.mem_of_getElem? (i := 114) rfl) rfl)
abbrev w_K_Members_reset : List Cond := Cond.code y_K_Members_reset b_K_Members_reset 1 none :: TB
abbrev b_K_Members_discard : ByteArray := prog_3_method_4_code
def y_K_Members_discard : MethodName := ⟨R_Members, "discard", "(I)V"⟩
def rm_K_Members_discard : Room := { frames := 1, cells := 0, slots := 0, locals := 20 }
theorem k_K_Members_discard : Cond.code y_K_Members_discard b_K_Members_discard 2 none ∈ TB := (tb_2 (List.mem_of_getElem? (i := 216) rfl) rfl)
abbrev w_K_Members_discard : List Cond := Cond.code y_K_Members_discard b_K_Members_discard 2 none :: TB
abbrev b_K_Members_isAlive : ByteArray := prog_3_method_6_code
def y_K_Members_isAlive : MethodName := ⟨R_Members, "isAlive", "(I)Z"⟩
def rm_K_Members_isAlive : Room := { frames := 1, cells := 0, slots := 0, locals := 22 }
theorem k_K_Members_isAlive : Cond.code y_K_Members_isAlive b_K_Members_isAlive 2 (some .boolean) ∈ TB := (tb_2 (List.mem_of_getElem? (i := 211) rfl) rfl)
abbrev w_K_Members_isAlive : List Cond := Cond.code y_K_Members_isAlive b_K_Members_isAlive 2 (some .boolean) :: TB
abbrev b_K_Members_discardAllOf : ByteArray := prog_3_method_5_code
def y_K_Members_discardAllOf : MethodName := ⟨R_Members, "discardAllOf", "(I)V"⟩
def rm_K_Members_discardAllOf : Room := { frames := 2, cells := 0, slots := 0, locals := 43 }
theorem k_K_Members_discardAllOf : Cond.code y_K_Members_discardAllOf b_K_Members_discardAllOf 3 none ∈ TB := (tb_2 (List.mem_of_getElem? (i := 207) rfl) rfl)
abbrev w_K_Members_discardAllOf : List Cond := Cond.code y_K_Members_discardAllOf b_K_Members_discardAllOf 3 none :: TB
abbrev b_K_Members_hasFlag : ByteArray := prog_3_method_7_code
def y_K_Members_hasFlag : MethodName := ⟨R_Members, "hasFlag", "(II)Z"⟩
def rm_K_Members_hasFlag : Room := { frames := 0, cells := 0, slots := 0, locals := 0 }
theorem k_K_Members_hasFlag : Cond.code y_K_Members_hasFlag b_K_Members_hasFlag 3 (some .boolean) ∈ TB := (tb_3 (List.mem_of_getElem? (i := 3) rfl) rfl)
abbrev w_K_Members_hasFlag : List Cond := Cond.code y_K_Members_hasFlag b_K_Members_hasFlag 3 (some .boolean) :: TB
abbrev b_K_Members_at : ByteArray := prog_3_method_8_code
def y_K_Members_at : MethodName := ⟨R_Members, "at", "(II)I"⟩
def rm_K_Members_at : Room := { frames := 0, cells := 0, slots := 0, locals := 0 }
theorem k_K_Members_at : Cond.code y_K_Members_at b_K_Members_at 3 (some .int) ∈ TB := (tb_2 (List.mem_of_getElem? (i := 228) rfl) rfl)
abbrev w_K_Members_at : List Cond := Cond.code y_K_Members_at b_K_Members_at 3 (some .int) :: TB
abbrev b_K_Members_leastOfFaces : ByteArray := prog_3_method_10_code
def y_K_Members_leastOfFaces : MethodName := ⟨R_Members, "leastOfFaces", "(JIJ)I"⟩
def rm_K_Members_leastOfFaces : Room := { frames := 1, cells := 0, slots := 0, locals := 22 }
theorem k_K_Members_leastOfFaces : Cond.code y_K_Members_leastOfFaces b_K_Members_leastOfFaces 9 (some .int) ∈ TB := (tb_4 (List.mem_of_getElem? (i := 5) rfl) rfl)
abbrev w_K_Members_leastOfFaces : List Cond := Cond.code y_K_Members_leastOfFaces b_K_Members_leastOfFaces 9 (some .int) :: TB
abbrev b_K_Members_find : ByteArray := prog_3_method_9_code
def y_K_Members_find : MethodName := ⟨R_Members, "find", "(IIJ)I"⟩
def rm_K_Members_find : Room := { frames := 2, cells := 0, slots := 0, locals := 50 }
theorem k_K_Members_find : Cond.code y_K_Members_find b_K_Members_find 6 (some .int) ∈ TB := (tb_4 (List.mem_of_getElem? (i := 0) rfl) rfl)
abbrev w_K_Members_find : List Cond := Cond.code y_K_Members_find b_K_Members_find 6 (some .int) :: TB
abbrev b_K_SF_signature : ByteArray := prog_1_method_26_code
def y_K_SF_signature : MethodName := ⟨R_SF, "signature", "(ZII)I"⟩
def rm_K_SF_signature : Room := { frames := 0, cells := 0, slots := 0, locals := 0 }
theorem k_K_SF_signature : Cond.code y_K_SF_signature b_K_SF_signature 3 (some .int) ∈ TB := (tb_2 (List.mem_of_getElem? (i := 224) rfl) rfl)
abbrev w_K_SF_signature : List Cond := Cond.code y_K_SF_signature b_K_SF_signature 3 (some .int) :: TB
abbrev b_K_Names_keepWhatTheLibraryKnows : ByteArray := prog_4_method_5_code
def y_K_Names_keepWhatTheLibraryKnows : MethodName := ⟨R_Names, "keepWhatTheLibraryKnows", "()V"⟩
def rm_K_Names_keepWhatTheLibraryKnows : Room := { frames := 1, cells := 0, slots := 0, locals := 22 }
theorem k_K_Names_keepWhatTheLibraryKnows : Cond.code y_K_Names_keepWhatTheLibraryKnows b_K_Names_keepWhatTheLibraryKnows 2 none ∈ TB := (tb_4 (List.mem_of_getElem? (i := 30) rfl) rfl)
abbrev w_K_Names_keepWhatTheLibraryKnows : List Cond := Cond.code y_K_Names_keepWhatTheLibraryKnows b_K_Names_keepWhatTheLibraryKnows 2 none :: TB
abbrev b_K_Needs_ofNeededClasses : ByteArray := prog_5_method_8_code
def y_K_Needs_ofNeededClasses : MethodName := ⟨R_Needs, "ofNeededClasses", "(J)J"⟩
def rm_K_Needs_ofNeededClasses : Room := { frames := 1, cells := 0, slots := 0, locals := 22 }
theorem k_K_Needs_ofNeededClasses : Cond.code y_K_Needs_ofNeededClasses b_K_Needs_ofNeededClasses 6 (some .long) ∈ TB := (tb_3 (List.mem_of_getElem? (i := 222) rfl) rfl)
abbrev w_K_Needs_ofNeededClasses : List Cond := Cond.code y_K_Needs_ofNeededClasses b_K_Needs_ofNeededClasses 6 (some .long) :: TB
abbrev b_K_Names_signaturesOf : ByteArray := prog_4_method_6_code
def y_K_Names_signaturesOf : MethodName := ⟨R_Names, "signaturesOf", "(J)J"⟩
def rm_K_Names_signaturesOf : Room := { frames := 1, cells := 0, slots := 0, locals := 22 }
theorem k_K_Names_signaturesOf : Cond.code y_K_Names_signaturesOf b_K_Names_signaturesOf 6 (some .long) ∈ TB := (tb_4 (List.mem_of_getElem? (i := 37) rfl) rfl)
abbrev w_K_Names_signaturesOf : List Cond := Cond.code y_K_Names_signaturesOf b_K_Names_signaturesOf 6 (some .long) :: TB
abbrev b_K_Names_giveNames : ByteArray := prog_4_method_7_code
def y_K_Names_giveNames : MethodName := ⟨R_Names, "giveNames", "()V"⟩
def rm_K_Names_giveNames : Room := { frames := 1, cells := 0, slots := 0, locals := 22 }
theorem k_K_Names_giveNames : Cond.code y_K_Names_giveNames b_K_Names_giveNames 3 none ∈ TB := (tb_4 (List.mem_of_getElem? (i := 42) rfl) rfl)
abbrev w_K_Names_giveNames : List Cond := Cond.code y_K_Names_giveNames b_K_Names_giveNames 3 none :: TB
abbrev b_K_Names_giveTextsOf : ByteArray := prog_4_method_9_code
def y_K_Names_giveTextsOf : MethodName := ⟨R_Names, "giveTextsOf", "(JZI)V"⟩
def rm_K_Names_giveTextsOf : Room := { frames := 1, cells := 0, slots := 0, locals := 22 }
theorem k_K_Names_giveTextsOf : Cond.code y_K_Names_giveTextsOf b_K_Names_giveTextsOf 8 none ∈ TB := (tb_4 (List.mem_of_getElem? (i := 51) rfl) rfl)
abbrev w_K_Names_giveTextsOf : List Cond := Cond.code y_K_Names_giveTextsOf b_K_Names_giveTextsOf 8 none :: TB
abbrev b_K_Names_giveTexts : ByteArray := prog_4_method_8_code
def y_K_Names_giveTexts : MethodName := ⟨R_Names, "giveTexts", "()V"⟩
def rm_K_Names_giveTexts : Room := { frames := 2, cells := 0, slots := 0, locals := 49 }
theorem k_K_Names_giveTexts : Cond.code y_K_Names_giveTexts b_K_Names_giveTexts 4 none ∈ TB := (tb_4 (List.mem_of_getElem? (i := 47) rfl) rfl)
abbrev w_K_Names_giveTexts : List Cond := Cond.code y_K_Names_giveTexts b_K_Names_giveTexts 4 none :: TB
abbrev b_K_Names_work : ByteArray := prog_4_method_2_code
def y_K_Names_work : MethodName := ⟨R_Names, "work", "()V"⟩
def rm_K_Names_work : Room := { frames := 3, cells := 0, slots := 0, locals := 72 }
theorem k_K_Names_work : Cond.code y_K_Names_work b_K_Names_work 4 none ∈ TB := (tb_4 (List.mem_of_getElem? (i := 26) rfl) rfl)
abbrev w_K_Names_work : List Cond := Cond.code y_K_Names_work b_K_Names_work 4 none :: TB
abbrev b_K_Needs_addKept : ByteArray := prog_5_method_6_code
def y_K_Needs_addKept : MethodName := ⟨R_Needs, "addKept", "()V"⟩
def rm_K_Needs_addKept : Room := { frames := 0, cells := 0, slots := 0, locals := 0 }
theorem k_K_Needs_addKept : Cond.code y_K_Needs_addKept b_K_Needs_addKept 2 none ∈ TB := (tb_3 (List.mem_of_getElem? (i := 204) rfl) rfl)
abbrev w_K_Needs_addKept : List Cond := Cond.code y_K_Needs_addKept b_K_Needs_addKept 2 none :: TB
abbrev b_J_bitCount : ByteArray := prog_13_method_50_code
def y_J_bitCount : MethodName := ⟨R_Long, "bitCount", "(J)I"⟩
def rm_J_bitCount : Room := { frames := 0, cells := 0, slots := 0, locals := 0 }
theorem k_J_bitCount : Cond.code y_J_bitCount b_J_bitCount 2 (some .int) ∈ TB := (tb_3 (List.mem_of_getElem? (i := 211) rfl) rfl)
abbrev w_J_bitCount : List Cond := Cond.code y_J_bitCount b_J_bitCount 2 (some .int) :: TB
abbrev b_K_Needs_size : ByteArray := prog_5_method_5_code
def y_K_Needs_size : MethodName := ⟨R_Needs, "size", "()I"⟩
def rm_K_Needs_size : Room := { frames := 1, cells := 0, slots := 0, locals := 21 }
theorem k_K_Needs_size : Cond.code y_K_Needs_size b_K_Needs_size 1 (some .int) ∈ TB := (tb_3 (List.mem_of_getElem? (i := 208) rfl) rfl)
abbrev w_K_Needs_size : List Cond := Cond.code y_K_Needs_size b_K_Needs_size 1 (some .int) :: TB
abbrev b_K_Needs_addByKeepMembers : ByteArray := prog_5_method_7_code
def y_K_Needs_addByKeepMembers : MethodName := ⟨R_Needs, "addByKeepMembers", "()V"⟩
def rm_K_Needs_addByKeepMembers : Room := { frames := 2, cells := 0, slots := 0, locals := 47 }
theorem k_K_Needs_addByKeepMembers : Cond.code y_K_Needs_addByKeepMembers b_K_Needs_addByKeepMembers 2 none ∈ TB := (tb_3 (List.mem_of_getElem? (i := 218) rfl) rfl)
abbrev w_K_Needs_addByKeepMembers : List Cond := Cond.code y_K_Needs_addByKeepMembers b_K_Needs_addByKeepMembers 2 none :: TB
abbrev b_K_Needs_addByMembers : ByteArray := prog_5_method_10_code
def y_K_Needs_addByMembers : MethodName := ⟨R_Needs, "addByMembers", "()V"⟩
def rm_K_Needs_addByMembers : Room := { frames := 1, cells := 0, slots := 0, locals := 22 }
theorem k_K_Needs_addByMembers : Cond.code y_K_Needs_addByMembers b_K_Needs_addByMembers 2 none ∈ TB := (tb_3 (List.mem_of_getElem? (i := 228) rfl) rfl)
abbrev w_K_Needs_addByMembers : List Cond := Cond.code y_K_Needs_addByMembers b_K_Needs_addByMembers 2 none :: TB
abbrev b_K_Needs_addFound : ByteArray := prog_5_method_12_code
def y_K_Needs_addFound : MethodName := ⟨R_Needs, "addFound", "(II)V"⟩
def rm_K_Needs_addFound : Room := { frames := 3, cells := 0, slots := 0, locals := 75 }
theorem k_K_Needs_addFound : Cond.code y_K_Needs_addFound b_K_Needs_addFound 4 none ∈ TB := (tb_3 (List.mem_of_getElem? (i := 236) rfl) rfl)
abbrev w_K_Needs_addFound : List Cond := Cond.code y_K_Needs_addFound b_K_Needs_addFound 4 none :: TB
abbrev b_K_Types_isUnder : ByteArray := prog_10_method_6_code
def y_K_Types_isUnder : MethodName := ⟨R_Types, "isUnder", "(II)Z"⟩
def rm_K_Types_isUnder : Room := { frames := 1, cells := 0, slots := 0, locals := 22 }
theorem k_K_Types_isUnder : Cond.code y_K_Types_isUnder b_K_Types_isUnder 3 (some .boolean) ∈ TB := (tb_4 (List.mem_of_getElem? (i := 17) rfl) rfl)
abbrev w_K_Types_isUnder : List Cond := Cond.code y_K_Types_isUnder b_K_Types_isUnder 3 (some .boolean) :: TB
abbrev b_K_Needs_addSelected : ByteArray := prog_5_method_13_code
def y_K_Needs_addSelected : MethodName := ⟨R_Needs, "addSelected", "(II)V"⟩
def rm_K_Needs_addSelected : Room := { frames := 3, cells := 0, slots := 0, locals := 75 }
theorem k_K_Needs_addSelected : Cond.code y_K_Needs_addSelected b_K_Needs_addSelected 5 none ∈ TB := (tb_4 (List.mem_of_getElem? (i := 13) rfl) rfl)
abbrev w_K_Needs_addSelected : List Cond := Cond.code y_K_Needs_addSelected b_K_Needs_addSelected 5 none :: TB
abbrev b_K_Needs_addByReferences : ByteArray := prog_5_method_11_code
def y_K_Needs_addByReferences : MethodName := ⟨R_Needs, "addByReferences", "()V"⟩
def rm_K_Needs_addByReferences : Room := { frames := 4, cells := 0, slots := 0, locals := 99 }
theorem k_K_Needs_addByReferences : Cond.code y_K_Needs_addByReferences b_K_Needs_addByReferences 4 none ∈ TB := (tb_3 (List.mem_of_getElem? (i := 232) rfl) rfl)
abbrev w_K_Needs_addByReferences : List Cond := Cond.code y_K_Needs_addByReferences b_K_Needs_addByReferences 4 none :: TB
abbrev b_K_Needs_addByClasses : ByteArray := prog_5_method_9_code
def y_K_Needs_addByClasses : MethodName := ⟨R_Needs, "addByClasses", "()V"⟩
def rm_K_Needs_addByClasses : Room := { frames := 1, cells := 0, slots := 0, locals := 22 }
theorem k_K_Needs_addByClasses : Cond.code y_K_Needs_addByClasses b_K_Needs_addByClasses 3 none ∈ TB := (tb_4 (List.mem_of_getElem? (i := 21) rfl) rfl)
abbrev w_K_Needs_addByClasses : List Cond := Cond.code y_K_Needs_addByClasses b_K_Needs_addByClasses 3 none :: TB
abbrev b_K_Needs_work : ByteArray := prog_5_method_2_code
def y_K_Needs_work : MethodName := ⟨R_Needs, "work", "()V"⟩
def rm_K_Needs_work : Room := { frames := 5, cells := 0, slots := 0, locals := 122 }
theorem k_K_Needs_work : Cond.code y_K_Needs_work b_K_Needs_work 3 none ∈ TB := (tb_3 (List.mem_of_getElem? (i := 199) rfl) rfl)
abbrev w_K_Needs_work : List Cond := Cond.code y_K_Needs_work b_K_Needs_work 3 none :: TB
abbrev b_K_SF_asNumber : ByteArray := prog_1_method_23_code
def y_K_SF_asNumber : MethodName := ⟨R_SF, "asNumber", "(Z)I"⟩
def rm_K_SF_asNumber : Room := { frames := 0, cells := 0, slots := 0, locals := 0 }
theorem k_K_SF_asNumber : Cond.code y_K_SF_asNumber b_K_SF_asNumber 1 (some .int) ∈ TB := (tb_4 (List.mem_of_getElem? (i := 55) rfl) rfl)
abbrev w_K_SF_asNumber : List Cond := Cond.code y_K_SF_asNumber b_K_SF_asNumber 1 (some .int) :: TB
abbrev b_K_Needs_countReferences : ByteArray := prog_5_method_3_code
def y_K_Needs_countReferences : MethodName := ⟨R_Needs, "countReferences", "()I"⟩
def rm_K_Needs_countReferences : Room := { frames := 1, cells := 0, slots := 0, locals := 22 }
theorem k_K_Needs_countReferences : Cond.code y_K_Needs_countReferences b_K_Needs_countReferences 3 (some .int) ∈ TB := (tb_4 (List.mem_of_getElem? (i := 151) rfl) rfl)
abbrev w_K_Needs_countReferences : List Cond := Cond.code y_K_Needs_countReferences b_K_Needs_countReferences 3 (some .int) :: TB
abbrev b_K_Types_isThere : ByteArray := prog_10_method_5_code
def y_K_Types_isThere : MethodName := ⟨R_Types, "isThere", "(I)Z"⟩
def rm_K_Types_isThere : Room := { frames := 1, cells := 0, slots := 0, locals := 22 }
theorem k_K_Types_isThere : Cond.code y_K_Types_isThere b_K_Types_isThere 2 (some .boolean) ∈ TB := (tb_1 (List.mem_of_getElem? (i := 47) rfl) rfl)
abbrev w_K_Types_isThere : List Cond := Cond.code y_K_Types_isThere b_K_Types_isThere 2 (some .boolean) :: TB
abbrev b_K_Needs_countMisses : ByteArray := prog_5_method_4_code
def y_K_Needs_countMisses : MethodName := ⟨R_Needs, "countMisses", "()I"⟩
def rm_K_Needs_countMisses : Room := { frames := 3, cells := 0, slots := 0, locals := 75 }
theorem k_K_Needs_countMisses : Cond.code y_K_Needs_countMisses b_K_Needs_countMisses 4 (some .int) ∈ TB := (tb_4 (List.mem_of_getElem? (i := 156) rfl) rfl)
abbrev w_K_Needs_countMisses : List Cond := Cond.code y_K_Needs_countMisses b_K_Needs_countMisses 4 (some .int) :: TB
abbrev b_K_References_add : ByteArray := prog_6_method_2_code
def y_K_References_add : MethodName := ⟨R_References, "add", "(IIII)I"⟩
def rm_K_References_add : Room := { frames := 0, cells := 0, slots := 0, locals := 0 }
theorem k_K_References_add : Cond.code y_K_References_add b_K_References_add 5 (some .int) ∈ TB := (tb_3 (List.mem_of_getElem? (i := 10) rfl) rfl)
abbrev w_K_References_add : List Cond := Cond.code y_K_References_add b_K_References_add 5 (some .int) :: TB
abbrev b_K_RuleBook_add : ByteArray := prog_7_method_2_code
def y_K_RuleBook_add : MethodName := ⟨R_RuleBook, "add", "(LShrinkForge$RuleReader;)I"⟩
def rm_K_RuleBook_add : Room := { frames := 0, cells := 0, slots := 0, locals := 0 }
theorem k_K_RuleBook_add : Cond.code y_K_RuleBook_add b_K_RuleBook_add 2 (some .int) ∈ TB := (tb_3 (List.mem_of_getElem? (i := 162) rfl) rfl)
abbrev w_K_RuleBook_add : List Cond := Cond.code y_K_RuleBook_add b_K_RuleBook_add 2 (some .int) :: TB
abbrev b_K_RuleBook_classesNamed : ByteArray := prog_7_method_6_code
def y_K_RuleBook_classesNamed : MethodName := ⟨R_RuleBook, "classesNamed", "(JLShrinkForge$Types;)J"⟩
def rm_K_RuleBook_classesNamed : Room := { frames := 1, cells := 0, slots := 0, locals := 22 }
theorem k_K_RuleBook_classesNamed : Cond.code y_K_RuleBook_classesNamed b_K_RuleBook_classesNamed 6 (some .long) ∈ TB := (tb_3 (List.mem_of_getElem? (i := 188) rfl) rfl)
abbrev w_K_RuleBook_classesNamed : List Cond := Cond.code y_K_RuleBook_classesNamed b_K_RuleBook_classesNamed 6 (some .long) :: TB
abbrev b_K_RuleBook_classesAbout : ByteArray := prog_7_method_5_code
def y_K_RuleBook_classesAbout : MethodName := ⟨R_RuleBook, "classesAbout", "(ILShrinkForge$Types;)J"⟩
def rm_K_RuleBook_classesAbout : Room := { frames := 2, cells := 0, slots := 0, locals := 47 }
theorem k_K_RuleBook_classesAbout : Cond.code y_K_RuleBook_classesAbout b_K_RuleBook_classesAbout 8 (some .long) ∈ TB := (tb_3 (List.mem_of_getElem? (i := 185) rfl) rfl)
abbrev w_K_RuleBook_classesAbout : List Cond := Cond.code y_K_RuleBook_classesAbout b_K_RuleBook_classesAbout 8 (some .long) :: TB
abbrev b_K_RuleBook_membersMeant : ByteArray := prog_7_method_7_code
def y_K_RuleBook_membersMeant : MethodName := ⟨R_RuleBook, "membersMeant", "(ILShrinkForge$Members;)J"⟩
def rm_K_RuleBook_membersMeant : Room := { frames := 1, cells := 0, slots := 0, locals := 22 }
theorem k_K_RuleBook_membersMeant : Cond.code y_K_RuleBook_membersMeant b_K_RuleBook_membersMeant 6 (some .long) ∈ TB := (tb_3 (List.mem_of_getElem? (i := 195) rfl) rfl)
abbrev w_K_RuleBook_membersMeant : List Cond := Cond.code y_K_RuleBook_membersMeant b_K_RuleBook_membersMeant 6 (some .long) :: TB
abbrev b_K_RuleBook_look : ByteArray := prog_7_method_3_code
def y_K_RuleBook_look : MethodName := ⟨R_RuleBook, "look", "(LShrinkForge$Types;LShrinkForge$Members;)V"⟩
def rm_K_RuleBook_look : Room := { frames := 3, cells := 0, slots := 0, locals := 74 }
theorem k_K_RuleBook_look : Cond.code y_K_RuleBook_look b_K_RuleBook_look 4 none ∈ TB := (tb_3 (List.mem_of_getElem? (i := 181) rfl) rfl)
abbrev w_K_RuleBook_look : List Cond := Cond.code y_K_RuleBook_look b_K_RuleBook_look 4 none :: TB
abbrev b_K_RuleBook_greatestAbout : ByteArray := prog_7_method_4_code
def y_K_RuleBook_greatestAbout : MethodName := ⟨R_RuleBook, "greatestAbout", "(I)I"⟩
def rm_K_RuleBook_greatestAbout : Room := { frames := 1, cells := 0, slots := 0, locals := 22 }
theorem k_K_RuleBook_greatestAbout : Cond.code y_K_RuleBook_greatestAbout b_K_RuleBook_greatestAbout 3 (some .int) ∈ TB := (tb_4 (List.mem_of_getElem? (i := 60) rfl) rfl)
abbrev w_K_RuleBook_greatestAbout : List Cond := Cond.code y_K_RuleBook_greatestAbout b_K_RuleBook_greatestAbout 3 (some .int) :: TB
abbrev b_K_RuleReader_cut : ByteArray := prog_8_method_3_code
def y_K_RuleReader_cut : MethodName := ⟨R_RuleReader, "cut", "()V"⟩
def rm_K_RuleReader_cut : Room := { frames := 0, cells := 0, slots := 0, locals := 0 }
theorem k_K_RuleReader_cut : Cond.code y_K_RuleReader_cut b_K_RuleReader_cut 3 none ∈ TB := (tb_3 (List.mem_of_getElem? (i := 30) rfl) rfl)
abbrev w_K_RuleReader_cut : List Cond := Cond.code y_K_RuleReader_cut b_K_RuleReader_cut 3 none :: TB
abbrev b_K_RuleReader_reads : ByteArray := prog_8_method_6_code
def y_K_RuleReader_reads : MethodName := ⟨R_RuleReader, "reads", "(ILjava/lang/String;)Z"⟩
def rm_K_RuleReader_reads : Room := { frames := 4, cells := 0, slots := 0, locals := 85 }
theorem k_K_RuleReader_reads : Cond.code y_K_RuleReader_reads b_K_RuleReader_reads 4 (some .boolean) ∈ TB := (tb_3 (List.mem_of_getElem? (i := 39) rfl) rfl)
abbrev w_K_RuleReader_reads : List Cond := Cond.code y_K_RuleReader_reads b_K_RuleReader_reads 4 (some .boolean) :: TB
abbrev b_K_RuleReader_sortOfRule : ByteArray := prog_8_method_4_code
def y_K_RuleReader_sortOfRule : MethodName := ⟨R_RuleReader, "sortOfRule", "()I"⟩
def rm_K_RuleReader_sortOfRule : Room := { frames := 5, cells := 0, slots := 0, locals := 108 }
theorem k_K_RuleReader_sortOfRule : Cond.code y_K_RuleReader_sortOfRule b_K_RuleReader_sortOfRule 1 (some .int) ∈ TB := (tb_3 (List.mem_of_getElem? (i := 34) rfl) rfl)
abbrev w_K_RuleReader_sortOfRule : List Cond := Cond.code y_K_RuleReader_sortOfRule b_K_RuleReader_sortOfRule 1 (some .int) :: TB
abbrev b_K_RuleReader_isPattern : ByteArray := prog_8_method_8_code
def y_K_RuleReader_isPattern : MethodName := ⟨R_RuleReader, "isPattern", "(II)Z"⟩
def rm_K_RuleReader_isPattern : Room := { frames := 0, cells := 0, slots := 0, locals := 0 }
theorem k_K_RuleReader_isPattern : Cond.code y_K_RuleReader_isPattern b_K_RuleReader_isPattern 5 (some .boolean) ∈ TB := (tb_3 (List.mem_of_getElem? (i := 94) rfl) rfl)
abbrev w_K_RuleReader_isPattern : List Cond := Cond.code y_K_RuleReader_isPattern b_K_RuleReader_isPattern 5 (some .boolean) :: TB
abbrev b_K_RuleReader_afterOne : ByteArray := prog_8_method_12_code
def y_K_RuleReader_afterOne : MethodName := ⟨R_RuleReader, "afterOne", "(IC)I"⟩
def rm_K_RuleReader_afterOne : Room := { frames := 0, cells := 0, slots := 0, locals := 0 }
theorem k_K_RuleReader_afterOne : Cond.code y_K_RuleReader_afterOne b_K_RuleReader_afterOne 7 (some .int) ∈ TB := (tb_3 (List.mem_of_getElem? (i := 116) rfl) rfl)
abbrev w_K_RuleReader_afterOne : List Cond := Cond.code y_K_RuleReader_afterOne b_K_RuleReader_afterOne 7 (some .int) :: TB
abbrev b_K_RuleReader_afterMany : ByteArray := prog_8_method_13_code
def y_K_RuleReader_afterMany : MethodName := ⟨R_RuleReader, "afterMany", "(IZ)I"⟩
def rm_K_RuleReader_afterMany : Room := { frames := 0, cells := 0, slots := 0, locals := 0 }
theorem k_K_RuleReader_afterMany : Cond.code y_K_RuleReader_afterMany b_K_RuleReader_afterMany 5 (some .int) ∈ TB := (tb_3 (List.mem_of_getElem? (i := 120) rfl) rfl)
abbrev w_K_RuleReader_afterMany : List Cond := Cond.code y_K_RuleReader_afterMany b_K_RuleReader_afterMany 5 (some .int) :: TB
abbrev b_K_RuleReader_fits : ByteArray := prog_8_method_11_code
def y_K_RuleReader_fits : MethodName := ⟨R_RuleReader, "fits", "(II)Z"⟩
def rm_K_RuleReader_fits : Room := { frames := 1, cells := 0, slots := 0, locals := 26 }
theorem k_K_RuleReader_fits : Cond.code y_K_RuleReader_fits b_K_RuleReader_fits 5 (some .boolean) ∈ TB := (tb_3 (List.mem_of_getElem? (i := 112) rfl) rfl)
abbrev w_K_RuleReader_fits : List Cond := Cond.code y_K_RuleReader_fits b_K_RuleReader_fits 5 (some .boolean) :: TB
abbrev b_K_RuleReader_namesThatFit : ByteArray := prog_8_method_9_code
def y_K_RuleReader_namesThatFit : MethodName := ⟨R_RuleReader, "namesThatFit", "(I)J"⟩
def rm_K_RuleReader_namesThatFit : Room := { frames := 2, cells := 0, slots := 0, locals := 50 }
theorem k_K_RuleReader_namesThatFit : Cond.code y_K_RuleReader_namesThatFit b_K_RuleReader_namesThatFit 5 (some .long) ∈ TB := (tb_3 (List.mem_of_getElem? (i := 99) rfl) rfl)
abbrev w_K_RuleReader_namesThatFit : List Cond := Cond.code y_K_RuleReader_namesThatFit b_K_RuleReader_namesThatFit 5 (some .long) :: TB
abbrev b_K_RuleReader_endsClause : ByteArray := prog_8_method_7_code
def y_K_RuleReader_endsClause : MethodName := ⟨R_RuleReader, "endsClause", "(I)Z"⟩
def rm_K_RuleReader_endsClause : Room := { frames := 0, cells := 0, slots := 0, locals := 0 }
theorem k_K_RuleReader_endsClause : Cond.code y_K_RuleReader_endsClause b_K_RuleReader_endsClause 2 (some .boolean) ∈ TB := (tb_3 (List.mem_of_getElem? (i := 135) rfl) rfl)
abbrev w_K_RuleReader_endsClause : List Cond := Cond.code y_K_RuleReader_endsClause b_K_RuleReader_endsClause 2 (some .boolean) :: TB
abbrev b_K_RuleReader_textsThatFit : ByteArray := prog_8_method_10_code
def y_K_RuleReader_textsThatFit : MethodName := ⟨R_RuleReader, "textsThatFit", "(I)J"⟩
def rm_K_RuleReader_textsThatFit : Room := { frames := 6, cells := 0, slots := 0, locals := 128 }
theorem k_K_RuleReader_textsThatFit : Cond.code y_K_RuleReader_textsThatFit b_K_RuleReader_textsThatFit 7 (some .long) ∈ TB := (tb_3 (List.mem_of_getElem? (i := 139) rfl) rfl)
abbrev w_K_RuleReader_textsThatFit : List Cond := Cond.code y_K_RuleReader_textsThatFit b_K_RuleReader_textsThatFit 7 (some .long) :: TB
abbrev b_K_RuleReader_readBody : ByteArray := prog_8_method_5_code
def y_K_RuleReader_readBody : MethodName := ⟨R_RuleReader, "readBody", "(I)I"⟩
def rm_K_RuleReader_readBody : Room := { frames := 7, cells := 0, slots := 0, locals := 154 }
theorem k_K_RuleReader_readBody : Cond.code y_K_RuleReader_readBody b_K_RuleReader_readBody 4 (some .int) ∈ TB := (tb_3 (List.mem_of_getElem? (i := 126) rfl) rfl)
abbrev w_K_RuleReader_readBody : List Cond := Cond.code y_K_RuleReader_readBody b_K_RuleReader_readBody 4 (some .int) :: TB
abbrev b_K_RuleReader_read : ByteArray := prog_8_method_2_code
def y_K_RuleReader_read : MethodName := ⟨R_RuleReader, "read", "()I"⟩
def rm_K_RuleReader_read : Room := { frames := 8, cells := 0, slots := 0, locals := 177 }
theorem k_K_RuleReader_read : Cond.code y_K_RuleReader_read b_K_RuleReader_read 2 (some .int) ∈ TB := (tb_3 (List.mem_of_getElem? (i := 26) rfl) rfl)
abbrev w_K_RuleReader_read : List Cond := Cond.code y_K_RuleReader_read b_K_RuleReader_read 2 (some .int) :: TB
abbrev b_K_Text_isSame : ByteArray := prog_9_method_7_code
def y_K_Text_isSame : MethodName := ⟨R_Text, "isSame", "(LShrinkForge$Text;)Z"⟩
def rm_K_Text_isSame : Room := { frames := 0, cells := 0, slots := 0, locals := 0 }
theorem k_K_Text_isSame : Cond.code y_K_Text_isSame b_K_Text_isSame 4 (some .boolean) ∈ TB := (tb_4 (List.mem_of_getElem? (i := 139) rfl) rfl)
abbrev w_K_Text_isSame : List Cond := Cond.code y_K_Text_isSame b_K_Text_isSame 4 (some .boolean) :: TB
abbrev b_K_SF_within : ByteArray := prog_1_method_21_code
def y_K_SF_within : MethodName := ⟨R_SF, "within", "(III)Z"⟩
def rm_K_SF_within : Room := { frames := 0, cells := 0, slots := 0, locals := 0 }
theorem k_K_SF_within : Cond.code y_K_SF_within b_K_SF_within 3 (some .boolean) ∈ TB := (tb_2 (List.mem_of_getElem? (i := 189) rfl) rfl)
abbrev w_K_SF_within : List Cond := Cond.code y_K_SF_within b_K_SF_within 3 (some .boolean) :: TB
abbrev b_K_Text_answer : ByteArray := prog_9_method_8_code
def y_K_Text_answer : MethodName := ⟨R_Text, "answer", "(I)I"⟩
def rm_K_Text_answer : Room := { frames := 1, cells := 0, slots := 0, locals := 22 }
theorem k_K_Text_answer : Cond.code y_K_Text_answer b_K_Text_answer 2 (some .int) ∈ TB := (tb_4 (List.mem_of_getElem? (i := 97) rfl) rfl)
abbrev w_K_Text_answer : List Cond := Cond.code y_K_Text_answer b_K_Text_answer 2 (some .int) :: TB
abbrev b_K_Types_relateOne : ByteArray := prog_10_method_8_code
def y_K_Types_relateOne : MethodName := ⟨R_Types, "relateOne", "(I)V"⟩
def rm_K_Types_relateOne : Room := { frames := 2, cells := 0, slots := 0, locals := 43 }
theorem k_K_Types_relateOne : Cond.code y_K_Types_relateOne b_K_Types_relateOne 5 none ∈ TB := (tb_1 (List.mem_of_getElem? (i := 54) rfl) rfl)
abbrev w_K_Types_relateOne : List Cond := Cond.code y_K_Types_relateOne b_K_Types_relateOne 5 none :: TB
abbrev b_K_Types_relate : ByteArray := prog_10_method_7_code
def y_K_Types_relate : MethodName := ⟨R_Types, "relate", "()V"⟩
def rm_K_Types_relate : Room := { frames := 3, cells := 0, slots := 0, locals := 67 }
theorem k_K_Types_relate : Cond.code y_K_Types_relate b_K_Types_relate 2 none ∈ TB := (tb_1 (List.mem_of_getElem? (i := 43) rfl) rfl)
abbrev w_K_Types_relate : List Cond := Cond.code y_K_Types_relate b_K_Types_relate 2 none :: TB
abbrev b_K_Types_reset : ByteArray := prog_10_method_2_code
def y_K_Types_reset : MethodName := ⟨R_Types, "reset", "()V"⟩
def rm_K_Types_reset : Room := { frames := 4, cells := 0, slots := 0, locals := 88 }
theorem k_K_Types_reset : Cond.code y_K_Types_reset b_K_Types_reset 1 none ∈ TB := (tb_1 (List.mem_of_getElem? (i := 36) rfl) rfl)
abbrev w_K_Types_reset : List Cond := Cond.code y_K_Types_reset b_K_Types_reset 1 none :: TB
abbrev b_K_Types_declare : ByteArray := prog_10_method_3_code
def y_K_Types_declare : MethodName := ⟨R_Types, "declare", "(IIIII)V"⟩
def rm_K_Types_declare : Room := { frames := 4, cells := 0, slots := 0, locals := 88 }
theorem k_K_Types_declare : Cond.code y_K_Types_declare b_K_Types_declare 6 none ∈ TB := (tb_2 (List.mem_of_getElem? (i := 193) rfl) rfl)
abbrev w_K_Types_declare : List Cond := Cond.code y_K_Types_declare b_K_Types_declare 6 none :: TB
abbrev b_K_Types_forget : ByteArray := prog_10_method_4_code
def y_K_Types_forget : MethodName := ⟨R_Types, "forget", "(I)V"⟩
def rm_K_Types_forget : Room := { frames := 4, cells := 0, slots := 0, locals := 88 }
theorem k_K_Types_forget : Cond.code y_K_Types_forget b_K_Types_forget 2 none ∈ TB := (tb_2 (List.mem_of_getElem? (i := 202) rfl) rfl)
abbrev w_K_Types_forget : List Cond := Cond.code y_K_Types_forget b_K_Types_forget 2 none :: TB
abbrev b_K_SF_type : ByteArray := prog_1_method_2_code
def y_K_SF_type : MethodName := ⟨R_SF, "type", "(IIIII)Z"⟩
def rm_K_SF_type : Room := { frames := 5, cells := 0, slots := 0, locals := 113 }
theorem k_K_SF_type : Cond.code y_K_SF_type b_K_SF_type 6 (some .boolean) ∈ TB := (tb_2 (List.mem_of_getElem? (i := 186) rfl) rfl)
abbrev w_K_SF_type : List Cond := Cond.code y_K_SF_type b_K_SF_type 6 (some .boolean) :: TB
abbrev b_K_SF_drop : ByteArray := prog_1_method_3_code
def y_K_SF_drop : MethodName := ⟨R_SF, "drop", "(I)Z"⟩
def rm_K_SF_drop : Room := { frames := 5, cells := 0, slots := 0, locals := 109 }
theorem k_K_SF_drop : Cond.code y_K_SF_drop b_K_SF_drop 2 (some .boolean) ∈ TB := (tb_2 (List.mem_of_getElem? (i := 197) rfl) rfl)
abbrev w_K_SF_drop : List Cond := Cond.code y_K_SF_drop b_K_SF_drop 2 (some .boolean) :: TB
abbrev b_K_SF_member : ByteArray := prog_1_method_4_code
def y_K_SF_member : MethodName := ⟨R_SF, "member", "(IIII)I"⟩
def rm_K_SF_member : Room := { frames := 2, cells := 0, slots := 0, locals := 44 }
theorem k_K_SF_member : Cond.code y_K_SF_member b_K_SF_member 7 (some .int) ∈ TB := (tb_2 (List.mem_of_getElem? (i := 221) rfl) rfl)
abbrev w_K_SF_member : List Cond := Cond.code y_K_SF_member b_K_SF_member 7 (some .int) :: TB
abbrev b_K_SF_remove : ByteArray := prog_1_method_5_code
def y_K_SF_remove : MethodName := ⟨R_SF, "remove", "(I)Z"⟩
def rm_K_SF_remove : Room := { frames := 2, cells := 0, slots := 0, locals := 43 }
theorem k_K_SF_remove : Cond.code y_K_SF_remove b_K_SF_remove 2 (some .boolean) ∈ TB := (tb_2 (List.mem_of_getElem? (i := 233) rfl) rfl)
abbrev w_K_SF_remove : List Cond := Cond.code y_K_SF_remove b_K_SF_remove 2 (some .boolean) :: TB
abbrev b_K_SF_isWanted : ByteArray := prog_1_method_22_code
def y_K_SF_isWanted : MethodName := ⟨R_SF, "isWanted", "(III)Z"⟩
def rm_K_SF_isWanted : Room := { frames := 1, cells := 0, slots := 0, locals := 22 }
theorem k_K_SF_isWanted : Cond.code y_K_SF_isWanted b_K_SF_isWanted 3 (some .boolean) ∈ TB := (tb_3 (List.mem_of_getElem? (i := 6) rfl) rfl)
abbrev w_K_SF_isWanted : List Cond := Cond.code y_K_SF_isWanted b_K_SF_isWanted 3 (some .boolean) :: TB
abbrev b_K_SF_refer : ByteArray := prog_1_method_6_code
def y_K_SF_refer : MethodName := ⟨R_SF, "refer", "(IIIII)I"⟩
def rm_K_SF_refer : Room := { frames := 2, cells := 0, slots := 0, locals := 44 }
theorem k_K_SF_refer : Cond.code y_K_SF_refer b_K_SF_refer 6 (some .int) ∈ TB := (tb_2 (List.mem_of_getElem? (i := 239) rfl) rfl)
abbrev w_K_SF_refer : List Cond := Cond.code y_K_SF_refer b_K_SF_refer 6 (some .int) :: TB
abbrev b_K_SF_letter : ByteArray := prog_1_method_7_code
def y_K_SF_letter : MethodName := ⟨R_SF, "letter", "(I)I"⟩
def rm_K_SF_letter : Room := { frames := 1, cells := 0, slots := 0, locals := 22 }
theorem k_K_SF_letter : Cond.code y_K_SF_letter b_K_SF_letter 2 (some .int) ∈ TB := (tb_3 (List.mem_of_getElem? (i := 14) rfl) rfl)
abbrev w_K_SF_letter : List Cond := Cond.code y_K_SF_letter b_K_SF_letter 2 (some .int) :: TB
abbrev b_K_SF_rule : ByteArray := prog_1_method_8_code
def y_K_SF_rule : MethodName := ⟨R_SF, "rule", "()I"⟩
def rm_K_SF_rule : Room := { frames := 9, cells := 0, slots := 0, locals := 198 }
theorem k_K_SF_rule : Cond.code y_K_SF_rule b_K_SF_rule 2 (some .int) ∈ TB := (tb_3 (List.mem_of_getElem? (i := 22) rfl) rfl)
abbrev w_K_SF_rule : List Cond := Cond.code y_K_SF_rule b_K_SF_rule 2 (some .int) :: TB
abbrev b_K_SF_clear : ByteArray := prog_1_method_9_code
def y_K_SF_clear : MethodName := ⟨R_SF, "clear", "(Z)I"⟩
def rm_K_SF_clear : Room := { frames := 5, cells := 0, slots := 0, locals := 108 }
theorem k_K_SF_clear : Cond.code y_K_SF_clear b_K_SF_clear 3 (some .int) ∈ TB := (tb_3 (List.mem_of_getElem? (i := 167) rfl) rfl)
abbrev w_K_SF_clear : List Cond := Cond.code y_K_SF_clear b_K_SF_clear 3 (some .int) :: TB
abbrev b_K_SF_settle : ByteArray := prog_1_method_18_code
def y_K_SF_settle : MethodName := ⟨R_SF, "settle", "()V"⟩
def rm_K_SF_settle : Room := { frames := 6, cells := 0, slots := 0, locals := 144 }
theorem k_K_SF_settle : Cond.code y_K_SF_settle b_K_SF_settle 1 none ∈ TB := (tb_3 (List.mem_of_getElem? (i := 177) rfl) rfl)
abbrev w_K_SF_settle : List Cond := Cond.code y_K_SF_settle b_K_SF_settle 1 none :: TB
abbrev b_K_SF_needs : ByteArray := prog_1_method_10_code
def y_K_SF_needs : MethodName := ⟨R_SF, "needs", "(II)I"⟩
def rm_K_SF_needs : Room := { frames := 7, cells := 0, slots := 0, locals := 164 }
theorem k_K_SF_needs : Cond.code y_K_SF_needs b_K_SF_needs 3 (some .int) ∈ TB := (tb_3 (List.mem_of_getElem? (i := 173) rfl) rfl)
abbrev w_K_SF_needs : List Cond := Cond.code y_K_SF_needs b_K_SF_needs 3 (some .int) :: TB
abbrev b_K_SF_part : ByteArray := prog_1_method_11_code
def y_K_SF_part : MethodName := ⟨R_SF, "part", "(II)I"⟩
def rm_K_SF_part : Room := { frames := 7, cells := 0, slots := 0, locals := 164 }
theorem k_K_SF_part : Cond.code y_K_SF_part b_K_SF_part 3 (some .int) ∈ TB := (tb_4 (List.mem_of_getElem? (i := 64) rfl) rfl)
abbrev w_K_SF_part : List Cond := Cond.code y_K_SF_part b_K_SF_part 3 (some .int) :: TB
abbrev b_K_SF_found : ByteArray := prog_1_method_12_code
def y_K_SF_found : MethodName := ⟨R_SF, "found", "(IIIIZ)I"⟩
def rm_K_SF_found : Room := { frames := 7, cells := 0, slots := 0, locals := 164 }
theorem k_K_SF_found : Cond.code y_K_SF_found b_K_SF_found 8 (some .int) ∈ TB := (tb_4 (List.mem_of_getElem? (i := 72) rfl) rfl)
abbrev w_K_SF_found : List Cond := Cond.code y_K_SF_found b_K_SF_found 8 (some .int) :: TB
abbrev b_K_SF_selected : ByteArray := prog_1_method_13_code
def y_K_SF_selected : MethodName := ⟨R_SF, "selected", "(IIIZ)I"⟩
def rm_K_SF_selected : Room := { frames := 7, cells := 0, slots := 0, locals := 164 }
theorem k_K_SF_selected : Cond.code y_K_SF_selected b_K_SF_selected 7 (some .int) ∈ TB := (tb_4 (List.mem_of_getElem? (i := 77) rfl) rfl)
abbrev w_K_SF_selected : List Cond := Cond.code y_K_SF_selected b_K_SF_selected 7 (some .int) :: TB
abbrev b_K_SF_name : ByteArray := prog_1_method_14_code
def y_K_SF_name : MethodName := ⟨R_SF, "name", "(ZII)I"⟩
def rm_K_SF_name : Room := { frames := 7, cells := 0, slots := 0, locals := 164 }
theorem k_K_SF_name : Cond.code y_K_SF_name b_K_SF_name 4 (some .int) ∈ TB := (tb_4 (List.mem_of_getElem? (i := 81) rfl) rfl)
abbrev w_K_SF_name : List Cond := Cond.code y_K_SF_name b_K_SF_name 4 (some .int) :: TB
abbrev b_K_SF_mapping : ByteArray := prog_1_method_15_code
def y_K_SF_mapping : MethodName := ⟨R_SF, "mapping", "(I)I"⟩
def rm_K_SF_mapping : Room := { frames := 10, cells := 0, slots := 0, locals := 214 }
theorem k_K_SF_mapping : Cond.code y_K_SF_mapping b_K_SF_mapping 2 (some .int) ∈ TB := (tb_4 (List.mem_of_getElem? (i := 102) rfl) rfl)
abbrev w_K_SF_mapping : List Cond := Cond.code y_K_SF_mapping b_K_SF_mapping 2 (some .int) :: TB
abbrev b_K_SF_classNamedByDraft : ByteArray := prog_1_method_19_code
def y_K_SF_classNamedByDraft : MethodName := ⟨R_SF, "classNamedByDraft", "()I"⟩
def rm_K_SF_classNamedByDraft : Room := { frames := 3, cells := 0, slots := 0, locals := 65 }
theorem k_K_SF_classNamedByDraft : Cond.code y_K_SF_classNamedByDraft b_K_SF_classNamedByDraft 2 (some .int) ∈ TB := (tb_4 (List.mem_of_getElem? (i := 135) rfl) rfl)
abbrev w_K_SF_classNamedByDraft : List Cond := Cond.code y_K_SF_classNamedByDraft b_K_SF_classNamedByDraft 2 (some .int) :: TB
abbrev b_K_SF_memberWithText : ByteArray := prog_1_method_20_code
def y_K_SF_memberWithText : MethodName := ⟨R_SF, "memberWithText", "(IIIZ)I"⟩
def rm_K_SF_memberWithText : Room := { frames := 7, cells := 0, slots := 0, locals := 150 }
theorem k_K_SF_memberWithText : Cond.code y_K_SF_memberWithText b_K_SF_memberWithText 8 (some .int) ∈ TB := (tb_4 (List.mem_of_getElem? (i := 143) rfl) rfl)
abbrev w_K_SF_memberWithText : List Cond := Cond.code y_K_SF_memberWithText b_K_SF_memberWithText 8 (some .int) :: TB
abbrev b_K_SF_trace : ByteArray := prog_1_method_16_code
def y_K_SF_trace : MethodName := ⟨R_SF, "trace", "(IIZ)I"⟩
def rm_K_SF_trace : Room := { frames := 8, cells := 0, slots := 0, locals := 177 }
theorem k_K_SF_trace : Cond.code y_K_SF_trace b_K_SF_trace 5 (some .int) ∈ TB := (tb_4 (List.mem_of_getElem? (i := 131) rfl) rfl)
abbrev w_K_SF_trace : List Cond := Cond.code y_K_SF_trace b_K_SF_trace 5 (some .int) :: TB
abbrev b_K_SF_count : ByteArray := prog_1_method_17_code
def y_K_SF_count : MethodName := ⟨R_SF, "count", "(I)I"⟩
def rm_K_SF_count : Room := { frames := 7, cells := 0, slots := 0, locals := 164 }
theorem k_K_SF_count : Cond.code y_K_SF_count b_K_SF_count 2 (some .int) ∈ TB := (tb_4 (List.mem_of_getElem? (i := 147) rfl) rfl)
abbrev w_K_SF_count : List Cond := Cond.code y_K_SF_count b_K_SF_count 2 (some .int) :: TB
theorem sl_K_SF_classNamedByDraft : Cond.selects R_SF y_K_SF_classNamedByDraft y_K_SF_classNamedByDraft ∈ TB := sv_3 (q := (y_K_SF_classNamedByDraft, 11)) (List.mem_of_getElem? (i := 1) rfl)
theorem sl_K_SF_memberWithText : Cond.selects R_SF y_K_SF_memberWithText y_K_SF_memberWithText ∈ TB := sv_3 (q := (y_K_SF_memberWithText, 11)) (List.mem_of_getElem? (i := 2) rfl)
theorem sl_K_SF_settle : Cond.selects R_SF y_K_SF_settle y_K_SF_settle ∈ TB := sv_1 (q := (y_K_SF_settle, 11)) (List.mem_of_getElem? (i := 13) rfl)
theorem sl_K_Mapping_writeClass : Cond.selects R_Mapping y_K_Mapping_writeClass y_K_Mapping_writeClass ∈ TB := sv_2 (q := (y_K_Mapping_writeClass, 6)) (List.mem_of_getElem? (i := 15) rfl)
theorem sl_K_Mapping_writeMember : Cond.selects R_Mapping y_K_Mapping_writeMember y_K_Mapping_writeMember ∈ TB := sv_3 (q := (y_K_Mapping_writeMember, 6)) (List.mem_of_getElem? (i := 0) rfl)
theorem sl_K_Members_leastOfFaces : Cond.selects R_Members y_K_Members_leastOfFaces y_K_Members_leastOfFaces ∈ TB := sv_2 (q := (y_K_Members_leastOfFaces, 8)) (List.mem_of_getElem? (i := 7) rfl)
theorem sl_K_Names_giveNames : Cond.selects R_Names y_K_Names_giveNames y_K_Names_giveNames ∈ TB := sv_2 (q := (y_K_Names_giveNames, 8)) (List.mem_of_getElem? (i := 12) rfl)
theorem sl_K_Names_giveTexts : Cond.selects R_Names y_K_Names_giveTexts y_K_Names_giveTexts ∈ TB := sv_2 (q := (y_K_Names_giveTexts, 8)) (List.mem_of_getElem? (i := 13) rfl)
theorem sl_K_Names_giveTextsOf : Cond.selects R_Names y_K_Names_giveTextsOf y_K_Names_giveTextsOf ∈ TB := sv_2 (q := (y_K_Names_giveTextsOf, 8)) (List.mem_of_getElem? (i := 14) rfl)
theorem sl_K_Names_keepWhatTheLibraryKnows : Cond.selects R_Names y_K_Names_keepWhatTheLibraryKnows y_K_Names_keepWhatTheLibraryKnows ∈ TB := sv_2 (q := (y_K_Names_keepWhatTheLibraryKnows, 8)) (List.mem_of_getElem? (i := 10) rfl)
theorem sl_K_Names_signaturesOf : Cond.selects R_Names y_K_Names_signaturesOf y_K_Names_signaturesOf ∈ TB := sv_2 (q := (y_K_Names_signaturesOf, 8)) (List.mem_of_getElem? (i := 11) rfl)
theorem sl_K_Needs_addByClasses : Cond.selects R_Needs y_K_Needs_addByClasses y_K_Needs_addByClasses ∈ TB := sv_2 (q := (y_K_Needs_addByClasses, 8)) (List.mem_of_getElem? (i := 9) rfl)
theorem sl_K_Needs_addByKeepMembers : Cond.selects R_Needs y_K_Needs_addByKeepMembers y_K_Needs_addByKeepMembers ∈ TB := sv_2 (q := (y_K_Needs_addByKeepMembers, 8)) (List.mem_of_getElem? (i := 2) rfl)
theorem sl_K_Needs_addByMembers : Cond.selects R_Needs y_K_Needs_addByMembers y_K_Needs_addByMembers ∈ TB := sv_2 (q := (y_K_Needs_addByMembers, 8)) (List.mem_of_getElem? (i := 4) rfl)
theorem sl_K_Needs_addByReferences : Cond.selects R_Needs y_K_Needs_addByReferences y_K_Needs_addByReferences ∈ TB := sv_2 (q := (y_K_Needs_addByReferences, 8)) (List.mem_of_getElem? (i := 5) rfl)
theorem sl_K_Needs_addFound : Cond.selects R_Needs y_K_Needs_addFound y_K_Needs_addFound ∈ TB := sv_2 (q := (y_K_Needs_addFound, 8)) (List.mem_of_getElem? (i := 6) rfl)
theorem sl_K_Needs_addKept : Cond.selects R_Needs y_K_Needs_addKept y_K_Needs_addKept ∈ TB := sv_2 (q := (y_K_Needs_addKept, 8)) (List.mem_of_getElem? (i := 0) rfl)
theorem sl_K_Needs_addSelected : Cond.selects R_Needs y_K_Needs_addSelected y_K_Needs_addSelected ∈ TB := sv_2 (q := (y_K_Needs_addSelected, 8)) (List.mem_of_getElem? (i := 8) rfl)
theorem sl_K_Needs_ofNeededClasses : Cond.selects R_Needs y_K_Needs_ofNeededClasses y_K_Needs_ofNeededClasses ∈ TB := sv_2 (q := (y_K_Needs_ofNeededClasses, 8)) (List.mem_of_getElem? (i := 3) rfl)
theorem sl_K_Needs_size : Cond.selects R_Needs y_K_Needs_size y_K_Needs_size ∈ TB := sv_2 (q := (y_K_Needs_size, 8)) (List.mem_of_getElem? (i := 1) rfl)
theorem sl_K_RuleBook_classesAbout : Cond.selects R_RuleBook y_K_RuleBook_classesAbout y_K_RuleBook_classesAbout ∈ TB := sv_1 (q := (y_K_RuleBook_classesAbout, 7)) (List.mem_of_getElem? (i := 14) rfl)
theorem sl_K_RuleBook_membersMeant : Cond.selects R_RuleBook y_K_RuleBook_membersMeant y_K_RuleBook_membersMeant ∈ TB := sv_1 (q := (y_K_RuleBook_membersMeant, 7)) (List.mem_of_getElem? (i := 15) rfl)
theorem sl_K_RuleReader_afterMany : Cond.selects R_RuleReader y_K_RuleReader_afterMany y_K_RuleReader_afterMany ∈ TB := sv_1 (q := (y_K_RuleReader_afterMany, 9)) (List.mem_of_getElem? (i := 9) rfl)
theorem sl_K_RuleReader_afterOne : Cond.selects R_RuleReader y_K_RuleReader_afterOne y_K_RuleReader_afterOne ∈ TB := sv_1 (q := (y_K_RuleReader_afterOne, 9)) (List.mem_of_getElem? (i := 8) rfl)
theorem sl_K_RuleReader_cut : Cond.selects R_RuleReader y_K_RuleReader_cut y_K_RuleReader_cut ∈ TB := sv_1 (q := (y_K_RuleReader_cut, 9)) (List.mem_of_getElem? (i := 2) rfl)
theorem sl_K_RuleReader_endsClause : Cond.selects R_RuleReader y_K_RuleReader_endsClause y_K_RuleReader_endsClause ∈ TB := sv_1 (q := (y_K_RuleReader_endsClause, 9)) (List.mem_of_getElem? (i := 11) rfl)
theorem sl_K_RuleReader_fits : Cond.selects R_RuleReader y_K_RuleReader_fits y_K_RuleReader_fits ∈ TB := sv_1 (q := (y_K_RuleReader_fits, 9)) (List.mem_of_getElem? (i := 7) rfl)
theorem sl_K_RuleReader_isPattern : Cond.selects R_RuleReader y_K_RuleReader_isPattern y_K_RuleReader_isPattern ∈ TB := sv_1 (q := (y_K_RuleReader_isPattern, 9)) (List.mem_of_getElem? (i := 5) rfl)
theorem sl_K_RuleReader_namesThatFit : Cond.selects R_RuleReader y_K_RuleReader_namesThatFit y_K_RuleReader_namesThatFit ∈ TB := sv_1 (q := (y_K_RuleReader_namesThatFit, 9)) (List.mem_of_getElem? (i := 6) rfl)
theorem sl_K_RuleReader_readBody : Cond.selects R_RuleReader y_K_RuleReader_readBody y_K_RuleReader_readBody ∈ TB := sv_1 (q := (y_K_RuleReader_readBody, 9)) (List.mem_of_getElem? (i := 10) rfl)
theorem sl_K_RuleReader_reads : Cond.selects R_RuleReader y_K_RuleReader_reads y_K_RuleReader_reads ∈ TB := sv_1 (q := (y_K_RuleReader_reads, 9)) (List.mem_of_getElem? (i := 4) rfl)
theorem sl_K_RuleReader_sortOfRule : Cond.selects R_RuleReader y_K_RuleReader_sortOfRule y_K_RuleReader_sortOfRule ∈ TB := sv_1 (q := (y_K_RuleReader_sortOfRule, 9)) (List.mem_of_getElem? (i := 3) rfl)
theorem sl_K_RuleReader_textsThatFit : Cond.selects R_RuleReader y_K_RuleReader_textsThatFit y_K_RuleReader_textsThatFit ∈ TB := sv_1 (q := (y_K_RuleReader_textsThatFit, 9)) (List.mem_of_getElem? (i := 12) rfl)
theorem sl_K_Types_relate : Cond.selects R_Types y_K_Types_relate y_K_Types_relate ∈ TB := sv_1 (q := (y_K_Types_relate, 11)) (List.mem_of_getElem? (i := 0) rfl)
theorem sl_K_Types_relateOne : Cond.selects R_Types y_K_Types_relateOne y_K_Types_relateOne ∈ TB := sv_1 (q := (y_K_Types_relateOne, 11)) (List.mem_of_getElem? (i := 1) rfl)
