def R_Mapping : String := "ShrinkForge$Mapping"
def F_Mapping : u_T := fun k => match k with
  | 0 => ("ShrinkForge$Mapping", "types", "LShrinkForge$Types;", true)
  | 1 => ("ShrinkForge$Mapping", "all", "LShrinkForge$Members;", true)
  | 2 => ("ShrinkForge$Mapping", "need", "LShrinkForge$Needs;", true)
  | 3 => ("ShrinkForge$Mapping", "names", "LShrinkForge$Names;", true)
  | 4 => ("ShrinkForge$Mapping", "text", "LShrinkForge$Text;", true)
  | _ => ("ShrinkForge$Mapping", "stale", "Z", false)
def t_Mapping : Nat → FieldType := fun k => match k with
  | 0 => .object "ShrinkForge$Types"
  | 1 => .object "ShrinkForge$Members"
  | 2 => .object "ShrinkForge$Needs"
  | 3 => .object "ShrinkForge$Names"
  | 4 => .object "ShrinkForge$Text"
  | _ => .boolean
abbrev w_Mapping : List Cond := u_ws R_Mapping F_Mapping 6
def R_Members : String := "ShrinkForge$Members"
def F_Members : u_T := fun k => match k with
  | 0 => ("ShrinkForge$Members", "types", "LShrinkForge$Types;", true)
  | 1 => ("ShrinkForge$Members", "owners", "[I", true)
  | 2 => ("ShrinkForge$Members", "signatures", "[I", true)
  | 3 => ("ShrinkForge$Members", "flags", "[I", true)
  | 4 => ("ShrinkForge$Members", "table", "[I", true)
  | 5 => ("ShrinkForge$Members", "total", "I", false)
  | 6 => ("ShrinkForge$Members", "alive", "J", false)
  | _ => ("ShrinkForge$Members", "selectable", "J", false)
def t_Members : Nat → FieldType := fun k => match k with
  | 0 => .object "ShrinkForge$Types"
  | 1 => .array .int
  | 2 => .array .int
  | 3 => .array .int
  | 4 => .array .int
  | 5 => .int
  | 6 => .long
  | _ => .long
abbrev w_Members : List Cond := u_ws R_Members F_Members 8
def R_Names : String := "ShrinkForge$Names"
def F_Names : u_T := fun k => match k with
  | 0 => ("ShrinkForge$Names", "types", "LShrinkForge$Types;", true)
  | 1 => ("ShrinkForge$Names", "all", "LShrinkForge$Members;", true)
  | 2 => ("ShrinkForge$Names", "book", "LShrinkForge$RuleBook;", true)
  | 3 => ("ShrinkForge$Names", "need", "LShrinkForge$Needs;", true)
  | 4 => ("ShrinkForge$Names", "newNames", "[C", true)
  | 5 => ("ShrinkForge$Names", "newTexts", "[C", true)
  | 6 => ("ShrinkForge$Names", "keptClasses", "J", false)
  | _ => ("ShrinkForge$Names", "keptTexts", "J", false)
def t_Names : Nat → FieldType := fun k => match k with
  | 0 => .object "ShrinkForge$Types"
  | 1 => .object "ShrinkForge$Members"
  | 2 => .object "ShrinkForge$RuleBook"
  | 3 => .object "ShrinkForge$Needs"
  | 4 => .array .char
  | 5 => .array .char
  | 6 => .long
  | _ => .long
abbrev w_Names : List Cond := u_ws R_Names F_Names 8
def R_Needs : String := "ShrinkForge$Needs"
def F_Needs : u_T := fun k => match k with
  | 0 => ("ShrinkForge$Needs", "types", "LShrinkForge$Types;", true)
  | 1 => ("ShrinkForge$Needs", "all", "LShrinkForge$Members;", true)
  | 2 => ("ShrinkForge$Needs", "references", "LShrinkForge$References;", true)
  | 3 => ("ShrinkForge$Needs", "book", "LShrinkForge$RuleBook;", true)
  | 4 => ("ShrinkForge$Needs", "classes", "J", false)
  | 5 => ("ShrinkForge$Needs", "made", "J", false)
  | 6 => ("ShrinkForge$Needs", "started", "J", false)
  | _ => ("ShrinkForge$Needs", "members", "J", false)
def t_Needs : Nat → FieldType := fun k => match k with
  | 0 => .object "ShrinkForge$Types"
  | 1 => .object "ShrinkForge$Members"
  | 2 => .object "ShrinkForge$References"
  | 3 => .object "ShrinkForge$RuleBook"
  | 4 => .long
  | 5 => .long
  | 6 => .long
  | _ => .long
abbrev w_Needs : List Cond := u_ws R_Needs F_Needs 8
def R_References : String := "ShrinkForge$References"
def F_References : u_T := fun k => match k with
  | 0 => ("ShrinkForge$References", "methods", "[I", true)
  | 1 => ("ShrinkForge$References", "kinds", "[I", true)
  | 2 => ("ShrinkForge$References", "targets", "[I", true)
  | 3 => ("ShrinkForge$References", "signatures", "[I", true)
  | _ => ("ShrinkForge$References", "total", "I", false)
def t_References : Nat → FieldType := fun k => match k with
  | 0 => .array .int
  | 1 => .array .int
  | 2 => .array .int
  | 3 => .array .int
  | _ => .int
abbrev w_References : List Cond := u_ws R_References F_References 5
def R_RuleBook : String := "ShrinkForge$RuleBook"
def F_RuleBook : u_T := fun k => match k with
  | 0 => ("ShrinkForge$RuleBook", "sorts", "[I", true)
  | 1 => ("ShrinkForge$RuleBook", "nameSets", "[J", true)
  | 2 => ("ShrinkForge$RuleBook", "aboveSets", "[J", true)
  | 3 => ("ShrinkForge$RuleBook", "textSets", "[J", true)
  | 4 => ("ShrinkForge$RuleBook", "about", "[J", true)
  | 5 => ("ShrinkForge$RuleBook", "meant", "[J", true)
  | _ => ("ShrinkForge$RuleBook", "total", "I", false)
def t_RuleBook : Nat → FieldType := fun k => match k with
  | 0 => .array .int
  | 1 => .array .long
  | 2 => .array .long
  | 3 => .array .long
  | 4 => .array .long
  | 5 => .array .long
  | _ => .int
abbrev w_RuleBook : List Cond := u_ws R_RuleBook F_RuleBook 7
def R_RuleReader : String := "ShrinkForge$RuleReader"
def F_RuleReader : u_T := fun k => match k with
  | 0 => ("ShrinkForge$RuleReader", "starts", "[I", true)
  | 1 => ("ShrinkForge$RuleReader", "ends", "[I", true)
  | 2 => ("ShrinkForge$RuleReader", "candidate", "LShrinkForge$Text;", true)
  | 3 => ("ShrinkForge$RuleReader", "text", "LShrinkForge$Text;", true)
  | 4 => ("ShrinkForge$RuleReader", "words", "I", false)
  | 5 => ("ShrinkForge$RuleReader", "sort", "I", false)
  | 6 => ("ShrinkForge$RuleReader", "nameSet", "J", false)
  | 7 => ("ShrinkForge$RuleReader", "aboveSet", "J", false)
  | _ => ("ShrinkForge$RuleReader", "textSet", "J", false)
def t_RuleReader : Nat → FieldType := fun k => match k with
  | 0 => .array .int
  | 1 => .array .int
  | 2 => .object "ShrinkForge$Text"
  | 3 => .object "ShrinkForge$Text"
  | 4 => .int
  | 5 => .int
  | 6 => .long
  | 7 => .long
  | _ => .long
abbrev w_RuleReader : List Cond := u_ws R_RuleReader F_RuleReader 9
def R_Text : String := "ShrinkForge$Text"
def F_Text : u_T := fun k => match k with
  | 0 => ("ShrinkForge$Text", "row", "[C", true)
  | _ => ("ShrinkForge$Text", "length", "I", false)
def t_Text : Nat → FieldType := fun k => match k with
  | 0 => .array .char
  | _ => .int
abbrev w_Text : List Cond := u_ws R_Text F_Text 2
def R_Types : String := "ShrinkForge$Types"
def F_Types : u_T := fun k => match k with
  | 0 => ("ShrinkForge$Types", "packs", "[I", true)
  | 1 => ("ShrinkForge$Types", "flags", "[I", true)
  | 2 => ("ShrinkForge$Types", "saidSupers", "[I", true)
  | 3 => ("ShrinkForge$Types", "saidFaces", "[I", true)
  | 4 => ("ShrinkForge$Types", "supers", "[I", true)
  | 5 => ("ShrinkForge$Types", "faces", "[J", true)
  | 6 => ("ShrinkForge$Types", "lines", "[J", true)
  | 7 => ("ShrinkForge$Types", "above", "[J", true)
  | 8 => ("ShrinkForge$Types", "there", "J", false)
  | 9 => ("ShrinkForge$Types", "allFaces", "J", false)
  | _ => ("ShrinkForge$Types", "makeable", "J", false)
def t_Types : Nat → FieldType := fun k => match k with
  | 0 => .array .int
  | 1 => .array .int
  | 2 => .array .int
  | 3 => .array .int
  | 4 => .array .int
  | 5 => .array .long
  | 6 => .array .long
  | 7 => .array .long
  | 8 => .long
  | 9 => .long
  | _ => .long
abbrev w_Types : List Cond := u_ws R_Types F_Types 11
def R_SF : String := "ShrinkForge"
def F_SF : u_T := fun k => match k with
  | 0 => ("ShrinkForge", "types", "LShrinkForge$Types;", true)
  | 1 => ("ShrinkForge", "members", "LShrinkForge$Members;", true)
  | 2 => ("ShrinkForge", "references", "LShrinkForge$References;", true)
  | 3 => ("ShrinkForge", "draft", "LShrinkForge$Text;", true)
  | 4 => ("ShrinkForge", "reader", "LShrinkForge$RuleReader;", true)
  | 5 => ("ShrinkForge", "book", "LShrinkForge$RuleBook;", true)
  | 6 => ("ShrinkForge", "need", "LShrinkForge$Needs;", true)
  | 7 => ("ShrinkForge", "names", "LShrinkForge$Names;", true)
  | 8 => ("ShrinkForge", "told", "LShrinkForge$Mapping;", true)
  | 9 => ("ShrinkForge", "scratch", "LShrinkForge$Text;", true)
  | _ => ("ShrinkForge", "settled", "Z", false)
def t_SF : Nat → FieldType := fun k => match k with
  | 0 => .object "ShrinkForge$Types"
  | 1 => .object "ShrinkForge$Members"
  | 2 => .object "ShrinkForge$References"
  | 3 => .object "ShrinkForge$Text"
  | 4 => .object "ShrinkForge$RuleReader"
  | 5 => .object "ShrinkForge$RuleBook"
  | 6 => .object "ShrinkForge$Needs"
  | 7 => .object "ShrinkForge$Names"
  | 8 => .object "ShrinkForge$Mapping"
  | 9 => .object "ShrinkForge$Text"
  | _ => .boolean
abbrev w_SF : List Cond := u_ws R_SF F_SF 11
def R_M : String := "ShrinkForgeModel"
def F_M : u_T := fun k => match k with
  | 0 => ("ShrinkForgeModel", "there", "[Z", true)
  | 1 => ("ShrinkForgeModel", "face", "[Z", true)
  | 2 => ("ShrinkForgeModel", "cut", "[Z", true)
  | 3 => ("ShrinkForgeModel", "pack", "[I", true)
  | 4 => ("ShrinkForgeModel", "sup", "[I", true)
  | 5 => ("ShrinkForgeModel", "faces", "[I", true)
  | 6 => ("ShrinkForgeModel", "above", "[I", true)
  | 7 => ("ShrinkForgeModel", "home", "[I", true)
  | 8 => ("ShrinkForgeModel", "word", "[I", true)
  | 9 => ("ShrinkForgeModel", "shape", "[I", true)
  | 10 => ("ShrinkForgeModel", "flags", "[I", true)
  | 11 => ("ShrinkForgeModel", "gone", "[Z", true)
  | 12 => ("ShrinkForgeModel", "members", "I", false)
  | 13 => ("ShrinkForgeModel", "rMember", "[I", true)
  | 14 => ("ShrinkForgeModel", "rKind", "[I", true)
  | 15 => ("ShrinkForgeModel", "rClass", "[I", true)
  | 16 => ("ShrinkForgeModel", "rWord", "[I", true)
  | 17 => ("ShrinkForgeModel", "rShape", "[I", true)
  | 18 => ("ShrinkForgeModel", "references", "I", false)
  | 19 => ("ShrinkForgeModel", "draft", "[I", true)
  | 20 => ("ShrinkForgeModel", "ruleText", "[I", true)
  | 21 => ("ShrinkForgeModel", "sort", "[I", true)
  | 22 => ("ShrinkForgeModel", "nameFrom", "[I", true)
  | 23 => ("ShrinkForgeModel", "nameEnd", "[I", true)
  | 24 => ("ShrinkForgeModel", "upFrom", "[I", true)
  | 25 => ("ShrinkForgeModel", "upEnd", "[I", true)
  | 26 => ("ShrinkForgeModel", "items", "[I", true)
  | 27 => ("ShrinkForgeModel", "itemSort", "[I", true)
  | 28 => ("ShrinkForgeModel", "itemFrom", "[I", true)
  | 29 => ("ShrinkForgeModel", "itemEnd", "[I", true)
  | 30 => ("ShrinkForgeModel", "spare", "[I", true)
  | 31 => ("ShrinkForgeModel", "drafted", "I", false)
  | 32 => ("ShrinkForgeModel", "rules", "I", false)
  | 33 => ("ShrinkForgeModel", "wordFrom", "[I", true)
  | 34 => ("ShrinkForgeModel", "wordEnd", "[I", true)
  | 35 => ("ShrinkForgeModel", "words", "I", false)
  | 36 => ("ShrinkForgeModel", "text", "[I", true)
  | 37 => ("ShrinkForgeModel", "size", "I", false)
  | 38 => ("ShrinkForgeModel", "now", "[Z", true)
  | 39 => ("ShrinkForgeModel", "next", "[Z", true)
  | 40 => ("ShrinkForgeModel", "needC", "[Z", true)
  | 41 => ("ShrinkForgeModel", "made", "[Z", true)
  | 42 => ("ShrinkForgeModel", "started", "[Z", true)
  | 43 => ("ShrinkForgeModel", "needM", "[Z", true)
  | 44 => ("ShrinkForgeModel", "about", "[Z", true)
  | 45 => ("ShrinkForgeModel", "changed", "Z", false)
  | 46 => ("ShrinkForgeModel", "written", "[I", true)
  | _ => ("ShrinkForgeModel", "length", "I", false)
def t_M : Nat → FieldType := fun k => match k with
  | 0 => .array .boolean
  | 1 => .array .boolean
  | 2 => .array .boolean
  | 3 => .array .int
  | 4 => .array .int
  | 5 => .array .int
  | 6 => .array .int
  | 7 => .array .int
  | 8 => .array .int
  | 9 => .array .int
  | 10 => .array .int
  | 11 => .array .boolean
  | 12 => .int
  | 13 => .array .int
  | 14 => .array .int
  | 15 => .array .int
  | 16 => .array .int
  | 17 => .array .int
  | 18 => .int
  | 19 => .array .int
  | 20 => .array .int
  | 21 => .array .int
  | 22 => .array .int
  | 23 => .array .int
  | 24 => .array .int
  | 25 => .array .int
  | 26 => .array .int
  | 27 => .array .int
  | 28 => .array .int
  | 29 => .array .int
  | 30 => .array .int
  | 31 => .int
  | 32 => .int
  | 33 => .array .int
  | 34 => .array .int
  | 35 => .int
  | 36 => .array .int
  | 37 => .int
  | 38 => .array .boolean
  | 39 => .array .boolean
  | 40 => .array .boolean
  | 41 => .array .boolean
  | 42 => .array .boolean
  | 43 => .array .boolean
  | 44 => .array .boolean
  | 45 => .boolean
  | 46 => .array .int
  | _ => .int
abbrev w_M : List Cond := u_ws R_M F_M 48
abbrev classes : List vw_C := [(R_Mapping, F_Mapping, 6), (R_Members, F_Members, 8), (R_Names, F_Names, 8), (R_Needs, F_Needs, 8), (R_References, F_References, 5), (R_RuleBook, F_RuleBook, 7), (R_RuleReader, F_RuleReader, 9), (R_Text, F_Text, 2), (R_Types, F_Types, 11), (R_SF, F_SF, 11), (R_M, F_M, 48)]
theorem n_Mapping : ∀ a, a < 6 → ∀ b, b < 6 → a ≠ b → (F_Mapping a).2.1 ≠ (F_Mapping b).2.1 := by decide +kernel
theorem t_Mapping_ok : ∀ k, k < 6 → parseFieldDescriptor (F_Mapping k).2.2.1 = some (t_Mapping k) := by decide +kernel
theorem ly_Mapping_0 : u_lay R_Mapping F_Mapping 0 ∈ TB := (tb_2 (List.mem_of_getElem? (i := 136) rfl) rfl)
theorem ly_Mapping_1 : u_lay R_Mapping F_Mapping 1 ∈ TB := (tb_2 (List.mem_of_getElem? (i := 138) rfl) rfl)
theorem ly_Mapping_2 : u_lay R_Mapping F_Mapping 2 ∈ TB := (tb_2 (List.mem_of_getElem? (i := 140) rfl) rfl)
theorem ly_Mapping_3 : u_lay R_Mapping F_Mapping 3 ∈ TB := (tb_2 (List.mem_of_getElem? (i := 142) rfl) rfl)
theorem ly_Mapping_4 : u_lay R_Mapping F_Mapping 4 ∈ TB := (tb_2 (List.mem_of_getElem? (i := 144) rfl) rfl)
theorem ly_Mapping_5 : u_lay R_Mapping F_Mapping 5 ∈ TB := (tb_2 (List.mem_of_getElem? (i := 146) rfl) rfl)
theorem ly_Mapping : ∀ k, k < 6 → u_lay R_Mapping F_Mapping k ∈ TB
  | 0, _ => ly_Mapping_0
  | 1, _ => ly_Mapping_1
  | 2, _ => ly_Mapping_2
  | 3, _ => ly_Mapping_3
  | 4, _ => ly_Mapping_4
  | 5, _ => ly_Mapping_5
  | k + 6, h => absurd h (by omega)
theorem i_Mapping : ∀ w ∈ w_Mapping, w ∈ TB := fun w hw => by
  obtain ⟨k, hk, rfl⟩ := List.mem_map.mp hw
  exact ly_Mapping k (List.mem_range.mp hk)
theorem n_Members : ∀ a, a < 8 → ∀ b, b < 8 → a ≠ b → (F_Members a).2.1 ≠ (F_Members b).2.1 := by decide +kernel
theorem t_Members_ok : ∀ k, k < 8 → parseFieldDescriptor (F_Members k).2.2.1 = some (t_Members k) := by decide +kernel
theorem ly_Members_0 : u_lay R_Members F_Members 0 ∈ TB := (tb_1 (List.mem_of_getElem? (i := 149) rfl) rfl)
theorem ly_Members_1 : u_lay R_Members F_Members 1 ∈ TB := (tb_1 (List.mem_of_getElem? (i := 151) rfl) rfl)
theorem ly_Members_2 : u_lay R_Members F_Members 2 ∈ TB := (tb_1 (List.mem_of_getElem? (i := 153) rfl) rfl)
theorem ly_Members_3 : u_lay R_Members F_Members 3 ∈ TB := (tb_1 (List.mem_of_getElem? (i := 155) rfl) rfl)
theorem ly_Members_4 : u_lay R_Members F_Members 4 ∈ TB := (tb_1 (List.mem_of_getElem? (i := 157) rfl) rfl)
theorem ly_Members_5 : u_lay R_Members F_Members 5 ∈ TB := (tb_1 (List.mem_of_getElem? (i := 159) rfl) rfl)
theorem ly_Members_6 : u_lay R_Members F_Members 6 ∈ TB := (tb_1 (List.mem_of_getElem? (i := 161) rfl) rfl)
theorem ly_Members_7 : u_lay R_Members F_Members 7 ∈ TB := (tb_1 (List.mem_of_getElem? (i := 163) rfl) rfl)
theorem ly_Members : ∀ k, k < 8 → u_lay R_Members F_Members k ∈ TB
  | 0, _ => ly_Members_0
  | 1, _ => ly_Members_1
  | 2, _ => ly_Members_2
  | 3, _ => ly_Members_3
  | 4, _ => ly_Members_4
  | 5, _ => ly_Members_5
  | 6, _ => ly_Members_6
  | 7, _ => ly_Members_7
  | k + 8, h => absurd h (by omega)
theorem i_Members : ∀ w ∈ w_Members, w ∈ TB := fun w hw => by
  obtain ⟨k, hk, rfl⟩ := List.mem_map.mp hw
  exact ly_Members k (List.mem_range.mp hk)
theorem n_Names : ∀ a, a < 8 → ∀ b, b < 8 → a ≠ b → (F_Names a).2.1 ≠ (F_Names b).2.1 := by decide +kernel
theorem t_Names_ok : ∀ k, k < 8 → parseFieldDescriptor (F_Names k).2.2.1 = some (t_Names k) := by decide +kernel
theorem ly_Names_0 : u_lay R_Names F_Names 0 ∈ TB := (tb_2 (List.mem_of_getElem? (i := 103) rfl) rfl)
theorem ly_Names_1 : u_lay R_Names F_Names 1 ∈ TB := (tb_2 (List.mem_of_getElem? (i := 105) rfl) rfl)
theorem ly_Names_2 : u_lay R_Names F_Names 2 ∈ TB := (tb_2 (List.mem_of_getElem? (i := 107) rfl) rfl)
theorem ly_Names_3 : u_lay R_Names F_Names 3 ∈ TB := (tb_2 (List.mem_of_getElem? (i := 109) rfl) rfl)
theorem ly_Names_4 : u_lay R_Names F_Names 4 ∈ TB := (tb_2 (List.mem_of_getElem? (i := 111) rfl) rfl)
theorem ly_Names_5 : u_lay R_Names F_Names 5 ∈ TB := (tb_2 (List.mem_of_getElem? (i := 113) rfl) rfl)
theorem ly_Names_6 : u_lay R_Names F_Names 6 ∈ TB := (tb_2 (List.mem_of_getElem? (i := 115) rfl) rfl)
theorem ly_Names_7 : u_lay R_Names F_Names 7 ∈ TB := (tb_2 (List.mem_of_getElem? (i := 117) rfl) rfl)
theorem ly_Names : ∀ k, k < 8 → u_lay R_Names F_Names k ∈ TB
  | 0, _ => ly_Names_0
  | 1, _ => ly_Names_1
  | 2, _ => ly_Names_2
  | 3, _ => ly_Names_3
  | 4, _ => ly_Names_4
  | 5, _ => ly_Names_5
  | 6, _ => ly_Names_6
  | 7, _ => ly_Names_7
  | k + 8, h => absurd h (by omega)
theorem i_Names : ∀ w ∈ w_Names, w ∈ TB := fun w hw => by
  obtain ⟨k, hk, rfl⟩ := List.mem_map.mp hw
  exact ly_Names k (List.mem_range.mp hk)
theorem n_Needs : ∀ a, a < 8 → ∀ b, b < 8 → a ≠ b → (F_Needs a).2.1 ≠ (F_Needs b).2.1 := by decide +kernel
theorem t_Needs_ok : ∀ k, k < 8 → parseFieldDescriptor (F_Needs k).2.2.1 = some (t_Needs k) := by decide +kernel
theorem ly_Needs_0 : u_lay R_Needs F_Needs 0 ∈ TB := (tb_2 (List.mem_of_getElem? (i := 70) rfl) rfl)
theorem ly_Needs_1 : u_lay R_Needs F_Needs 1 ∈ TB := (tb_2 (List.mem_of_getElem? (i := 72) rfl) rfl)
theorem ly_Needs_2 : u_lay R_Needs F_Needs 2 ∈ TB := (tb_2 (List.mem_of_getElem? (i := 74) rfl) rfl)
theorem ly_Needs_3 : u_lay R_Needs F_Needs 3 ∈ TB := (tb_2 (List.mem_of_getElem? (i := 76) rfl) rfl)
theorem ly_Needs_4 : u_lay R_Needs F_Needs 4 ∈ TB := (tb_2 (List.mem_of_getElem? (i := 78) rfl) rfl)
theorem ly_Needs_5 : u_lay R_Needs F_Needs 5 ∈ TB := (tb_2 (List.mem_of_getElem? (i := 80) rfl) rfl)
theorem ly_Needs_6 : u_lay R_Needs F_Needs 6 ∈ TB := (tb_2 (List.mem_of_getElem? (i := 82) rfl) rfl)
theorem ly_Needs_7 : u_lay R_Needs F_Needs 7 ∈ TB := (tb_2 (List.mem_of_getElem? (i := 84) rfl) rfl)
theorem ly_Needs : ∀ k, k < 8 → u_lay R_Needs F_Needs k ∈ TB
  | 0, _ => ly_Needs_0
  | 1, _ => ly_Needs_1
  | 2, _ => ly_Needs_2
  | 3, _ => ly_Needs_3
  | 4, _ => ly_Needs_4
  | 5, _ => ly_Needs_5
  | 6, _ => ly_Needs_6
  | 7, _ => ly_Needs_7
  | k + 8, h => absurd h (by omega)
theorem i_Needs : ∀ w ∈ w_Needs, w ∈ TB := fun w hw => by
  obtain ⟨k, hk, rfl⟩ := List.mem_map.mp hw
  exact ly_Needs k (List.mem_range.mp hk)
theorem n_References : ∀ a, a < 5 → ∀ b, b < 5 → a ≠ b → (F_References a).2.1 ≠ (F_References b).2.1 := by decide +kernel
theorem t_References_ok : ∀ k, k < 5 → parseFieldDescriptor (F_References k).2.2.1 = some (t_References k) := by decide +kernel
theorem ly_References_0 : u_lay R_References F_References 0 ∈ TB := (tb_1 (List.mem_of_getElem? (i := 183) rfl) rfl)
theorem ly_References_1 : u_lay R_References F_References 1 ∈ TB := (tb_1 (List.mem_of_getElem? (i := 185) rfl) rfl)
theorem ly_References_2 : u_lay R_References F_References 2 ∈ TB := (tb_1 (List.mem_of_getElem? (i := 187) rfl) rfl)
theorem ly_References_3 : u_lay R_References F_References 3 ∈ TB := (tb_1 (List.mem_of_getElem? (i := 189) rfl) rfl)
theorem ly_References_4 : u_lay R_References F_References 4 ∈ TB := (tb_1 (List.mem_of_getElem? (i := 191) rfl) rfl)
theorem ly_References : ∀ k, k < 5 → u_lay R_References F_References k ∈ TB
  | 0, _ => ly_References_0
  | 1, _ => ly_References_1
  | 2, _ => ly_References_2
  | 3, _ => ly_References_3
  | 4, _ => ly_References_4
  | k + 5, h => absurd h (by omega)
theorem i_References : ∀ w ∈ w_References, w ∈ TB := fun w hw => by
  obtain ⟨k, hk, rfl⟩ := List.mem_map.mp hw
  exact ly_References k (List.mem_range.mp hk)
theorem n_RuleBook : ∀ a, a < 7 → ∀ b, b < 7 → a ≠ b → (F_RuleBook a).2.1 ≠ (F_RuleBook b).2.1 := by decide +kernel
theorem t_RuleBook_ok : ∀ k, k < 7 → parseFieldDescriptor (F_RuleBook k).2.2.1 = some (t_RuleBook k) := by decide +kernel
theorem ly_RuleBook_0 : u_lay R_RuleBook F_RuleBook 0 ∈ TB := (tb_2 (List.mem_of_getElem? (i := 33) rfl) rfl)
theorem ly_RuleBook_1 : u_lay R_RuleBook F_RuleBook 1 ∈ TB := (tb_2 (List.mem_of_getElem? (i := 35) rfl) rfl)
theorem ly_RuleBook_2 : u_lay R_RuleBook F_RuleBook 2 ∈ TB := (tb_2 (List.mem_of_getElem? (i := 37) rfl) rfl)
theorem ly_RuleBook_3 : u_lay R_RuleBook F_RuleBook 3 ∈ TB := (tb_2 (List.mem_of_getElem? (i := 39) rfl) rfl)
theorem ly_RuleBook_4 : u_lay R_RuleBook F_RuleBook 4 ∈ TB := (tb_2 (List.mem_of_getElem? (i := 41) rfl) rfl)
theorem ly_RuleBook_5 : u_lay R_RuleBook F_RuleBook 5 ∈ TB := (tb_2 (List.mem_of_getElem? (i := 43) rfl) rfl)
theorem ly_RuleBook_6 : u_lay R_RuleBook F_RuleBook 6 ∈ TB := (tb_2 (List.mem_of_getElem? (i := 45) rfl) rfl)
theorem ly_RuleBook : ∀ k, k < 7 → u_lay R_RuleBook F_RuleBook k ∈ TB
  | 0, _ => ly_RuleBook_0
  | 1, _ => ly_RuleBook_1
  | 2, _ => ly_RuleBook_2
  | 3, _ => ly_RuleBook_3
  | 4, _ => ly_RuleBook_4
  | 5, _ => ly_RuleBook_5
  | 6, _ => ly_RuleBook_6
  | k + 7, h => absurd h (by omega)
theorem i_RuleBook : ∀ w ∈ w_RuleBook, w ∈ TB := fun w hw => by
  obtain ⟨k, hk, rfl⟩ := List.mem_map.mp hw
  exact ly_RuleBook k (List.mem_range.mp hk)
theorem n_RuleReader : ∀ a, a < 9 → ∀ b, b < 9 → a ≠ b → (F_RuleReader a).2.1 ≠ (F_RuleReader b).2.1 := by decide +kernel
theorem t_RuleReader_ok : ∀ k, k < 9 → parseFieldDescriptor (F_RuleReader k).2.2.1 = some (t_RuleReader k) := by decide +kernel
theorem ly_RuleReader_0 : u_lay R_RuleReader F_RuleReader 0 ∈ TB := (tb_1 (List.mem_of_getElem? (i := 232) rfl) rfl)
theorem ly_RuleReader_1 : u_lay R_RuleReader F_RuleReader 1 ∈ TB := (tb_1 (List.mem_of_getElem? (i := 234) rfl) rfl)
theorem ly_RuleReader_2 : u_lay R_RuleReader F_RuleReader 2 ∈ TB := (tb_1 (List.mem_of_getElem? (i := 236) rfl) rfl)
theorem ly_RuleReader_3 : u_lay R_RuleReader F_RuleReader 3 ∈ TB := (tb_1 (List.mem_of_getElem? (i := 238) rfl) rfl)
theorem ly_RuleReader_4 : u_lay R_RuleReader F_RuleReader 4 ∈ TB := (tb_2 (List.mem_of_getElem? (i := 0) rfl) rfl)
theorem ly_RuleReader_5 : u_lay R_RuleReader F_RuleReader 5 ∈ TB := (tb_2 (List.mem_of_getElem? (i := 2) rfl) rfl)
theorem ly_RuleReader_6 : u_lay R_RuleReader F_RuleReader 6 ∈ TB := (tb_2 (List.mem_of_getElem? (i := 4) rfl) rfl)
theorem ly_RuleReader_7 : u_lay R_RuleReader F_RuleReader 7 ∈ TB := (tb_2 (List.mem_of_getElem? (i := 6) rfl) rfl)
theorem ly_RuleReader_8 : u_lay R_RuleReader F_RuleReader 8 ∈ TB := (tb_2 (List.mem_of_getElem? (i := 8) rfl) rfl)
theorem ly_RuleReader : ∀ k, k < 9 → u_lay R_RuleReader F_RuleReader k ∈ TB
  | 0, _ => ly_RuleReader_0
  | 1, _ => ly_RuleReader_1
  | 2, _ => ly_RuleReader_2
  | 3, _ => ly_RuleReader_3
  | 4, _ => ly_RuleReader_4
  | 5, _ => ly_RuleReader_5
  | 6, _ => ly_RuleReader_6
  | 7, _ => ly_RuleReader_7
  | 8, _ => ly_RuleReader_8
  | k + 9, h => absurd h (by omega)
theorem i_RuleReader : ∀ w ∈ w_RuleReader, w ∈ TB := fun w hw => by
  obtain ⟨k, hk, rfl⟩ := List.mem_map.mp hw
  exact ly_RuleReader k (List.mem_range.mp hk)
theorem n_Text : ∀ a, a < 2 → ∀ b, b < 2 → a ≠ b → (F_Text a).2.1 ≠ (F_Text b).2.1 := by decide +kernel
theorem t_Text_ok : ∀ k, k < 2 → parseFieldDescriptor (F_Text k).2.2.1 = some (t_Text k) := by decide +kernel
theorem ly_Text_0 : u_lay R_Text F_Text 0 ∈ TB := (tb_1 (List.mem_of_getElem? (i := 205) rfl) rfl)
theorem ly_Text_1 : u_lay R_Text F_Text 1 ∈ TB := (tb_1 (List.mem_of_getElem? (i := 207) rfl) rfl)
theorem ly_Text : ∀ k, k < 2 → u_lay R_Text F_Text k ∈ TB
  | 0, _ => ly_Text_0
  | 1, _ => ly_Text_1
  | k + 2, h => absurd h (by omega)
theorem i_Text : ∀ w ∈ w_Text, w ∈ TB := fun w hw => by
  obtain ⟨k, hk, rfl⟩ := List.mem_map.mp hw
  exact ly_Text k (List.mem_range.mp hk)
theorem n_Types : ∀ a, a < 11 → ∀ b, b < 11 → a ≠ b → (F_Types a).2.1 ≠ (F_Types b).2.1 := by decide +kernel
theorem t_Types_ok : ∀ k, k < 11 → parseFieldDescriptor (F_Types k).2.2.1 = some (t_Types k) := by decide +kernel
theorem ly_Types_0 : u_lay R_Types F_Types 0 ∈ TB := (tb_1 (List.mem_of_getElem? (i := 80) rfl) rfl)
theorem ly_Types_1 : u_lay R_Types F_Types 1 ∈ TB := (tb_1 (List.mem_of_getElem? (i := 82) rfl) rfl)
theorem ly_Types_2 : u_lay R_Types F_Types 2 ∈ TB := (tb_1 (List.mem_of_getElem? (i := 84) rfl) rfl)
theorem ly_Types_3 : u_lay R_Types F_Types 3 ∈ TB := (tb_1 (List.mem_of_getElem? (i := 86) rfl) rfl)
theorem ly_Types_4 : u_lay R_Types F_Types 4 ∈ TB := (tb_1 (List.mem_of_getElem? (i := 88) rfl) rfl)
theorem ly_Types_5 : u_lay R_Types F_Types 5 ∈ TB := (tb_1 (List.mem_of_getElem? (i := 90) rfl) rfl)
theorem ly_Types_6 : u_lay R_Types F_Types 6 ∈ TB := (tb_1 (List.mem_of_getElem? (i := 92) rfl) rfl)
theorem ly_Types_7 : u_lay R_Types F_Types 7 ∈ TB := (tb_1 (List.mem_of_getElem? (i := 94) rfl) rfl)
theorem ly_Types_8 : u_lay R_Types F_Types 8 ∈ TB := (tb_1 (List.mem_of_getElem? (i := 96) rfl) rfl)
theorem ly_Types_9 : u_lay R_Types F_Types 9 ∈ TB := (tb_1 (List.mem_of_getElem? (i := 98) rfl) rfl)
theorem ly_Types_10 : u_lay R_Types F_Types 10 ∈ TB := (tb_1 (List.mem_of_getElem? (i := 100) rfl) rfl)
theorem ly_Types : ∀ k, k < 11 → u_lay R_Types F_Types k ∈ TB
  | 0, _ => ly_Types_0
  | 1, _ => ly_Types_1
  | 2, _ => ly_Types_2
  | 3, _ => ly_Types_3
  | 4, _ => ly_Types_4
  | 5, _ => ly_Types_5
  | 6, _ => ly_Types_6
  | 7, _ => ly_Types_7
  | 8, _ => ly_Types_8
  | 9, _ => ly_Types_9
  | 10, _ => ly_Types_10
  | k + 11, h => absurd h (by omega)
theorem i_Types : ∀ w ∈ w_Types, w ∈ TB := fun w hw => by
  obtain ⟨k, hk, rfl⟩ := List.mem_map.mp hw
  exact ly_Types k (List.mem_range.mp hk)
theorem n_SF : ∀ a, a < 11 → ∀ b, b < 11 → a ≠ b → (F_SF a).2.1 ≠ (F_SF b).2.1 := by decide +kernel
theorem t_SF_ok : ∀ k, k < 11 → parseFieldDescriptor (F_SF k).2.2.1 = some (t_SF k) := by decide +kernel
theorem ly_SF_0 : u_lay R_SF F_SF 0 ∈ TB := (tb_2 (List.mem_of_getElem? (i := 160) rfl) rfl)
theorem ly_SF_1 : u_lay R_SF F_SF 1 ∈ TB := (tb_2 (List.mem_of_getElem? (i := 162) rfl) rfl)
theorem ly_SF_2 : u_lay R_SF F_SF 2 ∈ TB := (tb_2 (List.mem_of_getElem? (i := 164) rfl) rfl)
theorem ly_SF_3 : u_lay R_SF F_SF 3 ∈ TB := (tb_2 (List.mem_of_getElem? (i := 166) rfl) rfl)
theorem ly_SF_4 : u_lay R_SF F_SF 4 ∈ TB := (tb_2 (List.mem_of_getElem? (i := 168) rfl) rfl)
theorem ly_SF_5 : u_lay R_SF F_SF 5 ∈ TB := (tb_2 (List.mem_of_getElem? (i := 170) rfl) rfl)
theorem ly_SF_6 : u_lay R_SF F_SF 6 ∈ TB := (tb_2 (List.mem_of_getElem? (i := 172) rfl) rfl)
theorem ly_SF_7 : u_lay R_SF F_SF 7 ∈ TB := (tb_2 (List.mem_of_getElem? (i := 174) rfl) rfl)
theorem ly_SF_8 : u_lay R_SF F_SF 8 ∈ TB := (tb_2 (List.mem_of_getElem? (i := 176) rfl) rfl)
theorem ly_SF_9 : u_lay R_SF F_SF 9 ∈ TB := (tb_2 (List.mem_of_getElem? (i := 178) rfl) rfl)
theorem ly_SF_10 : u_lay R_SF F_SF 10 ∈ TB := (tb_2 (List.mem_of_getElem? (i := 180) rfl) rfl)
theorem ly_SF : ∀ k, k < 11 → u_lay R_SF F_SF k ∈ TB
  | 0, _ => ly_SF_0
  | 1, _ => ly_SF_1
  | 2, _ => ly_SF_2
  | 3, _ => ly_SF_3
  | 4, _ => ly_SF_4
  | 5, _ => ly_SF_5
  | 6, _ => ly_SF_6
  | 7, _ => ly_SF_7
  | 8, _ => ly_SF_8
  | 9, _ => ly_SF_9
  | 10, _ => ly_SF_10
  | k + 11, h => absurd h (by omega)
theorem i_SF : ∀ w ∈ w_SF, w ∈ TB := fun w hw => by
  obtain ⟨k, hk, rfl⟩ := List.mem_map.mp hw
  exact ly_SF k (List.mem_range.mp hk)
theorem n_M : ∀ a, a < 48 → ∀ b, b < 48 → a ≠ b → (F_M a).2.1 ≠ (F_M b).2.1 := by decide +kernel
theorem t_M_ok : ∀ k, k < 48 → parseFieldDescriptor (F_M k).2.2.1 = some (t_M k) := by decide +kernel
theorem ly_M_0 : u_lay R_M F_M 0 ∈ TB := (tb_4 (List.mem_of_getElem? (i := 212) rfl) rfl)
theorem ly_M_1 : u_lay R_M F_M 1 ∈ TB := (tb_4 (List.mem_of_getElem? (i := 214) rfl) rfl)
theorem ly_M_2 : u_lay R_M F_M 2 ∈ TB := (tb_4 (List.mem_of_getElem? (i := 216) rfl) rfl)
theorem ly_M_3 : u_lay R_M F_M 3 ∈ TB := (tb_4 (List.mem_of_getElem? (i := 218) rfl) rfl)
theorem ly_M_4 : u_lay R_M F_M 4 ∈ TB := (tb_4 (List.mem_of_getElem? (i := 220) rfl) rfl)
theorem ly_M_5 : u_lay R_M F_M 5 ∈ TB := (tb_4 (List.mem_of_getElem? (i := 222) rfl) rfl)
theorem ly_M_6 : u_lay R_M F_M 6 ∈ TB := (tb_4 (List.mem_of_getElem? (i := 224) rfl) rfl)
theorem ly_M_7 : u_lay R_M F_M 7 ∈ TB := (tb_4 (List.mem_of_getElem? (i := 226) rfl) rfl)
theorem ly_M_8 : u_lay R_M F_M 8 ∈ TB := (tb_4 (List.mem_of_getElem? (i := 228) rfl) rfl)
theorem ly_M_9 : u_lay R_M F_M 9 ∈ TB := (tb_4 (List.mem_of_getElem? (i := 230) rfl) rfl)
theorem ly_M_10 : u_lay R_M F_M 10 ∈ TB := (tb_4 (List.mem_of_getElem? (i := 232) rfl) rfl)
theorem ly_M_11 : u_lay R_M F_M 11 ∈ TB := (tb_4 (List.mem_of_getElem? (i := 234) rfl) rfl)
theorem ly_M_12 : u_lay R_M F_M 12 ∈ TB := (tb_4 (List.mem_of_getElem? (i := 236) rfl) rfl)
theorem ly_M_13 : u_lay R_M F_M 13 ∈ TB := (tb_4 (List.mem_of_getElem? (i := 238) rfl) rfl)
theorem ly_M_14 : u_lay R_M F_M 14 ∈ TB := (tb_5 (List.mem_of_getElem? (i := 0) rfl) rfl)
theorem ly_M_15 : u_lay R_M F_M 15 ∈ TB := (tb_5 (List.mem_of_getElem? (i := 2) rfl) rfl)
theorem ly_M_16 : u_lay R_M F_M 16 ∈ TB := (tb_5 (List.mem_of_getElem? (i := 4) rfl) rfl)
theorem ly_M_17 : u_lay R_M F_M 17 ∈ TB := (tb_5 (List.mem_of_getElem? (i := 6) rfl) rfl)
theorem ly_M_18 : u_lay R_M F_M 18 ∈ TB := (tb_5 (List.mem_of_getElem? (i := 8) rfl) rfl)
theorem ly_M_19 : u_lay R_M F_M 19 ∈ TB := (tb_5 (List.mem_of_getElem? (i := 10) rfl) rfl)
theorem ly_M_20 : u_lay R_M F_M 20 ∈ TB := (tb_5 (List.mem_of_getElem? (i := 12) rfl) rfl)
theorem ly_M_21 : u_lay R_M F_M 21 ∈ TB := (tb_5 (List.mem_of_getElem? (i := 14) rfl) rfl)
theorem ly_M_22 : u_lay R_M F_M 22 ∈ TB := (tb_5 (List.mem_of_getElem? (i := 16) rfl) rfl)
theorem ly_M_23 : u_lay R_M F_M 23 ∈ TB := (tb_5 (List.mem_of_getElem? (i := 18) rfl) rfl)
theorem ly_M_24 : u_lay R_M F_M 24 ∈ TB := (tb_5 (List.mem_of_getElem? (i := 20) rfl) rfl)
theorem ly_M_25 : u_lay R_M F_M 25 ∈ TB := (tb_5 (List.mem_of_getElem? (i := 22) rfl) rfl)
theorem ly_M_26 : u_lay R_M F_M 26 ∈ TB := (tb_5 (List.mem_of_getElem? (i := 24) rfl) rfl)
theorem ly_M_27 : u_lay R_M F_M 27 ∈ TB := (tb_5 (List.mem_of_getElem? (i := 26) rfl) rfl)
theorem ly_M_28 : u_lay R_M F_M 28 ∈ TB := (tb_5 (List.mem_of_getElem? (i := 28) rfl) rfl)
theorem ly_M_29 : u_lay R_M F_M 29 ∈ TB := (tb_5 (List.mem_of_getElem? (i := 30) rfl) rfl)
theorem ly_M_30 : u_lay R_M F_M 30 ∈ TB := (tb_5 (List.mem_of_getElem? (i := 32) rfl) rfl)
theorem ly_M_31 : u_lay R_M F_M 31 ∈ TB := (tb_5 (List.mem_of_getElem? (i := 34) rfl) rfl)
theorem ly_M_32 : u_lay R_M F_M 32 ∈ TB := (tb_5 (List.mem_of_getElem? (i := 36) rfl) rfl)
theorem ly_M_33 : u_lay R_M F_M 33 ∈ TB := (tb_5 (List.mem_of_getElem? (i := 38) rfl) rfl)
theorem ly_M_34 : u_lay R_M F_M 34 ∈ TB := (tb_5 (List.mem_of_getElem? (i := 40) rfl) rfl)
theorem ly_M_35 : u_lay R_M F_M 35 ∈ TB := (tb_5 (List.mem_of_getElem? (i := 42) rfl) rfl)
theorem ly_M_36 : u_lay R_M F_M 36 ∈ TB := (tb_5 (List.mem_of_getElem? (i := 44) rfl) rfl)
theorem ly_M_37 : u_lay R_M F_M 37 ∈ TB := (tb_5 (List.mem_of_getElem? (i := 46) rfl) rfl)
theorem ly_M_38 : u_lay R_M F_M 38 ∈ TB := (tb_5 (List.mem_of_getElem? (i := 48) rfl) rfl)
theorem ly_M_39 : u_lay R_M F_M 39 ∈ TB := (tb_5 (List.mem_of_getElem? (i := 50) rfl) rfl)
theorem ly_M_40 : u_lay R_M F_M 40 ∈ TB := (tb_5 (List.mem_of_getElem? (i := 52) rfl) rfl)
theorem ly_M_41 : u_lay R_M F_M 41 ∈ TB := (tb_5 (List.mem_of_getElem? (i := 54) rfl) rfl)
theorem ly_M_42 : u_lay R_M F_M 42 ∈ TB := (tb_5 (List.mem_of_getElem? (i := 56) rfl) rfl)
theorem ly_M_43 : u_lay R_M F_M 43 ∈ TB := (tb_5 (List.mem_of_getElem? (i := 58) rfl) rfl)
theorem ly_M_44 : u_lay R_M F_M 44 ∈ TB := (tb_5 (List.mem_of_getElem? (i := 60) rfl) rfl)
theorem ly_M_45 : u_lay R_M F_M 45 ∈ TB := (tb_5 (List.mem_of_getElem? (i := 62) rfl) rfl)
theorem ly_M_46 : u_lay R_M F_M 46 ∈ TB := (tb_5 (List.mem_of_getElem? (i := 64) rfl) rfl)
theorem ly_M_47 : u_lay R_M F_M 47 ∈ TB := (tb_5 (List.mem_of_getElem? (i := 66) rfl) rfl)
theorem ly_M : ∀ k, k < 48 → u_lay R_M F_M k ∈ TB
  | 0, _ => ly_M_0
  | 1, _ => ly_M_1
  | 2, _ => ly_M_2
  | 3, _ => ly_M_3
  | 4, _ => ly_M_4
  | 5, _ => ly_M_5
  | 6, _ => ly_M_6
  | 7, _ => ly_M_7
  | 8, _ => ly_M_8
  | 9, _ => ly_M_9
  | 10, _ => ly_M_10
  | 11, _ => ly_M_11
  | 12, _ => ly_M_12
  | 13, _ => ly_M_13
  | 14, _ => ly_M_14
  | 15, _ => ly_M_15
  | 16, _ => ly_M_16
  | 17, _ => ly_M_17
  | 18, _ => ly_M_18
  | 19, _ => ly_M_19
  | 20, _ => ly_M_20
  | 21, _ => ly_M_21
  | 22, _ => ly_M_22
  | 23, _ => ly_M_23
  | 24, _ => ly_M_24
  | 25, _ => ly_M_25
  | 26, _ => ly_M_26
  | 27, _ => ly_M_27
  | 28, _ => ly_M_28
  | 29, _ => ly_M_29
  | 30, _ => ly_M_30
  | 31, _ => ly_M_31
  | 32, _ => ly_M_32
  | 33, _ => ly_M_33
  | 34, _ => ly_M_34
  | 35, _ => ly_M_35
  | 36, _ => ly_M_36
  | 37, _ => ly_M_37
  | 38, _ => ly_M_38
  | 39, _ => ly_M_39
  | 40, _ => ly_M_40
  | 41, _ => ly_M_41
  | 42, _ => ly_M_42
  | 43, _ => ly_M_43
  | 44, _ => ly_M_44
  | 45, _ => ly_M_45
  | 46, _ => ly_M_46
  | 47, _ => ly_M_47
  | k + 48, h => absurd h (by omega)
theorem i_M : ∀ w ∈ w_M, w ∈ TB := fun w hw => by
  obtain ⟨k, hk, rfl⟩ := List.mem_map.mp hw
  exact ly_M k (List.mem_range.mp hk)
/-! MEMORY AND MIRRORS. A system's memory: ints (row 0: the scalar fields; row k: the array in cell k) and longs. A mirror is a Lean function that does what a method's bytecode does; none: it would have thrown, or its fuel ran out. -/
abbrev sk_M : Type := (Nat → Nat → Int32) × (Nat → Nat → Int64)
def sk_wi (st : sk_M) (r i : Nat) (v : Int32) : sk_M := (fun q => if q = r then upd (st.1 q) i v else st.1 q, st.2)
def sk_wl (st : sk_M) (r i : Nat) (v : Int64) : sk_M := (st.1, fun q => if q = r then vp_updL (st.2 q) i v else st.2 q)
def sk_rI {α : Type} (n r : Nat) (i : Int32) (st : sk_M) (k : Int32 → Option α) : Option α := if i < 0 ∨ n ≤ i.toNatClampNeg then none else k (st.1 r i.toNatClampNeg)
def sk_rL {α : Type} (n r : Nat) (i : Int32) (st : sk_M) (k : Int64 → Option α) : Option α := if i < 0 ∨ n ≤ i.toNatClampNeg then none else k (st.2 r i.toNatClampNeg)
def sk_wI {α : Type} (n r : Nat) (i v : Int32) (st : sk_M) (k : sk_M → Option α) : Option α := if i < 0 ∨ n ≤ i.toNatClampNeg then none else k (sk_wi st r i.toNatClampNeg v)
def sk_wL {α : Type} (n r : Nat) (i : Int32) (v : Int64) (st : sk_M) (k : sk_M → Option α) : Option α := if i < 0 ∨ n ≤ i.toNatClampNeg then none else k (sk_wl st r i.toNatClampNeg v)
def sk_fI {α : Type} (id : Nat) (v : Int32) (st : sk_M) (k : sk_M → Option α) : Option α := k (sk_wi st 0 id v)
def sk_fL {α : Type} (id : Nat) (v : Int64) (st : sk_M) (k : sk_M → Option α) : Option α := k (sk_wl st 0 id v)
def sk_oR {α β : Type} (x : Option α) (k : α → Option β) : Option β := match x with
  | none => none
  | some a => k a
def sk_oW {α β : Type} (x : Option (α × sk_M)) (k : α → sk_M → Option β) : Option β := match x with
  | none => none
  | some q => k q.1 q.2
def sk_lp {σ ρ : Type} : Nat → ((σ → Option ρ) → σ → Option ρ) → σ → Option ρ
  | 0, _, _ => none
  | n + 1, F, s => F (sk_lp n F) s
theorem sk_rI_some {α : Type} {n r : Nat} {i : Int32} {st : sk_M} {k : Int32 → Option α} {res : α} (h : sk_rI n r i st k = some res) : ∃ x, vp_in i n ∧ st.1 r i.toNatClampNeg = x ∧ k x = some res := by
  unfold sk_rI at h
  by_cases c : i < 0 ∨ n ≤ i.toNatClampNeg
  · rw [if_pos c] at h; cases h
  · rw [if_neg c] at h; exact ⟨_, c, rfl, h⟩
theorem sk_rL_some {α : Type} {n r : Nat} {i : Int32} {st : sk_M} {k : Int64 → Option α} {res : α} (h : sk_rL n r i st k = some res) : ∃ x, vp_in i n ∧ st.2 r i.toNatClampNeg = x ∧ k x = some res := by
  unfold sk_rL at h
  by_cases c : i < 0 ∨ n ≤ i.toNatClampNeg
  · rw [if_pos c] at h; cases h
  · rw [if_neg c] at h; exact ⟨_, c, rfl, h⟩
theorem sk_wI_some {α : Type} {n r : Nat} {i v : Int32} {st : sk_M} {k : sk_M → Option α} {res : α} (h : sk_wI n r i v st k = some res) : ∃ st', vp_in i n ∧ sk_wi st r i.toNatClampNeg v = st' ∧ k st' = some res := by
  unfold sk_wI at h
  by_cases c : i < 0 ∨ n ≤ i.toNatClampNeg
  · rw [if_pos c] at h; cases h
  · rw [if_neg c] at h; exact ⟨_, c, rfl, h⟩
theorem sk_wL_some {α : Type} {n r : Nat} {i : Int32} {v : Int64} {st : sk_M} {k : sk_M → Option α} {res : α} (h : sk_wL n r i v st k = some res) : ∃ st', vp_in i n ∧ sk_wl st r i.toNatClampNeg v = st' ∧ k st' = some res := by
  unfold sk_wL at h
  by_cases c : i < 0 ∨ n ≤ i.toNatClampNeg
  · rw [if_pos c] at h; cases h
  · rw [if_neg c] at h; exact ⟨_, c, rfl, h⟩
theorem sk_fI_some {α : Type} {id : Nat} {v : Int32} {st : sk_M} {k : sk_M → Option α} {res : α} (h : sk_fI id v st k = some res) : ∃ st', sk_wi st 0 id v = st' ∧ k st' = some res := ⟨_, rfl, h⟩
theorem sk_fL_some {α : Type} {id : Nat} {v : Int64} {st : sk_M} {k : sk_M → Option α} {res : α} (h : sk_fL id v st k = some res) : ∃ st', sk_wl st 0 id v = st' ∧ k st' = some res := ⟨_, rfl, h⟩
theorem sk_oR_some {α β : Type} {x : Option α} {k : α → Option β} {res : β} (h : sk_oR x k = some res) : ∃ y, x = some y ∧ k y = some res := by
  cases x with
  | none => cases h
  | some y => exact ⟨y, rfl, h⟩
theorem sk_oW_some {α β : Type} {x : Option (α × sk_M)} {k : α → sk_M → Option β} {res : β} (h : sk_oW x k = some res) : ∃ y st', x = some (y, st') ∧ k y st' = some res := by
  cases x with
  | none => cases h
  | some q => exact ⟨q.1, q.2, rfl, h⟩
theorem sk_ck_some {α : Type} {v : Int32} {x : Option α} {res : α} (h : (if v &&& 1 = v then x else none) = some res) : v &&& 1 = v ∧ x = some res := by
  by_cases c : v &&& 1 = v
  · rw [if_pos c] at h; exact ⟨c, h⟩
  · rw [if_neg c] at h; cases h
theorem sk_lp_run {σ ρ : Type} {F : (σ → Option ρ) → σ → Option ρ} {res : ρ} {G : σ → Prop} (hs : ∀ (self : σ → Option ρ) (s : σ), (∀ s', self s' = some res → G s') → F self s = some res → G s) : ∀ (n : Nat) (s : σ), sk_lp n F s = some res → G s := by
  intro n
  induction n with
  | zero => intro s h; cases h
  | succ n ih => intro s h; exact hs (sk_lp n F) s ih h
/-! WALKS. sk_w: the system's world at memory st: its cells 'ce st' stand in the heap H, nothing outside A has changed since the method's start -/
def sk_w (D : va_G) (tys : List (ClassId × FieldType)) (A : Nat → Prop) (ce : sk_M → va_W) (s : State) (st : sk_M) (H : Heap) (locs : List Loc) : Prop := va_K D classes tys s ∧ va_P D classes (ce st) H ∧ va_D A (ce st) ∧ va_S A s.heap H locs
/-- what a method's start knows besides its world (nest words, constants): it stays as long as nothing outside A changes -/
def sk_ok (A : Nat → Prop) (nw : State → Prop) : Prop := (∀ s U : State, s.WarmedH U.vm → s.heap.size ≤ U.heap.size → (∀ q : Nat, q < s.heap.size → ¬ A q → U.heap[q]? = s.heap[q]?) → nw s → nw U) ∧ ∀ (U : State) (g : JFrame) (mk : MethodId) (a : Array Value), nw U → nw (U.calling g mk a)
abbrev sk_Wd (D : va_G) (tys : List (ClassId × FieldType)) (A : Nat → Prop) (ce : sk_M → va_W) (nw : State → Prop) (st : sk_M) (U : State) : Prop := va_P D classes (ce st) U.heap ∧ va_K D classes tys U ∧ va_D A (ce st) ∧ nw U
def sk_Ci (l : Launch) (y : MethodName) (ws : List Cond) (rm : Room) (D : va_G) (tys : List (ClassId × FieldType)) (A : Nat → Prop) (ce : sk_M → va_W) (nw : State → Prop) (av : List Value) (st : sk_M) (r : Int32) (st' : sk_M) : Prop :=
  Met l y ws rm (va_Pc av (sk_Wd D tys A ce nw st)) (va_Qi (fun (r' : Int32) (u : sk_M) => r' = r ∧ u = st') (fun u t => va_P D classes (ce u) t.heap ∧ va_D A (ce u)) A) 0 0 A
def sk_Cl (l : Launch) (y : MethodName) (ws : List Cond) (rm : Room) (D : va_G) (tys : List (ClassId × FieldType)) (A : Nat → Prop) (ce : sk_M → va_W) (nw : State → Prop) (av : List Value) (st : sk_M) (r : Int64) (st' : sk_M) : Prop :=
  Met l y ws rm (va_Pc av (sk_Wd D tys A ce nw st)) (va_Ql (fun (r' : Int64) (u : sk_M) => r' = r ∧ u = st') (fun u t => va_P D classes (ce u) t.heap ∧ va_D A (ce u)) A) 0 0 A
def sk_Cv (l : Launch) (y : MethodName) (ws : List Cond) (rm : Room) (D : va_G) (tys : List (ClassId × FieldType)) (A : Nat → Prop) (ce : sk_M → va_W) (nw : State → Prop) (av : List Value) (st : sk_M) (st' : sk_M) : Prop :=
  Met l y ws rm (va_Pc av (sk_Wd D tys A ce nw st)) (va_Qv (fun (u : sk_M) => u = st') (fun u t => va_P D classes (ce u) t.heap ∧ va_D A (ce u)) A) 0 0 A
section SKH
variable {l : Launch} {y : MethodName} {ws ws' : List Cond} {rm : Room} {D : va_G} {tys : List (ClassId × FieldType)} {A : Nat → Prop} {ce : sk_M → va_W} {nw : State → Prop} {av : List Value} {st st' : sk_M} {cc : ByteArray} {maxL : Nat}
theorem sk_headi {r : Int32} (ret : FieldType) (hy : plainName y.cls = true) (hw : ws = Cond.code y cc maxL (some ret) :: ws') (hlen : (lg_sl av).length ≤ maxL)
    (body : ∀ (p : Program) (e : Env) (s : State) (m : MethodId) (args : Array Value) (below : List Frame) (meth : Method) (c : Code) (Q : State → Prop), p.tables.exec = Jvm.exec → c.code = cc → c.maxLocals = maxL → s.vm.findClass y.cls = some m.cls → (∀ w ∈ ws, w.before args s = true) → nw s →
      (∀ (st2 : sk_M) (v : Int32) (H : Heap) (locs : List Loc) (ls : Array Slot) (pc : Nat), v = r → st2 = st' → narrow ret (.int v) = .int v → sk_w D tys A ce s st2 H locs → decode cc pc = .ok (.ireturn, 1) → W p l e rm s m args below meth c H locs 0 0 Q (F0 m pc ls [.int v])) →
      ∀ ls : Array Slot, lv_has ls maxL (lv_args 0 av) → sk_w D tys A ce s st s.heap [] → W p l e rm s m args below meth c s.heap [] 0 0 Q (F0 m 0 ls [])) : sk_Ci l y ws rm D tys A ce nw av st r st' := by
  refine Met.ofW (cc := cc) (maxL := maxL) (ret := some ret) hy hw ?_
  intro p e s m args below meth c s₁ B hml hv
  obtain ⟨rfl, hP, hK, hD, hnw⟩ := hv
  rw [lg_entry_eq]
  exact body p e s m _ below meth c _ B.exec B.bytes hml (findClass_of_methodNamed B.named) (atoms_spec B.pre) hnw (fun st2 v H locs ls pc hv hs hn hw hd => by
    subst hv; subst hs
    exact W.zret B.exec B.bytes B.returns hn (fun t ht hW => ⟨⟨v, st2, rfl, ⟨rfl, rfl⟩, by rw [ht]; exact hw.2.1, hw.2.2.1⟩, hw.2.2.2.F ht⟩) hw.2.2.2.2.2 hd B.notSynchronized) _ (lv_entry av hlen) ⟨hK, hP, hD, va_S.rf⟩
theorem sk_headl {r : Int64} (hy : plainName y.cls = true) (hw : ws = Cond.code y cc maxL (some .long) :: ws') (hlen : (lg_sl av).length ≤ maxL)
    (body : ∀ (p : Program) (e : Env) (s : State) (m : MethodId) (args : Array Value) (below : List Frame) (meth : Method) (c : Code) (Q : State → Prop), p.tables.exec = Jvm.exec → c.code = cc → c.maxLocals = maxL → s.vm.findClass y.cls = some m.cls → (∀ w ∈ ws, w.before args s = true) → nw s →
      (∀ (st2 : sk_M) (v : Int64) (H : Heap) (locs : List Loc) (ls : Array Slot) (pc : Nat), v = r → st2 = st' → sk_w D tys A ce s st2 H locs → decode cc pc = .ok (.lreturn, 1) → W p l e rm s m args below meth c H locs 0 0 Q (F0 m pc ls [.long v])) →
      ∀ ls : Array Slot, lv_has ls maxL (lv_args 0 av) → sk_w D tys A ce s st s.heap [] → W p l e rm s m args below meth c s.heap [] 0 0 Q (F0 m 0 ls [])) : sk_Cl l y ws rm D tys A ce nw av st r st' := by
  refine Met.ofW (cc := cc) (maxL := maxL) (ret := some .long) hy hw ?_
  intro p e s m args below meth c s₁ B hml hv
  obtain ⟨rfl, hP, hK, hD, hnw⟩ := hv
  rw [lg_entry_eq]
  exact body p e s m _ below meth c _ B.exec B.bytes hml (findClass_of_methodNamed B.named) (atoms_spec B.pre) hnw (fun st2 v H locs ls pc hv hs hw hd => by
    subst hv; subst hs
    exact W.lret B.exec B.bytes B.returns (fun t ht hW => ⟨⟨v, st2, rfl, ⟨rfl, rfl⟩, by rw [ht]; exact hw.2.1, hw.2.2.1⟩, hw.2.2.2.F ht⟩) hw.2.2.2.2.2 hd B.notSynchronized) _ (lv_entry av hlen) ⟨hK, hP, hD, va_S.rf⟩
theorem sk_headv (hy : plainName y.cls = true) (hw : ws = Cond.code y cc maxL none :: ws') (hlen : (lg_sl av).length ≤ maxL)
    (body : ∀ (p : Program) (e : Env) (s : State) (m : MethodId) (args : Array Value) (below : List Frame) (meth : Method) (c : Code) (Q : State → Prop), p.tables.exec = Jvm.exec → c.code = cc → c.maxLocals = maxL → s.vm.findClass y.cls = some m.cls → (∀ w ∈ ws, w.before args s = true) → nw s →
      (∀ (st2 : sk_M) (H : Heap) (locs : List Loc) (ls : Array Slot) (pc : Nat), st2 = st' → sk_w D tys A ce s st2 H locs → decode cc pc = .ok (.return_, 1) → W p l e rm s m args below meth c H locs 0 0 Q (F0 m pc ls [])) →
      ∀ ls : Array Slot, lv_has ls maxL (lv_args 0 av) → sk_w D tys A ce s st s.heap [] → W p l e rm s m args below meth c s.heap [] 0 0 Q (F0 m 0 ls [])) : sk_Cv l y ws rm D tys A ce nw av st st' := by
  refine Met.ofW (cc := cc) (maxL := maxL) (ret := none) hy hw ?_
  intro p e s m args below meth c s₁ B hml hv
  obtain ⟨rfl, hP, hK, hD, hnw⟩ := hv
  rw [lg_entry_eq]
  exact body p e s m _ below meth c _ B.exec B.bytes hml (findClass_of_methodNamed B.named) (atoms_spec B.pre) hnw (fun st2 H locs ls pc hs hw hd => by
    subst hs
    exact W.vret B.exec B.bytes B.returns (fun t ht hW => ⟨⟨st2, rfl, rfl, by rw [ht]; exact hw.2.1, hw.2.2.1⟩, hw.2.2.2.F ht⟩) hw.2.2.2.2.2 hd B.notSynchronized) _ (lv_entry av hlen) ⟨hK, hP, hD, va_S.rf⟩
end SKH
section SKT
variable {p : Program} {l : Launch} {e : Env} {R : Room} {s : State} {m : MethodId} {args : Array Value} {below : List Frame} {meth : Method} {c : Code} {H : Heap} {locs : List Loc} {cells slots : Nat} {Q : State → Prop} {cc : ByteArray} {pc : Nat} {ls : Array Slot} {rest : List Value}
theorem sk_tin {dflt lo hi : Int} {offs : Array Int} {len : Nat} {x k : Int32} {off : Int} {tgt : Nat} (hx : p.tables.exec = Jvm.exec) (hb : c.code = cc) (hdg : decode cc pc = .ok (.tableswitch dflt lo hi offs, len)) (hk : x = k) (h1 : ¬ k.toInt < lo) (h2 : ¬ hi < k.toInt) (ho : offs[(k.toInt - lo).toNat]? = some off) (ht : (pc : Int) + off = (tgt : Int))
    (kk : W p l e R s m args below meth c H locs cells slots Q (F0 m tgt ls rest)) : W p l e R s m args below meth c H locs cells slots Q (F0 m pc ls (.int x :: rest)) := by
  subst hk
  exact lv_tableIn hx hb hdg h1 h2 ho ht kk
end SKT
theorem sk_tout5 {x : Int32} (h0 : ¬ x = 0) (h1 : ¬ x = 1) (h2 : ¬ x = 2) (h3 : ¬ x = 3) (h4 : ¬ x = 4) : x.toInt < 0 ∨ 4 < x.toInt := by
  have a0 := lv_neT (a := 0) h0 rfl; have a1 := lv_neT (a := 1) h1 rfl; have a2 := lv_neT (a := 2) h2 rfl; have a3 := lv_neT (a := 3) h3 rfl; have a4 := lv_neT (a := 4) h4 rfl
  omega
theorem sk_tout9 {x : Int32} (h0 : ¬ x = 0) (h1 : ¬ x = 1) (h2 : ¬ x = 2) (h3 : ¬ x = 3) (h4 : ¬ x = 4) (h5 : ¬ x = 5) (h6 : ¬ x = 6) (h7 : ¬ x = 7) (h8 : ¬ x = 8) : x.toInt < 0 ∨ 8 < x.toInt := by
  have a0 := lv_neT (a := 0) h0 rfl; have a1 := lv_neT (a := 1) h1 rfl; have a2 := lv_neT (a := 2) h2 rfl; have a3 := lv_neT (a := 3) h3 rfl; have a4 := lv_neT (a := 4) h4 rfl
  have a5 := lv_neT (a := 5) h5 rfl; have a6 := lv_neT (a := 6) h6 rfl; have a7 := lv_neT (a := 7) h7 rfl; have a8 := lv_neT (a := 8) h8 rfl
  omega
theorem sk_tout10 {x : Int32} (h0 : ¬ x = 0) (h1 : ¬ x = 1) (h2 : ¬ x = 2) (h3 : ¬ x = 3) (h4 : ¬ x = 4) (h5 : ¬ x = 5) (h6 : ¬ x = 6) (h7 : ¬ x = 7) (h8 : ¬ x = 8) (h9 : ¬ x = 9) : x.toInt < 0 ∨ 9 < x.toInt := by
  have a0 := lv_neT (a := 0) h0 rfl; have a1 := lv_neT (a := 1) h1 rfl; have a2 := lv_neT (a := 2) h2 rfl; have a3 := lv_neT (a := 3) h3 rfl; have a4 := lv_neT (a := 4) h4 rfl
  have a5 := lv_neT (a := 5) h5 rfl; have a6 := lv_neT (a := 6) h6 rfl; have a7 := lv_neT (a := 7) h7 rfl; have a8 := lv_neT (a := 8) h8 rfl; have a9 := lv_neT (a := 9) h9 rfl
  omega
theorem sk_p1 {α β : Type} {v : α} {w : β} {res : α × β} (h : some (v, w) = some res) : v = res.1 := by cases h; rfl
theorem sk_p2 {α β : Type} {v : α} {w : β} {res : α × β} (h : some (v, w) = some res) : w = res.2 := by cases h; rfl
section SKC
variable {p : Program} {l : Launch} {e : Env} {R : Room} {s : State} {m : MethodId} {args : Array Value} {below : List Frame} {meth : Method} {c : Code} {H : Heap} {locs : List Loc} {Q : State → Prop}
variable {y : MethodName} {ws Ts : List Cond} {rm : Room} {D : va_G} {tys : List (ClassId × FieldType)} {A : Nat → Prop} {ce : sk_M → va_W} {nw : State → Prop} {st st2 : sk_M} {cc bytes : ByteArray} {maxL nL n index pc : Nat} {own C host : String} {ret : Option FieldType} {b : Addr} {As rest st0 : List Value} {ls : Array Slot}
theorem sk_blind {av : List Value} (hok : sk_ok A nw) : FrameBlind (va_Pc av (sk_Wd D tys A ce nw st)) := fun a U g mk q => ⟨q.1, q.2.1, va_K.moved (u := U) (U := U.calling g mk a) (Vm.Alike.refl U.vm) q.2.2.1, q.2.2.2.1, hok.2 U g mk a q.2.2.2.2⟩
theorem sk_pre {av : List Value} (hw : sk_w D tys A ce s st H locs) (hnw : nw s) (hok : sk_ok A nw) : ∀ U : State, U.heap = H → s.WarmedH U.vm → va_Pc av (sk_Wd D tys A ce nw st) av.toArray U := fun U hU hW => ⟨rfl, by rw [hU]; exact hw.2.1, va_K.moved hW.alike hw.1, hw.2.2.1, hok.1 s U hW (by rw [hU]; exact hw.2.2.2.1) (fun q h1 h2 => by rw [hU]; exact hw.2.2.2.2.1 q h1 h2) hnw⟩
theorem sk_callVi {r : Int32} (S : CallFix p m c cc nL s args Ts own) (hw : sk_w D tys A ce s st H locs) (hnw : nw s) (hok : sk_ok A nw) (hM : sk_Ci l y ws rm D tys A ce nw (.ref b :: As) st r st2) (cw : CallW R s args own C index y bytes maxL ret ws rm 0 0 n) (hrc : ∃ cellB : Cell, H[b]? = some cellB ∧ cellB.vm.isStatics = false ∧ s.vm.findClass C = some cellB.cls) (hn : As.length = n) (hsize : ls.size = nL) (hstack : st0 = As.reverse ++ .ref b :: rest) (hroom : (rest.map fun v => v.category).sum ≤ 8) (hdg : decode cc pc = .ok (.invokevirtual index, 3))
    (kk : ∀ (H1 : Heap) (locs1 : List Loc), sk_w D tys A ce s st2 H1 locs1 → W p l e R s m args below meth c H1 locs1 0 0 Q (F0 m (pc + 3) ls (.int r :: rest))) : W p l e R s m args below meth c H locs 0 0 Q (F0 m pc ls st0) := by
  refine va_calli (va_runV (As := As) (rest := rest) S hM cw ⟨sk_blind hok, hrc, sk_pre hw hnw hok⟩ rfl hn hsize hstack (lv_room hroom) hdg ⟨Nat.zero_le _, Nat.zero_le _⟩) hw.2.2.2 (fun q _ h => h) (fun q h => h) (fun r1 u t H1 locs1 ht hvm hp hB hz hk hS => ?_)
  obtain ⟨rfl, rfl⟩ := hp
  exact kk H1 locs1 ⟨hw.1, by rw [← ht]; exact hB.1, hB.2, hS⟩
theorem sk_callVl {r : Int64} (S : CallFix p m c cc nL s args Ts own) (hw : sk_w D tys A ce s st H locs) (hnw : nw s) (hok : sk_ok A nw) (hM : sk_Cl l y ws rm D tys A ce nw (.ref b :: As) st r st2) (cw : CallW R s args own C index y bytes maxL ret ws rm 0 0 n) (hrc : ∃ cellB : Cell, H[b]? = some cellB ∧ cellB.vm.isStatics = false ∧ s.vm.findClass C = some cellB.cls) (hn : As.length = n) (hsize : ls.size = nL) (hstack : st0 = As.reverse ++ .ref b :: rest) (hroom : (rest.map fun v => v.category).sum ≤ 8) (hdg : decode cc pc = .ok (.invokevirtual index, 3))
    (kk : ∀ (H1 : Heap) (locs1 : List Loc), sk_w D tys A ce s st2 H1 locs1 → W p l e R s m args below meth c H1 locs1 0 0 Q (F0 m (pc + 3) ls (.long r :: rest))) : W p l e R s m args below meth c H locs 0 0 Q (F0 m pc ls st0) := by
  refine va_calll (va_runV (As := As) (rest := rest) S hM cw ⟨sk_blind hok, hrc, sk_pre hw hnw hok⟩ rfl hn hsize hstack (lv_room hroom) hdg ⟨Nat.zero_le _, Nat.zero_le _⟩) hw.2.2.2 (fun q _ h => h) (fun q h => h) (fun r1 u t H1 locs1 ht hvm hp hB hz hk hS => ?_)
  obtain ⟨rfl, rfl⟩ := hp
  exact kk H1 locs1 ⟨hw.1, by rw [← ht]; exact hB.1, hB.2, hS⟩
theorem sk_callVv (S : CallFix p m c cc nL s args Ts own) (hw : sk_w D tys A ce s st H locs) (hnw : nw s) (hok : sk_ok A nw) (hM : sk_Cv l y ws rm D tys A ce nw (.ref b :: As) st st2) (cw : CallW R s args own C index y bytes maxL ret ws rm 0 0 n) (hrc : ∃ cellB : Cell, H[b]? = some cellB ∧ cellB.vm.isStatics = false ∧ s.vm.findClass C = some cellB.cls) (hn : As.length = n) (hsize : ls.size = nL) (hstack : st0 = As.reverse ++ .ref b :: rest) (hroom : (rest.map fun v => v.category).sum ≤ 8) (hdg : decode cc pc = .ok (.invokevirtual index, 3))
    (kk : ∀ (H1 : Heap) (locs1 : List Loc), sk_w D tys A ce s st2 H1 locs1 → W p l e R s m args below meth c H1 locs1 0 0 Q (F0 m (pc + 3) ls (rest))) : W p l e R s m args below meth c H locs 0 0 Q (F0 m pc ls st0) := by
  refine va_callv (va_runV (As := As) (rest := rest) S hM cw ⟨sk_blind hok, hrc, sk_pre hw hnw hok⟩ rfl hn hsize hstack (lv_room hroom) hdg ⟨Nat.zero_le _, Nat.zero_le _⟩) hw.2.2.2 (fun q _ h => h) (fun q h => h) (fun u t H1 locs1 ht hvm hp hB hz hk hS => ?_)
  subst hp
  exact kk H1 locs1 ⟨hw.1, by rw [← ht]; exact hB.1, hB.2, hS⟩
theorem sk_callVNi {r : Int32} (S : CallFix p m c cc nL s args Ts own) (hw : sk_w D tys A ce s st H locs) (hnw : nw s) (hok : sk_ok A nw) (hM : sk_Ci l y ws rm D tys A ce nw (.ref b :: As) st r st2) (cw : va_CN R s args own index y host bytes maxL ret ws rm 0 0 n ∧ (Cond.instanceMethod y).before args s = true ∧ (Cond.selects C y y).before args s = true) (hrc : ∃ cellB : Cell, H[b]? = some cellB ∧ cellB.vm.isStatics = false ∧ s.vm.findClass C = some cellB.cls) (hn : As.length = n) (hsize : ls.size = nL) (hstack : st0 = As.reverse ++ .ref b :: rest) (hroom : (rest.map fun v => v.category).sum ≤ 8) (hdg : decode cc pc = .ok (.invokevirtual index, 3))
    (kk : ∀ (H1 : Heap) (locs1 : List Loc), sk_w D tys A ce s st2 H1 locs1 → W p l e R s m args below meth c H1 locs1 0 0 Q (F0 m (pc + 3) ls (.int r :: rest))) : W p l e R s m args below meth c H locs 0 0 Q (F0 m pc ls st0) := by
  refine va_calli (va_runVN (As := As) (rest := rest) S hM cw ⟨sk_blind hok, hrc, sk_pre hw hnw hok⟩ rfl hn hsize hstack (lv_room hroom) hdg ⟨Nat.zero_le _, Nat.zero_le _⟩) hw.2.2.2 (fun q _ h => h) (fun q h => h) (fun r1 u t H1 locs1 ht hvm hp hB hz hk hS => ?_)
  obtain ⟨rfl, rfl⟩ := hp
  exact kk H1 locs1 ⟨hw.1, by rw [← ht]; exact hB.1, hB.2, hS⟩
theorem sk_callVNl {r : Int64} (S : CallFix p m c cc nL s args Ts own) (hw : sk_w D tys A ce s st H locs) (hnw : nw s) (hok : sk_ok A nw) (hM : sk_Cl l y ws rm D tys A ce nw (.ref b :: As) st r st2) (cw : va_CN R s args own index y host bytes maxL ret ws rm 0 0 n ∧ (Cond.instanceMethod y).before args s = true ∧ (Cond.selects C y y).before args s = true) (hrc : ∃ cellB : Cell, H[b]? = some cellB ∧ cellB.vm.isStatics = false ∧ s.vm.findClass C = some cellB.cls) (hn : As.length = n) (hsize : ls.size = nL) (hstack : st0 = As.reverse ++ .ref b :: rest) (hroom : (rest.map fun v => v.category).sum ≤ 8) (hdg : decode cc pc = .ok (.invokevirtual index, 3))
    (kk : ∀ (H1 : Heap) (locs1 : List Loc), sk_w D tys A ce s st2 H1 locs1 → W p l e R s m args below meth c H1 locs1 0 0 Q (F0 m (pc + 3) ls (.long r :: rest))) : W p l e R s m args below meth c H locs 0 0 Q (F0 m pc ls st0) := by
  refine va_calll (va_runVN (As := As) (rest := rest) S hM cw ⟨sk_blind hok, hrc, sk_pre hw hnw hok⟩ rfl hn hsize hstack (lv_room hroom) hdg ⟨Nat.zero_le _, Nat.zero_le _⟩) hw.2.2.2 (fun q _ h => h) (fun q h => h) (fun r1 u t H1 locs1 ht hvm hp hB hz hk hS => ?_)
  obtain ⟨rfl, rfl⟩ := hp
  exact kk H1 locs1 ⟨hw.1, by rw [← ht]; exact hB.1, hB.2, hS⟩
theorem sk_callVNv (S : CallFix p m c cc nL s args Ts own) (hw : sk_w D tys A ce s st H locs) (hnw : nw s) (hok : sk_ok A nw) (hM : sk_Cv l y ws rm D tys A ce nw (.ref b :: As) st st2) (cw : va_CN R s args own index y host bytes maxL ret ws rm 0 0 n ∧ (Cond.instanceMethod y).before args s = true ∧ (Cond.selects C y y).before args s = true) (hrc : ∃ cellB : Cell, H[b]? = some cellB ∧ cellB.vm.isStatics = false ∧ s.vm.findClass C = some cellB.cls) (hn : As.length = n) (hsize : ls.size = nL) (hstack : st0 = As.reverse ++ .ref b :: rest) (hroom : (rest.map fun v => v.category).sum ≤ 8) (hdg : decode cc pc = .ok (.invokevirtual index, 3))
    (kk : ∀ (H1 : Heap) (locs1 : List Loc), sk_w D tys A ce s st2 H1 locs1 → W p l e R s m args below meth c H1 locs1 0 0 Q (F0 m (pc + 3) ls (rest))) : W p l e R s m args below meth c H locs 0 0 Q (F0 m pc ls st0) := by
  refine va_callv (va_runVN (As := As) (rest := rest) S hM cw ⟨sk_blind hok, hrc, sk_pre hw hnw hok⟩ rfl hn hsize hstack (lv_room hroom) hdg ⟨Nat.zero_le _, Nat.zero_le _⟩) hw.2.2.2 (fun q _ h => h) (fun q h => h) (fun u t H1 locs1 ht hvm hp hB hz hk hS => ?_)
  subst hp
  exact kk H1 locs1 ⟨hw.1, by rw [← ht]; exact hB.1, hB.2, hS⟩
theorem sk_callSi {r : Int32} (S : CallFix p m c cc nL s args Ts own) (hw : sk_w D tys A ce s st H locs) (hnw : nw s) (hok : sk_ok A nw) (hM : sk_Ci l y ws rm D tys A ce nw As st r st2) (cw : CallB R s args own index y bytes maxL ret ws rm 0 0 n ∧ (Cond.static y).before args s = true) (hn : As.length = n) (hsize : ls.size = nL) (hstack : st0 = As.reverse ++ rest) (hroom : (rest.map fun v => v.category).sum ≤ 8) (hdg : decode cc pc = .ok (.invokestatic index, 3))
    (kk : ∀ (H1 : Heap) (locs1 : List Loc), sk_w D tys A ce s st2 H1 locs1 → W p l e R s m args below meth c H1 locs1 0 0 Q (F0 m (pc + 3) ls (.int r :: rest))) : W p l e R s m args below meth c H locs 0 0 Q (F0 m pc ls st0) := by
  refine va_calli (va_runS (As := As) (rest := rest) S hM cw ⟨sk_blind hok, sk_pre hw hnw hok⟩ rfl hn hsize hstack (lv_room hroom) hdg ⟨Nat.zero_le _, Nat.zero_le _⟩) hw.2.2.2 (fun q _ h => h) (fun q h => h) (fun r1 u t H1 locs1 ht hvm hp hB hz hk hS => ?_)
  obtain ⟨rfl, rfl⟩ := hp
  exact kk H1 locs1 ⟨hw.1, by rw [← ht]; exact hB.1, hB.2, hS⟩
theorem sk_callSl {r : Int64} (S : CallFix p m c cc nL s args Ts own) (hw : sk_w D tys A ce s st H locs) (hnw : nw s) (hok : sk_ok A nw) (hM : sk_Cl l y ws rm D tys A ce nw As st r st2) (cw : CallB R s args own index y bytes maxL ret ws rm 0 0 n ∧ (Cond.static y).before args s = true) (hn : As.length = n) (hsize : ls.size = nL) (hstack : st0 = As.reverse ++ rest) (hroom : (rest.map fun v => v.category).sum ≤ 8) (hdg : decode cc pc = .ok (.invokestatic index, 3))
    (kk : ∀ (H1 : Heap) (locs1 : List Loc), sk_w D tys A ce s st2 H1 locs1 → W p l e R s m args below meth c H1 locs1 0 0 Q (F0 m (pc + 3) ls (.long r :: rest))) : W p l e R s m args below meth c H locs 0 0 Q (F0 m pc ls st0) := by
  refine va_calll (va_runS (As := As) (rest := rest) S hM cw ⟨sk_blind hok, sk_pre hw hnw hok⟩ rfl hn hsize hstack (lv_room hroom) hdg ⟨Nat.zero_le _, Nat.zero_le _⟩) hw.2.2.2 (fun q _ h => h) (fun q h => h) (fun r1 u t H1 locs1 ht hvm hp hB hz hk hS => ?_)
  obtain ⟨rfl, rfl⟩ := hp
  exact kk H1 locs1 ⟨hw.1, by rw [← ht]; exact hB.1, hB.2, hS⟩
theorem sk_callSv (S : CallFix p m c cc nL s args Ts own) (hw : sk_w D tys A ce s st H locs) (hnw : nw s) (hok : sk_ok A nw) (hM : sk_Cv l y ws rm D tys A ce nw As st st2) (cw : CallB R s args own index y bytes maxL ret ws rm 0 0 n ∧ (Cond.static y).before args s = true) (hn : As.length = n) (hsize : ls.size = nL) (hstack : st0 = As.reverse ++ rest) (hroom : (rest.map fun v => v.category).sum ≤ 8) (hdg : decode cc pc = .ok (.invokestatic index, 3))
    (kk : ∀ (H1 : Heap) (locs1 : List Loc), sk_w D tys A ce s st2 H1 locs1 → W p l e R s m args below meth c H1 locs1 0 0 Q (F0 m (pc + 3) ls (rest))) : W p l e R s m args below meth c H locs 0 0 Q (F0 m pc ls st0) := by
  refine va_callv (va_runS (As := As) (rest := rest) S hM cw ⟨sk_blind hok, sk_pre hw hnw hok⟩ rfl hn hsize hstack (lv_room hroom) hdg ⟨Nat.zero_le _, Nat.zero_le _⟩) hw.2.2.2 (fun q _ h => h) (fun q h => h) (fun u t H1 locs1 ht hvm hp hB hz hk hS => ?_)
  subst hp
  exact kk H1 locs1 ⟨hw.1, by rw [← ht]; exact hB.1, hB.2, hS⟩
theorem sk_callSNi {r : Int32} (S : CallFix p m c cc nL s args Ts own) (hw : sk_w D tys A ce s st H locs) (hnw : nw s) (hok : sk_ok A nw) (hM : sk_Ci l y ws rm D tys A ce nw As st r st2) (cw : va_CN R s args own index y host bytes maxL ret ws rm 0 0 n ∧ (Cond.static y).before args s = true ∧ True) (hn : As.length = n) (hsize : ls.size = nL) (hstack : st0 = As.reverse ++ rest) (hroom : (rest.map fun v => v.category).sum ≤ 8) (hdg : decode cc pc = .ok (.invokestatic index, 3))
    (kk : ∀ (H1 : Heap) (locs1 : List Loc), sk_w D tys A ce s st2 H1 locs1 → W p l e R s m args below meth c H1 locs1 0 0 Q (F0 m (pc + 3) ls (.int r :: rest))) : W p l e R s m args below meth c H locs 0 0 Q (F0 m pc ls st0) := by
  refine va_calli (va_runSN (As := As) (rest := rest) S hM cw ⟨sk_blind hok, sk_pre hw hnw hok⟩ rfl hn hsize hstack (lv_room hroom) hdg ⟨Nat.zero_le _, Nat.zero_le _⟩) hw.2.2.2 (fun q _ h => h) (fun q h => h) (fun r1 u t H1 locs1 ht hvm hp hB hz hk hS => ?_)
  obtain ⟨rfl, rfl⟩ := hp
  exact kk H1 locs1 ⟨hw.1, by rw [← ht]; exact hB.1, hB.2, hS⟩
theorem sk_callSNl {r : Int64} (S : CallFix p m c cc nL s args Ts own) (hw : sk_w D tys A ce s st H locs) (hnw : nw s) (hok : sk_ok A nw) (hM : sk_Cl l y ws rm D tys A ce nw As st r st2) (cw : va_CN R s args own index y host bytes maxL ret ws rm 0 0 n ∧ (Cond.static y).before args s = true ∧ True) (hn : As.length = n) (hsize : ls.size = nL) (hstack : st0 = As.reverse ++ rest) (hroom : (rest.map fun v => v.category).sum ≤ 8) (hdg : decode cc pc = .ok (.invokestatic index, 3))
    (kk : ∀ (H1 : Heap) (locs1 : List Loc), sk_w D tys A ce s st2 H1 locs1 → W p l e R s m args below meth c H1 locs1 0 0 Q (F0 m (pc + 3) ls (.long r :: rest))) : W p l e R s m args below meth c H locs 0 0 Q (F0 m pc ls st0) := by
  refine va_calll (va_runSN (As := As) (rest := rest) S hM cw ⟨sk_blind hok, sk_pre hw hnw hok⟩ rfl hn hsize hstack (lv_room hroom) hdg ⟨Nat.zero_le _, Nat.zero_le _⟩) hw.2.2.2 (fun q _ h => h) (fun q h => h) (fun r1 u t H1 locs1 ht hvm hp hB hz hk hS => ?_)
  obtain ⟨rfl, rfl⟩ := hp
  exact kk H1 locs1 ⟨hw.1, by rw [← ht]; exact hB.1, hB.2, hS⟩
theorem sk_callSNv (S : CallFix p m c cc nL s args Ts own) (hw : sk_w D tys A ce s st H locs) (hnw : nw s) (hok : sk_ok A nw) (hM : sk_Cv l y ws rm D tys A ce nw As st st2) (cw : va_CN R s args own index y host bytes maxL ret ws rm 0 0 n ∧ (Cond.static y).before args s = true ∧ True) (hn : As.length = n) (hsize : ls.size = nL) (hstack : st0 = As.reverse ++ rest) (hroom : (rest.map fun v => v.category).sum ≤ 8) (hdg : decode cc pc = .ok (.invokestatic index, 3))
    (kk : ∀ (H1 : Heap) (locs1 : List Loc), sk_w D tys A ce s st2 H1 locs1 → W p l e R s m args below meth c H1 locs1 0 0 Q (F0 m (pc + 3) ls (rest))) : W p l e R s m args below meth c H locs 0 0 Q (F0 m pc ls st0) := by
  refine va_callv (va_runSN (As := As) (rest := rest) S hM cw ⟨sk_blind hok, sk_pre hw hnw hok⟩ rfl hn hsize hstack (lv_room hroom) hdg ⟨Nat.zero_le _, Nat.zero_le _⟩) hw.2.2.2 (fun q _ h => h) (fun q h => h) (fun u t H1 locs1 ht hvm hp hB hz hk hS => ?_)
  subst hp
  exact kk H1 locs1 ⟨hw.1, by rw [← ht]; exact hB.1, hB.2, hS⟩
end SKC
