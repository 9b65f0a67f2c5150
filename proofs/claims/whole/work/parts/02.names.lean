def RX0 : String := "NamesNoTouch$City"
def TX0 : u_T := fun k => match k with
  | 0 => ("NamesNoTouch$Name", "trail", "LNamesNoTouch$Row;", true)
  | 1 => ("NamesNoTouch$Name", "number", "I", true)
  | 2 => ("NamesNoTouch$Name", "v", "I", true)
  | 3 => ("NamesNoTouch$Name", "letters", "I", true)
  | 4 => ("NamesNoTouch$Name", "column", "I", true)
  | _ => ("NamesNoTouch$Name", "line", "I", true)
def tyX0 : Nat → FieldType := fun k => match k with
  | 0 => .object "NamesNoTouch$Row"
  | 1 => .int
  | 2 => .int
  | 3 => .int
  | 4 => .int
  | _ => .int
abbrev wsX00 : List Cond := u_ws RX0 TX0 6
theorem nmX0 : ∀ a, a < 6 → ∀ b, b < 6 → a ≠ b → (TX0 a).2.1 ≠ (TX0 b).2.1 := by decide +kernel
theorem tyX0_ok : ∀ k, k < 6 → parseFieldDescriptor (TX0 k).2.2.1 = some (tyX0 k) := by decide +kernel
abbrev cX0_init : ByteArray := prog_2_method_1_code
def yX0_init : MethodName := ⟨RX0, "<init>", "(LNamesNoTouch$Row;IIIII)V"⟩
abbrev cX0_kind : ByteArray := prog_2_method_2_code
def yX0_kind : MethodName := ⟨RX0, "kind", "()I"⟩
abbrev cX0_length : ByteArray := prog_2_method_3_code
def yX0_length : MethodName := ⟨RX0, "length", "(I)I"⟩
abbrev cX0_mayBe : ByteArray := prog_2_method_4_code
def yX0_mayBe : MethodName := ⟨RX0, "mayBe", "(I)I"⟩
abbrev cX0_tells : ByteArray := prog_2_method_5_code
def yX0_tells : MethodName := ⟨RX0, "tells", "(I)I"⟩
def RX1 : String := "NamesNoTouch$Coastal"
def TX1 : u_T := fun k => match k with
  | 0 => ("NamesNoTouch$Name", "trail", "LNamesNoTouch$Row;", true)
  | 1 => ("NamesNoTouch$Name", "number", "I", true)
  | 2 => ("NamesNoTouch$Name", "v", "I", true)
  | 3 => ("NamesNoTouch$Name", "letters", "I", true)
  | 4 => ("NamesNoTouch$Name", "column", "I", true)
  | _ => ("NamesNoTouch$Name", "line", "I", true)
def tyX1 : Nat → FieldType := fun k => match k with
  | 0 => .object "NamesNoTouch$Row"
  | 1 => .int
  | 2 => .int
  | 3 => .int
  | 4 => .int
  | _ => .int
abbrev wsX10 : List Cond := u_ws RX1 TX1 6
theorem nmX1 : ∀ a, a < 6 → ∀ b, b < 6 → a ≠ b → (TX1 a).2.1 ≠ (TX1 b).2.1 := by decide +kernel
theorem tyX1_ok : ∀ k, k < 6 → parseFieldDescriptor (TX1 k).2.2.1 = some (tyX1 k) := by decide +kernel
abbrev cX1_init : ByteArray := prog_3_method_1_code
def yX1_init : MethodName := ⟨RX1, "<init>", "(LNamesNoTouch$Row;IIIII)V"⟩
abbrev cX1_kind : ByteArray := prog_3_method_2_code
def yX1_kind : MethodName := ⟨RX1, "kind", "()I"⟩
abbrev cX1_mayBe : ByteArray := prog_3_method_3_code
def yX1_mayBe : MethodName := ⟨RX1, "mayBe", "(I)I"⟩
abbrev cX1_reads : ByteArray := prog_3_method_4_code
def yX1_reads : MethodName := ⟨RX1, "reads", "(I)I"⟩
def RX2 : String := "NamesNoTouch$Harbour"
def TX2 : u_T := fun k => match k with
  | 0 => ("NamesNoTouch$Name", "trail", "LNamesNoTouch$Row;", true)
  | 1 => ("NamesNoTouch$Name", "number", "I", true)
  | 2 => ("NamesNoTouch$Name", "v", "I", true)
  | 3 => ("NamesNoTouch$Name", "letters", "I", true)
  | 4 => ("NamesNoTouch$Name", "column", "I", true)
  | _ => ("NamesNoTouch$Name", "line", "I", true)
def tyX2 : Nat → FieldType := fun k => match k with
  | 0 => .object "NamesNoTouch$Row"
  | 1 => .int
  | 2 => .int
  | 3 => .int
  | 4 => .int
  | _ => .int
abbrev wsX20 : List Cond := u_ws RX2 TX2 6
theorem nmX2 : ∀ a, a < 6 → ∀ b, b < 6 → a ≠ b → (TX2 a).2.1 ≠ (TX2 b).2.1 := by decide +kernel
theorem tyX2_ok : ∀ k, k < 6 → parseFieldDescriptor (TX2 k).2.2.1 = some (tyX2 k) := by decide +kernel
abbrev cX2_init : ByteArray := prog_4_method_1_code
def yX2_init : MethodName := ⟨RX2, "<init>", "(LNamesNoTouch$Row;IIIII)V"⟩
abbrev cX2_kind : ByteArray := prog_4_method_2_code
def yX2_kind : MethodName := ⟨RX2, "kind", "()I"⟩
abbrev cX2_mayBe : ByteArray := prog_4_method_3_code
def yX2_mayBe : MethodName := ⟨RX2, "mayBe", "(I)I"⟩
abbrev cX2_lies : ByteArray := prog_4_method_4_code
def yX2_lies : MethodName := ⟨RX2, "lies", "(I)I"⟩
def RX3 : String := "NamesNoTouch$Large"
def TX3 : u_T := fun k => match k with
  | 0 => ("NamesNoTouch$Name", "trail", "LNamesNoTouch$Row;", true)
  | 1 => ("NamesNoTouch$Name", "number", "I", true)
  | 2 => ("NamesNoTouch$Name", "v", "I", true)
  | 3 => ("NamesNoTouch$Name", "letters", "I", true)
  | 4 => ("NamesNoTouch$Name", "column", "I", true)
  | _ => ("NamesNoTouch$Name", "line", "I", true)
def tyX3 : Nat → FieldType := fun k => match k with
  | 0 => .object "NamesNoTouch$Row"
  | 1 => .int
  | 2 => .int
  | 3 => .int
  | 4 => .int
  | _ => .int
abbrev wsX30 : List Cond := u_ws RX3 TX3 6
theorem nmX3 : ∀ a, a < 6 → ∀ b, b < 6 → a ≠ b → (TX3 a).2.1 ≠ (TX3 b).2.1 := by decide +kernel
theorem tyX3_ok : ∀ k, k < 6 → parseFieldDescriptor (TX3 k).2.2.1 = some (tyX3 k) := by decide +kernel
abbrev cX3_init : ByteArray := prog_5_method_1_code
def yX3_init : MethodName := ⟨RX3, "<init>", "(LNamesNoTouch$Row;IIIII)V"⟩
abbrev cX3_kind : ByteArray := prog_5_method_2_code
def yX3_kind : MethodName := ⟨RX3, "kind", "()I"⟩
abbrev cX3_length : ByteArray := prog_5_method_3_code
def yX3_length : MethodName := ⟨RX3, "length", "(I)I"⟩
abbrev cX3_mayBe : ByteArray := prog_5_method_4_code
def yX3_mayBe : MethodName := ⟨RX3, "mayBe", "(I)I"⟩
abbrev cX3_lies : ByteArray := prog_5_method_5_code
def yX3_lies : MethodName := ⟨RX3, "lies", "(I)I"⟩
def RX4 : String := "NamesNoTouch$Name"
def TX4 : u_T := fun k => match k with
  | 0 => ("NamesNoTouch$Name", "trail", "LNamesNoTouch$Row;", true)
  | 1 => ("NamesNoTouch$Name", "number", "I", true)
  | 2 => ("NamesNoTouch$Name", "v", "I", true)
  | 3 => ("NamesNoTouch$Name", "letters", "I", true)
  | 4 => ("NamesNoTouch$Name", "column", "I", true)
  | _ => ("NamesNoTouch$Name", "line", "I", true)
def tyX4 : Nat → FieldType := fun k => match k with
  | 0 => .object "NamesNoTouch$Row"
  | 1 => .int
  | 2 => .int
  | 3 => .int
  | 4 => .int
  | _ => .int
abbrev wsX40 : List Cond := u_ws RX4 TX4 6
theorem nmX4 : ∀ a, a < 6 → ∀ b, b < 6 → a ≠ b → (TX4 a).2.1 ≠ (TX4 b).2.1 := by decide +kernel
theorem tyX4_ok : ∀ k, k < 6 → parseFieldDescriptor (TX4 k).2.2.1 = some (tyX4 k) := by decide +kernel
abbrev cX4_init : ByteArray := prog_6_method_1_code
def yX4_init : MethodName := ⟨RX4, "<init>", "(LNamesNoTouch$Row;IIIII)V"⟩
abbrev cX4_kind : ByteArray := prog_6_method_2_code
def yX4_kind : MethodName := ⟨RX4, "kind", "()I"⟩
abbrev cX4_length : ByteArray := prog_6_method_3_code
def yX4_length : MethodName := ⟨RX4, "length", "(I)I"⟩
abbrev cX4_mayBe : ByteArray := prog_6_method_4_code
def yX4_mayBe : MethodName := ⟨RX4, "mayBe", "(I)I"⟩
abbrev cX4_lies : ByteArray := prog_6_method_5_code
def yX4_lies : MethodName := ⟨RX4, "lies", "(I)I"⟩
abbrev cX4_reads : ByteArray := prog_6_method_6_code
def yX4_reads : MethodName := ⟨RX4, "reads", "(I)I"⟩
abbrev cX4_tells : ByteArray := prog_6_method_7_code
def yX4_tells : MethodName := ⟨RX4, "tells", "(I)I"⟩
abbrev cX4_lineAt : ByteArray := prog_6_method_8_code
def yX4_lineAt : MethodName := ⟨RX4, "lineAt", "(I)I"⟩
abbrev cX4_startAt : ByteArray := prog_6_method_9_code
def yX4_startAt : MethodName := ⟨RX4, "startAt", "(II)I"⟩
abbrev cX4_cells : ByteArray := prog_6_method_10_code
def yX4_cells : MethodName := ⟨RX4, "cells", "(II)J"⟩
abbrev cX4_covers : ByteArray := prog_6_method_11_code
def yX4_covers : MethodName := ⟨RX4, "covers", "(IIII)Z"⟩
def RX5 : String := "NamesNoTouch$Reader"
def TX5 : u_T := fun k => match k with
  | 0 => ("NamesNoTouch$Reader", "tape", "LNamesNoTouch$Row;", true)
  | 1 => ("NamesNoTouch$Reader", "code", "LNamesNoTouch$Row;", true)
  | 2 => ("NamesNoTouch$Reader", "position", "I", false)
  | 3 => ("NamesNoTouch$Reader", "wide", "I", false)
  | 4 => ("NamesNoTouch$Reader", "river", "I", false)
  | _ => ("NamesNoTouch$Reader", "number", "I", false)
def tyX5 : Nat → FieldType := fun k => match k with
  | 0 => .object "NamesNoTouch$Row"
  | 1 => .object "NamesNoTouch$Row"
  | 2 => .int
  | 3 => .int
  | 4 => .int
  | _ => .int
abbrev wsX50 : List Cond := u_ws RX5 TX5 6
theorem nmX5 : ∀ a, a < 6 → ∀ b, b < 6 → a ≠ b → (TX5 a).2.1 ≠ (TX5 b).2.1 := by decide +kernel
theorem tyX5_ok : ∀ k, k < 6 → parseFieldDescriptor (TX5 k).2.2.1 = some (tyX5 k) := by decide +kernel
abbrev cX5_init : ByteArray := prog_7_method_1_code
def yX5_init : MethodName := ⟨RX5, "<init>", "(LNamesNoTouch$Row;)V"⟩
abbrev cX5_read : ByteArray := prog_7_method_2_code
def yX5_read : MethodName := ⟨RX5, "read", "()Z"⟩
abbrev cX5_readsClause : ByteArray := prog_7_method_3_code
def yX5_readsClause : MethodName := ⟨RX5, "readsClause", "()Z"⟩
abbrev cX5_readsMeasure : ByteArray := prog_7_method_4_code
def yX5_readsMeasure : MethodName := ⟨RX5, "readsMeasure", "(Z)Z"⟩
abbrev cX5_readsEither : ByteArray := prog_7_method_5_code
def yX5_readsEither : MethodName := ⟨RX5, "readsEither", "(I)Z"⟩
abbrev cX5_readsBoth : ByteArray := prog_7_method_6_code
def yX5_readsBoth : MethodName := ⟨RX5, "readsBoth", "(I)Z"⟩
abbrev cX5_readsOne : ByteArray := prog_7_method_7_code
def yX5_readsOne : MethodName := ⟨RX5, "readsOne", "(I)Z"⟩
abbrev cX5_readsOpposite : ByteArray := prog_7_method_8_code
def yX5_readsOpposite : MethodName := ⟨RX5, "readsOpposite", "(I)Z"⟩
abbrev cX5_readsTest : ByteArray := prog_7_method_9_code
def yX5_readsTest : MethodName := ⟨RX5, "readsTest", "()Z"⟩
abbrev cX5_takesNumber : ByteArray := prog_7_method_10_code
def yX5_takesNumber : MethodName := ⟨RX5, "takesNumber", "()Z"⟩
abbrev cX5_takesWord : ByteArray := prog_7_method_11_code
def yX5_takesWord : MethodName := ⟨RX5, "takesWord", "(Ljava/lang/String;)Z"⟩
abbrev cX5_takesOneOf : ByteArray := prog_7_method_12_code
def yX5_takesOneOf : MethodName := ⟨RX5, "takesOneOf", "(Ljava/lang/String;)I"⟩
abbrev cX5_takes : ByteArray := prog_7_method_13_code
def yX5_takes : MethodName := ⟨RX5, "takes", "(I)Z"⟩
abbrev cX5_next : ByteArray := prog_7_method_14_code
def yX5_next : MethodName := ⟨RX5, "next", "()I"⟩
def RX6 : String := "NamesNoTouch$Row"
def TX6 : u_T := fun k => match k with
  | 0 => ("NamesNoTouch$Row", "numbers", "[I", true)
  | _ => ("NamesNoTouch$Row", "size", "I", false)
def tyX6 : Nat → FieldType := fun k => match k with
  | 0 => .array .int
  | _ => .int
abbrev wsX60 : List Cond := u_ws RX6 TX6 2
theorem nmX6 : ∀ a, a < 2 → ∀ b, b < 2 → a ≠ b → (TX6 a).2.1 ≠ (TX6 b).2.1 := by decide +kernel
theorem tyX6_ok : ∀ k, k < 2 → parseFieldDescriptor (TX6 k).2.2.1 = some (tyX6 k) := by decide +kernel
abbrev cX6_init : ByteArray := prog_8_method_1_code
def yX6_init : MethodName := ⟨RX6, "<init>", "(I)V"⟩
abbrev cX6_size : ByteArray := prog_8_method_2_code
def yX6_size : MethodName := ⟨RX6, "size", "()I"⟩
abbrev cX6_get : ByteArray := prog_8_method_3_code
def yX6_get : MethodName := ⟨RX6, "get", "(I)I"⟩
abbrev cX6_set : ByteArray := prog_8_method_4_code
def yX6_set : MethodName := ⟨RX6, "set", "(II)V"⟩
abbrev cX6_add : ByteArray := prog_8_method_5_code
def yX6_add : MethodName := ⟨RX6, "add", "(I)V"⟩
abbrev cX6_clear : ByteArray := prog_8_method_6_code
def yX6_clear : MethodName := ⟨RX6, "clear", "()V"⟩
abbrev cX6_become : ByteArray := prog_8_method_7_code
def yX6_become : MethodName := ⟨RX6, "become", "(LNamesNoTouch$Row;)V"⟩
def RX7 : String := "NamesNoTouch$Search"
def TX7 : u_T := fun k => match k with
  | 0 => ("NamesNoTouch$Search", "sheet", "LNamesNoTouch$Sheet;", true)
  | 1 => ("NamesNoTouch$Search", "allowed", "LNamesNoTouch$Row;", true)
  | 2 => ("NamesNoTouch$Search", "values", "LNamesNoTouch$Row;", true)
  | 3 => ("NamesNoTouch$Search", "clashes", "LNamesNoTouch$Row;", true)
  | 4 => ("NamesNoTouch$Search", "tops", "LNamesNoTouch$Row;", true)
  | 5 => ("NamesNoTouch$Search", "now", "LNamesNoTouch$Row;", true)
  | 6 => ("NamesNoTouch$Search", "found", "LNamesNoTouch$Row;", true)
  | 7 => ("NamesNoTouch$Search", "isFound", "Z", false)
  | 8 => ("NamesNoTouch$Search", "dots", "I", false)
  | 9 => ("NamesNoTouch$Search", "total", "I", false)
  | _ => ("NamesNoTouch$Search", "bonus", "I", false)
def tyX7 : Nat → FieldType := fun k => match k with
  | 0 => .object "NamesNoTouch$Sheet"
  | 1 => .object "NamesNoTouch$Row"
  | 2 => .object "NamesNoTouch$Row"
  | 3 => .object "NamesNoTouch$Row"
  | 4 => .object "NamesNoTouch$Row"
  | 5 => .object "NamesNoTouch$Row"
  | 6 => .object "NamesNoTouch$Row"
  | 7 => .boolean
  | 8 => .int
  | 9 => .int
  | _ => .int
abbrev wsX70 : List Cond := u_ws RX7 TX7 11
theorem nmX7 : ∀ a, a < 11 → ∀ b, b < 11 → a ≠ b → (TX7 a).2.1 ≠ (TX7 b).2.1 := by decide +kernel
theorem tyX7_ok : ∀ k, k < 11 → parseFieldDescriptor (TX7 k).2.2.1 = some (tyX7 k) := by decide +kernel
abbrev cX7_init : ByteArray := prog_9_method_1_code
def yX7_init : MethodName := ⟨RX7, "<init>", "(LNamesNoTouch$Sheet;)V"⟩
abbrev cX7_found : ByteArray := prog_9_method_2_code
def yX7_found : MethodName := ⟨RX7, "found", "(I)I"⟩
abbrev cX7_howMany : ByteArray := prog_9_method_3_code
def yX7_howMany : MethodName := ⟨RX7, "howMany", "()I"⟩
abbrev cX7_score : ByteArray := prog_9_method_4_code
def yX7_score : MethodName := ⟨RX7, "score", "()I"⟩
abbrev cX7_bestWay : ByteArray := prog_9_method_5_code
def yX7_bestWay : MethodName := ⟨RX7, "bestWay", "(I)V"⟩
abbrev cX7_canAllBeIn : ByteArray := prog_9_method_6_code
def yX7_canAllBeIn : MethodName := ⟨RX7, "canAllBeIn", "(II)Z"⟩
abbrev cX7_fewestMoves : ByteArray := prog_9_method_7_code
def yX7_fewestMoves : MethodName := ⟨RX7, "fewestMoves", "(I)I"⟩
abbrev cX7_setMoves : ByteArray := prog_9_method_8_code
def yX7_setMoves : MethodName := ⟨RX7, "setMoves", "(II)V"⟩
abbrev cX7_takeInLine : ByteArray := prog_9_method_9_code
def yX7_takeInLine : MethodName := ⟨RX7, "takeInLine", "()V"⟩
abbrev cX7_bestOrder : ByteArray := prog_9_method_10_code
def yX7_bestOrder : MethodName := ⟨RX7, "bestOrder", "()V"⟩
abbrev cX7_begin : ByteArray := prog_9_method_11_code
def yX7_begin : MethodName := ⟨RX7, "begin", "(I)V"⟩
abbrev cX7_clashing : ByteArray := prog_9_method_12_code
def yX7_clashing : MethodName := ⟨RX7, "clashing", "(II)I"⟩
abbrev cX7_value : ByteArray := prog_9_method_13_code
def yX7_value : MethodName := ⟨RX7, "value", "(I)V"⟩
abbrev cX7_clashesOf : ByteArray := prog_9_method_14_code
def yX7_clashesOf : MethodName := ⟨RX7, "clashesOf", "(II)I"⟩
abbrev cX7_valueOf : ByteArray := prog_9_method_15_code
def yX7_valueOf : MethodName := ⟨RX7, "valueOf", "(II)I"⟩
abbrev cX7_dearest : ByteArray := prog_9_method_16_code
def yX7_dearest : MethodName := ⟨RX7, "dearest", "(II)I"⟩
abbrev cX7_isOpen : ByteArray := prog_9_method_17_code
def yX7_isOpen : MethodName := ⟨RX7, "isOpen", "(III)Z"⟩
abbrev cX7_hopes : ByteArray := prog_9_method_18_code
def yX7_hopes : MethodName := ⟨RX7, "hopes", "()I"⟩
abbrev cX7_goWays : ByteArray := prog_9_method_19_code
def yX7_goWays : MethodName := ⟨RX7, "goWays", "()V"⟩
abbrev cX7_goOn : ByteArray := prog_9_method_20_code
def yX7_goOn : MethodName := ⟨RX7, "goOn", "(IIII)V"⟩
abbrev cX7_goBy : ByteArray := prog_9_method_21_code
def yX7_goBy : MethodName := ⟨RX7, "goBy", "(IIIII)V"⟩
abbrev cX7_lineUp : ByteArray := prog_9_method_22_code
def yX7_lineUp : MethodName := ⟨RX7, "lineUp", "(IIIII)V"⟩
abbrev cX7_lineUpWith : ByteArray := prog_9_method_23_code
def yX7_lineUpWith : MethodName := ⟨RX7, "lineUpWith", "(IIIIII)V"⟩
abbrev cX7_find : ByteArray := prog_9_method_24_code
def yX7_find : MethodName := ⟨RX7, "find", "(I)V"⟩
def RX8 : String := "NamesNoTouch$Sheet"
def TX8 : u_T := fun k => match k with
  | 0 => ("NamesNoTouch$Sheet", "tape", "LNamesNoTouch$Row;", true)
  | 1 => ("NamesNoTouch$Sheet", "code", "LNamesNoTouch$Row;", true)
  | 2 => ("NamesNoTouch$Sheet", "names", "Ljava/util/ArrayList;", true)
  | 3 => ("NamesNoTouch$Sheet", "where", "LNamesNoTouch$Row;", true)
  | 4 => ("NamesNoTouch$Sheet", "rows", "LNamesNoTouch$Row;", true)
  | 5 => ("NamesNoTouch$Sheet", "seen", "LNamesNoTouch$Row;", true)
  | 6 => ("NamesNoTouch$Sheet", "plan", "LNamesNoTouch$Row;", true)
  | 7 => ("NamesNoTouch$Sheet", "book", "LNamesNoTouch$Row;", true)
  | 8 => ("NamesNoTouch$Sheet", "then", "LNamesNoTouch$Row;", true)
  | 9 => ("NamesNoTouch$Sheet", "maps", "I", false)
  | 10 => ("NamesNoTouch$Sheet", "wide", "I", false)
  | _ => ("NamesNoTouch$Sheet", "river", "I", false)
def tyX8 : Nat → FieldType := fun k => match k with
  | 0 => .object "NamesNoTouch$Row"
  | 1 => .object "NamesNoTouch$Row"
  | 2 => .object "java/util/ArrayList"
  | 3 => .object "NamesNoTouch$Row"
  | 4 => .object "NamesNoTouch$Row"
  | 5 => .object "NamesNoTouch$Row"
  | 6 => .object "NamesNoTouch$Row"
  | 7 => .object "NamesNoTouch$Row"
  | 8 => .object "NamesNoTouch$Row"
  | 9 => .int
  | 10 => .int
  | _ => .int
abbrev wsX80 : List Cond := u_ws RX8 TX8 12
theorem nmX8 : ∀ a, a < 12 → ∀ b, b < 12 → a ≠ b → (TX8 a).2.1 ≠ (TX8 b).2.1 := by decide +kernel
theorem tyX8_ok : ∀ k, k < 12 → parseFieldDescriptor (TX8 k).2.2.1 = some (tyX8 k) := by decide +kernel
abbrev cX8_init : ByteArray := prog_10_method_1_code
def yX8_init : MethodName := ⟨RX8, "<init>", "()V"⟩
abbrev cX8_become : ByteArray := prog_10_method_2_code
def yX8_become : MethodName := ⟨RX8, "become", "(LNamesNoTouch$Sheet;)V"⟩
abbrev cX8_hold : ByteArray := prog_10_method_3_code
def yX8_hold : MethodName := ⟨RX8, "hold", "(LNamesNoTouch$Reader;)V"⟩
abbrev cX8_dots : ByteArray := prog_10_method_4_code
def yX8_dots : MethodName := ⟨RX8, "dots", "()I"⟩
abbrev cX8_has : ByteArray := prog_10_method_5_code
def yX8_has : MethodName := ⟨RX8, "has", "(I)Z"⟩
abbrev cX8_name : ByteArray := prog_10_method_6_code
def yX8_name : MethodName := ⟨RX8, "name", "(I)LNamesNoTouch$Name;"⟩
abbrev cX8_hasDot : ByteArray := prog_10_method_7_code
def yX8_hasDot : MethodName := ⟨RX8, "hasDot", "(II)Z"⟩
abbrev cX8_mayBe : ByteArray := prog_10_method_8_code
def yX8_mayBe : MethodName := ⟨RX8, "mayBe", "(I)I"⟩
abbrev cX8_fitting : ByteArray := prog_10_method_9_code
def yX8_fitting : MethodName := ⟨RX8, "fitting", "(II)I"⟩
abbrev cX8_isOnSheet : ByteArray := prog_10_method_10_code
def yX8_isOnSheet : MethodName := ⟨RX8, "isOnSheet", "(LNamesNoTouch$Name;II)Z"⟩
abbrev cX8_isOverDot : ByteArray := prog_10_method_11_code
def yX8_isOverDot : MethodName := ⟨RX8, "isOverDot", "(LNamesNoTouch$Name;I)Z"⟩
abbrev cX8_free : ByteArray := prog_10_method_12_code
def yX8_free : MethodName := ⟨RX8, "free", "(ILNamesNoTouch$Row;)I"⟩
abbrev cX8_isClashing : ByteArray := prog_10_method_13_code
def yX8_isClashing : MethodName := ⟨RX8, "isClashing", "(IILNamesNoTouch$Row;)Z"⟩
abbrev cX8_shared : ByteArray := prog_10_method_14_code
def yX8_shared : MethodName := ⟨RX8, "shared", "(IIII)I"⟩
abbrev cX8_laid : ByteArray := prog_10_method_15_code
def yX8_laid : MethodName := ⟨RX8, "laid", "(LNamesNoTouch$Row;)I"⟩
abbrev cX8_score : ByteArray := prog_10_method_16_code
def yX8_score : MethodName := ⟨RX8, "score", "(LNamesNoTouch$Row;)I"⟩
abbrev cX8_goodness : ByteArray := prog_10_method_17_code
def yX8_goodness : MethodName := ⟨RX8, "goodness", "(II)I"⟩
abbrev cX8_taste : ByteArray := prog_10_method_18_code
def yX8_taste : MethodName := ⟨RX8, "taste", "(LNamesNoTouch$Name;I)I"⟩
abbrev cX8_holds : ByteArray := prog_10_method_19_code
def yX8_holds : MethodName := ⟨RX8, "holds", "(ILNamesNoTouch$Name;I)Z"⟩
abbrev cX8_asked : ByteArray := prog_10_method_20_code
def yX8_asked : MethodName := ⟨RX8, "asked", "(ILNamesNoTouch$Name;I)I"⟩
abbrev cX8_mistaken : ByteArray := prog_10_method_21_code
def yX8_mistaken : MethodName := ⟨RX8, "mistaken", "()I"⟩
abbrev cX8_fromMiddle : ByteArray := prog_10_method_22_code
def yX8_fromMiddle : MethodName := ⟨RX8, "fromMiddle", "(II)I"⟩
abbrev cX8_covering : ByteArray := prog_10_method_23_code
def yX8_covering : MethodName := ⟨RX8, "covering", "(II)I"⟩
abbrev cX8_isAllSeen : ByteArray := prog_10_method_24_code
def yX8_isAllSeen : MethodName := ⟨RX8, "isAllSeen", "(III)Z"⟩
abbrev cX8_planned : ByteArray := prog_10_method_25_code
def yX8_planned : MethodName := ⟨RX8, "planned", "()LNamesNoTouch$Row;"⟩
def RX9 : String := "NamesNoTouch$Shy"
def TX9 : u_T := fun k => match k with
  | 0 => ("NamesNoTouch$Name", "trail", "LNamesNoTouch$Row;", true)
  | 1 => ("NamesNoTouch$Name", "number", "I", true)
  | 2 => ("NamesNoTouch$Name", "v", "I", true)
  | 3 => ("NamesNoTouch$Name", "letters", "I", true)
  | 4 => ("NamesNoTouch$Name", "column", "I", true)
  | _ => ("NamesNoTouch$Name", "line", "I", true)
def tyX9 : Nat → FieldType := fun k => match k with
  | 0 => .object "NamesNoTouch$Row"
  | 1 => .int
  | 2 => .int
  | 3 => .int
  | 4 => .int
  | _ => .int
abbrev wsX90 : List Cond := u_ws RX9 TX9 6
theorem nmX9 : ∀ a, a < 6 → ∀ b, b < 6 → a ≠ b → (TX9 a).2.1 ≠ (TX9 b).2.1 := by decide +kernel
theorem tyX9_ok : ∀ k, k < 6 → parseFieldDescriptor (TX9 k).2.2.1 = some (tyX9 k) := by decide +kernel
abbrev cX9_init : ByteArray := prog_11_method_1_code
def yX9_init : MethodName := ⟨RX9, "<init>", "(LNamesNoTouch$Row;IIIII)V"⟩
abbrev cX9_kind : ByteArray := prog_11_method_2_code
def yX9_kind : MethodName := ⟨RX9, "kind", "()I"⟩
abbrev cX9_length : ByteArray := prog_11_method_3_code
def yX9_length : MethodName := ⟨RX9, "length", "(I)I"⟩
abbrev cX9_mayBe : ByteArray := prog_11_method_4_code
def yX9_mayBe : MethodName := ⟨RX9, "mayBe", "(I)I"⟩
abbrev cX9_tells : ByteArray := prog_11_method_5_code
def yX9_tells : MethodName := ⟨RX9, "tells", "(I)I"⟩
def RX10 : String := "NamesNoTouch$Told"
def TX10 : u_T := fun k => match k with
  | 0 => ("NamesNoTouch$Name", "trail", "LNamesNoTouch$Row;", true)
  | 1 => ("NamesNoTouch$Name", "number", "I", true)
  | 2 => ("NamesNoTouch$Name", "v", "I", true)
  | 3 => ("NamesNoTouch$Name", "letters", "I", true)
  | 4 => ("NamesNoTouch$Name", "column", "I", true)
  | _ => ("NamesNoTouch$Name", "line", "I", true)
def tyX10 : Nat → FieldType := fun k => match k with
  | 0 => .object "NamesNoTouch$Row"
  | 1 => .int
  | 2 => .int
  | 3 => .int
  | 4 => .int
  | _ => .int
abbrev wsX100 : List Cond := u_ws RX10 TX10 6
theorem nmX10 : ∀ a, a < 6 → ∀ b, b < 6 → a ≠ b → (TX10 a).2.1 ≠ (TX10 b).2.1 := by decide +kernel
theorem tyX10_ok : ∀ k, k < 6 → parseFieldDescriptor (TX10 k).2.2.1 = some (tyX10 k) := by decide +kernel
abbrev cX10_init : ByteArray := prog_12_method_1_code
def yX10_init : MethodName := ⟨RX10, "<init>", "(LNamesNoTouch$Row;IIIII)V"⟩
abbrev cX10_kind : ByteArray := prog_12_method_2_code
def yX10_kind : MethodName := ⟨RX10, "kind", "()I"⟩
abbrev cX10_mayBe : ByteArray := prog_12_method_3_code
def yX10_mayBe : MethodName := ⟨RX10, "mayBe", "(I)I"⟩
abbrev cX10_reads : ByteArray := prog_12_method_4_code
def yX10_reads : MethodName := ⟨RX10, "reads", "(I)I"⟩
def RX11 : String := "NamesNoTouch"
def TX11 : u_T := fun k => match k with
  | 0 => ("NamesNoTouch", "trail", "LNamesNoTouch$Row;", true)
  | 1 => ("NamesNoTouch", "sheet", "LNamesNoTouch$Sheet;", true)
  | 2 => ("NamesNoTouch", "taken", "LNamesNoTouch$Sheet;", true)
  | 3 => ("NamesNoTouch", "reader", "LNamesNoTouch$Reader;", true)
  | 4 => ("NamesNoTouch", "search", "LNamesNoTouch$Search;", true)
  | _ => ("NamesNoTouch", "isTaken", "Z", false)
def tyX11 : Nat → FieldType := fun k => match k with
  | 0 => .object "NamesNoTouch$Row"
  | 1 => .object "NamesNoTouch$Sheet"
  | 2 => .object "NamesNoTouch$Sheet"
  | 3 => .object "NamesNoTouch$Reader"
  | 4 => .object "NamesNoTouch$Search"
  | _ => .boolean
abbrev wsX110 : List Cond := u_ws RX11 TX11 6
theorem nmX11 : ∀ a, a < 6 → ∀ b, b < 6 → a ≠ b → (TX11 a).2.1 ≠ (TX11 b).2.1 := by decide +kernel
theorem tyX11_ok : ∀ k, k < 6 → parseFieldDescriptor (TX11 k).2.2.1 = some (tyX11 k) := by decide +kernel
abbrev cX11_init : ByteArray := prog_1_method_1_code
def yX11_init : MethodName := ⟨RX11, "<init>", "()V"⟩
abbrev cX11_feed : ByteArray := prog_1_method_2_code
def yX11_feed : MethodName := ⟨RX11, "feed", "(I)I"⟩
abbrev cX11_map : ByteArray := prog_1_method_3_code
def yX11_map : MethodName := ⟨RX11, "map", "()I"⟩
abbrev cX11_dot : ByteArray := prog_1_method_4_code
def yX11_dot : MethodName := ⟨RX11, "dot", "(IIIII)I"⟩
abbrev cX11_of : ByteArray := prog_1_method_5_code
def yX11_of : MethodName := ⟨RX11, "of", "(II)I"⟩
abbrev cX11_row : ByteArray := prog_1_method_6_code
def yX11_row : MethodName := ⟨RX11, "row", "(III)I"⟩
abbrev cX11_good : ByteArray := prog_1_method_7_code
def yX11_good : MethodName := ⟨RX11, "good", "(II)I"⟩
abbrev cX11_lay : ByteArray := prog_1_method_8_code
def yX11_lay : MethodName := ⟨RX11, "lay", "(II)I"⟩
abbrev cX11_lift : ByteArray := prog_1_method_9_code
def yX11_lift : MethodName := ⟨RX11, "lift", "(I)I"⟩
abbrev cX11_told : ByteArray := prog_1_method_10_code
def yX11_told : MethodName := ⟨RX11, "told", "(I)I"⟩
abbrev cX11_clash : ByteArray := prog_1_method_11_code
def yX11_clash : MethodName := ⟨RX11, "clash", "(IIII)I"⟩
abbrev cX11_at : ByteArray := prog_1_method_12_code
def yX11_at : MethodName := ⟨RX11, "at", "(II)I"⟩
abbrev cX11_most : ByteArray := prog_1_method_13_code
def yX11_most : MethodName := ⟨RX11, "most", "(I)I"⟩
abbrev cX11_best : ByteArray := prog_1_method_14_code
def yX11_best : MethodName := ⟨RX11, "best", "(I)I"⟩
abbrev cX11_all : ByteArray := prog_1_method_15_code
def yX11_all : MethodName := ⟨RX11, "all", "(I)I"⟩
abbrev cX11_room : ByteArray := prog_1_method_16_code
def yX11_room : MethodName := ⟨RX11, "room", "()I"⟩
abbrev cX11_moved : ByteArray := prog_1_method_17_code
def yX11_moved : MethodName := ⟨RX11, "moved", "(I)I"⟩
abbrev cX11_inline : ByteArray := prog_1_method_18_code
def yX11_inline : MethodName := ⟨RX11, "inline", "(I)I"⟩
abbrev cX11_order : ByteArray := prog_1_method_19_code
def yX11_order : MethodName := ⟨RX11, "order", "(I)I"⟩
abbrev cX11_far : ByteArray := prog_1_method_20_code
def yX11_far : MethodName := ⟨RX11, "far", "(I)I"⟩
abbrev cX11_see : ByteArray := prog_1_method_21_code
def yX11_see : MethodName := ⟨RX11, "see", "(IIZ)I"⟩
abbrev cX11_can : ByteArray := prog_1_method_22_code
def yX11_can : MethodName := ⟨RX11, "can", "(I)I"⟩
abbrev cX11_firm : ByteArray := prog_1_method_23_code
def yX11_firm : MethodName := ⟨RX11, "firm", "(II)I"⟩
abbrev cX11_odds : ByteArray := prog_1_method_24_code
def yX11_odds : MethodName := ⟨RX11, "odds", "(II)J"⟩
abbrev cX11_mean : ByteArray := prog_1_method_25_code
def yX11_mean : MethodName := ⟨RX11, "mean", "(I)J"⟩
abbrev cX11_plan : ByteArray := prog_1_method_26_code
def yX11_plan : MethodName := ⟨RX11, "plan", "(II)I"⟩
abbrev cX11_done : ByteArray := prog_1_method_27_code
def yX11_done : MethodName := ⟨RX11, "done", "(I)I"⟩
abbrev cX11_book : ByteArray := prog_1_method_28_code
def yX11_book : MethodName := ⟨RX11, "book", "(II)I"⟩
abbrev cX11_looked : ByteArray := prog_1_method_29_code
def yX11_looked : MethodName := ⟨RX11, "looked", "()I"⟩
abbrev cX11_act : ByteArray := prog_1_method_30_code
def yX11_act : MethodName := ⟨RX11, "act", "(III)I"⟩
abbrev cX11_trace : ByteArray := prog_1_method_31_code
def yX11_trace : MethodName := ⟨RX11, "trace", "(I)I"⟩
abbrev cX11_as : ByteArray := prog_1_method_32_code
def yX11_as : MethodName := ⟨RX11, "as", "(II)I"⟩
abbrev cX11_image : ByteArray := prog_1_method_33_code
def yX11_image : MethodName := ⟨RX11, "image", "()I"⟩
abbrev cX11_undo : ByteArray := prog_1_method_34_code
def yX11_undo : MethodName := ⟨RX11, "undo", "()I"⟩
abbrev cX11_count : ByteArray := prog_1_method_35_code
def yX11_count : MethodName := ⟨RX11, "count", "(I)I"⟩
abbrev cX11_isPlace : ByteArray := prog_1_method_36_code
def yX11_isPlace : MethodName := ⟨RX11, "isPlace", "(I)Z"⟩
abbrev cX11_isSpot : ByteArray := prog_1_method_37_code
def yX11_isSpot : MethodName := ⟨RX11, "isSpot", "(II)Z"⟩
abbrev cX11_hasBit : ByteArray := prog_1_method_38_code
def yX11_hasBit : MethodName := ⟨RX11, "hasBit", "(II)Z"⟩
abbrev cX11_outward : ByteArray := prog_1_method_39_code
def yX11_outward : MethodName := ⟨RX11, "outward", "(I)I"⟩
abbrev cX11_put : ByteArray := prog_1_method_40_code
def yX11_put : MethodName := ⟨RX11, "put", "(II)I"⟩
abbrev cX11_named : ByteArray := prog_1_method_41_code
def yX11_named : MethodName := ⟨RX11, "named", "(IIIII)LNamesNoTouch$Name;"⟩
abbrev cX11_isOfKind : ByteArray := prog_1_method_42_code
def yX11_isOfKind : MethodName := ⟨RX11, "isOfKind", "(LNamesNoTouch$Name;I)Z"⟩
abbrev cX11_written : ByteArray := prog_1_method_43_code
def yX11_written : MethodName := ⟨RX11, "written", "(LNamesNoTouch$Row;II)I"⟩
abbrev cX11_fraction : ByteArray := prog_1_method_44_code
def yX11_fraction : MethodName := ⟨RX11, "fraction", "(III)J"⟩
def RX12 : String := "NamesNoTouchModel"
def TX12 : u_T := fun k => match k with
  | 0 => ("NamesNoTouchModel", "thrown", "I", false)
  | 1 => ("NamesNoTouchModel", "s", "[I", true)
  | 2 => ("NamesNoTouchModel", "image", "[I", true)
  | 3 => ("NamesNoTouchModel", "hasImage", "Z", false)
  | 4 => ("NamesNoTouchModel", "act", "I", false)
  | 5 => ("NamesNoTouchModel", "spot", "I", false)
  | 6 => ("NamesNoTouchModel", "end", "I", false)
  | 7 => ("NamesNoTouchModel", "isWrong", "Z", false)
  | 8 => ("NamesNoTouchModel", "open", "I", false)
  | 9 => ("NamesNoTouchModel", "by", "[I", true)
  | 10 => ("NamesNoTouchModel", "truths", "[Z", true)
  | 11 => ("NamesNoTouchModel", "fit", "[Z", true)
  | 12 => ("NamesNoTouchModel", "goods", "[I", true)
  | 13 => ("NamesNoTouchModel", "clashes", "[I", true)
  | 14 => ("NamesNoTouchModel", "way", "[I", true)
  | 15 => ("NamesNoTouchModel", "bestWay", "[I", true)
  | 16 => ("NamesNoTouchModel", "bestMany", "I", false)
  | 17 => ("NamesNoTouchModel", "bestScore", "I", false)
  | 18 => ("NamesNoTouchModel", "byMany", "Z", false)
  | 19 => ("NamesNoTouchModel", "fewestMoved", "I", false)
  | 20 => ("NamesNoTouchModel", "line", "[I", true)
  | 21 => ("NamesNoTouchModel", "bestLine", "[I", true)
  | 22 => ("NamesNoTouchModel", "were", "[I", true)
  | 23 => ("NamesNoTouchModel", "bodies", "[I", true)
  | 24 => ("NamesNoTouchModel", "ran", "I", false)
  | 25 => ("NamesNoTouchModel", "kind", "I", false)
  | 26 => ("NamesNoTouchModel", "number", "I", false)
  | _ => ("NamesNoTouchModel", "tellsV", "I", false)
def tyX12 : Nat → FieldType := fun k => match k with
  | 0 => .int
  | 1 => .array .int
  | 2 => .array .int
  | 3 => .boolean
  | 4 => .int
  | 5 => .int
  | 6 => .int
  | 7 => .boolean
  | 8 => .int
  | 9 => .array .int
  | 10 => .array .boolean
  | 11 => .array .boolean
  | 12 => .array .int
  | 13 => .array .int
  | 14 => .array .int
  | 15 => .array .int
  | 16 => .int
  | 17 => .int
  | 18 => .boolean
  | 19 => .int
  | 20 => .array .int
  | 21 => .array .int
  | 22 => .array .int
  | 23 => .array .int
  | 24 => .int
  | 25 => .int
  | 26 => .int
  | _ => .int
abbrev wsX120 : List Cond := u_ws RX12 TX12 28
theorem nmX12 : ∀ a, a < 28 → ∀ b, b < 28 → a ≠ b → (TX12 a).2.1 ≠ (TX12 b).2.1 := by decide +kernel
theorem tyX12_ok : ∀ k, k < 28 → parseFieldDescriptor (TX12 k).2.2.1 = some (tyX12 k) := by decide +kernel
abbrev cX12_init : ByteArray := prog_14_method_1_code
def yX12_init : MethodName := ⟨RX12, "<init>", "()V"⟩
abbrev cX12_in : ByteArray := prog_14_method_3_code
def yX12_in : MethodName := ⟨RX12, "in", "(III)Z"⟩
abbrev cX12_within : ByteArray := prog_14_method_4_code
def yX12_within : MethodName := ⟨RX12, "within", "(III)I"⟩
abbrev cX12_apart : ByteArray := prog_14_method_5_code
def yX12_apart : MethodName := ⟨RX12, "apart", "(II)I"⟩
abbrev cX12_isName : ByteArray := prog_14_method_6_code
def yX12_isName : MethodName := ⟨RX12, "isName", "(I)Z"⟩
abbrev cX12_isPlace : ByteArray := prog_14_method_7_code
def yX12_isPlace : MethodName := ⟨RX12, "isPlace", "(I)Z"⟩
abbrev cX12_orNone : ByteArray := prog_14_method_8_code
def yX12_orNone : MethodName := ⟨RX12, "orNone", "(I)I"⟩
abbrev cX12_feed : ByteArray := prog_14_method_9_code
def yX12_feed : MethodName := ⟨RX12, "feed", "(I)I"⟩
abbrev cX12_here : ByteArray := prog_14_method_10_code
def yX12_here : MethodName := ⟨RX12, "here", "()I"⟩
abbrev cX12_must : ByteArray := prog_14_method_11_code
def yX12_must : MethodName := ⟨RX12, "must", "(I)V"⟩
abbrev cX12_spells : ByteArray := prog_14_method_12_code
def yX12_spells : MethodName := ⟨RX12, "spells", "(Ljava/lang/String;)V"⟩
abbrev cX12_figures : ByteArray := prog_14_method_13_code
def yX12_figures : MethodName := ⟨RX12, "figures", "()I"⟩
abbrev cX12_among : ByteArray := prog_14_method_14_code
def yX12_among : MethodName := ⟨RX12, "among", "(Ljava/lang/String;)I"⟩
abbrev cX12_emits : ByteArray := prog_14_method_15_code
def yX12_emits : MethodName := ⟨RX12, "emits", "(I)V"⟩
abbrev cX12_factor : ByteArray := prog_14_method_16_code
def yX12_factor : MethodName := ⟨RX12, "factor", "()V"⟩
abbrev cX12_every : ByteArray := prog_14_method_17_code
def yX12_every : MethodName := ⟨RX12, "every", "()V"⟩
abbrev cX12_some : ByteArray := prog_14_method_18_code
def yX12_some : MethodName := ⟨RX12, "some", "()V"⟩
abbrev cX12_much : ByteArray := prog_14_method_19_code
def yX12_much : MethodName := ⟨RX12, "much", "(ILjava/lang/String;)V"⟩
abbrev cX12_tellsHere : ByteArray := prog_14_method_20_code
def yX12_tellsHere : MethodName := ⟨RX12, "tellsHere", "(ILjava/lang/String;)V"⟩
abbrev cX12_clauseHere : ByteArray := prog_14_method_21_code
def yX12_clauseHere : MethodName := ⟨RX12, "clauseHere", "()V"⟩
abbrev cX12_map : ByteArray := prog_14_method_22_code
def yX12_map : MethodName := ⟨RX12, "map", "()I"⟩
abbrev cX12_tellsOf : ByteArray := prog_14_method_23_code
def yX12_tellsOf : MethodName := ⟨RX12, "tellsOf", "(II)I"⟩
abbrev cX12_wideNow : ByteArray := prog_14_method_24_code
def yX12_wideNow : MethodName := ⟨RX12, "wideNow", "()I"⟩
abbrev cX12_riverNow : ByteArray := prog_14_method_25_code
def yX12_riverNow : MethodName := ⟨RX12, "riverNow", "()I"⟩
abbrev cX12_looks : ByteArray := prog_14_method_26_code
def yX12_looks : MethodName := ⟨RX12, "looks", "(II)I"⟩
abbrev cX12_lengthOf : ByteArray := prog_14_method_27_code
def yX12_lengthOf : MethodName := ⟨RX12, "lengthOf", "(I)I"⟩
abbrev cX12_rowAt : ByteArray := prog_14_method_28_code
def yX12_rowAt : MethodName := ⟨RX12, "rowAt", "(II)I"⟩
abbrev cX12_firstAt : ByteArray := prog_14_method_29_code
def yX12_firstAt : MethodName := ⟨RX12, "firstAt", "(II)I"⟩
abbrev cX12_isAt : ByteArray := prog_14_method_30_code
def yX12_isAt : MethodName := ⟨RX12, "isAt", "(IIII)Z"⟩
abbrev cX12_bothAt : ByteArray := prog_14_method_31_code
def yX12_bothAt : MethodName := ⟨RX12, "bothAt", "(IIII)I"⟩
abbrev cX12_may : ByteArray := prog_14_method_32_code
def yX12_may : MethodName := ⟨RX12, "may", "(II)Z"⟩
abbrev cX12_fits : ByteArray := prog_14_method_33_code
def yX12_fits : MethodName := ⟨RX12, "fits", "(III)Z"⟩
abbrev cX12_isFree : ByteArray := prog_14_method_34_code
def yX12_isFree : MethodName := ⟨RX12, "isFree", "(II)Z"⟩
abbrev cX12_goodOf : ByteArray := prog_14_method_35_code
def yX12_goodOf : MethodName := ⟨RX12, "goodOf", "(II)I"⟩
abbrev cX12_scoreNow : ByteArray := prog_14_method_36_code
def yX12_scoreNow : MethodName := ⟨RX12, "scoreNow", "()I"⟩
abbrev cX12_manyLaid : ByteArray := prog_14_method_37_code
def yX12_manyLaid : MethodName := ⟨RX12, "manyLaid", "()I"⟩
abbrev cX12_isDotAt : ByteArray := prog_14_method_38_code
def yX12_isDotAt : MethodName := ⟨RX12, "isDotAt", "(II)Z"⟩
abbrev cX12_dot : ByteArray := prog_14_method_39_code
def yX12_dot : MethodName := ⟨RX12, "dot", "(IIIII)I"⟩
abbrev cX12_placesOf : ByteArray := prog_14_method_40_code
def yX12_placesOf : MethodName := ⟨RX12, "placesOf", "(II)I"⟩
abbrev cX12_of : ByteArray := prog_14_method_41_code
def yX12_of : MethodName := ⟨RX12, "of", "(II)I"⟩
abbrev cX12_row : ByteArray := prog_14_method_42_code
def yX12_row : MethodName := ⟨RX12, "row", "(III)I"⟩
abbrev cX12_good : ByteArray := prog_14_method_43_code
def yX12_good : MethodName := ⟨RX12, "good", "(II)I"⟩
abbrev cX12_lay : ByteArray := prog_14_method_44_code
def yX12_lay : MethodName := ⟨RX12, "lay", "(II)I"⟩
abbrev cX12_lift : ByteArray := prog_14_method_45_code
def yX12_lift : MethodName := ⟨RX12, "lift", "(I)I"⟩
abbrev cX12_farFrom : ByteArray := prog_14_method_46_code
def yX12_farFrom : MethodName := ⟨RX12, "farFrom", "(II)I"⟩
abbrev cX12_isMistaken : ByteArray := prog_14_method_47_code
def yX12_isMistaken : MethodName := ⟨RX12, "isMistaken", "(I)Z"⟩
abbrev cX12_told : ByteArray := prog_14_method_48_code
def yX12_told : MethodName := ⟨RX12, "told", "(I)I"⟩
abbrev cX12_clash : ByteArray := prog_14_method_49_code
def yX12_clash : MethodName := ⟨RX12, "clash", "(IIII)I"⟩
abbrev cX12_at : ByteArray := prog_14_method_50_code
def yX12_at : MethodName := ⟨RX12, "at", "(II)I"⟩
abbrev cX12_looksForFits : ByteArray := prog_14_method_51_code
def yX12_looksForFits : MethodName := ⟨RX12, "looksForFits", "(I)V"⟩
abbrev cX12_looksForGoods : ByteArray := prog_14_method_52_code
def yX12_looksForGoods : MethodName := ⟨RX12, "looksForGoods", "()V"⟩
abbrev cX12_looksForClashes : ByteArray := prog_14_method_53_code
def yX12_looksForClashes : MethodName := ⟨RX12, "looksForClashes", "()V"⟩
abbrev cX12_looksForPairs : ByteArray := prog_14_method_54_code
def yX12_looksForPairs : MethodName := ⟨RX12, "looksForPairs", "()V"⟩
abbrev cX12_keepsWay : ByteArray := prog_14_method_55_code
def yX12_keepsWay : MethodName := ⟨RX12, "keepsWay", "(II)V"⟩
abbrev cX12_waysFrom : ByteArray := prog_14_method_56_code
def yX12_waysFrom : MethodName := ⟨RX12, "waysFrom", "(IIII)V"⟩
abbrev cX12_looksForWay : ByteArray := prog_14_method_57_code
def yX12_looksForWay : MethodName := ⟨RX12, "looksForWay", "(Z)V"⟩
abbrev cX12_most : ByteArray := prog_14_method_58_code
def yX12_most : MethodName := ⟨RX12, "most", "(I)I"⟩
abbrev cX12_best : ByteArray := prog_14_method_59_code
def yX12_best : MethodName := ⟨RX12, "best", "(I)I"⟩
abbrev cX12_allFrom : ByteArray := prog_14_method_60_code
def yX12_allFrom : MethodName := ⟨RX12, "allFrom", "(III)Z"⟩
abbrev cX12_all : ByteArray := prog_14_method_61_code
def yX12_all : MethodName := ⟨RX12, "all", "(I)I"⟩
abbrev cX12_room : ByteArray := prog_14_method_62_code
def yX12_room : MethodName := ⟨RX12, "room", "()I"⟩
abbrev cX12_movesFrom : ByteArray := prog_14_method_63_code
def yX12_movesFrom : MethodName := ⟨RX12, "movesFrom", "(IIII)V"⟩
abbrev cX12_moved : ByteArray := prog_14_method_64_code
def yX12_moved : MethodName := ⟨RX12, "moved", "(I)I"⟩
abbrev cX12_takes : ByteArray := prog_14_method_65_code
def yX12_takes : MethodName := ⟨RX12, "takes", "(II)I"⟩
abbrev cX12_keepsLine : ByteArray := prog_14_method_66_code
def yX12_keepsLine : MethodName := ⟨RX12, "keepsLine", "(II)V"⟩
abbrev cX12_ordersFrom : ByteArray := prog_14_method_67_code
def yX12_ordersFrom : MethodName := ⟨RX12, "ordersFrom", "(IIIII)V"⟩
abbrev cX12_inline : ByteArray := prog_14_method_68_code
def yX12_inline : MethodName := ⟨RX12, "inline", "(I)I"⟩
abbrev cX12_order : ByteArray := prog_14_method_69_code
def yX12_order : MethodName := ⟨RX12, "order", "(I)I"⟩
abbrev cX12_far : ByteArray := prog_14_method_70_code
def yX12_far : MethodName := ⟨RX12, "far", "(I)I"⟩
abbrev cX12_see : ByteArray := prog_14_method_71_code
def yX12_see : MethodName := ⟨RX12, "see", "(IIZ)I"⟩
abbrev cX12_areAsSeen : ByteArray := prog_14_method_72_code
def yX12_areAsSeen : MethodName := ⟨RX12, "areAsSeen", "()Z"⟩
abbrev cX12_can : ByteArray := prog_14_method_73_code
def yX12_can : MethodName := ⟨RX12, "can", "(I)I"⟩
abbrev cX12_firm : ByteArray := prog_14_method_74_code
def yX12_firm : MethodName := ⟨RX12, "firm", "(II)I"⟩
abbrev cX12_lowest : ByteArray := prog_14_method_75_code
def yX12_lowest : MethodName := ⟨RX12, "lowest", "(JJI)J"⟩
abbrev cX12_odds : ByteArray := prog_14_method_76_code
def yX12_odds : MethodName := ⟨RX12, "odds", "(II)J"⟩
abbrev cX12_mean : ByteArray := prog_14_method_77_code
def yX12_mean : MethodName := ⟨RX12, "mean", "(I)J"⟩
abbrev cX12_plan : ByteArray := prog_14_method_78_code
def yX12_plan : MethodName := ⟨RX12, "plan", "(II)I"⟩
abbrev cX12_done : ByteArray := prog_14_method_79_code
def yX12_done : MethodName := ⟨RX12, "done", "(I)I"⟩
abbrev cX12_book : ByteArray := prog_14_method_80_code
def yX12_book : MethodName := ⟨RX12, "book", "(II)I"⟩
abbrev cX12_looked : ByteArray := prog_14_method_81_code
def yX12_looked : MethodName := ⟨RX12, "looked", "()I"⟩
abbrev cX12_ranBody : ByteArray := prog_14_method_82_code
def yX12_ranBody : MethodName := ⟨RX12, "ranBody", "(I)V"⟩
abbrev cX12_isUnder : ByteArray := prog_14_method_83_code
def yX12_isUnder : MethodName := ⟨RX12, "isUnder", "(II)Z"⟩
abbrev cX12_plainLies : ByteArray := prog_14_method_84_code
def yX12_plainLies : MethodName := ⟨RX12, "plainLies", "(I)I"⟩
abbrev cX12_liesActs : ByteArray := prog_14_method_85_code
def yX12_liesActs : MethodName := ⟨RX12, "liesActs", "(I)I"⟩
abbrev cX12_plainReads : ByteArray := prog_14_method_86_code
def yX12_plainReads : MethodName := ⟨RX12, "plainReads", "(I)I"⟩
abbrev cX12_readsActs : ByteArray := prog_14_method_87_code
def yX12_readsActs : MethodName := ⟨RX12, "readsActs", "(I)I"⟩
abbrev cX12_plainTelling : ByteArray := prog_14_method_88_code
def yX12_plainTelling : MethodName := ⟨RX12, "plainTelling", "(I)I"⟩
abbrev cX12_tellsActs : ByteArray := prog_14_method_89_code
def yX12_tellsActs : MethodName := ⟨RX12, "tellsActs", "(I)I"⟩
abbrev cX12_act : ByteArray := prog_14_method_90_code
def yX12_act : MethodName := ⟨RX12, "act", "(III)I"⟩
abbrev cX12_trace : ByteArray := prog_14_method_91_code
def yX12_trace : MethodName := ⟨RX12, "trace", "(I)I"⟩
abbrev cX12_as : ByteArray := prog_14_method_92_code
def yX12_as : MethodName := ⟨RX12, "as", "(II)I"⟩
abbrev cX12_image : ByteArray := prog_14_method_93_code
def yX12_image : MethodName := ⟨RX12, "image", "()I"⟩
abbrev cX12_undo : ByteArray := prog_14_method_94_code
def yX12_undo : MethodName := ⟨RX12, "undo", "()I"⟩
abbrev cX12_count : ByteArray := prog_14_method_95_code
def yX12_count : MethodName := ⟨RX12, "count", "(I)I"⟩
def RJx145de : String := "java/io/Serializable"
def TJx145de : u_T := fun k => match k with
  | _ => ("", "", "", false)
def tyJx145de : Nat → FieldType := fun k => match k with
  | _ => .int
abbrev wsJx145de0 : List Cond := u_ws RJx145de TJx145de 0
theorem nmJx145de : ∀ a, a < 0 → ∀ b, b < 0 → a ≠ b → (TJx145de a).2.1 ≠ (TJx145de b).2.1 := by decide +kernel
theorem tyJx145de_ok : ∀ k, k < 0 → parseFieldDescriptor (TJx145de k).2.2.1 = some (tyJx145de k) := by decide +kernel
def RJx9f9b0 : String := "java/lang/CharSequence"
def TJx9f9b0 : u_T := fun k => match k with
  | _ => ("", "", "", false)
def tyJx9f9b0 : Nat → FieldType := fun k => match k with
  | _ => .int
abbrev wsJx9f9b00 : List Cond := u_ws RJx9f9b0 TJx9f9b0 0
theorem nmJx9f9b0 : ∀ a, a < 0 → ∀ b, b < 0 → a ≠ b → (TJx9f9b0 a).2.1 ≠ (TJx9f9b0 b).2.1 := by decide +kernel
theorem tyJx9f9b0_ok : ∀ k, k < 0 → parseFieldDescriptor (TJx9f9b0 k).2.2.1 = some (tyJx9f9b0 k) := by decide +kernel
def RJx8e188 : String := "java/lang/Cloneable"
def TJx8e188 : u_T := fun k => match k with
  | _ => ("", "", "", false)
def tyJx8e188 : Nat → FieldType := fun k => match k with
  | _ => .int
abbrev wsJx8e1880 : List Cond := u_ws RJx8e188 TJx8e188 0
theorem nmJx8e188 : ∀ a, a < 0 → ∀ b, b < 0 → a ≠ b → (TJx8e188 a).2.1 ≠ (TJx8e188 b).2.1 := by decide +kernel
theorem tyJx8e188_ok : ∀ k, k < 0 → parseFieldDescriptor (TJx8e188 k).2.2.1 = some (tyJx8e188 k) := by decide +kernel
def RJxb160c : String := "java/lang/Comparable"
def TJxb160c : u_T := fun k => match k with
  | _ => ("", "", "", false)
def tyJxb160c : Nat → FieldType := fun k => match k with
  | _ => .int
abbrev wsJxb160c0 : List Cond := u_ws RJxb160c TJxb160c 0
theorem nmJxb160c : ∀ a, a < 0 → ∀ b, b < 0 → a ≠ b → (TJxb160c a).2.1 ≠ (TJxb160c b).2.1 := by decide +kernel
theorem tyJxb160c_ok : ∀ k, k < 0 → parseFieldDescriptor (TJxb160c k).2.2.1 = some (tyJxb160c k) := by decide +kernel
def RJ6 : String := "java/lang/Integer"
def TJ6 : u_T := fun k => match k with
  | _ => ("", "", "", false)
def tyJ6 : Nat → FieldType := fun k => match k with
  | _ => .int
abbrev wsJ60 : List Cond := u_ws RJ6 TJ6 0
theorem nmJ6 : ∀ a, a < 0 → ∀ b, b < 0 → a ≠ b → (TJ6 a).2.1 ≠ (TJ6 b).2.1 := by decide +kernel
theorem tyJ6_ok : ∀ k, k < 0 → parseFieldDescriptor (TJ6 k).2.2.1 = some (tyJ6 k) := by decide +kernel
abbrev cJ6_bitCount_0f7a4 : ByteArray := prog_19_method_49_code
def yJ6_bitCount_0f7a4 : MethodName := ⟨RJ6, "bitCount", "(I)I"⟩
def RJxab1ab : String := "java/lang/Iterable"
def TJxab1ab : u_T := fun k => match k with
  | _ => ("", "", "", false)
def tyJxab1ab : Nat → FieldType := fun k => match k with
  | _ => .int
abbrev wsJxab1ab0 : List Cond := u_ws RJxab1ab TJxab1ab 0
theorem nmJxab1ab : ∀ a, a < 0 → ∀ b, b < 0 → a ≠ b → (TJxab1ab a).2.1 ≠ (TJxab1ab b).2.1 := by decide +kernel
theorem tyJxab1ab_ok : ∀ k, k < 0 → parseFieldDescriptor (TJxab1ab k).2.2.1 = some (tyJxab1ab k) := by decide +kernel
def RJ13 : String := "java/lang/Long"
def TJ13 : u_T := fun k => match k with
  | _ => ("", "", "", false)
def tyJ13 : Nat → FieldType := fun k => match k with
  | _ => .int
abbrev wsJ130 : List Cond := u_ws RJ13 TJ13 0
theorem nmJ13 : ∀ a, a < 0 → ∀ b, b < 0 → a ≠ b → (TJ13 a).2.1 ≠ (TJ13 b).2.1 := by decide +kernel
theorem tyJ13_ok : ∀ k, k < 0 → parseFieldDescriptor (TJ13 k).2.2.1 = some (tyJ13 k) := by decide +kernel
abbrev cJ13_bitCount_95d88 : ByteArray := prog_21_method_50_code
def yJ13_bitCount_95d88 : MethodName := ⟨RJ13, "bitCount", "(J)I"⟩
def RJ9 : String := "java/lang/Math"
def TJ9 : u_T := fun k => match k with
  | _ => ("", "", "", false)
def tyJ9 : Nat → FieldType := fun k => match k with
  | _ => .int
abbrev wsJ90 : List Cond := u_ws RJ9 TJ9 0
theorem nmJ9 : ∀ a, a < 0 → ∀ b, b < 0 → a ≠ b → (TJ9 a).2.1 ≠ (TJ9 b).2.1 := by decide +kernel
theorem tyJ9_ok : ∀ k, k < 0 → parseFieldDescriptor (TJ9 k).2.2.1 = some (tyJ9 k) := by decide +kernel
abbrev cJ9_floorDiv_7cf53 : ByteArray := prog_22_method_47_code
def yJ9_floorDiv_7cf53 : MethodName := ⟨RJ9, "floorDiv", "(II)I"⟩
abbrev cJ9_abs_0f7a4 : ByteArray := prog_22_method_59_code
def yJ9_abs_0f7a4 : MethodName := ⟨RJ9, "abs", "(I)I"⟩
abbrev cJ9_max_7cf53 : ByteArray := prog_22_method_65_code
def yJ9_max_7cf53 : MethodName := ⟨RJ9, "max", "(II)I"⟩
abbrev cJ9_min_7cf53 : ByteArray := prog_22_method_69_code
def yJ9_min_7cf53 : MethodName := ⟨RJ9, "min", "(II)I"⟩
def RJ0 : String := "java/lang/String"
def TJ0 : u_T := fun k => match k with
  | _ => ("", "", "", false)
def tyJ0 : Nat → FieldType := fun k => match k with
  | _ => .int
abbrev wsJ00 : List Cond := u_ws RJ0 TJ0 0
theorem nmJ0 : ∀ a, a < 0 → ∀ b, b < 0 → a ≠ b → (TJ0 a).2.1 ≠ (TJ0 b).2.1 := by decide +kernel
theorem tyJ0_ok : ∀ k, k < 0 → parseFieldDescriptor (TJ0 k).2.2.1 = some (tyJ0 k) := by decide +kernel
abbrev cJ0_length_8abf5 : ByteArray := prog_23_method_54_code
def yJ0_length_8abf5 : MethodName := ⟨RJ0, "length", "()I"⟩
abbrev cJ0_charAt_5068e : ByteArray := prog_23_method_56_code
def yJ0_charAt_5068e : MethodName := ⟨RJ0, "charAt", "(I)C"⟩
abbrev cJ0_coder_7d493 : ByteArray := prog_23_method_152_code
def yJ0_coder_7d493 : MethodName := ⟨RJ0, "coder", "()B"⟩
abbrev cJ0_isLatin1_aae02 : ByteArray := prog_23_method_154_code
def yJ0_isLatin1_aae02 : MethodName := ⟨RJ0, "isLatin1", "()Z"⟩
abbrev cJ0_checkIndex_df160 : ByteArray := prog_23_method_155_code
def yJ0_checkIndex_df160 : MethodName := ⟨RJ0, "checkIndex", "(II)V"⟩
def RJ1 : String := "java/lang/StringLatin1"
def TJ1 : u_T := fun k => match k with
  | _ => ("", "", "", false)
def tyJ1 : Nat → FieldType := fun k => match k with
  | _ => .int
abbrev wsJ10 : List Cond := u_ws RJ1 TJ1 0
theorem nmJ1 : ∀ a, a < 0 → ∀ b, b < 0 → a ≠ b → (TJ1 a).2.1 ≠ (TJ1 b).2.1 := by decide +kernel
theorem tyJ1_ok : ∀ k, k < 0 → parseFieldDescriptor (TJ1 k).2.2.1 = some (tyJ1 k) := by decide +kernel
abbrev cJ1_charAt_3b067 : ByteArray := prog_24_method_2_code
def yJ1_charAt_3b067 : MethodName := ⟨RJ1, "charAt", "([BI)C"⟩
def RJ2 : String := "java/lang/StringUTF16"
def TJ2 : u_T := fun k => match k with
  | _ => ("", "", "", false)
def tyJ2 : Nat → FieldType := fun k => match k with
  | _ => .int
abbrev wsJ20 : List Cond := u_ws RJ2 TJ2 0
theorem nmJ2 : ∀ a, a < 0 → ∀ b, b < 0 → a ≠ b → (TJ2 a).2.1 ≠ (TJ2 b).2.1 := by decide +kernel
theorem tyJ2_ok : ∀ k, k < 0 → parseFieldDescriptor (TJ2 k).2.2.1 = some (tyJ2 k) := by decide +kernel
abbrev cJ2_getChar_3b067 : ByteArray := prog_25_method_5_code
def yJ2_getChar_3b067 : MethodName := ⟨RJ2, "getChar", "([BI)C"⟩
abbrev cJ2_length_9d52b : ByteArray := prog_25_method_6_code
def yJ2_length_9d52b : MethodName := ⟨RJ2, "length", "([B)I"⟩
abbrev cJ2_charAt_3b067 : ByteArray := prog_25_method_83_code
def yJ2_charAt_3b067 : MethodName := ⟨RJ2, "charAt", "([BI)C"⟩
abbrev cJ2_checkIndex_2214a : ByteArray := prog_25_method_91_code
def yJ2_checkIndex_2214a : MethodName := ⟨RJ2, "checkIndex", "(I[B)V"⟩
def RJ10 : String := "java/lang/System"
def TJ10 : u_T := fun k => match k with
  | _ => ("", "", "", false)
def tyJ10 : Nat → FieldType := fun k => match k with
  | _ => .int
abbrev wsJ100 : List Cond := u_ws RJ10 TJ10 0
theorem nmJ10 : ∀ a, a < 0 → ∀ b, b < 0 → a ≠ b → (TJ10 a).2.1 ≠ (TJ10 b).2.1 := by decide +kernel
theorem tyJ10_ok : ∀ k, k < 0 → parseFieldDescriptor (TJ10 k).2.2.1 = some (tyJ10 k) := by decide +kernel
def RJxfd54e : String := "java/lang/constant/Constable"
def TJxfd54e : u_T := fun k => match k with
  | _ => ("", "", "", false)
def tyJxfd54e : Nat → FieldType := fun k => match k with
  | _ => .int
abbrev wsJxfd54e0 : List Cond := u_ws RJxfd54e TJxfd54e 0
theorem nmJxfd54e : ∀ a, a < 0 → ∀ b, b < 0 → a ≠ b → (TJxfd54e a).2.1 ≠ (TJxfd54e b).2.1 := by decide +kernel
theorem tyJxfd54e_ok : ∀ k, k < 0 → parseFieldDescriptor (TJxfd54e k).2.2.1 = some (tyJxfd54e k) := by decide +kernel
def RJx3cf43 : String := "java/lang/constant/ConstantDesc"
def TJx3cf43 : u_T := fun k => match k with
  | _ => ("", "", "", false)
def tyJx3cf43 : Nat → FieldType := fun k => match k with
  | _ => .int
abbrev wsJx3cf430 : List Cond := u_ws RJx3cf43 TJx3cf43 0
theorem nmJx3cf43 : ∀ a, a < 0 → ∀ b, b < 0 → a ≠ b → (TJx3cf43 a).2.1 ≠ (TJx3cf43 b).2.1 := by decide +kernel
theorem tyJx3cf43_ok : ∀ k, k < 0 → parseFieldDescriptor (TJx3cf43 k).2.2.1 = some (tyJx3cf43 k) := by decide +kernel
def RJxa1e45 : String := "java/util/AbstractCollection"
def TJxa1e45 : u_T := fun k => match k with
  | _ => ("", "", "", false)
def tyJxa1e45 : Nat → FieldType := fun k => match k with
  | _ => .int
abbrev wsJxa1e450 : List Cond := u_ws RJxa1e45 TJxa1e45 0
theorem nmJxa1e45 : ∀ a, a < 0 → ∀ b, b < 0 → a ≠ b → (TJxa1e45 a).2.1 ≠ (TJxa1e45 b).2.1 := by decide +kernel
theorem tyJxa1e45_ok : ∀ k, k < 0 → parseFieldDescriptor (TJxa1e45 k).2.2.1 = some (tyJxa1e45 k) := by decide +kernel
abbrev cJxa1e45_init_da8c8 : ByteArray := prog_29_method_1_code
def yJxa1e45_init_da8c8 : MethodName := ⟨RJxa1e45, "<init>", "()V"⟩
def RJxc12de : String := "java/util/AbstractList"
def TJxc12de : u_T := fun k => match k with
  | _ => ("", "", "", false)
def tyJxc12de : Nat → FieldType := fun k => match k with
  | _ => .int
abbrev wsJxc12de0 : List Cond := u_ws RJxc12de TJxc12de 0
theorem nmJxc12de : ∀ a, a < 0 → ∀ b, b < 0 → a ≠ b → (TJxc12de a).2.1 ≠ (TJxc12de b).2.1 := by decide +kernel
theorem tyJxc12de_ok : ∀ k, k < 0 → parseFieldDescriptor (TJxc12de k).2.2.1 = some (tyJxc12de k) := by decide +kernel
abbrev cJxc12de_init_da8c8 : ByteArray := prog_30_method_1_code
def yJxc12de_init_da8c8 : MethodName := ⟨RJxc12de, "<init>", "()V"⟩
def RJx4a65c : String := "java/util/ArrayList"
def TJx4a65c : u_T := fun k => match k with
  | 0 => ("java/util/AbstractList", "modCount", "I", false)
  | 1 => ("java/util/ArrayList", "elementData", "[Ljava/lang/Object;", false)
  | _ => ("java/util/ArrayList", "size", "I", false)
def tyJx4a65c : Nat → FieldType := fun k => match k with
  | 0 => .int
  | 1 => .array (.object "java/lang/Object")
  | _ => .int
abbrev wsJx4a65c0 : List Cond := u_ws RJx4a65c TJx4a65c 3
theorem nmJx4a65c : ∀ a, a < 3 → ∀ b, b < 3 → a ≠ b → (TJx4a65c a).2.1 ≠ (TJx4a65c b).2.1 := by decide +kernel
theorem tyJx4a65c_ok : ∀ k, k < 3 → parseFieldDescriptor (TJx4a65c k).2.2.1 = some (tyJx4a65c k) := by decide +kernel
abbrev cJx4a65c_init_da8c8 : ByteArray := prog_31_method_2_code
def yJx4a65c_init_da8c8 : MethodName := ⟨RJx4a65c, "<init>", "()V"⟩
abbrev cJx4a65c_grow_92f84 : ByteArray := prog_31_method_6_code
def yJx4a65c_grow_92f84 : MethodName := ⟨RJx4a65c, "grow", "(I)[Ljava/lang/Object;"⟩
abbrev cJx4a65c_grow_d5877 : ByteArray := prog_31_method_7_code
def yJx4a65c_grow_d5877 : MethodName := ⟨RJx4a65c, "grow", "()[Ljava/lang/Object;"⟩
abbrev cJx4a65c_size_8abf5 : ByteArray := prog_31_method_8_code
def yJx4a65c_size_8abf5 : MethodName := ⟨RJx4a65c, "size", "()I"⟩
abbrev cJx4a65c_elementData_915e3 : ByteArray := prog_31_method_18_code
def yJx4a65c_elementData_915e3 : MethodName := ⟨RJx4a65c, "elementData", "(I)Ljava/lang/Object;"⟩
abbrev cJx4a65c_get_915e3 : ByteArray := prog_31_method_20_code
def yJx4a65c_get_915e3 : MethodName := ⟨RJx4a65c, "get", "(I)Ljava/lang/Object;"⟩
abbrev cJx4a65c_add_72be8 : ByteArray := prog_31_method_24_code
def yJx4a65c_add_72be8 : MethodName := ⟨RJx4a65c, "add", "(Ljava/lang/Object;[Ljava/lang/Object;I)V"⟩
abbrev cJx4a65c_add_9ea2d : ByteArray := prog_31_method_25_code
def yJx4a65c_add_9ea2d : MethodName := ⟨RJx4a65c, "add", "(Ljava/lang/Object;)Z"⟩
abbrev cJx4a65c_clear_da8c8 : ByteArray := prog_31_method_40_code
def yJx4a65c_clear_da8c8 : MethodName := ⟨RJx4a65c, "clear", "()V"⟩
def RJ7 : String := "java/util/Arrays"
def TJ7 : u_T := fun k => match k with
  | _ => ("", "", "", false)
def tyJ7 : Nat → FieldType := fun k => match k with
  | _ => .int
abbrev wsJ70 : List Cond := u_ws RJ7 TJ7 0
theorem nmJ7 : ∀ a, a < 0 → ∀ b, b < 0 → a ≠ b → (TJ7 a).2.1 ≠ (TJ7 b).2.1 := by decide +kernel
theorem tyJ7_ok : ∀ k, k < 0 → parseFieldDescriptor (TJ7 k).2.2.1 = some (tyJ7 k) := by decide +kernel
abbrev cJ7_copyOf_1904c : ByteArray := prog_32_method_119_code
def yJ7_copyOf_1904c : MethodName := ⟨RJ7, "copyOf", "([Ljava/lang/Object;I)[Ljava/lang/Object;"⟩
abbrev cJ7_copyOf_6403c : ByteArray := prog_32_method_120_code
def yJ7_copyOf_6403c : MethodName := ⟨RJ7, "copyOf", "([Ljava/lang/Object;ILjava/lang/Class;)[Ljava/lang/Object;"⟩
def RJx5ef63 : String := "java/util/Collection"
def TJx5ef63 : u_T := fun k => match k with
  | _ => ("", "", "", false)
def tyJx5ef63 : Nat → FieldType := fun k => match k with
  | _ => .int
abbrev wsJx5ef630 : List Cond := u_ws RJx5ef63 TJx5ef63 0
theorem nmJx5ef63 : ∀ a, a < 0 → ∀ b, b < 0 → a ≠ b → (TJx5ef63 a).2.1 ≠ (TJx5ef63 b).2.1 := by decide +kernel
theorem tyJx5ef63_ok : ∀ k, k < 0 → parseFieldDescriptor (TJx5ef63 k).2.2.1 = some (tyJx5ef63 k) := by decide +kernel
def RJxbd725 : String := "java/util/List"
def TJxbd725 : u_T := fun k => match k with
  | _ => ("", "", "", false)
def tyJxbd725 : Nat → FieldType := fun k => match k with
  | _ => .int
abbrev wsJxbd7250 : List Cond := u_ws RJxbd725 TJxbd725 0
theorem nmJxbd725 : ∀ a, a < 0 → ∀ b, b < 0 → a ≠ b → (TJxbd725 a).2.1 ≠ (TJxbd725 b).2.1 := by decide +kernel
theorem tyJxbd725_ok : ∀ k, k < 0 → parseFieldDescriptor (TJxbd725 k).2.2.1 = some (tyJxbd725 k) := by decide +kernel
def RJ15 : String := "java/util/Objects"
def TJ15 : u_T := fun k => match k with
  | _ => ("", "", "", false)
def tyJ15 : Nat → FieldType := fun k => match k with
  | _ => .int
abbrev wsJ150 : List Cond := u_ws RJ15 TJ15 0
theorem nmJ15 : ∀ a, a < 0 → ∀ b, b < 0 → a ≠ b → (TJ15 a).2.1 ≠ (TJ15 b).2.1 := by decide +kernel
theorem tyJ15_ok : ∀ k, k < 0 → parseFieldDescriptor (TJ15 k).2.2.1 = some (tyJ15 k) := by decide +kernel
abbrev cJ15_checkIndex_7cf53 : ByteArray := prog_35_method_17_code
def yJ15_checkIndex_7cf53 : MethodName := ⟨RJ15, "checkIndex", "(II)I"⟩
def RJxf0a74 : String := "java/util/RandomAccess"
def TJxf0a74 : u_T := fun k => match k with
  | _ => ("", "", "", false)
def tyJxf0a74 : Nat → FieldType := fun k => match k with
  | _ => .int
abbrev wsJxf0a740 : List Cond := u_ws RJxf0a74 TJxf0a74 0
theorem nmJxf0a74 : ∀ a, a < 0 → ∀ b, b < 0 → a ≠ b → (TJxf0a74 a).2.1 ≠ (TJxf0a74 b).2.1 := by decide +kernel
theorem tyJxf0a74_ok : ∀ k, k < 0 → parseFieldDescriptor (TJxf0a74 k).2.2.1 = some (tyJxf0a74 k) := by decide +kernel
def RJxa66e6 : String := "java/util/SequencedCollection"
def TJxa66e6 : u_T := fun k => match k with
  | _ => ("", "", "", false)
def tyJxa66e6 : Nat → FieldType := fun k => match k with
  | _ => .int
abbrev wsJxa66e60 : List Cond := u_ws RJxa66e6 TJxa66e6 0
theorem nmJxa66e6 : ∀ a, a < 0 → ∀ b, b < 0 → a ≠ b → (TJxa66e6 a).2.1 ≠ (TJxa66e6 b).2.1 := by decide +kernel
theorem tyJxa66e6_ok : ∀ k, k < 0 → parseFieldDescriptor (TJxa66e6 k).2.2.1 = some (tyJxa66e6 k) := by decide +kernel
def RJ8 : String := "jdk/internal/util/ArraysSupport"
def TJ8 : u_T := fun k => match k with
  | _ => ("", "", "", false)
def tyJ8 : Nat → FieldType := fun k => match k with
  | _ => .int
abbrev wsJ80 : List Cond := u_ws RJ8 TJ8 0
theorem nmJ8 : ∀ a, a < 0 → ∀ b, b < 0 → a ≠ b → (TJ8 a).2.1 ≠ (TJ8 b).2.1 := by decide +kernel
theorem tyJ8_ok : ∀ k, k < 0 → parseFieldDescriptor (TJ8 k).2.2.1 = some (tyJ8 k) := by decide +kernel
abbrev cJ8_newLength_cabcc : ByteArray := prog_38_method_27_code
def yJ8_newLength_cabcc : MethodName := ⟨RJ8, "newLength", "(III)I"⟩
abbrev cJ8_hugeLength_7cf53 : ByteArray := prog_38_method_28_code
def yJ8_hugeLength_7cf53 : MethodName := ⟨RJ8, "hugeLength", "(II)I"⟩
def RJ3 : String := "jdk/internal/util/Preconditions"
def TJ3 : u_T := fun k => match k with
  | _ => ("", "", "", false)
def tyJ3 : Nat → FieldType := fun k => match k with
  | _ => .int
abbrev wsJ30 : List Cond := u_ws RJ3 TJ3 0
theorem nmJ3 : ∀ a, a < 0 → ∀ b, b < 0 → a ≠ b → (TJ3 a).2.1 ≠ (TJ3 b).2.1 := by decide +kernel
theorem tyJ3_ok : ∀ k, k < 0 → parseFieldDescriptor (TJ3 k).2.2.1 = some (tyJ3 k) := by decide +kernel
abbrev cJ3_checkIndex_8e157 : ByteArray := prog_39_method_11_code
def yJ3_checkIndex_8e157 : MethodName := ⟨RJ3, "checkIndex", "(IILjava/util/function/BiFunction;)I"⟩
def RL : String := "NamesNoTouchLaw"
abbrev cL_law : ByteArray := code
def yL_law : MethodName := ⟨RL, "law", "([I)Z"⟩
abbrev vwCl : List vw_C := [(RJx4a65c, TJx4a65c, 3), (RX0, TX0, 6), (RX1, TX1, 6), (RX2, TX2, 6), (RX3, TX3, 6), (RX4, TX4, 6), (RX5, TX5, 6), (RX6, TX6, 2), (RX7, TX7, 11), (RX8, TX8, 12), (RX9, TX9, 6), (RX10, TX10, 6), (RX11, TX11, 6), (RX12, TX12, 28)]
