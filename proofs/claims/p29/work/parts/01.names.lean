/-! ===== BEGIN printed: names, fields, word lists, decode rows ===== -/
def RX0 : String := "BilingualSetter$Division"
def TX0 : u_T := fun k => match k with
  | 0 => ("BilingualSetter$Division", "isSearched", "Z", false)
  | 1 => ("BilingualSetter$Division", "groups", "I", false)
  | 2 => ("BilingualSetter$Division", "firstPairs", "[I", true)
  | 3 => ("BilingualSetter$Division", "costs", "[I", true)
  | 4 => ("BilingualSetter$Division", "sizes", "[I", true)
  | 5 => ("BilingualSetter$Division", "group", "LBilingualSetter$Facing;", true)
  | _ => ("BilingualSetter$Division", "whole", "LBilingualSetter$Part;", true)
def tyX0 : Nat → FieldType := fun k => match k with
  | 0 => .boolean
  | 1 => .int
  | 2 => .array .int
  | 3 => .array .int
  | 4 => .array .int
  | 5 => .object "BilingualSetter$Facing"
  | _ => .object "BilingualSetter$Part"
abbrev wsX00 : List Cond := u_ws RX0 TX0 7
theorem nmX0 : ∀ a, a < 7 → ∀ b, b < 7 → a ≠ b → (TX0 a).2.1 ≠ (TX0 b).2.1 := by decide +kernel
theorem tyX0_ok : ∀ k, k < 7 → parseFieldDescriptor (TX0 k).2.2.1 = some (tyX0 k) := by decide +kernel
abbrev cX0_init : ByteArray := prog_2_method_1_code
def yX0_init : MethodName := ⟨RX0, "<init>", "()V"⟩
abbrev cX0_isAllowed : ByteArray := prog_2_method_2_code
def yX0_isAllowed : MethodName := ⟨RX0, "isAllowed", "()Z"⟩
abbrev cX0_search : ByteArray := prog_2_method_3_code
def yX0_search : MethodName := ⟨RX0, "search", "(LBilingualSetter$Edition;)V"⟩
abbrev cX0_searchFrom : ByteArray := prog_2_method_4_code
def yX0_searchFrom : MethodName := ⟨RX0, "searchFrom", "(LBilingualSetter$Edition;I)V"⟩
abbrev cX0_considerGroup : ByteArray := prog_2_method_5_code
def yX0_considerGroup : MethodName := ⟨RX0, "considerGroup", "(LBilingualSetter$Edition;II)V"⟩
abbrev cX0_blankSquares : ByteArray := prog_2_method_6_code
def yX0_blankSquares : MethodName := ⟨RX0, "blankSquares", "(LBilingualSetter$Edition;)I"⟩
def RX1 : String := "BilingualSetter$Edition"
def TX1 : u_T := fun k => match k with
  | 0 => ("BilingualSetter$Edition", "count", "I", false)
  | 1 => ("BilingualSetter$Edition", "pairs", "[[I", true)
  | 2 => ("BilingualSetter$Edition", "left", "LBilingualSetter$Notes;", true)
  | 3 => ("BilingualSetter$Edition", "right", "LBilingualSetter$Notes;", true)
  | _ => ("BilingualSetter$Edition", "settings", "[I", true)
def tyX1 : Nat → FieldType := fun k => match k with
  | 0 => .int
  | 1 => .array (.array .int)
  | 2 => .object "BilingualSetter$Notes"
  | 3 => .object "BilingualSetter$Notes"
  | _ => .array .int
abbrev wsX10 : List Cond := u_ws RX1 TX1 5
theorem nmX1 : ∀ a, a < 5 → ∀ b, b < 5 → a ≠ b → (TX1 a).2.1 ≠ (TX1 b).2.1 := by decide +kernel
theorem tyX1_ok : ∀ k, k < 5 → parseFieldDescriptor (TX1 k).2.2.1 = some (tyX1 k) := by decide +kernel
abbrev cX1_init : ByteArray := prog_3_method_1_code
def yX1_init : MethodName := ⟨RX1, "<init>", "()V"⟩
abbrev cX1_notes : ByteArray := prog_3_method_2_code
def yX1_notes : MethodName := ⟨RX1, "notes", "(I)LBilingualSetter$Notes;"⟩
abbrev cX1_hasPair : ByteArray := prog_3_method_3_code
def yX1_hasPair : MethodName := ⟨RX1, "hasPair", "(I)Z"⟩
abbrev cX1_hasLine : ByteArray := prog_3_method_4_code
def yX1_hasLine : MethodName := ⟨RX1, "hasLine", "(III)Z"⟩
abbrev cX1_placePair : ByteArray := prog_3_method_5_code
def yX1_placePair : MethodName := ⟨RX1, "placePair", "(III)V"⟩
abbrev cX1_copyFrom : ByteArray := prog_3_method_7_code
def yX1_copyFrom : MethodName := ⟨RX1, "copyFrom", "(LBilingualSetter$Edition;)V"⟩
def RX2 : String := "BilingualSetter$Facing"
def TX2 : u_T := fun k => match k with
  | 0 => ("BilingualSetter$Facing", "text", "[I", true)
  | 1 => ("BilingualSetter$Facing", "next", "[I", true)
  | 2 => ("BilingualSetter$Facing", "carriedTo", "[I", true)
  | 3 => ("BilingualSetter$Facing", "firstNote", "[I", true)
  | 4 => ("BilingualSetter$Facing", "notes", "[I", true)
  | 5 => ("BilingualSetter$Facing", "noteLines", "[I", true)
  | _ => ("BilingualSetter$Facing", "lastLength", "[I", true)
def tyX2 : Nat → FieldType := fun k => match k with
  | 0 => .array .int
  | 1 => .array .int
  | 2 => .array .int
  | 3 => .array .int
  | 4 => .array .int
  | 5 => .array .int
  | _ => .array .int
abbrev wsX20 : List Cond := u_ws RX2 TX2 7
theorem nmX2 : ∀ a, a < 7 → ∀ b, b < 7 → a ≠ b → (TX2 a).2.1 ≠ (TX2 b).2.1 := by decide +kernel
theorem tyX2_ok : ∀ k, k < 7 → parseFieldDescriptor (TX2 k).2.2.1 = some (tyX2 k) := by decide +kernel
abbrev cX2_init : ByteArray := prog_4_method_1_code
def yX2_init : MethodName := ⟨RX2, "<init>", "()V"⟩
abbrev cX2_turn : ByteArray := prog_4_method_2_code
def yX2_turn : MethodName := ⟨RX2, "turn", "(III)V"⟩
abbrev cX2_copyFrom : ByteArray := prog_4_method_3_code
def yX2_copyFrom : MethodName := ⟨RX2, "copyFrom", "(LBilingualSetter$Facing;)V"⟩
abbrev cX2_put : ByteArray := prog_4_method_4_code
def yX2_put : MethodName := ⟨RX2, "put", "(LBilingualSetter$Edition;LBilingualSetter$Part;)V"⟩
abbrev cX2_noteRows : ByteArray := prog_4_method_5_code
def yX2_noteRows : MethodName := ⟨RX2, "noteRows", "(III)I"⟩
abbrev cX2_mostCarried : ByteArray := prog_4_method_6_code
def yX2_mostCarried : MethodName := ⟨RX2, "mostCarried", "(II)I"⟩
abbrev cX2_fits : ByteArray := prog_4_method_7_code
def yX2_fits : MethodName := ⟨RX2, "fits", "(III)Z"⟩
abbrev cX2_carriedFrom : ByteArray := prog_4_method_8_code
def yX2_carriedFrom : MethodName := ⟨RX2, "carriedFrom", "(ILBilingualSetter$Edition;I)I"⟩
def RX3 : String := "BilingualSetter$History"
def TX3 : u_T := fun k => match k with
  | 0 => ("BilingualSetter$History", "count", "I", false)
  | 1 => ("BilingualSetter$History", "next", "I", false)
  | _ => ("BilingualSetter$History", "ring", "[LBilingualSetter$Edition;", true)
def tyX3 : Nat → FieldType := fun k => match k with
  | 0 => .int
  | 1 => .int
  | _ => .array (.object "BilingualSetter$Edition")
abbrev wsX30 : List Cond := u_ws RX3 TX3 3
theorem nmX3 : ∀ a, a < 3 → ∀ b, b < 3 → a ≠ b → (TX3 a).2.1 ≠ (TX3 b).2.1 := by decide +kernel
theorem tyX3_ok : ∀ k, k < 3 → parseFieldDescriptor (TX3 k).2.2.1 = some (tyX3 k) := by decide +kernel
abbrev cX3_init : ByteArray := prog_5_method_1_code
def yX3_init : MethodName := ⟨RX3, "<init>", "()V"⟩
abbrev cX3_record : ByteArray := prog_5_method_2_code
def yX3_record : MethodName := ⟨RX3, "record", "(LBilingualSetter$Edition;)V"⟩
abbrev cX3_restore : ByteArray := prog_5_method_3_code
def yX3_restore : MethodName := ⟨RX3, "restore", "(LBilingualSetter$Edition;)V"⟩
def RX4 : String := "BilingualSetter$Notes"
def TX4 : u_T := fun k => match k with
  | 0 => ("BilingualSetter$Notes", "count", "I", false)
  | _ => ("BilingualSetter$Notes", "table", "[[I", true)
def tyX4 : Nat → FieldType := fun k => match k with
  | 0 => .int
  | _ => .array (.array .int)
abbrev wsX40 : List Cond := u_ws RX4 TX4 2
theorem nmX4 : ∀ a, a < 2 → ∀ b, b < 2 → a ≠ b → (TX4 a).2.1 ≠ (TX4 b).2.1 := by decide +kernel
theorem tyX4_ok : ∀ k, k < 2 → parseFieldDescriptor (TX4 k).2.2.1 = some (tyX4 k) := by decide +kernel
abbrev cX4_init : ByteArray := prog_6_method_1_code
def yX4_init : MethodName := ⟨RX4, "<init>", "()V"⟩
abbrev cX4_before : ByteArray := prog_6_method_2_code
def yX4_before : MethodName := ⟨RX4, "before", "(II)I"⟩
abbrev cX4_endBefore : ByteArray := prog_6_method_3_code
def yX4_endBefore : MethodName := ⟨RX4, "endBefore", "(III)I"⟩
abbrev cX4_place : ByteArray := prog_6_method_5_code
def yX4_place : MethodName := ⟨RX4, "place", "(III)I"⟩
abbrev cX4_drop : ByteArray := prog_6_method_6_code
def yX4_drop : MethodName := ⟨RX4, "drop", "(I)V"⟩
abbrev cX4_movePairs : ByteArray := prog_6_method_8_code
def yX4_movePairs : MethodName := ⟨RX4, "movePairs", "(II)V"⟩
abbrev cX4_copyFrom : ByteArray := prog_6_method_9_code
def yX4_copyFrom : MethodName := ⟨RX4, "copyFrom", "(LBilingualSetter$Notes;)V"⟩
def RX5 : String := "BilingualSetter$Part"
def TX5 : u_T := fun k => match k with
  | 0 => ("BilingualSetter$Part", "pair", "I", false)
  | 1 => ("BilingualSetter$Part", "first", "[I", true)
  | _ => ("BilingualSetter$Part", "lines", "[I", true)
def tyX5 : Nat → FieldType := fun k => match k with
  | 0 => .int
  | 1 => .array .int
  | _ => .array .int
abbrev wsX50 : List Cond := u_ws RX5 TX5 3
theorem nmX5 : ∀ a, a < 3 → ∀ b, b < 3 → a ≠ b → (TX5 a).2.1 ≠ (TX5 b).2.1 := by decide +kernel
theorem tyX5_ok : ∀ k, k < 3 → parseFieldDescriptor (TX5 k).2.2.1 = some (tyX5 k) := by decide +kernel
abbrev cX5_init : ByteArray := prog_7_method_1_code
def yX5_init : MethodName := ⟨RX5, "<init>", "()V"⟩
abbrev cX5_takePair : ByteArray := prog_7_method_2_code
def yX5_takePair : MethodName := ⟨RX5, "takePair", "(LBilingualSetter$Edition;I)V"⟩
abbrev cX5_takeStart : ByteArray := prog_7_method_3_code
def yX5_takeStart : MethodName := ⟨RX5, "takeStart", "(LBilingualSetter$Part;II)V"⟩
abbrev cX5_dropStart : ByteArray := prog_7_method_4_code
def yX5_dropStart : MethodName := ⟨RX5, "dropStart", "(LBilingualSetter$Part;)V"⟩
abbrev cX5_isBegun : ByteArray := prog_7_method_5_code
def yX5_isBegun : MethodName := ⟨RX5, "isBegun", "()Z"⟩
def RX6 : String := "BilingualSetter$Spreads"
def TX6 : u_T := fun k => match k with
  | 0 => ("BilingualSetter$Spreads", "height", "I", false)
  | 1 => ("BilingualSetter$Spreads", "count", "I", false)
  | 2 => ("BilingualSetter$Spreads", "firstSegment", "[I", true)
  | 3 => ("BilingualSetter$Spreads", "overfull", "[I", true)
  | 4 => ("BilingualSetter$Spreads", "segments", "[[I", true)
  | 5 => ("BilingualSetter$Spreads", "pages", "[[I", true)
  | 6 => ("BilingualSetter$Spreads", "segmentsMade", "I", false)
  | 7 => ("BilingualSetter$Spreads", "now", "LBilingualSetter$Facing;", true)
  | 8 => ("BilingualSetter$Spreads", "trial", "LBilingualSetter$Facing;", true)
  | 9 => ("BilingualSetter$Spreads", "rest", "LBilingualSetter$Part;", true)
  | _ => ("BilingualSetter$Spreads", "start", "LBilingualSetter$Part;", true)
def tyX6 : Nat → FieldType := fun k => match k with
  | 0 => .int
  | 1 => .int
  | 2 => .array .int
  | 3 => .array .int
  | 4 => .array (.array .int)
  | 5 => .array (.array .int)
  | 6 => .int
  | 7 => .object "BilingualSetter$Facing"
  | 8 => .object "BilingualSetter$Facing"
  | 9 => .object "BilingualSetter$Part"
  | _ => .object "BilingualSetter$Part"
abbrev wsX60 : List Cond := u_ws RX6 TX6 11
theorem nmX6 : ∀ a, a < 11 → ∀ b, b < 11 → a ≠ b → (TX6 a).2.1 ≠ (TX6 b).2.1 := by decide +kernel
theorem tyX6_ok : ∀ k, k < 11 → parseFieldDescriptor (TX6 k).2.2.1 = some (tyX6 k) := by decide +kernel
abbrev cX6_init : ByteArray := prog_8_method_1_code
def yX6_init : MethodName := ⟨RX6, "<init>", "()V"⟩
abbrev cX6_arrange : ByteArray := prog_8_method_2_code
def yX6_arrange : MethodName := ⟨RX6, "arrange", "(LBilingualSetter$Edition;I)V"⟩
abbrev cX6_isCarried : ByteArray := prog_8_method_3_code
def yX6_isCarried : MethodName := ⟨RX6, "isCarried", "()Z"⟩
abbrev cX6_putNext : ByteArray := prog_8_method_4_code
def yX6_putNext : MethodName := ⟨RX6, "putNext", "(LBilingualSetter$Edition;)Z"⟩
abbrev cX6_putRest : ByteArray := prog_8_method_5_code
def yX6_putRest : MethodName := ⟨RX6, "putRest", "(LBilingualSetter$Edition;)V"⟩
abbrev cX6_fits : ByteArray := prog_8_method_6_code
def yX6_fits : MethodName := ⟨RX6, "fits", "(LBilingualSetter$Edition;LBilingualSetter$Part;)Z"⟩
abbrev cX6_findStart : ByteArray := prog_8_method_7_code
def yX6_findStart : MethodName := ⟨RX6, "findStart", "(LBilingualSetter$Edition;)Z"⟩
abbrev cX6_addSegment : ByteArray := prog_8_method_8_code
def yX6_addSegment : MethodName := ⟨RX6, "addSegment", "(LBilingualSetter$Edition;LBilingualSetter$Part;I)V"⟩
abbrev cX6_endSpread : ByteArray := prog_8_method_9_code
def yX6_endSpread : MethodName := ⟨RX6, "endSpread", "(LBilingualSetter$Edition;)V"⟩
abbrev cX6_has : ByteArray := prog_8_method_10_code
def yX6_has : MethodName := ⟨RX6, "has", "(I)Z"⟩
abbrev cX6_segmentsOf : ByteArray := prog_8_method_11_code
def yX6_segmentsOf : MethodName := ⟨RX6, "segmentsOf", "(I)I"⟩
abbrev cX6_segmentWith : ByteArray := prog_8_method_12_code
def yX6_segmentWith : MethodName := ⟨RX6, "segmentWith", "(III)I"⟩
abbrev cX6_contains : ByteArray := prog_8_method_13_code
def yX6_contains : MethodName := ⟨RX6, "contains", "(IIII)Z"⟩
abbrev cX6_spreadWith : ByteArray := prog_8_method_14_code
def yX6_spreadWith : MethodName := ⟨RX6, "spreadWith", "(I)I"⟩
abbrev cX6_rowIn : ByteArray := prog_8_method_15_code
def yX6_rowIn : MethodName := ⟨RX6, "rowIn", "(III)I"⟩
abbrev cX6_textAt : ByteArray := prog_8_method_16_code
def yX6_textAt : MethodName := ⟨RX6, "textAt", "(III)I"⟩
abbrev cX6_noteAt : ByteArray := prog_8_method_17_code
def yX6_noteAt : MethodName := ⟨RX6, "noteAt", "(LBilingualSetter$Edition;III)I"⟩
abbrev cX6_noteLine : ByteArray := prog_8_method_18_code
def yX6_noteLine : MethodName := ⟨RX6, "noteLine", "(LBilingualSetter$Notes;II)I"⟩
abbrev cX6_blankSquares : ByteArray := prog_8_method_19_code
def yX6_blankSquares : MethodName := ⟨RX6, "blankSquares", "()I"⟩
def RX7 : String := "BilingualSetter"
def TX7 : u_T := fun k => match k with
  | 0 => ("BilingualSetter", "edition", "LBilingualSetter$Edition;", true)
  | 1 => ("BilingualSetter", "history", "LBilingualSetter$History;", true)
  | 2 => ("BilingualSetter", "spreads", "LBilingualSetter$Spreads;", true)
  | _ => ("BilingualSetter", "division", "LBilingualSetter$Division;", true)
def tyX7 : Nat → FieldType := fun k => match k with
  | 0 => .object "BilingualSetter$Edition"
  | 1 => .object "BilingualSetter$History"
  | 2 => .object "BilingualSetter$Spreads"
  | _ => .object "BilingualSetter$Division"
abbrev wsX70 : List Cond := u_ws RX7 TX7 4
theorem nmX7 : ∀ a, a < 4 → ∀ b, b < 4 → a ≠ b → (TX7 a).2.1 ≠ (TX7 b).2.1 := by decide +kernel
theorem tyX7_ok : ∀ k, k < 4 → parseFieldDescriptor (TX7 k).2.2.1 = some (tyX7 k) := by decide +kernel
abbrev cX7_init : ByteArray := prog_1_method_1_code
def yX7_init : MethodName := ⟨RX7, "<init>", "()V"⟩
abbrev cX7_insert : ByteArray := prog_1_method_2_code
def yX7_insert : MethodName := ⟨RX7, "insert", "(III)I"⟩
abbrev cX7_setFlag : ByteArray := prog_1_method_5_code
def yX7_setFlag : MethodName := ⟨RX7, "setFlag", "(III)I"⟩
abbrev cX7_addNote : ByteArray := prog_1_method_6_code
def yX7_addNote : MethodName := ⟨RX7, "addNote", "(IIII)I"⟩
abbrev cX7_removeNote : ByteArray := prog_1_method_7_code
def yX7_removeNote : MethodName := ⟨RX7, "removeNote", "(II)I"⟩
abbrev cX7_set : ByteArray := prog_1_method_8_code
def yX7_set : MethodName := ⟨RX7, "set", "(II)I"⟩
abbrev cX7_undo : ByteArray := prog_1_method_9_code
def yX7_undo : MethodName := ⟨RX7, "undo", "()I"⟩
abbrev cX7_pairCount : ByteArray := prog_1_method_10_code
def yX7_pairCount : MethodName := ⟨RX7, "pairCount", "()I"⟩
abbrev cX7_pairInfo : ByteArray := prog_1_method_11_code
def yX7_pairInfo : MethodName := ⟨RX7, "pairInfo", "(II)I"⟩
abbrev cX7_noteCount : ByteArray := prog_1_method_12_code
def yX7_noteCount : MethodName := ⟨RX7, "noteCount", "(I)I"⟩
abbrev cX7_noteInfo : ByteArray := prog_1_method_13_code
def yX7_noteInfo : MethodName := ⟨RX7, "noteInfo", "(III)I"⟩
abbrev cX7_spreadCount : ByteArray := prog_1_method_14_code
def yX7_spreadCount : MethodName := ⟨RX7, "spreadCount", "()I"⟩
abbrev cX7_segmentCount : ByteArray := prog_1_method_15_code
def yX7_segmentCount : MethodName := ⟨RX7, "segmentCount", "(I)I"⟩
abbrev cX7_pageInfo : ByteArray := prog_1_method_17_code
def yX7_pageInfo : MethodName := ⟨RX7, "pageInfo", "(III)I"⟩
abbrev cX7_isOverfull : ByteArray := prog_1_method_18_code
def yX7_isOverfull : MethodName := ⟨RX7, "isOverfull", "(I)I"⟩
abbrev cX7_spreadOf : ByteArray := prog_1_method_19_code
def yX7_spreadOf : MethodName := ⟨RX7, "spreadOf", "(III)I"⟩
abbrev cX7_rowOf : ByteArray := prog_1_method_20_code
def yX7_rowOf : MethodName := ⟨RX7, "rowOf", "(III)I"⟩
abbrev cX7_shown : ByteArray := prog_1_method_21_code
def yX7_shown : MethodName := ⟨RX7, "shown", "(III)I"⟩
abbrev cX7_cost : ByteArray := prog_1_method_22_code
def yX7_cost : MethodName := ⟨RX7, "cost", "()I"⟩
abbrev cX7_bestCost : ByteArray := prog_1_method_23_code
def yX7_bestCost : MethodName := ⟨RX7, "bestCost", "()I"⟩
abbrev cX7_bestBreak : ByteArray := prog_1_method_24_code
def yX7_bestBreak : MethodName := ⟨RX7, "bestBreak", "(I)I"⟩
abbrev cX7_leastHeight : ByteArray := prog_1_method_25_code
def yX7_leastHeight : MethodName := ⟨RX7, "leastHeight", "(I)I"⟩
abbrev cX7_changePair : ByteArray := prog_1_method_28_code
def yX7_changePair : MethodName := ⟨RX7, "changePair", "(III)I"⟩
abbrev cX7_beginChange : ByteArray := prog_1_method_29_code
def yX7_beginChange : MethodName := ⟨RX7, "beginChange", "()V"⟩
abbrev cX7_forgetResults : ByteArray := prog_1_method_30_code
def yX7_forgetResults : MethodName := ⟨RX7, "forgetResults", "()V"⟩
abbrev cX7_isIn : ByteArray := prog_1_method_31_code
def yX7_isIn : MethodName := ⟨RX7, "isIn", "(III)Z"⟩
abbrev cX7_isSide : ByteArray := prog_1_method_32_code
def yX7_isSide : MethodName := ⟨RX7, "isSide", "(I)Z"⟩
abbrev cX7_openPlace : ByteArray := prog_1_method_33_code
def yX7_openPlace : MethodName := ⟨RX7, "openPlace", "([III)V"⟩
abbrev cX7_closePlace : ByteArray := prog_1_method_34_code
def yX7_closePlace : MethodName := ⟨RX7, "closePlace", "([III)V"⟩
abbrev cX7_copyTable : ByteArray := prog_1_method_35_code
def yX7_copyTable : MethodName := ⟨RX7, "copyTable", "([[I[[I)V"⟩
def RX8 : String := "BilingualSetterModel"
def TX8 : u_T := fun k => match k with
  | _ => ("", "", "", false)
def tyX8 : Nat → FieldType := fun k => match k with
  | _ => .int
abbrev wsX80 : List Cond := u_ws RX8 TX8 0
theorem nmX8 : ∀ a, a < 0 → ∀ b, b < 0 → a ≠ b → (TX8 a).2.1 ≠ (TX8 b).2.1 := by decide +kernel
theorem tyX8_ok : ∀ k, k < 0 → parseFieldDescriptor (TX8 k).2.2.1 = some (tyX8 k) := by decide +kernel
def RL : String := "BilingualSetterLaw"
abbrev cL_cell : ByteArray := method_2_code
def yL_cell : MethodName := ⟨RL, "cell", "([II)I"⟩
abbrev cL_acts : ByteArray := method_3_code
def yL_acts : MethodName := ⟨RL, "acts", "(LBilingualSetter;I)Z"⟩
abbrev cL_shows : ByteArray := method_4_code
def yL_shows : MethodName := ⟨RL, "shows", "(LBilingualSetter;I)Z"⟩
abbrev cL_adds : ByteArray := method_5_code
def yL_adds : MethodName := ⟨RL, "adds", "(LBilingualSetter;)Z"⟩
abbrev cL_law : ByteArray := code
def yL_law : MethodName := ⟨RL, "law", "([I)Z"⟩
theorem dX0_init_0 : decode cX0_init 0 = .ok (.aload_n 0, 1) := by decide +kernel
theorem dX0_init_1 : decode cX0_init 1 = .ok (.invokespecial 3, 3) := by decide +kernel
theorem dX0_init_4 : decode cX0_init 4 = .ok (.aload_n 0, 1) := by decide +kernel
theorem dX0_init_5 : decode cX0_init 5 = .ok (.bipush 20, 2) := by decide +kernel
theorem dX0_init_7 : decode cX0_init 7 = .ok (.newarray .int, 2) := by decide +kernel
theorem dX0_init_9 : decode cX0_init 9 = .ok (.putfield 9, 3) := by decide +kernel
theorem dX0_init_12 : decode cX0_init 12 = .ok (.aload_n 0, 1) := by decide +kernel
theorem dX0_init_13 : decode cX0_init 13 = .ok (.bipush 21, 2) := by decide +kernel
theorem dX0_init_15 : decode cX0_init 15 = .ok (.newarray .int, 2) := by decide +kernel
theorem dX0_init_17 : decode cX0_init 17 = .ok (.putfield 15, 3) := by decide +kernel
theorem dX0_init_20 : decode cX0_init 20 = .ok (.aload_n 0, 1) := by decide +kernel
theorem dX0_init_21 : decode cX0_init 21 = .ok (.bipush 20, 2) := by decide +kernel
theorem dX0_init_23 : decode cX0_init 23 = .ok (.newarray .int, 2) := by decide +kernel
theorem dX0_init_25 : decode cX0_init 25 = .ok (.putfield 18, 3) := by decide +kernel
theorem dX0_init_28 : decode cX0_init 28 = .ok (.aload_n 0, 1) := by decide +kernel
theorem dX0_init_29 : decode cX0_init 29 = .ok (.new 21, 3) := by decide +kernel
theorem dX0_init_32 : decode cX0_init 32 = .ok (.dup, 1) := by decide +kernel
theorem dX0_init_33 : decode cX0_init 33 = .ok (.invokespecial 23, 3) := by decide +kernel
theorem dX0_init_36 : decode cX0_init 36 = .ok (.putfield 24, 3) := by decide +kernel
theorem dX0_init_39 : decode cX0_init 39 = .ok (.aload_n 0, 1) := by decide +kernel
theorem dX0_init_40 : decode cX0_init 40 = .ok (.new 28, 3) := by decide +kernel
theorem dX0_init_43 : decode cX0_init 43 = .ok (.dup, 1) := by decide +kernel
theorem dX0_init_44 : decode cX0_init 44 = .ok (.invokespecial 30, 3) := by decide +kernel
theorem dX0_init_47 : decode cX0_init 47 = .ok (.putfield 31, 3) := by decide +kernel
theorem dX0_init_50 : decode cX0_init 50 = .ok (.return_, 1) := by decide +kernel
theorem dX0_isAllowed_0 : decode cX0_isAllowed 0 = .ok (.aload_n 0, 1) := by decide +kernel
theorem dX0_isAllowed_1 : decode cX0_isAllowed 1 = .ok (.getfield 15, 3) := by decide +kernel
theorem dX0_isAllowed_4 : decode cX0_isAllowed 4 = .ok (.iconst 0, 1) := by decide +kernel
theorem dX0_isAllowed_5 : decode cX0_isAllowed 5 = .ok (.iaload, 1) := by decide +kernel
theorem dX0_isAllowed_6 : decode cX0_isAllowed 6 = .ok (.iconst (-1), 1) := by decide +kernel
theorem dX0_isAllowed_7 : decode cX0_isAllowed 7 = .ok (.if_icmp .eq 7, 3) := by decide +kernel
theorem dX0_isAllowed_10 : decode cX0_isAllowed 10 = .ok (.iconst 1, 1) := by decide +kernel
theorem dX0_isAllowed_11 : decode cX0_isAllowed 11 = .ok (.goto 4, 3) := by decide +kernel
theorem dX0_isAllowed_14 : decode cX0_isAllowed 14 = .ok (.iconst 0, 1) := by decide +kernel
theorem dX0_isAllowed_15 : decode cX0_isAllowed 15 = .ok (.ireturn, 1) := by decide +kernel
theorem dX0_search_0 : decode cX0_search 0 = .ok (.aload_n 0, 1) := by decide +kernel
theorem dX0_search_1 : decode cX0_search 1 = .ok (.getfield 35, 3) := by decide +kernel
theorem dX0_search_4 : decode cX0_search 4 = .ok (.ifCond .eq 4, 3) := by decide +kernel
theorem dX0_search_7 : decode cX0_search 7 = .ok (.return_, 1) := by decide +kernel
theorem dX0_search_8 : decode cX0_search 8 = .ok (.aload_n 0, 1) := by decide +kernel
theorem dX0_search_9 : decode cX0_search 9 = .ok (.iconst 1, 1) := by decide +kernel
theorem dX0_search_10 : decode cX0_search 10 = .ok (.putfield 35, 3) := by decide +kernel
theorem dX0_search_13 : decode cX0_search 13 = .ok (.aload_n 0, 1) := by decide +kernel
theorem dX0_search_14 : decode cX0_search 14 = .ok (.getfield 15, 3) := by decide +kernel
theorem dX0_search_17 : decode cX0_search 17 = .ok (.aload_n 1, 1) := by decide +kernel
theorem dX0_search_18 : decode cX0_search 18 = .ok (.getfield 39, 3) := by decide +kernel
theorem dX0_search_21 : decode cX0_search 21 = .ok (.iconst 0, 1) := by decide +kernel
theorem dX0_search_22 : decode cX0_search 22 = .ok (.iastore, 1) := by decide +kernel
theorem dX0_search_23 : decode cX0_search 23 = .ok (.aload_n 1, 1) := by decide +kernel
theorem dX0_search_24 : decode cX0_search 24 = .ok (.getfield 39, 3) := by decide +kernel
theorem dX0_search_27 : decode cX0_search 27 = .ok (.iconst 1, 1) := by decide +kernel
theorem dX0_search_28 : decode cX0_search 28 = .ok (.isub, 1) := by decide +kernel
theorem dX0_search_29 : decode cX0_search 29 = .ok (.istore_n 2, 1) := by decide +kernel
theorem dX0_search_30 : decode cX0_search 30 = .ok (.iload_n 2, 1) := by decide +kernel
theorem dX0_search_31 : decode cX0_search 31 = .ok (.ifCond .lt 15, 3) := by decide +kernel
theorem dX0_search_34 : decode cX0_search 34 = .ok (.aload_n 0, 1) := by decide +kernel
theorem dX0_search_35 : decode cX0_search 35 = .ok (.aload_n 1, 1) := by decide +kernel
theorem dX0_search_36 : decode cX0_search 36 = .ok (.iload_n 2, 1) := by decide +kernel
theorem dX0_search_37 : decode cX0_search 37 = .ok (.invokevirtual 45, 3) := by decide +kernel
theorem dX0_search_40 : decode cX0_search 40 = .ok (.iinc 2 (-1), 3) := by decide +kernel
theorem dX0_search_43 : decode cX0_search 43 = .ok (.goto (-13), 3) := by decide +kernel
theorem dX0_search_46 : decode cX0_search 46 = .ok (.aload_n 0, 1) := by decide +kernel
theorem dX0_search_47 : decode cX0_search 47 = .ok (.iconst 0, 1) := by decide +kernel
theorem dX0_search_48 : decode cX0_search 48 = .ok (.putfield 49, 3) := by decide +kernel
theorem dX0_search_51 : decode cX0_search 51 = .ok (.iconst 0, 1) := by decide +kernel
theorem dX0_search_52 : decode cX0_search 52 = .ok (.istore_n 2, 1) := by decide +kernel
theorem dX0_search_53 : decode cX0_search 53 = .ok (.aload_n 0, 1) := by decide +kernel
theorem dX0_search_54 : decode cX0_search 54 = .ok (.invokevirtual 52, 3) := by decide +kernel
theorem dX0_search_57 : decode cX0_search 57 = .ok (.ifCond .eq 52, 3) := by decide +kernel
theorem dX0_search_60 : decode cX0_search 60 = .ok (.iload_n 2, 1) := by decide +kernel
theorem dX0_search_61 : decode cX0_search 61 = .ok (.aload_n 1, 1) := by decide +kernel
theorem dX0_search_62 : decode cX0_search 62 = .ok (.getfield 39, 3) := by decide +kernel
theorem dX0_search_65 : decode cX0_search 65 = .ok (.if_icmp .ge 44, 3) := by decide +kernel
theorem dX0_search_68 : decode cX0_search 68 = .ok (.aload_n 0, 1) := by decide +kernel
theorem dX0_search_69 : decode cX0_search 69 = .ok (.getfield 49, 3) := by decide +kernel
theorem dX0_search_72 : decode cX0_search 72 = .ok (.bipush 20, 2) := by decide +kernel
theorem dX0_search_74 : decode cX0_search 74 = .ok (.if_icmp .ge 35, 3) := by decide +kernel
theorem dX0_search_77 : decode cX0_search 77 = .ok (.aload_n 0, 1) := by decide +kernel
theorem dX0_search_78 : decode cX0_search 78 = .ok (.getfield 9, 3) := by decide +kernel
theorem dX0_search_81 : decode cX0_search 81 = .ok (.aload_n 0, 1) := by decide +kernel
theorem dX0_search_82 : decode cX0_search 82 = .ok (.getfield 49, 3) := by decide +kernel
theorem dX0_search_85 : decode cX0_search 85 = .ok (.iload_n 2, 1) := by decide +kernel
theorem dX0_search_86 : decode cX0_search 86 = .ok (.iastore, 1) := by decide +kernel
theorem dX0_search_87 : decode cX0_search 87 = .ok (.aload_n 0, 1) := by decide +kernel
theorem dX0_search_88 : decode cX0_search 88 = .ok (.dup, 1) := by decide +kernel
theorem dX0_search_89 : decode cX0_search 89 = .ok (.getfield 49, 3) := by decide +kernel
theorem dX0_search_92 : decode cX0_search 92 = .ok (.iconst 1, 1) := by decide +kernel
theorem dX0_search_93 : decode cX0_search 93 = .ok (.iadd, 1) := by decide +kernel
theorem dX0_search_94 : decode cX0_search 94 = .ok (.putfield 49, 3) := by decide +kernel
theorem dX0_search_97 : decode cX0_search 97 = .ok (.iload_n 2, 1) := by decide +kernel
theorem dX0_search_98 : decode cX0_search 98 = .ok (.aload_n 0, 1) := by decide +kernel
theorem dX0_search_99 : decode cX0_search 99 = .ok (.getfield 18, 3) := by decide +kernel
theorem dX0_search_102 : decode cX0_search 102 = .ok (.iload_n 2, 1) := by decide +kernel
theorem dX0_search_103 : decode cX0_search 103 = .ok (.iaload, 1) := by decide +kernel
theorem dX0_search_104 : decode cX0_search 104 = .ok (.iadd, 1) := by decide +kernel
theorem dX0_search_105 : decode cX0_search 105 = .ok (.istore_n 2, 1) := by decide +kernel
theorem dX0_search_106 : decode cX0_search 106 = .ok (.goto (-53), 3) := by decide +kernel
theorem dX0_search_109 : decode cX0_search 109 = .ok (.return_, 1) := by decide +kernel
theorem dX0_searchFrom_0 : decode cX0_searchFrom 0 = .ok (.aload_n 0, 1) := by decide +kernel
theorem dX0_searchFrom_1 : decode cX0_searchFrom 1 = .ok (.getfield 15, 3) := by decide +kernel
theorem dX0_searchFrom_4 : decode cX0_searchFrom 4 = .ok (.iload_n 2, 1) := by decide +kernel
theorem dX0_searchFrom_5 : decode cX0_searchFrom 5 = .ok (.iconst (-1), 1) := by decide +kernel
theorem dX0_searchFrom_6 : decode cX0_searchFrom 6 = .ok (.iastore, 1) := by decide +kernel
theorem dX0_searchFrom_7 : decode cX0_searchFrom 7 = .ok (.aload_n 0, 1) := by decide +kernel
theorem dX0_searchFrom_8 : decode cX0_searchFrom 8 = .ok (.getfield 24, 3) := by decide +kernel
theorem dX0_searchFrom_11 : decode cX0_searchFrom 11 = .ok (.iconst 0, 1) := by decide +kernel
theorem dX0_searchFrom_12 : decode cX0_searchFrom 12 = .ok (.iconst 0, 1) := by decide +kernel
theorem dX0_searchFrom_13 : decode cX0_searchFrom 13 = .ok (.aload_n 1, 1) := by decide +kernel
theorem dX0_searchFrom_14 : decode cX0_searchFrom 14 = .ok (.getfield 56, 3) := by decide +kernel
theorem dX0_searchFrom_17 : decode cX0_searchFrom 17 = .ok (.iload_n 2, 1) := by decide +kernel
theorem dX0_searchFrom_18 : decode cX0_searchFrom 18 = .ok (.iconst 0, 1) := by decide +kernel
theorem dX0_searchFrom_19 : decode cX0_searchFrom 19 = .ok (.invokevirtual 60, 3) := by decide +kernel
theorem dX0_searchFrom_22 : decode cX0_searchFrom 22 = .ok (.invokevirtual 66, 3) := by decide +kernel
theorem dX0_searchFrom_25 : decode cX0_searchFrom 25 = .ok (.aload_n 0, 1) := by decide +kernel
theorem dX0_searchFrom_26 : decode cX0_searchFrom 26 = .ok (.getfield 24, 3) := by decide +kernel
theorem dX0_searchFrom_29 : decode cX0_searchFrom 29 = .ok (.iconst 1, 1) := by decide +kernel
theorem dX0_searchFrom_30 : decode cX0_searchFrom 30 = .ok (.iconst 0, 1) := by decide +kernel
theorem dX0_searchFrom_31 : decode cX0_searchFrom 31 = .ok (.aload_n 1, 1) := by decide +kernel
theorem dX0_searchFrom_32 : decode cX0_searchFrom 32 = .ok (.getfield 70, 3) := by decide +kernel
theorem dX0_searchFrom_35 : decode cX0_searchFrom 35 = .ok (.iload_n 2, 1) := by decide +kernel
theorem dX0_searchFrom_36 : decode cX0_searchFrom 36 = .ok (.iconst 0, 1) := by decide +kernel
theorem dX0_searchFrom_37 : decode cX0_searchFrom 37 = .ok (.invokevirtual 60, 3) := by decide +kernel
theorem dX0_searchFrom_40 : decode cX0_searchFrom 40 = .ok (.invokevirtual 66, 3) := by decide +kernel
theorem dX0_searchFrom_43 : decode cX0_searchFrom 43 = .ok (.iload_n 2, 1) := by decide +kernel
theorem dX0_searchFrom_44 : decode cX0_searchFrom 44 = .ok (.istore_n 3, 1) := by decide +kernel
theorem dX0_searchFrom_45 : decode cX0_searchFrom 45 = .ok (.iload_n 3, 1) := by decide +kernel
theorem dX0_searchFrom_46 : decode cX0_searchFrom 46 = .ok (.aload_n 1, 1) := by decide +kernel
theorem dX0_searchFrom_47 : decode cX0_searchFrom 47 = .ok (.getfield 39, 3) := by decide +kernel
theorem dX0_searchFrom_50 : decode cX0_searchFrom 50 = .ok (.if_icmp .ge 81, 3) := by decide +kernel
theorem dX0_searchFrom_53 : decode cX0_searchFrom 53 = .ok (.iload_n 3, 1) := by decide +kernel
theorem dX0_searchFrom_54 : decode cX0_searchFrom 54 = .ok (.iload_n 2, 1) := by decide +kernel
theorem dX0_searchFrom_55 : decode cX0_searchFrom 55 = .ok (.if_icmp .le 16, 3) := by decide +kernel
theorem dX0_searchFrom_58 : decode cX0_searchFrom 58 = .ok (.aload_n 1, 1) := by decide +kernel
theorem dX0_searchFrom_59 : decode cX0_searchFrom 59 = .ok (.getfield 73, 3) := by decide +kernel
theorem dX0_searchFrom_62 : decode cX0_searchFrom 62 = .ok (.iconst 3, 1) := by decide +kernel
theorem dX0_searchFrom_63 : decode cX0_searchFrom 63 = .ok (.aaload, 1) := by decide +kernel
theorem dX0_searchFrom_64 : decode cX0_searchFrom 64 = .ok (.iload_n 3, 1) := by decide +kernel
theorem dX0_searchFrom_65 : decode cX0_searchFrom 65 = .ok (.iaload, 1) := by decide +kernel
theorem dX0_searchFrom_66 : decode cX0_searchFrom 66 = .ok (.iconst 1, 1) := by decide +kernel
theorem dX0_searchFrom_67 : decode cX0_searchFrom 67 = .ok (.if_icmp .ne 4, 3) := by decide +kernel
theorem dX0_searchFrom_70 : decode cX0_searchFrom 70 = .ok (.return_, 1) := by decide +kernel
theorem dX0_searchFrom_71 : decode cX0_searchFrom 71 = .ok (.aload_n 0, 1) := by decide +kernel
theorem dX0_searchFrom_72 : decode cX0_searchFrom 72 = .ok (.getfield 31, 3) := by decide +kernel
theorem dX0_searchFrom_75 : decode cX0_searchFrom 75 = .ok (.aload_n 1, 1) := by decide +kernel
theorem dX0_searchFrom_76 : decode cX0_searchFrom 76 = .ok (.iload_n 3, 1) := by decide +kernel
theorem dX0_searchFrom_77 : decode cX0_searchFrom 77 = .ok (.invokevirtual 77, 3) := by decide +kernel
theorem dX0_searchFrom_80 : decode cX0_searchFrom 80 = .ok (.aload_n 0, 1) := by decide +kernel
theorem dX0_searchFrom_81 : decode cX0_searchFrom 81 = .ok (.getfield 24, 3) := by decide +kernel
theorem dX0_searchFrom_84 : decode cX0_searchFrom 84 = .ok (.aload_n 1, 1) := by decide +kernel
theorem dX0_searchFrom_85 : decode cX0_searchFrom 85 = .ok (.aload_n 0, 1) := by decide +kernel
theorem dX0_searchFrom_86 : decode cX0_searchFrom 86 = .ok (.getfield 31, 3) := by decide +kernel
theorem dX0_searchFrom_89 : decode cX0_searchFrom 89 = .ok (.invokevirtual 80, 3) := by decide +kernel
theorem dX0_searchFrom_92 : decode cX0_searchFrom 92 = .ok (.aload_n 0, 1) := by decide +kernel
theorem dX0_searchFrom_93 : decode cX0_searchFrom 93 = .ok (.getfield 24, 3) := by decide +kernel
theorem dX0_searchFrom_96 : decode cX0_searchFrom 96 = .ok (.aload_n 1, 1) := by decide +kernel
theorem dX0_searchFrom_97 : decode cX0_searchFrom 97 = .ok (.getfield 84, 3) := by decide +kernel
theorem dX0_searchFrom_100 : decode cX0_searchFrom 100 = .ok (.iconst 0, 1) := by decide +kernel
theorem dX0_searchFrom_101 : decode cX0_searchFrom 101 = .ok (.iaload, 1) := by decide +kernel
theorem dX0_searchFrom_102 : decode cX0_searchFrom 102 = .ok (.aload_n 1, 1) := by decide +kernel
theorem dX0_searchFrom_103 : decode cX0_searchFrom 103 = .ok (.getfield 84, 3) := by decide +kernel
theorem dX0_searchFrom_106 : decode cX0_searchFrom 106 = .ok (.iconst 2, 1) := by decide +kernel
theorem dX0_searchFrom_107 : decode cX0_searchFrom 107 = .ok (.iaload, 1) := by decide +kernel
theorem dX0_searchFrom_108 : decode cX0_searchFrom 108 = .ok (.iconst 0, 1) := by decide +kernel
theorem dX0_searchFrom_109 : decode cX0_searchFrom 109 = .ok (.invokevirtual 87, 3) := by decide +kernel
theorem dX0_searchFrom_112 : decode cX0_searchFrom 112 = .ok (.ifCond .ne 4, 3) := by decide +kernel
theorem dX0_searchFrom_115 : decode cX0_searchFrom 115 = .ok (.return_, 1) := by decide +kernel
theorem dX0_searchFrom_116 : decode cX0_searchFrom 116 = .ok (.aload_n 0, 1) := by decide +kernel
theorem dX0_searchFrom_117 : decode cX0_searchFrom 117 = .ok (.aload_n 1, 1) := by decide +kernel
theorem dX0_searchFrom_118 : decode cX0_searchFrom 118 = .ok (.iload_n 2, 1) := by decide +kernel
theorem dX0_searchFrom_119 : decode cX0_searchFrom 119 = .ok (.iload_n 3, 1) := by decide +kernel
theorem dX0_searchFrom_120 : decode cX0_searchFrom 120 = .ok (.iconst 1, 1) := by decide +kernel
theorem dX0_searchFrom_121 : decode cX0_searchFrom 121 = .ok (.iadd, 1) := by decide +kernel
theorem dX0_searchFrom_122 : decode cX0_searchFrom 122 = .ok (.invokevirtual 91, 3) := by decide +kernel
theorem dX0_searchFrom_125 : decode cX0_searchFrom 125 = .ok (.iinc 3 1, 3) := by decide +kernel
theorem dX0_searchFrom_128 : decode cX0_searchFrom 128 = .ok (.goto (-83), 3) := by decide +kernel
theorem dX0_searchFrom_131 : decode cX0_searchFrom 131 = .ok (.return_, 1) := by decide +kernel
theorem dX0_considerGroup_0 : decode cX0_considerGroup 0 = .ok (.aload_n 0, 1) := by decide +kernel
theorem dX0_considerGroup_1 : decode cX0_considerGroup 1 = .ok (.getfield 15, 3) := by decide +kernel
theorem dX0_considerGroup_4 : decode cX0_considerGroup 4 = .ok (.iload_n 3, 1) := by decide +kernel
theorem dX0_considerGroup_5 : decode cX0_considerGroup 5 = .ok (.iaload, 1) := by decide +kernel
theorem dX0_considerGroup_6 : decode cX0_considerGroup 6 = .ok (.iconst (-1), 1) := by decide +kernel
theorem dX0_considerGroup_7 : decode cX0_considerGroup 7 = .ok (.if_icmp .ne 4, 3) := by decide +kernel
theorem dX0_considerGroup_10 : decode cX0_considerGroup 10 = .ok (.return_, 1) := by decide +kernel
theorem dX0_considerGroup_11 : decode cX0_considerGroup 11 = .ok (.aload_n 0, 1) := by decide +kernel
theorem dX0_considerGroup_12 : decode cX0_considerGroup 12 = .ok (.getfield 15, 3) := by decide +kernel
theorem dX0_considerGroup_15 : decode cX0_considerGroup 15 = .ok (.iload_n 3, 1) := by decide +kernel
theorem dX0_considerGroup_16 : decode cX0_considerGroup 16 = .ok (.iaload, 1) := by decide +kernel
theorem dX0_considerGroup_17 : decode cX0_considerGroup 17 = .ok (.iload_n 3, 1) := by decide +kernel
theorem dX0_considerGroup_18 : decode cX0_considerGroup 18 = .ok (.aload_n 1, 1) := by decide +kernel
theorem dX0_considerGroup_19 : decode cX0_considerGroup 19 = .ok (.getfield 39, 3) := by decide +kernel
theorem dX0_considerGroup_22 : decode cX0_considerGroup 22 = .ok (.if_icmp .ge 11, 3) := by decide +kernel
theorem dX0_considerGroup_25 : decode cX0_considerGroup 25 = .ok (.aload_n 0, 1) := by decide +kernel
theorem dX0_considerGroup_26 : decode cX0_considerGroup 26 = .ok (.aload_n 1, 1) := by decide +kernel
theorem dX0_considerGroup_27 : decode cX0_considerGroup 27 = .ok (.invokevirtual 95, 3) := by decide +kernel
theorem dX0_considerGroup_30 : decode cX0_considerGroup 30 = .ok (.goto 4, 3) := by decide +kernel
theorem dX0_considerGroup_33 : decode cX0_considerGroup 33 = .ok (.iconst 0, 1) := by decide +kernel
theorem dX0_considerGroup_34 : decode cX0_considerGroup 34 = .ok (.iadd, 1) := by decide +kernel
theorem dX0_considerGroup_35 : decode cX0_considerGroup 35 = .ok (.istore 4, 2) := by decide +kernel
theorem dX0_considerGroup_37 : decode cX0_considerGroup 37 = .ok (.aload_n 0, 1) := by decide +kernel
theorem dX0_considerGroup_38 : decode cX0_considerGroup 38 = .ok (.getfield 15, 3) := by decide +kernel
theorem dX0_considerGroup_41 : decode cX0_considerGroup 41 = .ok (.iload_n 2, 1) := by decide +kernel
theorem dX0_considerGroup_42 : decode cX0_considerGroup 42 = .ok (.iaload, 1) := by decide +kernel
theorem dX0_considerGroup_43 : decode cX0_considerGroup 43 = .ok (.iconst (-1), 1) := by decide +kernel
theorem dX0_considerGroup_44 : decode cX0_considerGroup 44 = .ok (.if_icmp .eq 14, 3) := by decide +kernel
theorem dX0_considerGroup_47 : decode cX0_considerGroup 47 = .ok (.iload 4, 2) := by decide +kernel
theorem dX0_considerGroup_49 : decode cX0_considerGroup 49 = .ok (.aload_n 0, 1) := by decide +kernel
theorem dX0_considerGroup_50 : decode cX0_considerGroup 50 = .ok (.getfield 15, 3) := by decide +kernel
theorem dX0_considerGroup_53 : decode cX0_considerGroup 53 = .ok (.iload_n 2, 1) := by decide +kernel
theorem dX0_considerGroup_54 : decode cX0_considerGroup 54 = .ok (.iaload, 1) := by decide +kernel
theorem dX0_considerGroup_55 : decode cX0_considerGroup 55 = .ok (.if_icmp .gt 20, 3) := by decide +kernel
theorem dX0_considerGroup_58 : decode cX0_considerGroup 58 = .ok (.aload_n 0, 1) := by decide +kernel
theorem dX0_considerGroup_59 : decode cX0_considerGroup 59 = .ok (.getfield 15, 3) := by decide +kernel
theorem dX0_considerGroup_62 : decode cX0_considerGroup 62 = .ok (.iload_n 2, 1) := by decide +kernel
theorem dX0_considerGroup_63 : decode cX0_considerGroup 63 = .ok (.iload 4, 2) := by decide +kernel
theorem dX0_considerGroup_65 : decode cX0_considerGroup 65 = .ok (.iastore, 1) := by decide +kernel
theorem dX0_considerGroup_66 : decode cX0_considerGroup 66 = .ok (.aload_n 0, 1) := by decide +kernel
theorem dX0_considerGroup_67 : decode cX0_considerGroup 67 = .ok (.getfield 18, 3) := by decide +kernel
theorem dX0_considerGroup_70 : decode cX0_considerGroup 70 = .ok (.iload_n 2, 1) := by decide +kernel
theorem dX0_considerGroup_71 : decode cX0_considerGroup 71 = .ok (.iload_n 3, 1) := by decide +kernel
theorem dX0_considerGroup_72 : decode cX0_considerGroup 72 = .ok (.iload_n 2, 1) := by decide +kernel
theorem dX0_considerGroup_73 : decode cX0_considerGroup 73 = .ok (.isub, 1) := by decide +kernel
theorem dX0_considerGroup_74 : decode cX0_considerGroup 74 = .ok (.iastore, 1) := by decide +kernel
theorem dX0_considerGroup_75 : decode cX0_considerGroup 75 = .ok (.return_, 1) := by decide +kernel
theorem dX0_blankSquares_0 : decode cX0_blankSquares 0 = .ok (.iconst 0, 1) := by decide +kernel
theorem dX0_blankSquares_1 : decode cX0_blankSquares 1 = .ok (.istore_n 2, 1) := by decide +kernel
theorem dX0_blankSquares_2 : decode cX0_blankSquares 2 = .ok (.iconst 0, 1) := by decide +kernel
theorem dX0_blankSquares_3 : decode cX0_blankSquares 3 = .ok (.istore_n 3, 1) := by decide +kernel
theorem dX0_blankSquares_4 : decode cX0_blankSquares 4 = .ok (.iload_n 3, 1) := by decide +kernel
theorem dX0_blankSquares_5 : decode cX0_blankSquares 5 = .ok (.iconst 2, 1) := by decide +kernel
theorem dX0_blankSquares_6 : decode cX0_blankSquares 6 = .ok (.if_icmp .ge 51, 3) := by decide +kernel
theorem dX0_blankSquares_9 : decode cX0_blankSquares 9 = .ok (.aload_n 1, 1) := by decide +kernel
theorem dX0_blankSquares_10 : decode cX0_blankSquares 10 = .ok (.getfield 84, 3) := by decide +kernel
theorem dX0_blankSquares_13 : decode cX0_blankSquares 13 = .ok (.iconst 0, 1) := by decide +kernel
theorem dX0_blankSquares_14 : decode cX0_blankSquares 14 = .ok (.iaload, 1) := by decide +kernel
theorem dX0_blankSquares_15 : decode cX0_blankSquares 15 = .ok (.aload_n 0, 1) := by decide +kernel
theorem dX0_blankSquares_16 : decode cX0_blankSquares 16 = .ok (.getfield 24, 3) := by decide +kernel
theorem dX0_blankSquares_19 : decode cX0_blankSquares 19 = .ok (.getfield 99, 3) := by decide +kernel
theorem dX0_blankSquares_22 : decode cX0_blankSquares 22 = .ok (.iload_n 3, 1) := by decide +kernel
theorem dX0_blankSquares_23 : decode cX0_blankSquares 23 = .ok (.iaload, 1) := by decide +kernel
theorem dX0_blankSquares_24 : decode cX0_blankSquares 24 = .ok (.isub, 1) := by decide +kernel
theorem dX0_blankSquares_25 : decode cX0_blankSquares 25 = .ok (.aload_n 0, 1) := by decide +kernel
theorem dX0_blankSquares_26 : decode cX0_blankSquares 26 = .ok (.getfield 24, 3) := by decide +kernel
theorem dX0_blankSquares_29 : decode cX0_blankSquares 29 = .ok (.iload_n 3, 1) := by decide +kernel
theorem dX0_blankSquares_30 : decode cX0_blankSquares 30 = .ok (.aload_n 1, 1) := by decide +kernel
theorem dX0_blankSquares_31 : decode cX0_blankSquares 31 = .ok (.getfield 84, 3) := by decide +kernel
theorem dX0_blankSquares_34 : decode cX0_blankSquares 34 = .ok (.iconst 2, 1) := by decide +kernel
theorem dX0_blankSquares_35 : decode cX0_blankSquares 35 = .ok (.iaload, 1) := by decide +kernel
theorem dX0_blankSquares_36 : decode cX0_blankSquares 36 = .ok (.iconst 0, 1) := by decide +kernel
theorem dX0_blankSquares_37 : decode cX0_blankSquares 37 = .ok (.invokevirtual 102, 3) := by decide +kernel
theorem dX0_blankSquares_40 : decode cX0_blankSquares 40 = .ok (.isub, 1) := by decide +kernel
theorem dX0_blankSquares_41 : decode cX0_blankSquares 41 = .ok (.istore 4, 2) := by decide +kernel
theorem dX0_blankSquares_43 : decode cX0_blankSquares 43 = .ok (.iload_n 2, 1) := by decide +kernel
theorem dX0_blankSquares_44 : decode cX0_blankSquares 44 = .ok (.iload 4, 2) := by decide +kernel
theorem dX0_blankSquares_46 : decode cX0_blankSquares 46 = .ok (.iload 4, 2) := by decide +kernel
theorem dX0_blankSquares_48 : decode cX0_blankSquares 48 = .ok (.imul, 1) := by decide +kernel
theorem dX0_blankSquares_49 : decode cX0_blankSquares 49 = .ok (.iadd, 1) := by decide +kernel
theorem dX0_blankSquares_50 : decode cX0_blankSquares 50 = .ok (.istore_n 2, 1) := by decide +kernel
theorem dX0_blankSquares_51 : decode cX0_blankSquares 51 = .ok (.iinc 3 1, 3) := by decide +kernel
theorem dX0_blankSquares_54 : decode cX0_blankSquares 54 = .ok (.goto (-50), 3) := by decide +kernel
theorem dX0_blankSquares_57 : decode cX0_blankSquares 57 = .ok (.iload_n 2, 1) := by decide +kernel
theorem dX0_blankSquares_58 : decode cX0_blankSquares 58 = .ok (.ireturn, 1) := by decide +kernel
theorem dX1_init_0 : decode cX1_init 0 = .ok (.aload_n 0, 1) := by decide +kernel
theorem dX1_init_1 : decode cX1_init 1 = .ok (.invokespecial 3, 3) := by decide +kernel
theorem dX1_init_4 : decode cX1_init 4 = .ok (.aload_n 0, 1) := by decide +kernel
theorem dX1_init_5 : decode cX1_init 5 = .ok (.iconst 4, 1) := by decide +kernel
theorem dX1_init_6 : decode cX1_init 6 = .ok (.bipush 20, 2) := by decide +kernel
theorem dX1_init_8 : decode cX1_init 8 = .ok (.multianewarray 9 2, 4) := by decide +kernel
theorem dX1_init_12 : decode cX1_init 12 = .ok (.putfield 11, 3) := by decide +kernel
theorem dX1_init_15 : decode cX1_init 15 = .ok (.aload_n 0, 1) := by decide +kernel
theorem dX1_init_16 : decode cX1_init 16 = .ok (.new 16, 3) := by decide +kernel
theorem dX1_init_19 : decode cX1_init 19 = .ok (.dup, 1) := by decide +kernel
theorem dX1_init_20 : decode cX1_init 20 = .ok (.invokespecial 18, 3) := by decide +kernel
theorem dX1_init_23 : decode cX1_init 23 = .ok (.putfield 19, 3) := by decide +kernel
theorem dX1_init_26 : decode cX1_init 26 = .ok (.aload_n 0, 1) := by decide +kernel
theorem dX1_init_27 : decode cX1_init 27 = .ok (.new 16, 3) := by decide +kernel
theorem dX1_init_30 : decode cX1_init 30 = .ok (.dup, 1) := by decide +kernel
theorem dX1_init_31 : decode cX1_init 31 = .ok (.invokespecial 18, 3) := by decide +kernel
theorem dX1_init_34 : decode cX1_init 34 = .ok (.putfield 23, 3) := by decide +kernel
theorem dX1_init_37 : decode cX1_init 37 = .ok (.aload_n 0, 1) := by decide +kernel
theorem dX1_init_38 : decode cX1_init 38 = .ok (.getstatic 26, 3) := by decide +kernel
theorem dX1_init_41 : decode cX1_init 41 = .ok (.invokevirtual 30, 3) := by decide +kernel
theorem dX1_init_44 : decode cX1_init 44 = .ok (.checkcast 31, 3) := by decide +kernel
theorem dX1_init_47 : decode cX1_init 47 = .ok (.putfield 35, 3) := by decide +kernel
theorem dX1_init_50 : decode cX1_init 50 = .ok (.return_, 1) := by decide +kernel
theorem dX1_notes_0 : decode cX1_notes 0 = .ok (.iload_n 1, 1) := by decide +kernel
theorem dX1_notes_1 : decode cX1_notes 1 = .ok (.ifCond .ne 10, 3) := by decide +kernel
theorem dX1_notes_4 : decode cX1_notes 4 = .ok (.aload_n 0, 1) := by decide +kernel
theorem dX1_notes_5 : decode cX1_notes 5 = .ok (.getfield 19, 3) := by decide +kernel
theorem dX1_notes_8 : decode cX1_notes 8 = .ok (.goto 7, 3) := by decide +kernel
theorem dX1_notes_11 : decode cX1_notes 11 = .ok (.aload_n 0, 1) := by decide +kernel
theorem dX1_notes_12 : decode cX1_notes 12 = .ok (.getfield 23, 3) := by decide +kernel
theorem dX1_notes_15 : decode cX1_notes 15 = .ok (.areturn, 1) := by decide +kernel
theorem dX1_hasPair_0 : decode cX1_hasPair 0 = .ok (.iload_n 1, 1) := by decide +kernel
theorem dX1_hasPair_1 : decode cX1_hasPair 1 = .ok (.iconst 0, 1) := by decide +kernel
theorem dX1_hasPair_2 : decode cX1_hasPair 2 = .ok (.aload_n 0, 1) := by decide +kernel
theorem dX1_hasPair_3 : decode cX1_hasPair 3 = .ok (.getfield 38, 3) := by decide +kernel
theorem dX1_hasPair_6 : decode cX1_hasPair 6 = .ok (.iconst 1, 1) := by decide +kernel
theorem dX1_hasPair_7 : decode cX1_hasPair 7 = .ok (.isub, 1) := by decide +kernel
theorem dX1_hasPair_8 : decode cX1_hasPair 8 = .ok (.invokestatic 42, 3) := by decide +kernel
theorem dX1_hasPair_11 : decode cX1_hasPair 11 = .ok (.ireturn, 1) := by decide +kernel
theorem dX1_hasLine_0 : decode cX1_hasLine 0 = .ok (.aload_n 0, 1) := by decide +kernel
theorem dX1_hasLine_1 : decode cX1_hasLine 1 = .ok (.iload_n 1, 1) := by decide +kernel
theorem dX1_hasLine_2 : decode cX1_hasLine 2 = .ok (.invokevirtual 46, 3) := by decide +kernel
theorem dX1_hasLine_5 : decode cX1_hasLine 5 = .ok (.ifCond .eq 32, 3) := by decide +kernel
theorem dX1_hasLine_8 : decode cX1_hasLine 8 = .ok (.iload_n 2, 1) := by decide +kernel
theorem dX1_hasLine_9 : decode cX1_hasLine 9 = .ok (.invokestatic 50, 3) := by decide +kernel
theorem dX1_hasLine_12 : decode cX1_hasLine 12 = .ok (.ifCond .eq 25, 3) := by decide +kernel
theorem dX1_hasLine_15 : decode cX1_hasLine 15 = .ok (.iload_n 3, 1) := by decide +kernel
theorem dX1_hasLine_16 : decode cX1_hasLine 16 = .ok (.iconst 0, 1) := by decide +kernel
theorem dX1_hasLine_17 : decode cX1_hasLine 17 = .ok (.aload_n 0, 1) := by decide +kernel
theorem dX1_hasLine_18 : decode cX1_hasLine 18 = .ok (.getfield 11, 3) := by decide +kernel
theorem dX1_hasLine_21 : decode cX1_hasLine 21 = .ok (.iload_n 2, 1) := by decide +kernel
theorem dX1_hasLine_22 : decode cX1_hasLine 22 = .ok (.aaload, 1) := by decide +kernel
theorem dX1_hasLine_23 : decode cX1_hasLine 23 = .ok (.iload_n 1, 1) := by decide +kernel
theorem dX1_hasLine_24 : decode cX1_hasLine 24 = .ok (.iaload, 1) := by decide +kernel
theorem dX1_hasLine_25 : decode cX1_hasLine 25 = .ok (.iconst 1, 1) := by decide +kernel
theorem dX1_hasLine_26 : decode cX1_hasLine 26 = .ok (.isub, 1) := by decide +kernel
theorem dX1_hasLine_27 : decode cX1_hasLine 27 = .ok (.invokestatic 42, 3) := by decide +kernel
theorem dX1_hasLine_30 : decode cX1_hasLine 30 = .ok (.ifCond .eq 7, 3) := by decide +kernel
theorem dX1_hasLine_33 : decode cX1_hasLine 33 = .ok (.iconst 1, 1) := by decide +kernel
theorem dX1_hasLine_34 : decode cX1_hasLine 34 = .ok (.goto 4, 3) := by decide +kernel
theorem dX1_hasLine_37 : decode cX1_hasLine 37 = .ok (.iconst 0, 1) := by decide +kernel
theorem dX1_hasLine_38 : decode cX1_hasLine 38 = .ok (.ireturn, 1) := by decide +kernel
theorem dX1_placePair_0 : decode cX1_placePair 0 = .ok (.iconst 0, 1) := by decide +kernel
theorem dX1_placePair_1 : decode cX1_placePair 1 = .ok (.istore 4, 2) := by decide +kernel
theorem dX1_placePair_3 : decode cX1_placePair 3 = .ok (.iload 4, 2) := by decide +kernel
theorem dX1_placePair_5 : decode cX1_placePair 5 = .ok (.iconst 4, 1) := by decide +kernel
theorem dX1_placePair_6 : decode cX1_placePair 6 = .ok (.if_icmp .ge 24, 3) := by decide +kernel
theorem dX1_placePair_9 : decode cX1_placePair 9 = .ok (.aload_n 0, 1) := by decide +kernel
theorem dX1_placePair_10 : decode cX1_placePair 10 = .ok (.getfield 11, 3) := by decide +kernel
theorem dX1_placePair_13 : decode cX1_placePair 13 = .ok (.iload 4, 2) := by decide +kernel
theorem dX1_placePair_15 : decode cX1_placePair 15 = .ok (.aaload, 1) := by decide +kernel
theorem dX1_placePair_16 : decode cX1_placePair 16 = .ok (.iload_n 1, 1) := by decide +kernel
theorem dX1_placePair_17 : decode cX1_placePair 17 = .ok (.aload_n 0, 1) := by decide +kernel
theorem dX1_placePair_18 : decode cX1_placePair 18 = .ok (.getfield 38, 3) := by decide +kernel
theorem dX1_placePair_21 : decode cX1_placePair 21 = .ok (.invokestatic 53, 3) := by decide +kernel
theorem dX1_placePair_24 : decode cX1_placePair 24 = .ok (.iinc 4 1, 3) := by decide +kernel
theorem dX1_placePair_27 : decode cX1_placePair 27 = .ok (.goto (-24), 3) := by decide +kernel
theorem dX1_placePair_30 : decode cX1_placePair 30 = .ok (.aload_n 0, 1) := by decide +kernel
theorem dX1_placePair_31 : decode cX1_placePair 31 = .ok (.getfield 11, 3) := by decide +kernel
theorem dX1_placePair_34 : decode cX1_placePair 34 = .ok (.iconst 0, 1) := by decide +kernel
theorem dX1_placePair_35 : decode cX1_placePair 35 = .ok (.aaload, 1) := by decide +kernel
theorem dX1_placePair_36 : decode cX1_placePair 36 = .ok (.iload_n 1, 1) := by decide +kernel
theorem dX1_placePair_37 : decode cX1_placePair 37 = .ok (.iload_n 2, 1) := by decide +kernel
theorem dX1_placePair_38 : decode cX1_placePair 38 = .ok (.iastore, 1) := by decide +kernel
theorem dX1_placePair_39 : decode cX1_placePair 39 = .ok (.aload_n 0, 1) := by decide +kernel
theorem dX1_placePair_40 : decode cX1_placePair 40 = .ok (.getfield 11, 3) := by decide +kernel
theorem dX1_placePair_43 : decode cX1_placePair 43 = .ok (.iconst 1, 1) := by decide +kernel
theorem dX1_placePair_44 : decode cX1_placePair 44 = .ok (.aaload, 1) := by decide +kernel
theorem dX1_placePair_45 : decode cX1_placePair 45 = .ok (.iload_n 1, 1) := by decide +kernel
theorem dX1_placePair_46 : decode cX1_placePair 46 = .ok (.iload_n 3, 1) := by decide +kernel
theorem dX1_placePair_47 : decode cX1_placePair 47 = .ok (.iastore, 1) := by decide +kernel
theorem dX1_placePair_48 : decode cX1_placePair 48 = .ok (.aload_n 0, 1) := by decide +kernel
theorem dX1_placePair_49 : decode cX1_placePair 49 = .ok (.getfield 11, 3) := by decide +kernel
theorem dX1_placePair_52 : decode cX1_placePair 52 = .ok (.iconst 2, 1) := by decide +kernel
theorem dX1_placePair_53 : decode cX1_placePair 53 = .ok (.aaload, 1) := by decide +kernel
theorem dX1_placePair_54 : decode cX1_placePair 54 = .ok (.iload_n 1, 1) := by decide +kernel
theorem dX1_placePair_55 : decode cX1_placePair 55 = .ok (.iconst 0, 1) := by decide +kernel
theorem dX1_placePair_56 : decode cX1_placePair 56 = .ok (.iastore, 1) := by decide +kernel
theorem dX1_placePair_57 : decode cX1_placePair 57 = .ok (.aload_n 0, 1) := by decide +kernel
theorem dX1_placePair_58 : decode cX1_placePair 58 = .ok (.getfield 11, 3) := by decide +kernel
theorem dX1_placePair_61 : decode cX1_placePair 61 = .ok (.iconst 3, 1) := by decide +kernel
theorem dX1_placePair_62 : decode cX1_placePair 62 = .ok (.aaload, 1) := by decide +kernel
theorem dX1_placePair_63 : decode cX1_placePair 63 = .ok (.iload_n 1, 1) := by decide +kernel
theorem dX1_placePair_64 : decode cX1_placePair 64 = .ok (.iconst 0, 1) := by decide +kernel
theorem dX1_placePair_65 : decode cX1_placePair 65 = .ok (.iastore, 1) := by decide +kernel
theorem dX1_placePair_66 : decode cX1_placePair 66 = .ok (.aload_n 0, 1) := by decide +kernel
theorem dX1_placePair_67 : decode cX1_placePair 67 = .ok (.dup, 1) := by decide +kernel
theorem dX1_placePair_68 : decode cX1_placePair 68 = .ok (.getfield 38, 3) := by decide +kernel
theorem dX1_placePair_71 : decode cX1_placePair 71 = .ok (.iconst 1, 1) := by decide +kernel
theorem dX1_placePair_72 : decode cX1_placePair 72 = .ok (.iadd, 1) := by decide +kernel
theorem dX1_placePair_73 : decode cX1_placePair 73 = .ok (.putfield 38, 3) := by decide +kernel
theorem dX1_placePair_76 : decode cX1_placePair 76 = .ok (.aload_n 0, 1) := by decide +kernel
theorem dX1_placePair_77 : decode cX1_placePair 77 = .ok (.getfield 19, 3) := by decide +kernel
theorem dX1_placePair_80 : decode cX1_placePair 80 = .ok (.iload_n 1, 1) := by decide +kernel
theorem dX1_placePair_81 : decode cX1_placePair 81 = .ok (.iconst 1, 1) := by decide +kernel
theorem dX1_placePair_82 : decode cX1_placePair 82 = .ok (.invokevirtual 57, 3) := by decide +kernel
theorem dX1_placePair_85 : decode cX1_placePair 85 = .ok (.aload_n 0, 1) := by decide +kernel
theorem dX1_placePair_86 : decode cX1_placePair 86 = .ok (.getfield 23, 3) := by decide +kernel
theorem dX1_placePair_89 : decode cX1_placePair 89 = .ok (.iload_n 1, 1) := by decide +kernel
theorem dX1_placePair_90 : decode cX1_placePair 90 = .ok (.iconst 1, 1) := by decide +kernel
theorem dX1_placePair_91 : decode cX1_placePair 91 = .ok (.invokevirtual 57, 3) := by decide +kernel
theorem dX1_placePair_94 : decode cX1_placePair 94 = .ok (.return_, 1) := by decide +kernel
theorem dX1_copyFrom_0 : decode cX1_copyFrom 0 = .ok (.aload_n 0, 1) := by decide +kernel
theorem dX1_copyFrom_1 : decode cX1_copyFrom 1 = .ok (.aload_n 1, 1) := by decide +kernel
theorem dX1_copyFrom_2 : decode cX1_copyFrom 2 = .ok (.getfield 38, 3) := by decide +kernel
theorem dX1_copyFrom_5 : decode cX1_copyFrom 5 = .ok (.putfield 38, 3) := by decide +kernel
theorem dX1_copyFrom_8 : decode cX1_copyFrom 8 = .ok (.aload_n 1, 1) := by decide +kernel
theorem dX1_copyFrom_9 : decode cX1_copyFrom 9 = .ok (.getfield 11, 3) := by decide +kernel
theorem dX1_copyFrom_12 : decode cX1_copyFrom 12 = .ok (.aload_n 0, 1) := by decide +kernel
theorem dX1_copyFrom_13 : decode cX1_copyFrom 13 = .ok (.getfield 11, 3) := by decide +kernel
theorem dX1_copyFrom_16 : decode cX1_copyFrom 16 = .ok (.invokestatic 68, 3) := by decide +kernel
theorem dX1_copyFrom_19 : decode cX1_copyFrom 19 = .ok (.aload_n 0, 1) := by decide +kernel
theorem dX1_copyFrom_20 : decode cX1_copyFrom 20 = .ok (.getfield 19, 3) := by decide +kernel
theorem dX1_copyFrom_23 : decode cX1_copyFrom 23 = .ok (.aload_n 1, 1) := by decide +kernel
theorem dX1_copyFrom_24 : decode cX1_copyFrom 24 = .ok (.getfield 19, 3) := by decide +kernel
theorem dX1_copyFrom_27 : decode cX1_copyFrom 27 = .ok (.invokevirtual 72, 3) := by decide +kernel
theorem dX1_copyFrom_30 : decode cX1_copyFrom 30 = .ok (.aload_n 0, 1) := by decide +kernel
theorem dX1_copyFrom_31 : decode cX1_copyFrom 31 = .ok (.getfield 23, 3) := by decide +kernel
theorem dX1_copyFrom_34 : decode cX1_copyFrom 34 = .ok (.aload_n 1, 1) := by decide +kernel
theorem dX1_copyFrom_35 : decode cX1_copyFrom 35 = .ok (.getfield 23, 3) := by decide +kernel
theorem dX1_copyFrom_38 : decode cX1_copyFrom 38 = .ok (.invokevirtual 72, 3) := by decide +kernel
theorem dX1_copyFrom_41 : decode cX1_copyFrom 41 = .ok (.aload_n 1, 1) := by decide +kernel
theorem dX1_copyFrom_42 : decode cX1_copyFrom 42 = .ok (.getfield 35, 3) := by decide +kernel
theorem dX1_copyFrom_45 : decode cX1_copyFrom 45 = .ok (.iconst 0, 1) := by decide +kernel
theorem dX1_copyFrom_46 : decode cX1_copyFrom 46 = .ok (.aload_n 0, 1) := by decide +kernel
theorem dX1_copyFrom_47 : decode cX1_copyFrom 47 = .ok (.getfield 35, 3) := by decide +kernel
theorem dX1_copyFrom_50 : decode cX1_copyFrom 50 = .ok (.iconst 0, 1) := by decide +kernel
theorem dX1_copyFrom_51 : decode cX1_copyFrom 51 = .ok (.bipush 6, 2) := by decide +kernel
theorem dX1_copyFrom_53 : decode cX1_copyFrom 53 = .ok (.invokestatic 76, 3) := by decide +kernel
theorem dX1_copyFrom_56 : decode cX1_copyFrom 56 = .ok (.return_, 1) := by decide +kernel
theorem dX2_init_0 : decode cX2_init 0 = .ok (.aload_n 0, 1) := by decide +kernel
theorem dX2_init_1 : decode cX2_init 1 = .ok (.invokespecial 3, 3) := by decide +kernel
theorem dX2_init_4 : decode cX2_init 4 = .ok (.aload_n 0, 1) := by decide +kernel
theorem dX2_init_5 : decode cX2_init 5 = .ok (.iconst 2, 1) := by decide +kernel
theorem dX2_init_6 : decode cX2_init 6 = .ok (.newarray .int, 2) := by decide +kernel
theorem dX2_init_8 : decode cX2_init 8 = .ok (.putfield 9, 3) := by decide +kernel
theorem dX2_init_11 : decode cX2_init 11 = .ok (.aload_n 0, 1) := by decide +kernel
theorem dX2_init_12 : decode cX2_init 12 = .ok (.iconst 2, 1) := by decide +kernel
theorem dX2_init_13 : decode cX2_init 13 = .ok (.newarray .int, 2) := by decide +kernel
theorem dX2_init_15 : decode cX2_init 15 = .ok (.putfield 15, 3) := by decide +kernel
theorem dX2_init_18 : decode cX2_init 18 = .ok (.aload_n 0, 1) := by decide +kernel
theorem dX2_init_19 : decode cX2_init 19 = .ok (.iconst 2, 1) := by decide +kernel
theorem dX2_init_20 : decode cX2_init 20 = .ok (.newarray .int, 2) := by decide +kernel
theorem dX2_init_22 : decode cX2_init 22 = .ok (.putfield 18, 3) := by decide +kernel
theorem dX2_init_25 : decode cX2_init 25 = .ok (.aload_n 0, 1) := by decide +kernel
theorem dX2_init_26 : decode cX2_init 26 = .ok (.iconst 2, 1) := by decide +kernel
theorem dX2_init_27 : decode cX2_init 27 = .ok (.newarray .int, 2) := by decide +kernel
theorem dX2_init_29 : decode cX2_init 29 = .ok (.putfield 21, 3) := by decide +kernel
theorem dX2_init_32 : decode cX2_init 32 = .ok (.aload_n 0, 1) := by decide +kernel
theorem dX2_init_33 : decode cX2_init 33 = .ok (.iconst 2, 1) := by decide +kernel
theorem dX2_init_34 : decode cX2_init 34 = .ok (.newarray .int, 2) := by decide +kernel
theorem dX2_init_36 : decode cX2_init 36 = .ok (.putfield 24, 3) := by decide +kernel
theorem dX2_init_39 : decode cX2_init 39 = .ok (.aload_n 0, 1) := by decide +kernel
theorem dX2_init_40 : decode cX2_init 40 = .ok (.iconst 2, 1) := by decide +kernel
theorem dX2_init_41 : decode cX2_init 41 = .ok (.newarray .int, 2) := by decide +kernel
theorem dX2_init_43 : decode cX2_init 43 = .ok (.putfield 27, 3) := by decide +kernel
theorem dX2_init_46 : decode cX2_init 46 = .ok (.aload_n 0, 1) := by decide +kernel
theorem dX2_init_47 : decode cX2_init 47 = .ok (.iconst 2, 1) := by decide +kernel
theorem dX2_init_48 : decode cX2_init 48 = .ok (.newarray .int, 2) := by decide +kernel
theorem dX2_init_50 : decode cX2_init 50 = .ok (.putfield 30, 3) := by decide +kernel
theorem dX2_init_53 : decode cX2_init 53 = .ok (.return_, 1) := by decide +kernel
theorem dX2_turn_0 : decode cX2_turn 0 = .ok (.aload_n 0, 1) := by decide +kernel
theorem dX2_turn_1 : decode cX2_turn 1 = .ok (.getfield 9, 3) := by decide +kernel
theorem dX2_turn_4 : decode cX2_turn 4 = .ok (.iload_n 1, 1) := by decide +kernel
theorem dX2_turn_5 : decode cX2_turn 5 = .ok (.iconst 0, 1) := by decide +kernel
theorem dX2_turn_6 : decode cX2_turn 6 = .ok (.iastore, 1) := by decide +kernel
theorem dX2_turn_7 : decode cX2_turn 7 = .ok (.aload_n 0, 1) := by decide +kernel
theorem dX2_turn_8 : decode cX2_turn 8 = .ok (.getfield 15, 3) := by decide +kernel
theorem dX2_turn_11 : decode cX2_turn 11 = .ok (.iload_n 1, 1) := by decide +kernel
theorem dX2_turn_12 : decode cX2_turn 12 = .ok (.iconst 0, 1) := by decide +kernel
theorem dX2_turn_13 : decode cX2_turn 13 = .ok (.iastore, 1) := by decide +kernel
theorem dX2_turn_14 : decode cX2_turn 14 = .ok (.aload_n 0, 1) := by decide +kernel
theorem dX2_turn_15 : decode cX2_turn 15 = .ok (.getfield 18, 3) := by decide +kernel
theorem dX2_turn_18 : decode cX2_turn 18 = .ok (.iload_n 1, 1) := by decide +kernel
theorem dX2_turn_19 : decode cX2_turn 19 = .ok (.iload_n 2, 1) := by decide +kernel
theorem dX2_turn_20 : decode cX2_turn 20 = .ok (.iastore, 1) := by decide +kernel
theorem dX2_turn_21 : decode cX2_turn 21 = .ok (.aload_n 0, 1) := by decide +kernel
theorem dX2_turn_22 : decode cX2_turn 22 = .ok (.getfield 21, 3) := by decide +kernel
theorem dX2_turn_25 : decode cX2_turn 25 = .ok (.iload_n 1, 1) := by decide +kernel
theorem dX2_turn_26 : decode cX2_turn 26 = .ok (.iload_n 3, 1) := by decide +kernel
theorem dX2_turn_27 : decode cX2_turn 27 = .ok (.iastore, 1) := by decide +kernel
theorem dX2_turn_28 : decode cX2_turn 28 = .ok (.aload_n 0, 1) := by decide +kernel
theorem dX2_turn_29 : decode cX2_turn 29 = .ok (.getfield 24, 3) := by decide +kernel
theorem dX2_turn_32 : decode cX2_turn 32 = .ok (.iload_n 1, 1) := by decide +kernel
theorem dX2_turn_33 : decode cX2_turn 33 = .ok (.iconst 0, 1) := by decide +kernel
theorem dX2_turn_34 : decode cX2_turn 34 = .ok (.iastore, 1) := by decide +kernel
theorem dX2_turn_35 : decode cX2_turn 35 = .ok (.aload_n 0, 1) := by decide +kernel
theorem dX2_turn_36 : decode cX2_turn 36 = .ok (.getfield 27, 3) := by decide +kernel
theorem dX2_turn_39 : decode cX2_turn 39 = .ok (.iload_n 1, 1) := by decide +kernel
theorem dX2_turn_40 : decode cX2_turn 40 = .ok (.iconst 0, 1) := by decide +kernel
theorem dX2_turn_41 : decode cX2_turn 41 = .ok (.iastore, 1) := by decide +kernel
theorem dX2_turn_42 : decode cX2_turn 42 = .ok (.aload_n 0, 1) := by decide +kernel
theorem dX2_turn_43 : decode cX2_turn 43 = .ok (.getfield 30, 3) := by decide +kernel
theorem dX2_turn_46 : decode cX2_turn 46 = .ok (.iload_n 1, 1) := by decide +kernel
theorem dX2_turn_47 : decode cX2_turn 47 = .ok (.iconst 0, 1) := by decide +kernel
theorem dX2_turn_48 : decode cX2_turn 48 = .ok (.iastore, 1) := by decide +kernel
theorem dX2_turn_49 : decode cX2_turn 49 = .ok (.return_, 1) := by decide +kernel
theorem dX2_copyFrom_0 : decode cX2_copyFrom 0 = .ok (.aload_n 1, 1) := by decide +kernel
theorem dX2_copyFrom_1 : decode cX2_copyFrom 1 = .ok (.getfield 9, 3) := by decide +kernel
theorem dX2_copyFrom_4 : decode cX2_copyFrom 4 = .ok (.iconst 0, 1) := by decide +kernel
theorem dX2_copyFrom_5 : decode cX2_copyFrom 5 = .ok (.aload_n 0, 1) := by decide +kernel
theorem dX2_copyFrom_6 : decode cX2_copyFrom 6 = .ok (.getfield 9, 3) := by decide +kernel
theorem dX2_copyFrom_9 : decode cX2_copyFrom 9 = .ok (.iconst 0, 1) := by decide +kernel
theorem dX2_copyFrom_10 : decode cX2_copyFrom 10 = .ok (.iconst 2, 1) := by decide +kernel
theorem dX2_copyFrom_11 : decode cX2_copyFrom 11 = .ok (.invokestatic 33, 3) := by decide +kernel
theorem dX2_copyFrom_14 : decode cX2_copyFrom 14 = .ok (.aload_n 1, 1) := by decide +kernel
theorem dX2_copyFrom_15 : decode cX2_copyFrom 15 = .ok (.getfield 15, 3) := by decide +kernel
theorem dX2_copyFrom_18 : decode cX2_copyFrom 18 = .ok (.iconst 0, 1) := by decide +kernel
theorem dX2_copyFrom_19 : decode cX2_copyFrom 19 = .ok (.aload_n 0, 1) := by decide +kernel
theorem dX2_copyFrom_20 : decode cX2_copyFrom 20 = .ok (.getfield 15, 3) := by decide +kernel
theorem dX2_copyFrom_23 : decode cX2_copyFrom 23 = .ok (.iconst 0, 1) := by decide +kernel
theorem dX2_copyFrom_24 : decode cX2_copyFrom 24 = .ok (.iconst 2, 1) := by decide +kernel
theorem dX2_copyFrom_25 : decode cX2_copyFrom 25 = .ok (.invokestatic 33, 3) := by decide +kernel
theorem dX2_copyFrom_28 : decode cX2_copyFrom 28 = .ok (.aload_n 1, 1) := by decide +kernel
theorem dX2_copyFrom_29 : decode cX2_copyFrom 29 = .ok (.getfield 18, 3) := by decide +kernel
theorem dX2_copyFrom_32 : decode cX2_copyFrom 32 = .ok (.iconst 0, 1) := by decide +kernel
theorem dX2_copyFrom_33 : decode cX2_copyFrom 33 = .ok (.aload_n 0, 1) := by decide +kernel
theorem dX2_copyFrom_34 : decode cX2_copyFrom 34 = .ok (.getfield 18, 3) := by decide +kernel
theorem dX2_copyFrom_37 : decode cX2_copyFrom 37 = .ok (.iconst 0, 1) := by decide +kernel
theorem dX2_copyFrom_38 : decode cX2_copyFrom 38 = .ok (.iconst 2, 1) := by decide +kernel
theorem dX2_copyFrom_39 : decode cX2_copyFrom 39 = .ok (.invokestatic 33, 3) := by decide +kernel
theorem dX2_copyFrom_42 : decode cX2_copyFrom 42 = .ok (.aload_n 1, 1) := by decide +kernel
theorem dX2_copyFrom_43 : decode cX2_copyFrom 43 = .ok (.getfield 21, 3) := by decide +kernel
theorem dX2_copyFrom_46 : decode cX2_copyFrom 46 = .ok (.iconst 0, 1) := by decide +kernel
theorem dX2_copyFrom_47 : decode cX2_copyFrom 47 = .ok (.aload_n 0, 1) := by decide +kernel
theorem dX2_copyFrom_48 : decode cX2_copyFrom 48 = .ok (.getfield 21, 3) := by decide +kernel
theorem dX2_copyFrom_51 : decode cX2_copyFrom 51 = .ok (.iconst 0, 1) := by decide +kernel
theorem dX2_copyFrom_52 : decode cX2_copyFrom 52 = .ok (.iconst 2, 1) := by decide +kernel
theorem dX2_copyFrom_53 : decode cX2_copyFrom 53 = .ok (.invokestatic 33, 3) := by decide +kernel
theorem dX2_copyFrom_56 : decode cX2_copyFrom 56 = .ok (.aload_n 1, 1) := by decide +kernel
theorem dX2_copyFrom_57 : decode cX2_copyFrom 57 = .ok (.getfield 24, 3) := by decide +kernel
theorem dX2_copyFrom_60 : decode cX2_copyFrom 60 = .ok (.iconst 0, 1) := by decide +kernel
theorem dX2_copyFrom_61 : decode cX2_copyFrom 61 = .ok (.aload_n 0, 1) := by decide +kernel
theorem dX2_copyFrom_62 : decode cX2_copyFrom 62 = .ok (.getfield 24, 3) := by decide +kernel
theorem dX2_copyFrom_65 : decode cX2_copyFrom 65 = .ok (.iconst 0, 1) := by decide +kernel
theorem dX2_copyFrom_66 : decode cX2_copyFrom 66 = .ok (.iconst 2, 1) := by decide +kernel
theorem dX2_copyFrom_67 : decode cX2_copyFrom 67 = .ok (.invokestatic 33, 3) := by decide +kernel
theorem dX2_copyFrom_70 : decode cX2_copyFrom 70 = .ok (.aload_n 1, 1) := by decide +kernel
theorem dX2_copyFrom_71 : decode cX2_copyFrom 71 = .ok (.getfield 27, 3) := by decide +kernel
theorem dX2_copyFrom_74 : decode cX2_copyFrom 74 = .ok (.iconst 0, 1) := by decide +kernel
theorem dX2_copyFrom_75 : decode cX2_copyFrom 75 = .ok (.aload_n 0, 1) := by decide +kernel
theorem dX2_copyFrom_76 : decode cX2_copyFrom 76 = .ok (.getfield 27, 3) := by decide +kernel
theorem dX2_copyFrom_79 : decode cX2_copyFrom 79 = .ok (.iconst 0, 1) := by decide +kernel
theorem dX2_copyFrom_80 : decode cX2_copyFrom 80 = .ok (.iconst 2, 1) := by decide +kernel
theorem dX2_copyFrom_81 : decode cX2_copyFrom 81 = .ok (.invokestatic 33, 3) := by decide +kernel
theorem dX2_copyFrom_84 : decode cX2_copyFrom 84 = .ok (.aload_n 1, 1) := by decide +kernel
theorem dX2_copyFrom_85 : decode cX2_copyFrom 85 = .ok (.getfield 30, 3) := by decide +kernel
theorem dX2_copyFrom_88 : decode cX2_copyFrom 88 = .ok (.iconst 0, 1) := by decide +kernel
theorem dX2_copyFrom_89 : decode cX2_copyFrom 89 = .ok (.aload_n 0, 1) := by decide +kernel
theorem dX2_copyFrom_90 : decode cX2_copyFrom 90 = .ok (.getfield 30, 3) := by decide +kernel
theorem dX2_copyFrom_93 : decode cX2_copyFrom 93 = .ok (.iconst 0, 1) := by decide +kernel
theorem dX2_copyFrom_94 : decode cX2_copyFrom 94 = .ok (.iconst 2, 1) := by decide +kernel
theorem dX2_copyFrom_95 : decode cX2_copyFrom 95 = .ok (.invokestatic 33, 3) := by decide +kernel
theorem dX2_copyFrom_98 : decode cX2_copyFrom 98 = .ok (.return_, 1) := by decide +kernel
theorem dX2_put_0 : decode cX2_put 0 = .ok (.iconst 0, 1) := by decide +kernel
theorem dX2_put_1 : decode cX2_put 1 = .ok (.istore_n 3, 1) := by decide +kernel
theorem dX2_put_2 : decode cX2_put 2 = .ok (.iload_n 3, 1) := by decide +kernel
theorem dX2_put_3 : decode cX2_put 3 = .ok (.iconst 2, 1) := by decide +kernel
theorem dX2_put_4 : decode cX2_put 4 = .ok (.if_icmp .ge 139, 3) := by decide +kernel
theorem dX2_put_7 : decode cX2_put 7 = .ok (.aload_n 0, 1) := by decide +kernel
theorem dX2_put_8 : decode cX2_put 8 = .ok (.getfield 9, 3) := by decide +kernel
theorem dX2_put_11 : decode cX2_put 11 = .ok (.iload_n 3, 1) := by decide +kernel
theorem dX2_put_12 : decode cX2_put 12 = .ok (.aload_n 0, 1) := by decide +kernel
theorem dX2_put_13 : decode cX2_put 13 = .ok (.getfield 15, 3) := by decide +kernel
theorem dX2_put_16 : decode cX2_put 16 = .ok (.iload_n 3, 1) := by decide +kernel
theorem dX2_put_17 : decode cX2_put 17 = .ok (.iaload, 1) := by decide +kernel
theorem dX2_put_18 : decode cX2_put 18 = .ok (.aload_n 2, 1) := by decide +kernel
theorem dX2_put_19 : decode cX2_put 19 = .ok (.getfield 39, 3) := by decide +kernel
theorem dX2_put_22 : decode cX2_put 22 = .ok (.iload_n 3, 1) := by decide +kernel
theorem dX2_put_23 : decode cX2_put 23 = .ok (.iaload, 1) := by decide +kernel
theorem dX2_put_24 : decode cX2_put 24 = .ok (.iadd, 1) := by decide +kernel
theorem dX2_put_25 : decode cX2_put 25 = .ok (.iastore, 1) := by decide +kernel
theorem dX2_put_26 : decode cX2_put 26 = .ok (.aload_n 1, 1) := by decide +kernel
theorem dX2_put_27 : decode cX2_put 27 = .ok (.iload_n 3, 1) := by decide +kernel
theorem dX2_put_28 : decode cX2_put 28 = .ok (.invokevirtual 44, 3) := by decide +kernel
theorem dX2_put_31 : decode cX2_put 31 = .ok (.astore 4, 2) := by decide +kernel
theorem dX2_put_33 : decode cX2_put 33 = .ok (.aload_n 0, 1) := by decide +kernel
theorem dX2_put_34 : decode cX2_put 34 = .ok (.getfield 21, 3) := by decide +kernel
theorem dX2_put_37 : decode cX2_put 37 = .ok (.iload_n 3, 1) := by decide +kernel
theorem dX2_put_38 : decode cX2_put 38 = .ok (.iaload, 1) := by decide +kernel
theorem dX2_put_39 : decode cX2_put 39 = .ok (.aload_n 0, 1) := by decide +kernel
theorem dX2_put_40 : decode cX2_put 40 = .ok (.getfield 24, 3) := by decide +kernel
theorem dX2_put_43 : decode cX2_put 43 = .ok (.iload_n 3, 1) := by decide +kernel
theorem dX2_put_44 : decode cX2_put 44 = .ok (.iaload, 1) := by decide +kernel
theorem dX2_put_45 : decode cX2_put 45 = .ok (.iadd, 1) := by decide +kernel
theorem dX2_put_46 : decode cX2_put 46 = .ok (.istore 5, 2) := by decide +kernel
theorem dX2_put_48 : decode cX2_put 48 = .ok (.aload 4, 2) := by decide +kernel
theorem dX2_put_50 : decode cX2_put 50 = .ok (.iload 5, 2) := by decide +kernel
theorem dX2_put_52 : decode cX2_put 52 = .ok (.aload_n 2, 1) := by decide +kernel
theorem dX2_put_53 : decode cX2_put 53 = .ok (.getfield 49, 3) := by decide +kernel
theorem dX2_put_56 : decode cX2_put 56 = .ok (.aload_n 2, 1) := by decide +kernel
theorem dX2_put_57 : decode cX2_put 57 = .ok (.getfield 53, 3) := by decide +kernel
theorem dX2_put_60 : decode cX2_put 60 = .ok (.iload_n 3, 1) := by decide +kernel
theorem dX2_put_61 : decode cX2_put 61 = .ok (.iaload, 1) := by decide +kernel
theorem dX2_put_62 : decode cX2_put 62 = .ok (.aload_n 2, 1) := by decide +kernel
theorem dX2_put_63 : decode cX2_put 63 = .ok (.getfield 39, 3) := by decide +kernel
theorem dX2_put_66 : decode cX2_put 66 = .ok (.iload_n 3, 1) := by decide +kernel
theorem dX2_put_67 : decode cX2_put 67 = .ok (.iaload, 1) := by decide +kernel
theorem dX2_put_68 : decode cX2_put 68 = .ok (.iadd, 1) := by decide +kernel
theorem dX2_put_69 : decode cX2_put 69 = .ok (.invokevirtual 56, 3) := by decide +kernel
theorem dX2_put_72 : decode cX2_put 72 = .ok (.istore 6, 2) := by decide +kernel
theorem dX2_put_74 : decode cX2_put 74 = .ok (.iload 5, 2) := by decide +kernel
theorem dX2_put_76 : decode cX2_put 76 = .ok (.istore 7, 2) := by decide +kernel
theorem dX2_put_78 : decode cX2_put 78 = .ok (.iload 7, 2) := by decide +kernel
theorem dX2_put_80 : decode cX2_put 80 = .ok (.iload 6, 2) := by decide +kernel
theorem dX2_put_82 : decode cX2_put 82 = .ok (.if_icmp .ge 40, 3) := by decide +kernel
theorem dX2_put_85 : decode cX2_put 85 = .ok (.aload_n 0, 1) := by decide +kernel
theorem dX2_put_86 : decode cX2_put 86 = .ok (.getfield 30, 3) := by decide +kernel
theorem dX2_put_89 : decode cX2_put 89 = .ok (.iload_n 3, 1) := by decide +kernel
theorem dX2_put_90 : decode cX2_put 90 = .ok (.aload 4, 2) := by decide +kernel
theorem dX2_put_92 : decode cX2_put 92 = .ok (.getfield 62, 3) := by decide +kernel
theorem dX2_put_95 : decode cX2_put 95 = .ok (.iconst 2, 1) := by decide +kernel
theorem dX2_put_96 : decode cX2_put 96 = .ok (.aaload, 1) := by decide +kernel
theorem dX2_put_97 : decode cX2_put 97 = .ok (.iload 7, 2) := by decide +kernel
theorem dX2_put_99 : decode cX2_put 99 = .ok (.iaload, 1) := by decide +kernel
theorem dX2_put_100 : decode cX2_put 100 = .ok (.iastore, 1) := by decide +kernel
theorem dX2_put_101 : decode cX2_put 101 = .ok (.aload_n 0, 1) := by decide +kernel
theorem dX2_put_102 : decode cX2_put 102 = .ok (.getfield 27, 3) := by decide +kernel
theorem dX2_put_105 : decode cX2_put 105 = .ok (.iload_n 3, 1) := by decide +kernel
theorem dX2_put_106 : decode cX2_put 106 = .ok (.dup2, 1) := by decide +kernel
theorem dX2_put_107 : decode cX2_put 107 = .ok (.iaload, 1) := by decide +kernel
theorem dX2_put_108 : decode cX2_put 108 = .ok (.aload_n 0, 1) := by decide +kernel
theorem dX2_put_109 : decode cX2_put 109 = .ok (.getfield 30, 3) := by decide +kernel
theorem dX2_put_112 : decode cX2_put 112 = .ok (.iload_n 3, 1) := by decide +kernel
theorem dX2_put_113 : decode cX2_put 113 = .ok (.iaload, 1) := by decide +kernel
theorem dX2_put_114 : decode cX2_put 114 = .ok (.iadd, 1) := by decide +kernel
theorem dX2_put_115 : decode cX2_put 115 = .ok (.iastore, 1) := by decide +kernel
theorem dX2_put_116 : decode cX2_put 116 = .ok (.iinc 7 1, 3) := by decide +kernel
theorem dX2_put_119 : decode cX2_put 119 = .ok (.goto (-41), 3) := by decide +kernel
theorem dX2_put_122 : decode cX2_put 122 = .ok (.aload_n 0, 1) := by decide +kernel
theorem dX2_put_123 : decode cX2_put 123 = .ok (.getfield 24, 3) := by decide +kernel
theorem dX2_put_126 : decode cX2_put 126 = .ok (.iload_n 3, 1) := by decide +kernel
theorem dX2_put_127 : decode cX2_put 127 = .ok (.iload 6, 2) := by decide +kernel
theorem dX2_put_129 : decode cX2_put 129 = .ok (.aload_n 0, 1) := by decide +kernel
theorem dX2_put_130 : decode cX2_put 130 = .ok (.getfield 21, 3) := by decide +kernel
theorem dX2_put_133 : decode cX2_put 133 = .ok (.iload_n 3, 1) := by decide +kernel
theorem dX2_put_134 : decode cX2_put 134 = .ok (.iaload, 1) := by decide +kernel
theorem dX2_put_135 : decode cX2_put 135 = .ok (.isub, 1) := by decide +kernel
theorem dX2_put_136 : decode cX2_put 136 = .ok (.iastore, 1) := by decide +kernel
theorem dX2_put_137 : decode cX2_put 137 = .ok (.iinc 3 1, 3) := by decide +kernel
theorem dX2_put_140 : decode cX2_put 140 = .ok (.goto (-138), 3) := by decide +kernel
theorem dX2_put_143 : decode cX2_put 143 = .ok (.aload_n 1, 1) := by decide +kernel
theorem dX2_put_144 : decode cX2_put 144 = .ok (.getfield 66, 3) := by decide +kernel
theorem dX2_put_147 : decode cX2_put 147 = .ok (.iconst 5, 1) := by decide +kernel
theorem dX2_put_148 : decode cX2_put 148 = .ok (.iaload, 1) := by decide +kernel
theorem dX2_put_149 : decode cX2_put 149 = .ok (.iconst 1, 1) := by decide +kernel
theorem dX2_put_150 : decode cX2_put 150 = .ok (.if_icmp .ne 7, 3) := by decide +kernel
theorem dX2_put_153 : decode cX2_put 153 = .ok (.iconst 1, 1) := by decide +kernel
theorem dX2_put_154 : decode cX2_put 154 = .ok (.goto 4, 3) := by decide +kernel
theorem dX2_put_157 : decode cX2_put 157 = .ok (.iconst 0, 1) := by decide +kernel
theorem dX2_put_158 : decode cX2_put 158 = .ok (.istore_n 3, 1) := by decide +kernel
theorem dX2_put_159 : decode cX2_put 159 = .ok (.aload_n 0, 1) := by decide +kernel
theorem dX2_put_160 : decode cX2_put 160 = .ok (.getfield 9, 3) := by decide +kernel
theorem dX2_put_163 : decode cX2_put 163 = .ok (.iconst 0, 1) := by decide +kernel
theorem dX2_put_164 : decode cX2_put 164 = .ok (.iaload, 1) := by decide +kernel
theorem dX2_put_165 : decode cX2_put 165 = .ok (.aload_n 0, 1) := by decide +kernel
theorem dX2_put_166 : decode cX2_put 166 = .ok (.getfield 9, 3) := by decide +kernel
theorem dX2_put_169 : decode cX2_put 169 = .ok (.iconst 1, 1) := by decide +kernel
theorem dX2_put_170 : decode cX2_put 170 = .ok (.iaload, 1) := by decide +kernel
theorem dX2_put_171 : decode cX2_put 171 = .ok (.invokestatic 69, 3) := by decide +kernel
theorem dX2_put_174 : decode cX2_put 174 = .ok (.istore 4, 2) := by decide +kernel
theorem dX2_put_176 : decode cX2_put 176 = .ok (.iconst 0, 1) := by decide +kernel
theorem dX2_put_177 : decode cX2_put 177 = .ok (.istore 5, 2) := by decide +kernel
theorem dX2_put_179 : decode cX2_put 179 = .ok (.iload 5, 2) := by decide +kernel
theorem dX2_put_181 : decode cX2_put 181 = .ok (.iconst 2, 1) := by decide +kernel
theorem dX2_put_182 : decode cX2_put 182 = .ok (.if_icmp .ge 39, 3) := by decide +kernel
theorem dX2_put_185 : decode cX2_put 185 = .ok (.aload_n 0, 1) := by decide +kernel
theorem dX2_put_186 : decode cX2_put 186 = .ok (.getfield 15, 3) := by decide +kernel
theorem dX2_put_189 : decode cX2_put 189 = .ok (.iload 5, 2) := by decide +kernel
theorem dX2_put_191 : decode cX2_put 191 = .ok (.iload_n 3, 1) := by decide +kernel
theorem dX2_put_192 : decode cX2_put 192 = .ok (.ifCond .eq 8, 3) := by decide +kernel
theorem dX2_put_195 : decode cX2_put 195 = .ok (.iload 4, 2) := by decide +kernel
theorem dX2_put_197 : decode cX2_put 197 = .ok (.goto 10, 3) := by decide +kernel
theorem dX2_put_200 : decode cX2_put 200 = .ok (.aload_n 0, 1) := by decide +kernel
theorem dX2_put_201 : decode cX2_put 201 = .ok (.getfield 9, 3) := by decide +kernel
theorem dX2_put_204 : decode cX2_put 204 = .ok (.iload 5, 2) := by decide +kernel
theorem dX2_put_206 : decode cX2_put 206 = .ok (.iaload, 1) := by decide +kernel
theorem dX2_put_207 : decode cX2_put 207 = .ok (.aload_n 1, 1) := by decide +kernel
theorem dX2_put_208 : decode cX2_put 208 = .ok (.getfield 66, 3) := by decide +kernel
theorem dX2_put_211 : decode cX2_put 211 = .ok (.iconst 1, 1) := by decide +kernel
theorem dX2_put_212 : decode cX2_put 212 = .ok (.iaload, 1) := by decide +kernel
theorem dX2_put_213 : decode cX2_put 213 = .ok (.iadd, 1) := by decide +kernel
theorem dX2_put_214 : decode cX2_put 214 = .ok (.iastore, 1) := by decide +kernel
theorem dX2_put_215 : decode cX2_put 215 = .ok (.iinc 5 1, 3) := by decide +kernel
theorem dX2_put_218 : decode cX2_put 218 = .ok (.goto (-39), 3) := by decide +kernel
theorem dX2_put_221 : decode cX2_put 221 = .ok (.return_, 1) := by decide +kernel
theorem dX2_noteRows_0 : decode cX2_noteRows 0 = .ok (.aload_n 0, 1) := by decide +kernel
theorem dX2_noteRows_1 : decode cX2_noteRows 1 = .ok (.getfield 18, 3) := by decide +kernel
theorem dX2_noteRows_4 : decode cX2_noteRows 4 = .ok (.iload_n 1, 1) := by decide +kernel
theorem dX2_noteRows_5 : decode cX2_noteRows 5 = .ok (.iaload, 1) := by decide +kernel
theorem dX2_noteRows_6 : decode cX2_noteRows 6 = .ok (.aload_n 0, 1) := by decide +kernel
theorem dX2_noteRows_7 : decode cX2_noteRows 7 = .ok (.getfield 27, 3) := by decide +kernel
theorem dX2_noteRows_10 : decode cX2_noteRows 10 = .ok (.iload_n 1, 1) := by decide +kernel
theorem dX2_noteRows_11 : decode cX2_noteRows 11 = .ok (.iaload, 1) := by decide +kernel
theorem dX2_noteRows_12 : decode cX2_noteRows 12 = .ok (.iadd, 1) := by decide +kernel
theorem dX2_noteRows_13 : decode cX2_noteRows 13 = .ok (.iload_n 3, 1) := by decide +kernel
theorem dX2_noteRows_14 : decode cX2_noteRows 14 = .ok (.isub, 1) := by decide +kernel
theorem dX2_noteRows_15 : decode cX2_noteRows 15 = .ok (.istore 4, 2) := by decide +kernel
theorem dX2_noteRows_17 : decode cX2_noteRows 17 = .ok (.iload 4, 2) := by decide +kernel
theorem dX2_noteRows_19 : decode cX2_noteRows 19 = .ok (.ifCond .le 10, 3) := by decide +kernel
theorem dX2_noteRows_22 : decode cX2_noteRows 22 = .ok (.iload_n 2, 1) := by decide +kernel
theorem dX2_noteRows_23 : decode cX2_noteRows 23 = .ok (.iload 4, 2) := by decide +kernel
theorem dX2_noteRows_25 : decode cX2_noteRows 25 = .ok (.iadd, 1) := by decide +kernel
theorem dX2_noteRows_26 : decode cX2_noteRows 26 = .ok (.goto 4, 3) := by decide +kernel
theorem dX2_noteRows_29 : decode cX2_noteRows 29 = .ok (.iconst 0, 1) := by decide +kernel
theorem dX2_noteRows_30 : decode cX2_noteRows 30 = .ok (.ireturn, 1) := by decide +kernel
theorem dX2_mostCarried_0 : decode cX2_mostCarried 0 = .ok (.iconst 0, 1) := by decide +kernel
theorem dX2_mostCarried_1 : decode cX2_mostCarried 1 = .ok (.iload_n 2, 1) := by decide +kernel
theorem dX2_mostCarried_2 : decode cX2_mostCarried 2 = .ok (.aload_n 0, 1) := by decide +kernel
theorem dX2_mostCarried_3 : decode cX2_mostCarried 3 = .ok (.getfield 30, 3) := by decide +kernel
theorem dX2_mostCarried_6 : decode cX2_mostCarried 6 = .ok (.iload_n 1, 1) := by decide +kernel
theorem dX2_mostCarried_7 : decode cX2_mostCarried 7 = .ok (.iaload, 1) := by decide +kernel
theorem dX2_mostCarried_8 : decode cX2_mostCarried 8 = .ok (.iconst 1, 1) := by decide +kernel
theorem dX2_mostCarried_9 : decode cX2_mostCarried 9 = .ok (.isub, 1) := by decide +kernel
theorem dX2_mostCarried_10 : decode cX2_mostCarried 10 = .ok (.invokestatic 75, 3) := by decide +kernel
theorem dX2_mostCarried_13 : decode cX2_mostCarried 13 = .ok (.invokestatic 69, 3) := by decide +kernel
theorem dX2_mostCarried_16 : decode cX2_mostCarried 16 = .ok (.ireturn, 1) := by decide +kernel
theorem dX2_fits_0 : decode cX2_fits 0 = .ok (.iconst 0, 1) := by decide +kernel
theorem dX2_fits_1 : decode cX2_fits 1 = .ok (.istore 4, 2) := by decide +kernel
theorem dX2_fits_3 : decode cX2_fits 3 = .ok (.iload 4, 2) := by decide +kernel
theorem dX2_fits_5 : decode cX2_fits 5 = .ok (.iconst 2, 1) := by decide +kernel
theorem dX2_fits_6 : decode cX2_fits 6 = .ok (.if_icmp .ge 37, 3) := by decide +kernel
theorem dX2_fits_9 : decode cX2_fits 9 = .ok (.aload_n 0, 1) := by decide +kernel
theorem dX2_fits_10 : decode cX2_fits 10 = .ok (.getfield 9, 3) := by decide +kernel
theorem dX2_fits_13 : decode cX2_fits 13 = .ok (.iload 4, 2) := by decide +kernel
theorem dX2_fits_15 : decode cX2_fits 15 = .ok (.iaload, 1) := by decide +kernel
theorem dX2_fits_16 : decode cX2_fits 16 = .ok (.aload_n 0, 1) := by decide +kernel
theorem dX2_fits_17 : decode cX2_fits 17 = .ok (.iload 4, 2) := by decide +kernel
theorem dX2_fits_19 : decode cX2_fits 19 = .ok (.iload_n 2, 1) := by decide +kernel
theorem dX2_fits_20 : decode cX2_fits 20 = .ok (.aload_n 0, 1) := by decide +kernel
theorem dX2_fits_21 : decode cX2_fits 21 = .ok (.iload 4, 2) := by decide +kernel
theorem dX2_fits_23 : decode cX2_fits 23 = .ok (.iload_n 3, 1) := by decide +kernel
theorem dX2_fits_24 : decode cX2_fits 24 = .ok (.invokevirtual 78, 3) := by decide +kernel
theorem dX2_fits_27 : decode cX2_fits 27 = .ok (.invokevirtual 81, 3) := by decide +kernel
theorem dX2_fits_30 : decode cX2_fits 30 = .ok (.iadd, 1) := by decide +kernel
theorem dX2_fits_31 : decode cX2_fits 31 = .ok (.iload_n 1, 1) := by decide +kernel
theorem dX2_fits_32 : decode cX2_fits 32 = .ok (.if_icmp .le 5, 3) := by decide +kernel
theorem dX2_fits_35 : decode cX2_fits 35 = .ok (.iconst 0, 1) := by decide +kernel
theorem dX2_fits_36 : decode cX2_fits 36 = .ok (.ireturn, 1) := by decide +kernel
theorem dX2_fits_37 : decode cX2_fits 37 = .ok (.iinc 4 1, 3) := by decide +kernel
theorem dX2_fits_40 : decode cX2_fits 40 = .ok (.goto (-37), 3) := by decide +kernel
theorem dX2_fits_43 : decode cX2_fits 43 = .ok (.iconst 1, 1) := by decide +kernel
theorem dX2_fits_44 : decode cX2_fits 44 = .ok (.ireturn, 1) := by decide +kernel
theorem dX2_carriedFrom_0 : decode cX2_carriedFrom 0 = .ok (.aload_n 0, 1) := by decide +kernel
theorem dX2_carriedFrom_1 : decode cX2_carriedFrom 1 = .ok (.iload_n 1, 1) := by decide +kernel
theorem dX2_carriedFrom_2 : decode cX2_carriedFrom 2 = .ok (.aload_n 2, 1) := by decide +kernel
theorem dX2_carriedFrom_3 : decode cX2_carriedFrom 3 = .ok (.getfield 66, 3) := by decide +kernel
theorem dX2_carriedFrom_6 : decode cX2_carriedFrom 6 = .ok (.iconst 4, 1) := by decide +kernel
theorem dX2_carriedFrom_7 : decode cX2_carriedFrom 7 = .ok (.iaload, 1) := by decide +kernel
theorem dX2_carriedFrom_8 : decode cX2_carriedFrom 8 = .ok (.invokevirtual 78, 3) := by decide +kernel
theorem dX2_carriedFrom_11 : decode cX2_carriedFrom 11 = .ok (.istore 4, 2) := by decide +kernel
theorem dX2_carriedFrom_13 : decode cX2_carriedFrom 13 = .ok (.iconst 0, 1) := by decide +kernel
theorem dX2_carriedFrom_14 : decode cX2_carriedFrom 14 = .ok (.istore 5, 2) := by decide +kernel
theorem dX2_carriedFrom_16 : decode cX2_carriedFrom 16 = .ok (.iload 5, 2) := by decide +kernel
theorem dX2_carriedFrom_18 : decode cX2_carriedFrom 18 = .ok (.iload 4, 2) := by decide +kernel
theorem dX2_carriedFrom_20 : decode cX2_carriedFrom 20 = .ok (.if_icmp .ge 33, 3) := by decide +kernel
theorem dX2_carriedFrom_23 : decode cX2_carriedFrom 23 = .ok (.aload_n 0, 1) := by decide +kernel
theorem dX2_carriedFrom_24 : decode cX2_carriedFrom 24 = .ok (.getfield 9, 3) := by decide +kernel
theorem dX2_carriedFrom_27 : decode cX2_carriedFrom 27 = .ok (.iload_n 1, 1) := by decide +kernel
theorem dX2_carriedFrom_28 : decode cX2_carriedFrom 28 = .ok (.iaload, 1) := by decide +kernel
theorem dX2_carriedFrom_29 : decode cX2_carriedFrom 29 = .ok (.aload_n 0, 1) := by decide +kernel
theorem dX2_carriedFrom_30 : decode cX2_carriedFrom 30 = .ok (.iload_n 1, 1) := by decide +kernel
theorem dX2_carriedFrom_31 : decode cX2_carriedFrom 31 = .ok (.aload_n 2, 1) := by decide +kernel
theorem dX2_carriedFrom_32 : decode cX2_carriedFrom 32 = .ok (.getfield 66, 3) := by decide +kernel
theorem dX2_carriedFrom_35 : decode cX2_carriedFrom 35 = .ok (.iconst 2, 1) := by decide +kernel
theorem dX2_carriedFrom_36 : decode cX2_carriedFrom 36 = .ok (.iaload, 1) := by decide +kernel
theorem dX2_carriedFrom_37 : decode cX2_carriedFrom 37 = .ok (.iload 5, 2) := by decide +kernel
theorem dX2_carriedFrom_39 : decode cX2_carriedFrom 39 = .ok (.invokevirtual 81, 3) := by decide +kernel
theorem dX2_carriedFrom_42 : decode cX2_carriedFrom 42 = .ok (.iadd, 1) := by decide +kernel
theorem dX2_carriedFrom_43 : decode cX2_carriedFrom 43 = .ok (.iload_n 3, 1) := by decide +kernel
theorem dX2_carriedFrom_44 : decode cX2_carriedFrom 44 = .ok (.if_icmp .le 9, 3) := by decide +kernel
theorem dX2_carriedFrom_47 : decode cX2_carriedFrom 47 = .ok (.iinc 5 1, 3) := by decide +kernel
theorem dX2_carriedFrom_50 : decode cX2_carriedFrom 50 = .ok (.goto (-34), 3) := by decide +kernel
theorem dX2_carriedFrom_53 : decode cX2_carriedFrom 53 = .ok (.iload 5, 2) := by decide +kernel
theorem dX2_carriedFrom_55 : decode cX2_carriedFrom 55 = .ok (.ireturn, 1) := by decide +kernel
theorem dX3_init_0 : decode cX3_init 0 = .ok (.aload_n 0, 1) := by decide +kernel
theorem dX3_init_1 : decode cX3_init 1 = .ok (.invokespecial 3, 3) := by decide +kernel
theorem dX3_init_4 : decode cX3_init 4 = .ok (.aload_n 0, 1) := by decide +kernel
theorem dX3_init_5 : decode cX3_init 5 = .ok (.bipush 6, 2) := by decide +kernel
theorem dX3_init_7 : decode cX3_init 7 = .ok (.anewarray 9, 3) := by decide +kernel
theorem dX3_init_10 : decode cX3_init 10 = .ok (.putfield 11, 3) := by decide +kernel
theorem dX3_init_13 : decode cX3_init 13 = .ok (.iconst 0, 1) := by decide +kernel
theorem dX3_init_14 : decode cX3_init 14 = .ok (.istore_n 1, 1) := by decide +kernel
theorem dX3_init_15 : decode cX3_init 15 = .ok (.iload_n 1, 1) := by decide +kernel
theorem dX3_init_16 : decode cX3_init 16 = .ok (.bipush 6, 2) := by decide +kernel
theorem dX3_init_18 : decode cX3_init 18 = .ok (.if_icmp .ge 22, 3) := by decide +kernel
theorem dX3_init_21 : decode cX3_init 21 = .ok (.aload_n 0, 1) := by decide +kernel
theorem dX3_init_22 : decode cX3_init 22 = .ok (.getfield 11, 3) := by decide +kernel
theorem dX3_init_25 : decode cX3_init 25 = .ok (.iload_n 1, 1) := by decide +kernel
theorem dX3_init_26 : decode cX3_init 26 = .ok (.new 9, 3) := by decide +kernel
theorem dX3_init_29 : decode cX3_init 29 = .ok (.dup, 1) := by decide +kernel
theorem dX3_init_30 : decode cX3_init 30 = .ok (.invokespecial 17, 3) := by decide +kernel
theorem dX3_init_33 : decode cX3_init 33 = .ok (.aastore, 1) := by decide +kernel
theorem dX3_init_34 : decode cX3_init 34 = .ok (.iinc 1 1, 3) := by decide +kernel
theorem dX3_init_37 : decode cX3_init 37 = .ok (.goto (-22), 3) := by decide +kernel
theorem dX3_init_40 : decode cX3_init 40 = .ok (.return_, 1) := by decide +kernel
theorem dX3_record_0 : decode cX3_record 0 = .ok (.aload_n 0, 1) := by decide +kernel
theorem dX3_record_1 : decode cX3_record 1 = .ok (.getfield 11, 3) := by decide +kernel
theorem dX3_record_4 : decode cX3_record 4 = .ok (.aload_n 0, 1) := by decide +kernel
theorem dX3_record_5 : decode cX3_record 5 = .ok (.getfield 18, 3) := by decide +kernel
theorem dX3_record_8 : decode cX3_record 8 = .ok (.aaload, 1) := by decide +kernel
theorem dX3_record_9 : decode cX3_record 9 = .ok (.astore_n 2, 1) := by decide +kernel
theorem dX3_record_10 : decode cX3_record 10 = .ok (.aload_n 2, 1) := by decide +kernel
theorem dX3_record_11 : decode cX3_record 11 = .ok (.ifnull 8, 3) := by decide +kernel
theorem dX3_record_14 : decode cX3_record 14 = .ok (.aload_n 2, 1) := by decide +kernel
theorem dX3_record_15 : decode cX3_record 15 = .ok (.aload_n 1, 1) := by decide +kernel
theorem dX3_record_16 : decode cX3_record 16 = .ok (.invokevirtual 22, 3) := by decide +kernel
theorem dX3_record_19 : decode cX3_record 19 = .ok (.aload_n 0, 1) := by decide +kernel
theorem dX3_record_20 : decode cX3_record 20 = .ok (.aload_n 0, 1) := by decide +kernel
theorem dX3_record_21 : decode cX3_record 21 = .ok (.getfield 18, 3) := by decide +kernel
theorem dX3_record_24 : decode cX3_record 24 = .ok (.iconst 1, 1) := by decide +kernel
theorem dX3_record_25 : decode cX3_record 25 = .ok (.iadd, 1) := by decide +kernel
theorem dX3_record_26 : decode cX3_record 26 = .ok (.bipush 6, 2) := by decide +kernel
theorem dX3_record_28 : decode cX3_record 28 = .ok (.if_icmp .ge 12, 3) := by decide +kernel
theorem dX3_record_31 : decode cX3_record 31 = .ok (.aload_n 0, 1) := by decide +kernel
theorem dX3_record_32 : decode cX3_record 32 = .ok (.getfield 18, 3) := by decide +kernel
theorem dX3_record_35 : decode cX3_record 35 = .ok (.iconst 1, 1) := by decide +kernel
theorem dX3_record_36 : decode cX3_record 36 = .ok (.iadd, 1) := by decide +kernel
theorem dX3_record_37 : decode cX3_record 37 = .ok (.goto 4, 3) := by decide +kernel
theorem dX3_record_40 : decode cX3_record 40 = .ok (.iconst 0, 1) := by decide +kernel
theorem dX3_record_41 : decode cX3_record 41 = .ok (.putfield 18, 3) := by decide +kernel
theorem dX3_record_44 : decode cX3_record 44 = .ok (.aload_n 0, 1) := by decide +kernel
theorem dX3_record_45 : decode cX3_record 45 = .ok (.aload_n 0, 1) := by decide +kernel
theorem dX3_record_46 : decode cX3_record 46 = .ok (.getfield 26, 3) := by decide +kernel
theorem dX3_record_49 : decode cX3_record 49 = .ok (.iconst 1, 1) := by decide +kernel
theorem dX3_record_50 : decode cX3_record 50 = .ok (.iadd, 1) := by decide +kernel
theorem dX3_record_51 : decode cX3_record 51 = .ok (.bipush 6, 2) := by decide +kernel
theorem dX3_record_53 : decode cX3_record 53 = .ok (.invokestatic 29, 3) := by decide +kernel
theorem dX3_record_56 : decode cX3_record 56 = .ok (.putfield 26, 3) := by decide +kernel
theorem dX3_record_59 : decode cX3_record 59 = .ok (.return_, 1) := by decide +kernel
theorem dX3_restore_0 : decode cX3_restore 0 = .ok (.aload_n 0, 1) := by decide +kernel
theorem dX3_restore_1 : decode cX3_restore 1 = .ok (.aload_n 0, 1) := by decide +kernel
theorem dX3_restore_2 : decode cX3_restore 2 = .ok (.getfield 18, 3) := by decide +kernel
theorem dX3_restore_5 : decode cX3_restore 5 = .ok (.ifCond .le 12, 3) := by decide +kernel
theorem dX3_restore_8 : decode cX3_restore 8 = .ok (.aload_n 0, 1) := by decide +kernel
theorem dX3_restore_9 : decode cX3_restore 9 = .ok (.getfield 18, 3) := by decide +kernel
theorem dX3_restore_12 : decode cX3_restore 12 = .ok (.iconst 1, 1) := by decide +kernel
theorem dX3_restore_13 : decode cX3_restore 13 = .ok (.isub, 1) := by decide +kernel
theorem dX3_restore_14 : decode cX3_restore 14 = .ok (.goto 4, 3) := by decide +kernel
theorem dX3_restore_17 : decode cX3_restore 17 = .ok (.iconst 5, 1) := by decide +kernel
theorem dX3_restore_18 : decode cX3_restore 18 = .ok (.putfield 18, 3) := by decide +kernel
theorem dX3_restore_21 : decode cX3_restore 21 = .ok (.aload_n 0, 1) := by decide +kernel
theorem dX3_restore_22 : decode cX3_restore 22 = .ok (.dup, 1) := by decide +kernel
theorem dX3_restore_23 : decode cX3_restore 23 = .ok (.getfield 26, 3) := by decide +kernel
theorem dX3_restore_26 : decode cX3_restore 26 = .ok (.iconst 1, 1) := by decide +kernel
theorem dX3_restore_27 : decode cX3_restore 27 = .ok (.isub, 1) := by decide +kernel
theorem dX3_restore_28 : decode cX3_restore 28 = .ok (.putfield 26, 3) := by decide +kernel
theorem dX3_restore_31 : decode cX3_restore 31 = .ok (.aload_n 0, 1) := by decide +kernel
theorem dX3_restore_32 : decode cX3_restore 32 = .ok (.getfield 11, 3) := by decide +kernel
theorem dX3_restore_35 : decode cX3_restore 35 = .ok (.aload_n 0, 1) := by decide +kernel
theorem dX3_restore_36 : decode cX3_restore 36 = .ok (.getfield 18, 3) := by decide +kernel
theorem dX3_restore_39 : decode cX3_restore 39 = .ok (.aaload, 1) := by decide +kernel
theorem dX3_restore_40 : decode cX3_restore 40 = .ok (.astore_n 2, 1) := by decide +kernel
theorem dX3_restore_41 : decode cX3_restore 41 = .ok (.aload_n 2, 1) := by decide +kernel
theorem dX3_restore_42 : decode cX3_restore 42 = .ok (.ifnull 8, 3) := by decide +kernel
theorem dX3_restore_45 : decode cX3_restore 45 = .ok (.aload_n 1, 1) := by decide +kernel
theorem dX3_restore_46 : decode cX3_restore 46 = .ok (.aload_n 2, 1) := by decide +kernel
theorem dX3_restore_47 : decode cX3_restore 47 = .ok (.invokevirtual 22, 3) := by decide +kernel
theorem dX3_restore_50 : decode cX3_restore 50 = .ok (.return_, 1) := by decide +kernel
theorem dX4_init_0 : decode cX4_init 0 = .ok (.aload_n 0, 1) := by decide +kernel
theorem dX4_init_1 : decode cX4_init 1 = .ok (.invokespecial 3, 3) := by decide +kernel
theorem dX4_init_4 : decode cX4_init 4 = .ok (.aload_n 0, 1) := by decide +kernel
theorem dX4_init_5 : decode cX4_init 5 = .ok (.iconst 3, 1) := by decide +kernel
theorem dX4_init_6 : decode cX4_init 6 = .ok (.bipush 40, 2) := by decide +kernel
theorem dX4_init_8 : decode cX4_init 8 = .ok (.multianewarray 9 2, 4) := by decide +kernel
theorem dX4_init_12 : decode cX4_init 12 = .ok (.putfield 11, 3) := by decide +kernel
theorem dX4_init_15 : decode cX4_init 15 = .ok (.return_, 1) := by decide +kernel
theorem dX4_before_0 : decode cX4_before 0 = .ok (.aload_n 0, 1) := by decide +kernel
theorem dX4_before_1 : decode cX4_before 1 = .ok (.iconst 0, 1) := by decide +kernel
theorem dX4_before_2 : decode cX4_before 2 = .ok (.iload_n 1, 1) := by decide +kernel
theorem dX4_before_3 : decode cX4_before 3 = .ok (.iload_n 2, 1) := by decide +kernel
theorem dX4_before_4 : decode cX4_before 4 = .ok (.invokevirtual 16, 3) := by decide +kernel
theorem dX4_before_7 : decode cX4_before 7 = .ok (.ireturn, 1) := by decide +kernel
theorem dX4_endBefore_0 : decode cX4_endBefore 0 = .ok (.aload_n 0, 1) := by decide +kernel
theorem dX4_endBefore_1 : decode cX4_endBefore 1 = .ok (.getfield 11, 3) := by decide +kernel
theorem dX4_endBefore_4 : decode cX4_endBefore 4 = .ok (.iconst 0, 1) := by decide +kernel
theorem dX4_endBefore_5 : decode cX4_endBefore 5 = .ok (.aaload, 1) := by decide +kernel
theorem dX4_endBefore_6 : decode cX4_endBefore 6 = .ok (.astore 4, 2) := by decide +kernel
theorem dX4_endBefore_8 : decode cX4_endBefore 8 = .ok (.iload_n 1, 1) := by decide +kernel
theorem dX4_endBefore_9 : decode cX4_endBefore 9 = .ok (.istore 5, 2) := by decide +kernel
theorem dX4_endBefore_11 : decode cX4_endBefore 11 = .ok (.iload 5, 2) := by decide +kernel
theorem dX4_endBefore_13 : decode cX4_endBefore 13 = .ok (.aload_n 0, 1) := by decide +kernel
theorem dX4_endBefore_14 : decode cX4_endBefore 14 = .ok (.getfield 20, 3) := by decide +kernel
theorem dX4_endBefore_17 : decode cX4_endBefore 17 = .ok (.if_icmp .ge 40, 3) := by decide +kernel
theorem dX4_endBefore_20 : decode cX4_endBefore 20 = .ok (.aload 4, 2) := by decide +kernel
theorem dX4_endBefore_22 : decode cX4_endBefore 22 = .ok (.iload 5, 2) := by decide +kernel
theorem dX4_endBefore_24 : decode cX4_endBefore 24 = .ok (.iaload, 1) := by decide +kernel
theorem dX4_endBefore_25 : decode cX4_endBefore 25 = .ok (.iload_n 2, 1) := by decide +kernel
theorem dX4_endBefore_26 : decode cX4_endBefore 26 = .ok (.if_icmp .lt 25, 3) := by decide +kernel
theorem dX4_endBefore_29 : decode cX4_endBefore 29 = .ok (.aload 4, 2) := by decide +kernel
theorem dX4_endBefore_31 : decode cX4_endBefore 31 = .ok (.iload 5, 2) := by decide +kernel
theorem dX4_endBefore_33 : decode cX4_endBefore 33 = .ok (.iaload, 1) := by decide +kernel
theorem dX4_endBefore_34 : decode cX4_endBefore 34 = .ok (.iload_n 2, 1) := by decide +kernel
theorem dX4_endBefore_35 : decode cX4_endBefore 35 = .ok (.if_icmp .ne 22, 3) := by decide +kernel
theorem dX4_endBefore_38 : decode cX4_endBefore 38 = .ok (.aload_n 0, 1) := by decide +kernel
theorem dX4_endBefore_39 : decode cX4_endBefore 39 = .ok (.getfield 11, 3) := by decide +kernel
theorem dX4_endBefore_42 : decode cX4_endBefore 42 = .ok (.iconst 1, 1) := by decide +kernel
theorem dX4_endBefore_43 : decode cX4_endBefore 43 = .ok (.aaload, 1) := by decide +kernel
theorem dX4_endBefore_44 : decode cX4_endBefore 44 = .ok (.iload 5, 2) := by decide +kernel
theorem dX4_endBefore_46 : decode cX4_endBefore 46 = .ok (.iaload, 1) := by decide +kernel
theorem dX4_endBefore_47 : decode cX4_endBefore 47 = .ok (.iload_n 3, 1) := by decide +kernel
theorem dX4_endBefore_48 : decode cX4_endBefore 48 = .ok (.if_icmp .ge 9, 3) := by decide +kernel
theorem dX4_endBefore_51 : decode cX4_endBefore 51 = .ok (.iinc 5 1, 3) := by decide +kernel
theorem dX4_endBefore_54 : decode cX4_endBefore 54 = .ok (.goto (-43), 3) := by decide +kernel
theorem dX4_endBefore_57 : decode cX4_endBefore 57 = .ok (.iload 5, 2) := by decide +kernel
theorem dX4_endBefore_59 : decode cX4_endBefore 59 = .ok (.ireturn, 1) := by decide +kernel
theorem dX4_place_0 : decode cX4_place 0 = .ok (.aload_n 0, 1) := by decide +kernel
theorem dX4_place_1 : decode cX4_place 1 = .ok (.iload_n 1, 1) := by decide +kernel
theorem dX4_place_2 : decode cX4_place 2 = .ok (.iload_n 2, 1) := by decide +kernel
theorem dX4_place_3 : decode cX4_place 3 = .ok (.iconst 1, 1) := by decide +kernel
theorem dX4_place_4 : decode cX4_place 4 = .ok (.iadd, 1) := by decide +kernel
theorem dX4_place_5 : decode cX4_place 5 = .ok (.invokevirtual 24, 3) := by decide +kernel
theorem dX4_place_8 : decode cX4_place 8 = .ok (.istore 4, 2) := by decide +kernel
theorem dX4_place_10 : decode cX4_place 10 = .ok (.aload_n 0, 1) := by decide +kernel
theorem dX4_place_11 : decode cX4_place 11 = .ok (.getfield 20, 3) := by decide +kernel
theorem dX4_place_14 : decode cX4_place 14 = .ok (.bipush 40, 2) := by decide +kernel
theorem dX4_place_16 : decode cX4_place 16 = .ok (.if_icmp .lt 6, 3) := by decide +kernel
theorem dX4_place_19 : decode cX4_place 19 = .ok (.iload 4, 2) := by decide +kernel
theorem dX4_place_21 : decode cX4_place 21 = .ok (.ireturn, 1) := by decide +kernel
theorem dX4_place_22 : decode cX4_place 22 = .ok (.iconst 0, 1) := by decide +kernel
theorem dX4_place_23 : decode cX4_place 23 = .ok (.istore 5, 2) := by decide +kernel
theorem dX4_place_25 : decode cX4_place 25 = .ok (.iload 5, 2) := by decide +kernel
theorem dX4_place_27 : decode cX4_place 27 = .ok (.iconst 3, 1) := by decide +kernel
theorem dX4_place_28 : decode cX4_place 28 = .ok (.if_icmp .ge 25, 3) := by decide +kernel
theorem dX4_place_31 : decode cX4_place 31 = .ok (.aload_n 0, 1) := by decide +kernel
theorem dX4_place_32 : decode cX4_place 32 = .ok (.getfield 11, 3) := by decide +kernel
theorem dX4_place_35 : decode cX4_place 35 = .ok (.iload 5, 2) := by decide +kernel
theorem dX4_place_37 : decode cX4_place 37 = .ok (.aaload, 1) := by decide +kernel
theorem dX4_place_38 : decode cX4_place 38 = .ok (.iload 4, 2) := by decide +kernel
theorem dX4_place_40 : decode cX4_place 40 = .ok (.aload_n 0, 1) := by decide +kernel
theorem dX4_place_41 : decode cX4_place 41 = .ok (.getfield 20, 3) := by decide +kernel
theorem dX4_place_44 : decode cX4_place 44 = .ok (.invokestatic 28, 3) := by decide +kernel
theorem dX4_place_47 : decode cX4_place 47 = .ok (.iinc 5 1, 3) := by decide +kernel
theorem dX4_place_50 : decode cX4_place 50 = .ok (.goto (-25), 3) := by decide +kernel
theorem dX4_place_53 : decode cX4_place 53 = .ok (.aload_n 0, 1) := by decide +kernel
theorem dX4_place_54 : decode cX4_place 54 = .ok (.getfield 11, 3) := by decide +kernel
theorem dX4_place_57 : decode cX4_place 57 = .ok (.iconst 0, 1) := by decide +kernel
theorem dX4_place_58 : decode cX4_place 58 = .ok (.aaload, 1) := by decide +kernel
theorem dX4_place_59 : decode cX4_place 59 = .ok (.iload 4, 2) := by decide +kernel
theorem dX4_place_61 : decode cX4_place 61 = .ok (.iload_n 1, 1) := by decide +kernel
theorem dX4_place_62 : decode cX4_place 62 = .ok (.iastore, 1) := by decide +kernel
theorem dX4_place_63 : decode cX4_place 63 = .ok (.aload_n 0, 1) := by decide +kernel
theorem dX4_place_64 : decode cX4_place 64 = .ok (.getfield 11, 3) := by decide +kernel
theorem dX4_place_67 : decode cX4_place 67 = .ok (.iconst 1, 1) := by decide +kernel
theorem dX4_place_68 : decode cX4_place 68 = .ok (.aaload, 1) := by decide +kernel
theorem dX4_place_69 : decode cX4_place 69 = .ok (.iload 4, 2) := by decide +kernel
theorem dX4_place_71 : decode cX4_place 71 = .ok (.iload_n 2, 1) := by decide +kernel
theorem dX4_place_72 : decode cX4_place 72 = .ok (.iastore, 1) := by decide +kernel
theorem dX4_place_73 : decode cX4_place 73 = .ok (.aload_n 0, 1) := by decide +kernel
theorem dX4_place_74 : decode cX4_place 74 = .ok (.getfield 11, 3) := by decide +kernel
theorem dX4_place_77 : decode cX4_place 77 = .ok (.iconst 2, 1) := by decide +kernel
theorem dX4_place_78 : decode cX4_place 78 = .ok (.aaload, 1) := by decide +kernel
theorem dX4_place_79 : decode cX4_place 79 = .ok (.iload 4, 2) := by decide +kernel
theorem dX4_place_81 : decode cX4_place 81 = .ok (.iload_n 3, 1) := by decide +kernel
theorem dX4_place_82 : decode cX4_place 82 = .ok (.iastore, 1) := by decide +kernel
theorem dX4_place_83 : decode cX4_place 83 = .ok (.aload_n 0, 1) := by decide +kernel
theorem dX4_place_84 : decode cX4_place 84 = .ok (.dup, 1) := by decide +kernel
theorem dX4_place_85 : decode cX4_place 85 = .ok (.getfield 20, 3) := by decide +kernel
theorem dX4_place_88 : decode cX4_place 88 = .ok (.iconst 1, 1) := by decide +kernel
theorem dX4_place_89 : decode cX4_place 89 = .ok (.iadd, 1) := by decide +kernel
theorem dX4_place_90 : decode cX4_place 90 = .ok (.putfield 20, 3) := by decide +kernel
theorem dX4_place_93 : decode cX4_place 93 = .ok (.iload 4, 2) := by decide +kernel
theorem dX4_place_95 : decode cX4_place 95 = .ok (.ireturn, 1) := by decide +kernel
theorem dX4_drop_0 : decode cX4_drop 0 = .ok (.iconst 0, 1) := by decide +kernel
theorem dX4_drop_1 : decode cX4_drop 1 = .ok (.istore_n 2, 1) := by decide +kernel
theorem dX4_drop_2 : decode cX4_drop 2 = .ok (.iload_n 2, 1) := by decide +kernel
theorem dX4_drop_3 : decode cX4_drop 3 = .ok (.iconst 3, 1) := by decide +kernel
theorem dX4_drop_4 : decode cX4_drop 4 = .ok (.if_icmp .ge 23, 3) := by decide +kernel
theorem dX4_drop_7 : decode cX4_drop 7 = .ok (.aload_n 0, 1) := by decide +kernel
theorem dX4_drop_8 : decode cX4_drop 8 = .ok (.getfield 11, 3) := by decide +kernel
theorem dX4_drop_11 : decode cX4_drop 11 = .ok (.iload_n 2, 1) := by decide +kernel
theorem dX4_drop_12 : decode cX4_drop 12 = .ok (.aaload, 1) := by decide +kernel
theorem dX4_drop_13 : decode cX4_drop 13 = .ok (.iload_n 1, 1) := by decide +kernel
theorem dX4_drop_14 : decode cX4_drop 14 = .ok (.aload_n 0, 1) := by decide +kernel
theorem dX4_drop_15 : decode cX4_drop 15 = .ok (.getfield 20, 3) := by decide +kernel
theorem dX4_drop_18 : decode cX4_drop 18 = .ok (.invokestatic 32, 3) := by decide +kernel
theorem dX4_drop_21 : decode cX4_drop 21 = .ok (.iinc 2 1, 3) := by decide +kernel
theorem dX4_drop_24 : decode cX4_drop 24 = .ok (.goto (-22), 3) := by decide +kernel
theorem dX4_drop_27 : decode cX4_drop 27 = .ok (.aload_n 0, 1) := by decide +kernel
theorem dX4_drop_28 : decode cX4_drop 28 = .ok (.dup, 1) := by decide +kernel
theorem dX4_drop_29 : decode cX4_drop 29 = .ok (.getfield 20, 3) := by decide +kernel
theorem dX4_drop_32 : decode cX4_drop 32 = .ok (.iconst 1, 1) := by decide +kernel
theorem dX4_drop_33 : decode cX4_drop 33 = .ok (.isub, 1) := by decide +kernel
theorem dX4_drop_34 : decode cX4_drop 34 = .ok (.putfield 20, 3) := by decide +kernel
theorem dX4_drop_37 : decode cX4_drop 37 = .ok (.return_, 1) := by decide +kernel
theorem dX4_movePairs_0 : decode cX4_movePairs 0 = .ok (.aload_n 0, 1) := by decide +kernel
theorem dX4_movePairs_1 : decode cX4_movePairs 1 = .ok (.iload_n 1, 1) := by decide +kernel
theorem dX4_movePairs_2 : decode cX4_movePairs 2 = .ok (.iconst 0, 1) := by decide +kernel
theorem dX4_movePairs_3 : decode cX4_movePairs 3 = .ok (.invokevirtual 24, 3) := by decide +kernel
theorem dX4_movePairs_6 : decode cX4_movePairs 6 = .ok (.istore_n 3, 1) := by decide +kernel
theorem dX4_movePairs_7 : decode cX4_movePairs 7 = .ok (.iload_n 3, 1) := by decide +kernel
theorem dX4_movePairs_8 : decode cX4_movePairs 8 = .ok (.aload_n 0, 1) := by decide +kernel
theorem dX4_movePairs_9 : decode cX4_movePairs 9 = .ok (.getfield 20, 3) := by decide +kernel
theorem dX4_movePairs_12 : decode cX4_movePairs 12 = .ok (.if_icmp .ge 21, 3) := by decide +kernel
theorem dX4_movePairs_15 : decode cX4_movePairs 15 = .ok (.aload_n 0, 1) := by decide +kernel
theorem dX4_movePairs_16 : decode cX4_movePairs 16 = .ok (.getfield 11, 3) := by decide +kernel
theorem dX4_movePairs_19 : decode cX4_movePairs 19 = .ok (.iconst 0, 1) := by decide +kernel
theorem dX4_movePairs_20 : decode cX4_movePairs 20 = .ok (.aaload, 1) := by decide +kernel
theorem dX4_movePairs_21 : decode cX4_movePairs 21 = .ok (.iload_n 3, 1) := by decide +kernel
theorem dX4_movePairs_22 : decode cX4_movePairs 22 = .ok (.dup2, 1) := by decide +kernel
theorem dX4_movePairs_23 : decode cX4_movePairs 23 = .ok (.iaload, 1) := by decide +kernel
theorem dX4_movePairs_24 : decode cX4_movePairs 24 = .ok (.iload_n 2, 1) := by decide +kernel
theorem dX4_movePairs_25 : decode cX4_movePairs 25 = .ok (.iadd, 1) := by decide +kernel
theorem dX4_movePairs_26 : decode cX4_movePairs 26 = .ok (.iastore, 1) := by decide +kernel
theorem dX4_movePairs_27 : decode cX4_movePairs 27 = .ok (.iinc 3 1, 3) := by decide +kernel
theorem dX4_movePairs_30 : decode cX4_movePairs 30 = .ok (.goto (-23), 3) := by decide +kernel
theorem dX4_movePairs_33 : decode cX4_movePairs 33 = .ok (.return_, 1) := by decide +kernel
theorem dX4_copyFrom_0 : decode cX4_copyFrom 0 = .ok (.aload_n 0, 1) := by decide +kernel
theorem dX4_copyFrom_1 : decode cX4_copyFrom 1 = .ok (.aload_n 1, 1) := by decide +kernel
theorem dX4_copyFrom_2 : decode cX4_copyFrom 2 = .ok (.getfield 20, 3) := by decide +kernel
theorem dX4_copyFrom_5 : decode cX4_copyFrom 5 = .ok (.putfield 20, 3) := by decide +kernel
theorem dX4_copyFrom_8 : decode cX4_copyFrom 8 = .ok (.aload_n 1, 1) := by decide +kernel
theorem dX4_copyFrom_9 : decode cX4_copyFrom 9 = .ok (.getfield 11, 3) := by decide +kernel
theorem dX4_copyFrom_12 : decode cX4_copyFrom 12 = .ok (.aload_n 0, 1) := by decide +kernel
theorem dX4_copyFrom_13 : decode cX4_copyFrom 13 = .ok (.getfield 11, 3) := by decide +kernel
theorem dX4_copyFrom_16 : decode cX4_copyFrom 16 = .ok (.invokestatic 43, 3) := by decide +kernel
theorem dX4_copyFrom_19 : decode cX4_copyFrom 19 = .ok (.return_, 1) := by decide +kernel
theorem dX5_init_0 : decode cX5_init 0 = .ok (.aload_n 0, 1) := by decide +kernel
theorem dX5_init_1 : decode cX5_init 1 = .ok (.invokespecial 3, 3) := by decide +kernel
theorem dX5_init_4 : decode cX5_init 4 = .ok (.aload_n 0, 1) := by decide +kernel
theorem dX5_init_5 : decode cX5_init 5 = .ok (.iconst 2, 1) := by decide +kernel
theorem dX5_init_6 : decode cX5_init 6 = .ok (.newarray .int, 2) := by decide +kernel
theorem dX5_init_8 : decode cX5_init 8 = .ok (.putfield 9, 3) := by decide +kernel
theorem dX5_init_11 : decode cX5_init 11 = .ok (.aload_n 0, 1) := by decide +kernel
theorem dX5_init_12 : decode cX5_init 12 = .ok (.iconst 2, 1) := by decide +kernel
theorem dX5_init_13 : decode cX5_init 13 = .ok (.newarray .int, 2) := by decide +kernel
theorem dX5_init_15 : decode cX5_init 15 = .ok (.putfield 15, 3) := by decide +kernel
theorem dX5_init_18 : decode cX5_init 18 = .ok (.return_, 1) := by decide +kernel
theorem dX5_takePair_0 : decode cX5_takePair 0 = .ok (.aload_n 0, 1) := by decide +kernel
theorem dX5_takePair_1 : decode cX5_takePair 1 = .ok (.iload_n 2, 1) := by decide +kernel
theorem dX5_takePair_2 : decode cX5_takePair 2 = .ok (.putfield 18, 3) := by decide +kernel
theorem dX5_takePair_5 : decode cX5_takePair 5 = .ok (.iconst 0, 1) := by decide +kernel
theorem dX5_takePair_6 : decode cX5_takePair 6 = .ok (.istore_n 3, 1) := by decide +kernel
theorem dX5_takePair_7 : decode cX5_takePair 7 = .ok (.iload_n 3, 1) := by decide +kernel
theorem dX5_takePair_8 : decode cX5_takePair 8 = .ok (.iconst 2, 1) := by decide +kernel
theorem dX5_takePair_9 : decode cX5_takePair 9 = .ok (.if_icmp .ge 42, 3) := by decide +kernel
theorem dX5_takePair_12 : decode cX5_takePair 12 = .ok (.aload_n 0, 1) := by decide +kernel
theorem dX5_takePair_13 : decode cX5_takePair 13 = .ok (.getfield 9, 3) := by decide +kernel
theorem dX5_takePair_16 : decode cX5_takePair 16 = .ok (.iload_n 3, 1) := by decide +kernel
theorem dX5_takePair_17 : decode cX5_takePair 17 = .ok (.iconst 0, 1) := by decide +kernel
theorem dX5_takePair_18 : decode cX5_takePair 18 = .ok (.iastore, 1) := by decide +kernel
theorem dX5_takePair_19 : decode cX5_takePair 19 = .ok (.aload_n 0, 1) := by decide +kernel
theorem dX5_takePair_20 : decode cX5_takePair 20 = .ok (.getfield 15, 3) := by decide +kernel
theorem dX5_takePair_23 : decode cX5_takePair 23 = .ok (.iload_n 3, 1) := by decide +kernel
theorem dX5_takePair_24 : decode cX5_takePair 24 = .ok (.aload_n 1, 1) := by decide +kernel
theorem dX5_takePair_25 : decode cX5_takePair 25 = .ok (.iload_n 2, 1) := by decide +kernel
theorem dX5_takePair_26 : decode cX5_takePair 26 = .ok (.invokevirtual 22, 3) := by decide +kernel
theorem dX5_takePair_29 : decode cX5_takePair 29 = .ok (.ifCond .eq 14, 3) := by decide +kernel
theorem dX5_takePair_32 : decode cX5_takePair 32 = .ok (.aload_n 1, 1) := by decide +kernel
theorem dX5_takePair_33 : decode cX5_takePair 33 = .ok (.getfield 28, 3) := by decide +kernel
theorem dX5_takePair_36 : decode cX5_takePair 36 = .ok (.iload_n 3, 1) := by decide +kernel
theorem dX5_takePair_37 : decode cX5_takePair 37 = .ok (.aaload, 1) := by decide +kernel
theorem dX5_takePair_38 : decode cX5_takePair 38 = .ok (.iload_n 2, 1) := by decide +kernel
theorem dX5_takePair_39 : decode cX5_takePair 39 = .ok (.iaload, 1) := by decide +kernel
theorem dX5_takePair_40 : decode cX5_takePair 40 = .ok (.goto 4, 3) := by decide +kernel
theorem dX5_takePair_43 : decode cX5_takePair 43 = .ok (.iconst 0, 1) := by decide +kernel
theorem dX5_takePair_44 : decode cX5_takePair 44 = .ok (.iastore, 1) := by decide +kernel
theorem dX5_takePair_45 : decode cX5_takePair 45 = .ok (.iinc 3 1, 3) := by decide +kernel
theorem dX5_takePair_48 : decode cX5_takePair 48 = .ok (.goto (-41), 3) := by decide +kernel
theorem dX5_takePair_51 : decode cX5_takePair 51 = .ok (.return_, 1) := by decide +kernel
theorem dX5_takeStart_0 : decode cX5_takeStart 0 = .ok (.aload_n 0, 1) := by decide +kernel
theorem dX5_takeStart_1 : decode cX5_takeStart 1 = .ok (.aload_n 1, 1) := by decide +kernel
theorem dX5_takeStart_2 : decode cX5_takeStart 2 = .ok (.getfield 18, 3) := by decide +kernel
theorem dX5_takeStart_5 : decode cX5_takeStart 5 = .ok (.putfield 18, 3) := by decide +kernel
theorem dX5_takeStart_8 : decode cX5_takeStart 8 = .ok (.aload_n 1, 1) := by decide +kernel
theorem dX5_takeStart_9 : decode cX5_takeStart 9 = .ok (.getfield 9, 3) := by decide +kernel
theorem dX5_takeStart_12 : decode cX5_takeStart 12 = .ok (.iconst 0, 1) := by decide +kernel
theorem dX5_takeStart_13 : decode cX5_takeStart 13 = .ok (.aload_n 0, 1) := by decide +kernel
theorem dX5_takeStart_14 : decode cX5_takeStart 14 = .ok (.getfield 9, 3) := by decide +kernel
theorem dX5_takeStart_17 : decode cX5_takeStart 17 = .ok (.iconst 0, 1) := by decide +kernel
theorem dX5_takeStart_18 : decode cX5_takeStart 18 = .ok (.iconst 2, 1) := by decide +kernel
theorem dX5_takeStart_19 : decode cX5_takeStart 19 = .ok (.invokestatic 32, 3) := by decide +kernel
theorem dX5_takeStart_22 : decode cX5_takeStart 22 = .ok (.aload_n 0, 1) := by decide +kernel
theorem dX5_takeStart_23 : decode cX5_takeStart 23 = .ok (.getfield 15, 3) := by decide +kernel
theorem dX5_takeStart_26 : decode cX5_takeStart 26 = .ok (.iconst 0, 1) := by decide +kernel
theorem dX5_takeStart_27 : decode cX5_takeStart 27 = .ok (.iload_n 2, 1) := by decide +kernel
theorem dX5_takeStart_28 : decode cX5_takeStart 28 = .ok (.iastore, 1) := by decide +kernel
theorem dX5_takeStart_29 : decode cX5_takeStart 29 = .ok (.aload_n 0, 1) := by decide +kernel
theorem dX5_takeStart_30 : decode cX5_takeStart 30 = .ok (.getfield 15, 3) := by decide +kernel
theorem dX5_takeStart_33 : decode cX5_takeStart 33 = .ok (.iconst 1, 1) := by decide +kernel
theorem dX5_takeStart_34 : decode cX5_takeStart 34 = .ok (.iload_n 3, 1) := by decide +kernel
theorem dX5_takeStart_35 : decode cX5_takeStart 35 = .ok (.iastore, 1) := by decide +kernel
theorem dX5_takeStart_36 : decode cX5_takeStart 36 = .ok (.return_, 1) := by decide +kernel
theorem dX5_dropStart_0 : decode cX5_dropStart 0 = .ok (.iconst 0, 1) := by decide +kernel
theorem dX5_dropStart_1 : decode cX5_dropStart 1 = .ok (.istore_n 2, 1) := by decide +kernel
theorem dX5_dropStart_2 : decode cX5_dropStart 2 = .ok (.iload_n 2, 1) := by decide +kernel
theorem dX5_dropStart_3 : decode cX5_dropStart 3 = .ok (.iconst 2, 1) := by decide +kernel
theorem dX5_dropStart_4 : decode cX5_dropStart 4 = .ok (.if_icmp .ge 39, 3) := by decide +kernel
theorem dX5_dropStart_7 : decode cX5_dropStart 7 = .ok (.aload_n 0, 1) := by decide +kernel
theorem dX5_dropStart_8 : decode cX5_dropStart 8 = .ok (.getfield 9, 3) := by decide +kernel
theorem dX5_dropStart_11 : decode cX5_dropStart 11 = .ok (.iload_n 2, 1) := by decide +kernel
theorem dX5_dropStart_12 : decode cX5_dropStart 12 = .ok (.dup2, 1) := by decide +kernel
theorem dX5_dropStart_13 : decode cX5_dropStart 13 = .ok (.iaload, 1) := by decide +kernel
theorem dX5_dropStart_14 : decode cX5_dropStart 14 = .ok (.aload_n 1, 1) := by decide +kernel
theorem dX5_dropStart_15 : decode cX5_dropStart 15 = .ok (.getfield 15, 3) := by decide +kernel
theorem dX5_dropStart_18 : decode cX5_dropStart 18 = .ok (.iload_n 2, 1) := by decide +kernel
theorem dX5_dropStart_19 : decode cX5_dropStart 19 = .ok (.iaload, 1) := by decide +kernel
theorem dX5_dropStart_20 : decode cX5_dropStart 20 = .ok (.iadd, 1) := by decide +kernel
theorem dX5_dropStart_21 : decode cX5_dropStart 21 = .ok (.iastore, 1) := by decide +kernel
theorem dX5_dropStart_22 : decode cX5_dropStart 22 = .ok (.aload_n 0, 1) := by decide +kernel
theorem dX5_dropStart_23 : decode cX5_dropStart 23 = .ok (.getfield 15, 3) := by decide +kernel
theorem dX5_dropStart_26 : decode cX5_dropStart 26 = .ok (.iload_n 2, 1) := by decide +kernel
theorem dX5_dropStart_27 : decode cX5_dropStart 27 = .ok (.dup2, 1) := by decide +kernel
theorem dX5_dropStart_28 : decode cX5_dropStart 28 = .ok (.iaload, 1) := by decide +kernel
theorem dX5_dropStart_29 : decode cX5_dropStart 29 = .ok (.aload_n 1, 1) := by decide +kernel
theorem dX5_dropStart_30 : decode cX5_dropStart 30 = .ok (.getfield 15, 3) := by decide +kernel
theorem dX5_dropStart_33 : decode cX5_dropStart 33 = .ok (.iload_n 2, 1) := by decide +kernel
theorem dX5_dropStart_34 : decode cX5_dropStart 34 = .ok (.iaload, 1) := by decide +kernel
theorem dX5_dropStart_35 : decode cX5_dropStart 35 = .ok (.isub, 1) := by decide +kernel
theorem dX5_dropStart_36 : decode cX5_dropStart 36 = .ok (.iastore, 1) := by decide +kernel
theorem dX5_dropStart_37 : decode cX5_dropStart 37 = .ok (.iinc 2 1, 3) := by decide +kernel
theorem dX5_dropStart_40 : decode cX5_dropStart 40 = .ok (.goto (-38), 3) := by decide +kernel
theorem dX5_dropStart_43 : decode cX5_dropStart 43 = .ok (.return_, 1) := by decide +kernel
theorem dX5_isBegun_0 : decode cX5_isBegun 0 = .ok (.aload_n 0, 1) := by decide +kernel
theorem dX5_isBegun_1 : decode cX5_isBegun 1 = .ok (.getfield 9, 3) := by decide +kernel
theorem dX5_isBegun_4 : decode cX5_isBegun 4 = .ok (.iconst 0, 1) := by decide +kernel
theorem dX5_isBegun_5 : decode cX5_isBegun 5 = .ok (.iaload, 1) := by decide +kernel
theorem dX5_isBegun_6 : decode cX5_isBegun 6 = .ok (.ifCond .le 7, 3) := by decide +kernel
theorem dX5_isBegun_9 : decode cX5_isBegun 9 = .ok (.iconst 1, 1) := by decide +kernel
theorem dX5_isBegun_10 : decode cX5_isBegun 10 = .ok (.goto 4, 3) := by decide +kernel
theorem dX5_isBegun_13 : decode cX5_isBegun 13 = .ok (.iconst 0, 1) := by decide +kernel
theorem dX5_isBegun_14 : decode cX5_isBegun 14 = .ok (.ireturn, 1) := by decide +kernel
theorem dX6_init_0 : decode cX6_init 0 = .ok (.aload_n 0, 1) := by decide +kernel
theorem dX6_init_1 : decode cX6_init 1 = .ok (.invokespecial 3, 3) := by decide +kernel
theorem dX6_init_4 : decode cX6_init 4 = .ok (.aload_n 0, 1) := by decide +kernel
theorem dX6_init_5 : decode cX6_init 5 = .ok (.iconst 0, 1) := by decide +kernel
theorem dX6_init_6 : decode cX6_init 6 = .ok (.putfield 11, 3) := by decide +kernel
theorem dX6_init_9 : decode cX6_init 9 = .ok (.aload_n 0, 1) := by decide +kernel
theorem dX6_init_10 : decode cX6_init 10 = .ok (.sipush 602, 3) := by decide +kernel
theorem dX6_init_13 : decode cX6_init 13 = .ok (.newarray .int, 2) := by decide +kernel
theorem dX6_init_15 : decode cX6_init 15 = .ok (.putfield 15, 3) := by decide +kernel
theorem dX6_init_18 : decode cX6_init 18 = .ok (.aload_n 0, 1) := by decide +kernel
theorem dX6_init_19 : decode cX6_init 19 = .ok (.sipush 601, 3) := by decide +kernel
theorem dX6_init_22 : decode cX6_init 22 = .ok (.newarray .int, 2) := by decide +kernel
theorem dX6_init_24 : decode cX6_init 24 = .ok (.putfield 19, 3) := by decide +kernel
theorem dX6_init_27 : decode cX6_init 27 = .ok (.aload_n 0, 1) := by decide +kernel
theorem dX6_init_28 : decode cX6_init 28 = .ok (.bipush 8, 2) := by decide +kernel
theorem dX6_init_30 : decode cX6_init 30 = .ok (.sipush 600, 3) := by decide +kernel
theorem dX6_init_33 : decode cX6_init 33 = .ok (.multianewarray 22 2, 4) := by decide +kernel
theorem dX6_init_37 : decode cX6_init 37 = .ok (.putfield 24, 3) := by decide +kernel
theorem dX6_init_40 : decode cX6_init 40 = .ok (.aload_n 0, 1) := by decide +kernel
theorem dX6_init_41 : decode cX6_init 41 = .ok (.bipush 7, 2) := by decide +kernel
theorem dX6_init_43 : decode cX6_init 43 = .ok (.sipush 1202, 3) := by decide +kernel
theorem dX6_init_46 : decode cX6_init 46 = .ok (.multianewarray 22 2, 4) := by decide +kernel
theorem dX6_init_50 : decode cX6_init 50 = .ok (.putfield 27, 3) := by decide +kernel
theorem dX6_init_53 : decode cX6_init 53 = .ok (.aload_n 0, 1) := by decide +kernel
theorem dX6_init_54 : decode cX6_init 54 = .ok (.new 30, 3) := by decide +kernel
theorem dX6_init_57 : decode cX6_init 57 = .ok (.dup, 1) := by decide +kernel
theorem dX6_init_58 : decode cX6_init 58 = .ok (.invokespecial 32, 3) := by decide +kernel
theorem dX6_init_61 : decode cX6_init 61 = .ok (.putfield 33, 3) := by decide +kernel
theorem dX6_init_64 : decode cX6_init 64 = .ok (.aload_n 0, 1) := by decide +kernel
theorem dX6_init_65 : decode cX6_init 65 = .ok (.new 30, 3) := by decide +kernel
theorem dX6_init_68 : decode cX6_init 68 = .ok (.dup, 1) := by decide +kernel
theorem dX6_init_69 : decode cX6_init 69 = .ok (.invokespecial 32, 3) := by decide +kernel
theorem dX6_init_72 : decode cX6_init 72 = .ok (.putfield 37, 3) := by decide +kernel
theorem dX6_init_75 : decode cX6_init 75 = .ok (.aload_n 0, 1) := by decide +kernel
theorem dX6_init_76 : decode cX6_init 76 = .ok (.new 40, 3) := by decide +kernel
theorem dX6_init_79 : decode cX6_init 79 = .ok (.dup, 1) := by decide +kernel
theorem dX6_init_80 : decode cX6_init 80 = .ok (.invokespecial 42, 3) := by decide +kernel
theorem dX6_init_83 : decode cX6_init 83 = .ok (.putfield 43, 3) := by decide +kernel
theorem dX6_init_86 : decode cX6_init 86 = .ok (.aload_n 0, 1) := by decide +kernel
theorem dX6_init_87 : decode cX6_init 87 = .ok (.new 40, 3) := by decide +kernel
theorem dX6_init_90 : decode cX6_init 90 = .ok (.dup, 1) := by decide +kernel
theorem dX6_init_91 : decode cX6_init 91 = .ok (.invokespecial 42, 3) := by decide +kernel
theorem dX6_init_94 : decode cX6_init 94 = .ok (.putfield 47, 3) := by decide +kernel
theorem dX6_init_97 : decode cX6_init 97 = .ok (.return_, 1) := by decide +kernel
theorem dX6_arrange_0 : decode cX6_arrange 0 = .ok (.aload_n 0, 1) := by decide +kernel
theorem dX6_arrange_1 : decode cX6_arrange 1 = .ok (.getfield 11, 3) := by decide +kernel
theorem dX6_arrange_4 : decode cX6_arrange 4 = .ok (.iload_n 2, 1) := by decide +kernel
theorem dX6_arrange_5 : decode cX6_arrange 5 = .ok (.if_icmp .ne 4, 3) := by decide +kernel
theorem dX6_arrange_8 : decode cX6_arrange 8 = .ok (.return_, 1) := by decide +kernel
theorem dX6_arrange_9 : decode cX6_arrange 9 = .ok (.aload_n 0, 1) := by decide +kernel
theorem dX6_arrange_10 : decode cX6_arrange 10 = .ok (.iload_n 2, 1) := by decide +kernel
theorem dX6_arrange_11 : decode cX6_arrange 11 = .ok (.putfield 11, 3) := by decide +kernel
theorem dX6_arrange_14 : decode cX6_arrange 14 = .ok (.aload_n 0, 1) := by decide +kernel
theorem dX6_arrange_15 : decode cX6_arrange 15 = .ok (.iconst 0, 1) := by decide +kernel
theorem dX6_arrange_16 : decode cX6_arrange 16 = .ok (.putfield 50, 3) := by decide +kernel
theorem dX6_arrange_19 : decode cX6_arrange 19 = .ok (.aload_n 0, 1) := by decide +kernel
theorem dX6_arrange_20 : decode cX6_arrange 20 = .ok (.iconst 0, 1) := by decide +kernel
theorem dX6_arrange_21 : decode cX6_arrange 21 = .ok (.putfield 53, 3) := by decide +kernel
theorem dX6_arrange_24 : decode cX6_arrange 24 = .ok (.aload_n 0, 1) := by decide +kernel
theorem dX6_arrange_25 : decode cX6_arrange 25 = .ok (.getfield 43, 3) := by decide +kernel
theorem dX6_arrange_28 : decode cX6_arrange 28 = .ok (.aload_n 1, 1) := by decide +kernel
theorem dX6_arrange_29 : decode cX6_arrange 29 = .ok (.iconst 0, 1) := by decide +kernel
theorem dX6_arrange_30 : decode cX6_arrange 30 = .ok (.invokevirtual 56, 3) := by decide +kernel
theorem dX6_arrange_33 : decode cX6_arrange 33 = .ok (.aload_n 0, 1) := by decide +kernel
theorem dX6_arrange_34 : decode cX6_arrange 34 = .ok (.getfield 33, 3) := by decide +kernel
theorem dX6_arrange_37 : decode cX6_arrange 37 = .ok (.iconst 0, 1) := by decide +kernel
theorem dX6_arrange_38 : decode cX6_arrange 38 = .ok (.iconst 0, 1) := by decide +kernel
theorem dX6_arrange_39 : decode cX6_arrange 39 = .ok (.iconst 0, 1) := by decide +kernel
theorem dX6_arrange_40 : decode cX6_arrange 40 = .ok (.invokevirtual 60, 3) := by decide +kernel
theorem dX6_arrange_43 : decode cX6_arrange 43 = .ok (.aload_n 0, 1) := by decide +kernel
theorem dX6_arrange_44 : decode cX6_arrange 44 = .ok (.getfield 33, 3) := by decide +kernel
theorem dX6_arrange_47 : decode cX6_arrange 47 = .ok (.iconst 1, 1) := by decide +kernel
theorem dX6_arrange_48 : decode cX6_arrange 48 = .ok (.iconst 0, 1) := by decide +kernel
theorem dX6_arrange_49 : decode cX6_arrange 49 = .ok (.iconst 0, 1) := by decide +kernel
theorem dX6_arrange_50 : decode cX6_arrange 50 = .ok (.invokevirtual 60, 3) := by decide +kernel
theorem dX6_arrange_53 : decode cX6_arrange 53 = .ok (.iconst 0, 1) := by decide +kernel
theorem dX6_arrange_54 : decode cX6_arrange 54 = .ok (.istore_n 3, 1) := by decide +kernel
theorem dX6_arrange_55 : decode cX6_arrange 55 = .ok (.iload_n 3, 1) := by decide +kernel
theorem dX6_arrange_56 : decode cX6_arrange 56 = .ok (.sipush 601, 3) := by decide +kernel
theorem dX6_arrange_59 : decode cX6_arrange 59 = .ok (.if_icmp .ge 76, 3) := by decide +kernel
theorem dX6_arrange_62 : decode cX6_arrange 62 = .ok (.aload_n 1, 1) := by decide +kernel
theorem dX6_arrange_63 : decode cX6_arrange 63 = .ok (.aload_n 0, 1) := by decide +kernel
theorem dX6_arrange_64 : decode cX6_arrange 64 = .ok (.getfield 43, 3) := by decide +kernel
theorem dX6_arrange_67 : decode cX6_arrange 67 = .ok (.getfield 64, 3) := by decide +kernel
theorem dX6_arrange_70 : decode cX6_arrange 70 = .ok (.invokevirtual 67, 3) := by decide +kernel
theorem dX6_arrange_73 : decode cX6_arrange 73 = .ok (.ifCond .ne 10, 3) := by decide +kernel
theorem dX6_arrange_76 : decode cX6_arrange 76 = .ok (.aload_n 0, 1) := by decide +kernel
theorem dX6_arrange_77 : decode cX6_arrange 77 = .ok (.invokevirtual 73, 3) := by decide +kernel
theorem dX6_arrange_80 : decode cX6_arrange 80 = .ok (.ifCond .eq 55, 3) := by decide +kernel
theorem dX6_arrange_83 : decode cX6_arrange 83 = .ok (.aload_n 0, 1) := by decide +kernel
theorem dX6_arrange_84 : decode cX6_arrange 84 = .ok (.getfield 19, 3) := by decide +kernel
theorem dX6_arrange_87 : decode cX6_arrange 87 = .ok (.aload_n 0, 1) := by decide +kernel
theorem dX6_arrange_88 : decode cX6_arrange 88 = .ok (.getfield 50, 3) := by decide +kernel
theorem dX6_arrange_91 : decode cX6_arrange 91 = .ok (.iconst 0, 1) := by decide +kernel
theorem dX6_arrange_92 : decode cX6_arrange 92 = .ok (.iastore, 1) := by decide +kernel
theorem dX6_arrange_93 : decode cX6_arrange 93 = .ok (.iconst 1, 1) := by decide +kernel
theorem dX6_arrange_94 : decode cX6_arrange 94 = .ok (.istore 4, 2) := by decide +kernel
theorem dX6_arrange_96 : decode cX6_arrange 96 = .ok (.iconst 0, 1) := by decide +kernel
theorem dX6_arrange_97 : decode cX6_arrange 97 = .ok (.istore 5, 2) := by decide +kernel
theorem dX6_arrange_99 : decode cX6_arrange 99 = .ok (.iload 4, 2) := by decide +kernel
theorem dX6_arrange_101 : decode cX6_arrange 101 = .ok (.ifCond .eq 23, 3) := by decide +kernel
theorem dX6_arrange_104 : decode cX6_arrange 104 = .ok (.iload 5, 2) := by decide +kernel
theorem dX6_arrange_106 : decode cX6_arrange 106 = .ok (.bipush 20, 2) := by decide +kernel
theorem dX6_arrange_108 : decode cX6_arrange 108 = .ok (.if_icmp .ge 16, 3) := by decide +kernel
theorem dX6_arrange_111 : decode cX6_arrange 111 = .ok (.aload_n 0, 1) := by decide +kernel
theorem dX6_arrange_112 : decode cX6_arrange 112 = .ok (.aload_n 1, 1) := by decide +kernel
theorem dX6_arrange_113 : decode cX6_arrange 113 = .ok (.invokevirtual 77, 3) := by decide +kernel
theorem dX6_arrange_116 : decode cX6_arrange 116 = .ok (.istore 4, 2) := by decide +kernel
theorem dX6_arrange_118 : decode cX6_arrange 118 = .ok (.iinc 5 1, 3) := by decide +kernel
theorem dX6_arrange_121 : decode cX6_arrange 121 = .ok (.goto (-22), 3) := by decide +kernel
theorem dX6_arrange_124 : decode cX6_arrange 124 = .ok (.aload_n 0, 1) := by decide +kernel
theorem dX6_arrange_125 : decode cX6_arrange 125 = .ok (.aload_n 1, 1) := by decide +kernel
theorem dX6_arrange_126 : decode cX6_arrange 126 = .ok (.invokevirtual 81, 3) := by decide +kernel
theorem dX6_arrange_129 : decode cX6_arrange 129 = .ok (.iinc 3 1, 3) := by decide +kernel
theorem dX6_arrange_132 : decode cX6_arrange 132 = .ok (.goto (-77), 3) := by decide +kernel
theorem dX6_arrange_135 : decode cX6_arrange 135 = .ok (.return_, 1) := by decide +kernel
theorem dX6_isCarried_0 : decode cX6_isCarried 0 = .ok (.aload_n 0, 1) := by decide +kernel
theorem dX6_isCarried_1 : decode cX6_isCarried 1 = .ok (.getfield 33, 3) := by decide +kernel
theorem dX6_isCarried_4 : decode cX6_isCarried 4 = .ok (.getfield 85, 3) := by decide +kernel
theorem dX6_isCarried_7 : decode cX6_isCarried 7 = .ok (.iconst 0, 1) := by decide +kernel
theorem dX6_isCarried_8 : decode cX6_isCarried 8 = .ok (.iaload, 1) := by decide +kernel
theorem dX6_isCarried_9 : decode cX6_isCarried 9 = .ok (.aload_n 0, 1) := by decide +kernel
theorem dX6_isCarried_10 : decode cX6_isCarried 10 = .ok (.getfield 33, 3) := by decide +kernel
theorem dX6_isCarried_13 : decode cX6_isCarried 13 = .ok (.getfield 85, 3) := by decide +kernel
theorem dX6_isCarried_16 : decode cX6_isCarried 16 = .ok (.iconst 1, 1) := by decide +kernel
theorem dX6_isCarried_17 : decode cX6_isCarried 17 = .ok (.iaload, 1) := by decide +kernel
theorem dX6_isCarried_18 : decode cX6_isCarried 18 = .ok (.iadd, 1) := by decide +kernel
theorem dX6_isCarried_19 : decode cX6_isCarried 19 = .ok (.ifCond .le 7, 3) := by decide +kernel
theorem dX6_isCarried_22 : decode cX6_isCarried 22 = .ok (.iconst 1, 1) := by decide +kernel
theorem dX6_isCarried_23 : decode cX6_isCarried 23 = .ok (.goto 4, 3) := by decide +kernel
theorem dX6_isCarried_26 : decode cX6_isCarried 26 = .ok (.iconst 0, 1) := by decide +kernel
theorem dX6_isCarried_27 : decode cX6_isCarried 27 = .ok (.ireturn, 1) := by decide +kernel
theorem dX6_putNext_0 : decode cX6_putNext 0 = .ok (.aload_n 1, 1) := by decide +kernel
theorem dX6_putNext_1 : decode cX6_putNext 1 = .ok (.aload_n 0, 1) := by decide +kernel
theorem dX6_putNext_2 : decode cX6_putNext 2 = .ok (.getfield 43, 3) := by decide +kernel
theorem dX6_putNext_5 : decode cX6_putNext 5 = .ok (.getfield 64, 3) := by decide +kernel
theorem dX6_putNext_8 : decode cX6_putNext 8 = .ok (.invokevirtual 67, 3) := by decide +kernel
theorem dX6_putNext_11 : decode cX6_putNext 11 = .ok (.ifCond .ne 5, 3) := by decide +kernel
theorem dX6_putNext_14 : decode cX6_putNext 14 = .ok (.iconst 0, 1) := by decide +kernel
theorem dX6_putNext_15 : decode cX6_putNext 15 = .ok (.ireturn, 1) := by decide +kernel
theorem dX6_putNext_16 : decode cX6_putNext 16 = .ok (.aload_n 0, 1) := by decide +kernel
theorem dX6_putNext_17 : decode cX6_putNext 17 = .ok (.getfield 53, 3) := by decide +kernel
theorem dX6_putNext_20 : decode cX6_putNext 20 = .ok (.aload_n 0, 1) := by decide +kernel
theorem dX6_putNext_21 : decode cX6_putNext 21 = .ok (.getfield 15, 3) := by decide +kernel
theorem dX6_putNext_24 : decode cX6_putNext 24 = .ok (.aload_n 0, 1) := by decide +kernel
theorem dX6_putNext_25 : decode cX6_putNext 25 = .ok (.getfield 50, 3) := by decide +kernel
theorem dX6_putNext_28 : decode cX6_putNext 28 = .ok (.iaload, 1) := by decide +kernel
theorem dX6_putNext_29 : decode cX6_putNext 29 = .ok (.if_icmp .ne 7, 3) := by decide +kernel
theorem dX6_putNext_32 : decode cX6_putNext 32 = .ok (.iconst 1, 1) := by decide +kernel
theorem dX6_putNext_33 : decode cX6_putNext 33 = .ok (.goto 4, 3) := by decide +kernel
theorem dX6_putNext_36 : decode cX6_putNext 36 = .ok (.iconst 0, 1) := by decide +kernel
theorem dX6_putNext_37 : decode cX6_putNext 37 = .ok (.istore_n 2, 1) := by decide +kernel
theorem dX6_putNext_38 : decode cX6_putNext 38 = .ok (.iload_n 2, 1) := by decide +kernel
theorem dX6_putNext_39 : decode cX6_putNext 39 = .ok (.ifCond .ne 33, 3) := by decide +kernel
theorem dX6_putNext_42 : decode cX6_putNext 42 = .ok (.aload_n 0, 1) := by decide +kernel
theorem dX6_putNext_43 : decode cX6_putNext 43 = .ok (.getfield 43, 3) := by decide +kernel
theorem dX6_putNext_46 : decode cX6_putNext 46 = .ok (.invokevirtual 88, 3) := by decide +kernel
theorem dX6_putNext_49 : decode cX6_putNext 49 = .ok (.ifCond .ne 23, 3) := by decide +kernel
theorem dX6_putNext_52 : decode cX6_putNext 52 = .ok (.aload_n 1, 1) := by decide +kernel
theorem dX6_putNext_53 : decode cX6_putNext 53 = .ok (.getfield 91, 3) := by decide +kernel
theorem dX6_putNext_56 : decode cX6_putNext 56 = .ok (.iconst 3, 1) := by decide +kernel
theorem dX6_putNext_57 : decode cX6_putNext 57 = .ok (.aaload, 1) := by decide +kernel
theorem dX6_putNext_58 : decode cX6_putNext 58 = .ok (.aload_n 0, 1) := by decide +kernel
theorem dX6_putNext_59 : decode cX6_putNext 59 = .ok (.getfield 43, 3) := by decide +kernel
theorem dX6_putNext_62 : decode cX6_putNext 62 = .ok (.getfield 64, 3) := by decide +kernel
theorem dX6_putNext_65 : decode cX6_putNext 65 = .ok (.iaload, 1) := by decide +kernel
theorem dX6_putNext_66 : decode cX6_putNext 66 = .ok (.iconst 1, 1) := by decide +kernel
theorem dX6_putNext_67 : decode cX6_putNext 67 = .ok (.if_icmp .ne 5, 3) := by decide +kernel
theorem dX6_putNext_70 : decode cX6_putNext 70 = .ok (.iconst 0, 1) := by decide +kernel
theorem dX6_putNext_71 : decode cX6_putNext 71 = .ok (.ireturn, 1) := by decide +kernel
theorem dX6_putNext_72 : decode cX6_putNext 72 = .ok (.aload_n 0, 1) := by decide +kernel
theorem dX6_putNext_73 : decode cX6_putNext 73 = .ok (.aload_n 1, 1) := by decide +kernel
theorem dX6_putNext_74 : decode cX6_putNext 74 = .ok (.aload_n 0, 1) := by decide +kernel
theorem dX6_putNext_75 : decode cX6_putNext 75 = .ok (.getfield 43, 3) := by decide +kernel
theorem dX6_putNext_78 : decode cX6_putNext 78 = .ok (.invokevirtual 94, 3) := by decide +kernel
theorem dX6_putNext_81 : decode cX6_putNext 81 = .ok (.ifCond .eq 10, 3) := by decide +kernel
theorem dX6_putNext_84 : decode cX6_putNext 84 = .ok (.aload_n 0, 1) := by decide +kernel
theorem dX6_putNext_85 : decode cX6_putNext 85 = .ok (.aload_n 1, 1) := by decide +kernel
theorem dX6_putNext_86 : decode cX6_putNext 86 = .ok (.invokevirtual 98, 3) := by decide +kernel
theorem dX6_putNext_89 : decode cX6_putNext 89 = .ok (.iconst 1, 1) := by decide +kernel
theorem dX6_putNext_90 : decode cX6_putNext 90 = .ok (.ireturn, 1) := by decide +kernel
theorem dX6_putNext_91 : decode cX6_putNext 91 = .ok (.aload_n 1, 1) := by decide +kernel
theorem dX6_putNext_92 : decode cX6_putNext 92 = .ok (.getfield 91, 3) := by decide +kernel
theorem dX6_putNext_95 : decode cX6_putNext 95 = .ok (.iconst 2, 1) := by decide +kernel
theorem dX6_putNext_96 : decode cX6_putNext 96 = .ok (.aaload, 1) := by decide +kernel
theorem dX6_putNext_97 : decode cX6_putNext 97 = .ok (.aload_n 0, 1) := by decide +kernel
theorem dX6_putNext_98 : decode cX6_putNext 98 = .ok (.getfield 43, 3) := by decide +kernel
theorem dX6_putNext_101 : decode cX6_putNext 101 = .ok (.getfield 64, 3) := by decide +kernel
theorem dX6_putNext_104 : decode cX6_putNext 104 = .ok (.iaload, 1) := by decide +kernel
theorem dX6_putNext_105 : decode cX6_putNext 105 = .ok (.ifCond .ne 35, 3) := by decide +kernel
theorem dX6_putNext_108 : decode cX6_putNext 108 = .ok (.aload_n 0, 1) := by decide +kernel
theorem dX6_putNext_109 : decode cX6_putNext 109 = .ok (.aload_n 1, 1) := by decide +kernel
theorem dX6_putNext_110 : decode cX6_putNext 110 = .ok (.invokevirtual 101, 3) := by decide +kernel
theorem dX6_putNext_113 : decode cX6_putNext 113 = .ok (.ifCond .eq 27, 3) := by decide +kernel
theorem dX6_putNext_116 : decode cX6_putNext 116 = .ok (.aload_n 0, 1) := by decide +kernel
theorem dX6_putNext_117 : decode cX6_putNext 117 = .ok (.aload_n 1, 1) := by decide +kernel
theorem dX6_putNext_118 : decode cX6_putNext 118 = .ok (.aload_n 0, 1) := by decide +kernel
theorem dX6_putNext_119 : decode cX6_putNext 119 = .ok (.getfield 47, 3) := by decide +kernel
theorem dX6_putNext_122 : decode cX6_putNext 122 = .ok (.iconst 1, 1) := by decide +kernel
theorem dX6_putNext_123 : decode cX6_putNext 123 = .ok (.invokevirtual 104, 3) := by decide +kernel
theorem dX6_putNext_126 : decode cX6_putNext 126 = .ok (.aload_n 0, 1) := by decide +kernel
theorem dX6_putNext_127 : decode cX6_putNext 127 = .ok (.getfield 43, 3) := by decide +kernel
theorem dX6_putNext_130 : decode cX6_putNext 130 = .ok (.aload_n 0, 1) := by decide +kernel
theorem dX6_putNext_131 : decode cX6_putNext 131 = .ok (.getfield 47, 3) := by decide +kernel
theorem dX6_putNext_134 : decode cX6_putNext 134 = .ok (.invokevirtual 108, 3) := by decide +kernel
theorem dX6_putNext_137 : decode cX6_putNext 137 = .ok (.goto 22, 3) := by decide +kernel
theorem dX6_putNext_140 : decode cX6_putNext 140 = .ok (.iload_n 2, 1) := by decide +kernel
theorem dX6_putNext_141 : decode cX6_putNext 141 = .ok (.ifCond .eq 18, 3) := by decide +kernel
theorem dX6_putNext_144 : decode cX6_putNext 144 = .ok (.aload_n 0, 1) := by decide +kernel
theorem dX6_putNext_145 : decode cX6_putNext 145 = .ok (.getfield 19, 3) := by decide +kernel
theorem dX6_putNext_148 : decode cX6_putNext 148 = .ok (.aload_n 0, 1) := by decide +kernel
theorem dX6_putNext_149 : decode cX6_putNext 149 = .ok (.getfield 50, 3) := by decide +kernel
theorem dX6_putNext_152 : decode cX6_putNext 152 = .ok (.iconst 1, 1) := by decide +kernel
theorem dX6_putNext_153 : decode cX6_putNext 153 = .ok (.iastore, 1) := by decide +kernel
theorem dX6_putNext_154 : decode cX6_putNext 154 = .ok (.aload_n 0, 1) := by decide +kernel
theorem dX6_putNext_155 : decode cX6_putNext 155 = .ok (.aload_n 1, 1) := by decide +kernel
theorem dX6_putNext_156 : decode cX6_putNext 156 = .ok (.invokevirtual 98, 3) := by decide +kernel
theorem dX6_putNext_159 : decode cX6_putNext 159 = .ok (.iconst 0, 1) := by decide +kernel
theorem dX6_putNext_160 : decode cX6_putNext 160 = .ok (.ireturn, 1) := by decide +kernel
theorem dX6_putRest_0 : decode cX6_putRest 0 = .ok (.aload_n 0, 1) := by decide +kernel
theorem dX6_putRest_1 : decode cX6_putRest 1 = .ok (.aload_n 1, 1) := by decide +kernel
theorem dX6_putRest_2 : decode cX6_putRest 2 = .ok (.aload_n 0, 1) := by decide +kernel
theorem dX6_putRest_3 : decode cX6_putRest 3 = .ok (.getfield 43, 3) := by decide +kernel
theorem dX6_putRest_6 : decode cX6_putRest 6 = .ok (.iconst 0, 1) := by decide +kernel
theorem dX6_putRest_7 : decode cX6_putRest 7 = .ok (.invokevirtual 104, 3) := by decide +kernel
theorem dX6_putRest_10 : decode cX6_putRest 10 = .ok (.aload_n 0, 1) := by decide +kernel
theorem dX6_putRest_11 : decode cX6_putRest 11 = .ok (.getfield 43, 3) := by decide +kernel
theorem dX6_putRest_14 : decode cX6_putRest 14 = .ok (.aload_n 1, 1) := by decide +kernel
theorem dX6_putRest_15 : decode cX6_putRest 15 = .ok (.aload_n 0, 1) := by decide +kernel
theorem dX6_putRest_16 : decode cX6_putRest 16 = .ok (.getfield 43, 3) := by decide +kernel
theorem dX6_putRest_19 : decode cX6_putRest 19 = .ok (.getfield 64, 3) := by decide +kernel
theorem dX6_putRest_22 : decode cX6_putRest 22 = .ok (.iconst 1, 1) := by decide +kernel
theorem dX6_putRest_23 : decode cX6_putRest 23 = .ok (.iadd, 1) := by decide +kernel
theorem dX6_putRest_24 : decode cX6_putRest 24 = .ok (.invokevirtual 56, 3) := by decide +kernel
theorem dX6_putRest_27 : decode cX6_putRest 27 = .ok (.return_, 1) := by decide +kernel
theorem dX6_fits_0 : decode cX6_fits 0 = .ok (.aload_n 0, 1) := by decide +kernel
theorem dX6_fits_1 : decode cX6_fits 1 = .ok (.getfield 37, 3) := by decide +kernel
theorem dX6_fits_4 : decode cX6_fits 4 = .ok (.aload_n 0, 1) := by decide +kernel
theorem dX6_fits_5 : decode cX6_fits 5 = .ok (.getfield 33, 3) := by decide +kernel
theorem dX6_fits_8 : decode cX6_fits 8 = .ok (.invokevirtual 112, 3) := by decide +kernel
theorem dX6_fits_11 : decode cX6_fits 11 = .ok (.aload_n 0, 1) := by decide +kernel
theorem dX6_fits_12 : decode cX6_fits 12 = .ok (.getfield 37, 3) := by decide +kernel
theorem dX6_fits_15 : decode cX6_fits 15 = .ok (.aload_n 1, 1) := by decide +kernel
theorem dX6_fits_16 : decode cX6_fits 16 = .ok (.aload_n 2, 1) := by decide +kernel
theorem dX6_fits_17 : decode cX6_fits 17 = .ok (.invokevirtual 116, 3) := by decide +kernel
theorem dX6_fits_20 : decode cX6_fits 20 = .ok (.aload_n 0, 1) := by decide +kernel
theorem dX6_fits_21 : decode cX6_fits 21 = .ok (.getfield 37, 3) := by decide +kernel
theorem dX6_fits_24 : decode cX6_fits 24 = .ok (.aload_n 0, 1) := by decide +kernel
theorem dX6_fits_25 : decode cX6_fits 25 = .ok (.getfield 11, 3) := by decide +kernel
theorem dX6_fits_28 : decode cX6_fits 28 = .ok (.aload_n 1, 1) := by decide +kernel
theorem dX6_fits_29 : decode cX6_fits 29 = .ok (.getfield 120, 3) := by decide +kernel
theorem dX6_fits_32 : decode cX6_fits 32 = .ok (.iconst 2, 1) := by decide +kernel
theorem dX6_fits_33 : decode cX6_fits 33 = .ok (.iaload, 1) := by decide +kernel
theorem dX6_fits_34 : decode cX6_fits 34 = .ok (.aload_n 1, 1) := by decide +kernel
theorem dX6_fits_35 : decode cX6_fits 35 = .ok (.getfield 120, 3) := by decide +kernel
theorem dX6_fits_38 : decode cX6_fits 38 = .ok (.iconst 4, 1) := by decide +kernel
theorem dX6_fits_39 : decode cX6_fits 39 = .ok (.iaload, 1) := by decide +kernel
theorem dX6_fits_40 : decode cX6_fits 40 = .ok (.invokevirtual 123, 3) := by decide +kernel
theorem dX6_fits_43 : decode cX6_fits 43 = .ok (.ireturn, 1) := by decide +kernel
theorem dX6_findStart_0 : decode cX6_findStart 0 = .ok (.aload_n 1, 1) := by decide +kernel
theorem dX6_findStart_1 : decode cX6_findStart 1 = .ok (.getfield 120, 3) := by decide +kernel
theorem dX6_findStart_4 : decode cX6_findStart 4 = .ok (.iconst 3, 1) := by decide +kernel
theorem dX6_findStart_5 : decode cX6_findStart 5 = .ok (.iaload, 1) := by decide +kernel
theorem dX6_findStart_6 : decode cX6_findStart 6 = .ok (.istore_n 2, 1) := by decide +kernel
theorem dX6_findStart_7 : decode cX6_findStart 7 = .ok (.aload_n 0, 1) := by decide +kernel
theorem dX6_findStart_8 : decode cX6_findStart 8 = .ok (.getfield 43, 3) := by decide +kernel
theorem dX6_findStart_11 : decode cX6_findStart 11 = .ok (.getfield 126, 3) := by decide +kernel
theorem dX6_findStart_14 : decode cX6_findStart 14 = .ok (.iconst 0, 1) := by decide +kernel
theorem dX6_findStart_15 : decode cX6_findStart 15 = .ok (.iaload, 1) := by decide +kernel
theorem dX6_findStart_16 : decode cX6_findStart 16 = .ok (.istore_n 3, 1) := by decide +kernel
theorem dX6_findStart_17 : decode cX6_findStart 17 = .ok (.aload_n 0, 1) := by decide +kernel
theorem dX6_findStart_18 : decode cX6_findStart 18 = .ok (.getfield 43, 3) := by decide +kernel
theorem dX6_findStart_21 : decode cX6_findStart 21 = .ok (.getfield 126, 3) := by decide +kernel
theorem dX6_findStart_24 : decode cX6_findStart 24 = .ok (.iconst 1, 1) := by decide +kernel
theorem dX6_findStart_25 : decode cX6_findStart 25 = .ok (.iaload, 1) := by decide +kernel
theorem dX6_findStart_26 : decode cX6_findStart 26 = .ok (.istore 4, 2) := by decide +kernel
theorem dX6_findStart_28 : decode cX6_findStart 28 = .ok (.iload_n 3, 1) := by decide +kernel
theorem dX6_findStart_29 : decode cX6_findStart 29 = .ok (.ifCond .gt 5, 3) := by decide +kernel
theorem dX6_findStart_32 : decode cX6_findStart 32 = .ok (.iconst 0, 1) := by decide +kernel
theorem dX6_findStart_33 : decode cX6_findStart 33 = .ok (.ireturn, 1) := by decide +kernel
theorem dX6_findStart_34 : decode cX6_findStart 34 = .ok (.iload_n 3, 1) := by decide +kernel
theorem dX6_findStart_35 : decode cX6_findStart 35 = .ok (.iload_n 2, 1) := by decide +kernel
theorem dX6_findStart_36 : decode cX6_findStart 36 = .ok (.isub, 1) := by decide +kernel
theorem dX6_findStart_37 : decode cX6_findStart 37 = .ok (.aload_n 0, 1) := by decide +kernel
theorem dX6_findStart_38 : decode cX6_findStart 38 = .ok (.getfield 11, 3) := by decide +kernel
theorem dX6_findStart_41 : decode cX6_findStart 41 = .ok (.aload_n 0, 1) := by decide +kernel
theorem dX6_findStart_42 : decode cX6_findStart 42 = .ok (.getfield 33, 3) := by decide +kernel
theorem dX6_findStart_45 : decode cX6_findStart 45 = .ok (.getfield 129, 3) := by decide +kernel
theorem dX6_findStart_48 : decode cX6_findStart 48 = .ok (.iconst 0, 1) := by decide +kernel
theorem dX6_findStart_49 : decode cX6_findStart 49 = .ok (.iaload, 1) := by decide +kernel
theorem dX6_findStart_50 : decode cX6_findStart 50 = .ok (.isub, 1) := by decide +kernel
theorem dX6_findStart_51 : decode cX6_findStart 51 = .ok (.invokestatic 132, 3) := by decide +kernel
theorem dX6_findStart_54 : decode cX6_findStart 54 = .ok (.istore 5, 2) := by decide +kernel
theorem dX6_findStart_56 : decode cX6_findStart 56 = .ok (.iload 5, 2) := by decide +kernel
theorem dX6_findStart_58 : decode cX6_findStart 58 = .ok (.istore 6, 2) := by decide +kernel
theorem dX6_findStart_60 : decode cX6_findStart 60 = .ok (.iload 6, 2) := by decide +kernel
theorem dX6_findStart_62 : decode cX6_findStart 62 = .ok (.iload_n 2, 1) := by decide +kernel
theorem dX6_findStart_63 : decode cX6_findStart 63 = .ok (.if_icmp .lt 68, 3) := by decide +kernel
theorem dX6_findStart_66 : decode cX6_findStart 66 = .ok (.iconst 2, 1) := by decide +kernel
theorem dX6_findStart_67 : decode cX6_findStart 67 = .ok (.iload 6, 2) := by decide +kernel
theorem dX6_findStart_69 : decode cX6_findStart 69 = .ok (.imul, 1) := by decide +kernel
theorem dX6_findStart_70 : decode cX6_findStart 70 = .ok (.iload 4, 2) := by decide +kernel
theorem dX6_findStart_72 : decode cX6_findStart 72 = .ok (.imul, 1) := by decide +kernel
theorem dX6_findStart_73 : decode cX6_findStart 73 = .ok (.iload_n 3, 1) := by decide +kernel
theorem dX6_findStart_74 : decode cX6_findStart 74 = .ok (.iadd, 1) := by decide +kernel
theorem dX6_findStart_75 : decode cX6_findStart 75 = .ok (.iconst 2, 1) := by decide +kernel
theorem dX6_findStart_76 : decode cX6_findStart 76 = .ok (.iload_n 3, 1) := by decide +kernel
theorem dX6_findStart_77 : decode cX6_findStart 77 = .ok (.imul, 1) := by decide +kernel
theorem dX6_findStart_78 : decode cX6_findStart 78 = .ok (.idiv, 1) := by decide +kernel
theorem dX6_findStart_79 : decode cX6_findStart 79 = .ok (.istore 7, 2) := by decide +kernel
theorem dX6_findStart_81 : decode cX6_findStart 81 = .ok (.iload 7, 2) := by decide +kernel
theorem dX6_findStart_83 : decode cX6_findStart 83 = .ok (.iload_n 2, 1) := by decide +kernel
theorem dX6_findStart_84 : decode cX6_findStart 84 = .ok (.if_icmp .lt 41, 3) := by decide +kernel
theorem dX6_findStart_87 : decode cX6_findStart 87 = .ok (.iload 4, 2) := by decide +kernel
theorem dX6_findStart_89 : decode cX6_findStart 89 = .ok (.iload 7, 2) := by decide +kernel
theorem dX6_findStart_91 : decode cX6_findStart 91 = .ok (.isub, 1) := by decide +kernel
theorem dX6_findStart_92 : decode cX6_findStart 92 = .ok (.iload_n 2, 1) := by decide +kernel
theorem dX6_findStart_93 : decode cX6_findStart 93 = .ok (.if_icmp .lt 32, 3) := by decide +kernel
theorem dX6_findStart_96 : decode cX6_findStart 96 = .ok (.aload_n 0, 1) := by decide +kernel
theorem dX6_findStart_97 : decode cX6_findStart 97 = .ok (.getfield 47, 3) := by decide +kernel
theorem dX6_findStart_100 : decode cX6_findStart 100 = .ok (.aload_n 0, 1) := by decide +kernel
theorem dX6_findStart_101 : decode cX6_findStart 101 = .ok (.getfield 43, 3) := by decide +kernel
theorem dX6_findStart_104 : decode cX6_findStart 104 = .ok (.iload 6, 2) := by decide +kernel
theorem dX6_findStart_106 : decode cX6_findStart 106 = .ok (.iload 7, 2) := by decide +kernel
theorem dX6_findStart_108 : decode cX6_findStart 108 = .ok (.invokevirtual 138, 3) := by decide +kernel
theorem dX6_findStart_111 : decode cX6_findStart 111 = .ok (.aload_n 0, 1) := by decide +kernel
theorem dX6_findStart_112 : decode cX6_findStart 112 = .ok (.aload_n 1, 1) := by decide +kernel
theorem dX6_findStart_113 : decode cX6_findStart 113 = .ok (.aload_n 0, 1) := by decide +kernel
theorem dX6_findStart_114 : decode cX6_findStart 114 = .ok (.getfield 47, 3) := by decide +kernel
theorem dX6_findStart_117 : decode cX6_findStart 117 = .ok (.invokevirtual 94, 3) := by decide +kernel
theorem dX6_findStart_120 : decode cX6_findStart 120 = .ok (.ifCond .eq 5, 3) := by decide +kernel
theorem dX6_findStart_123 : decode cX6_findStart 123 = .ok (.iconst 1, 1) := by decide +kernel
theorem dX6_findStart_124 : decode cX6_findStart 124 = .ok (.ireturn, 1) := by decide +kernel
theorem dX6_findStart_125 : decode cX6_findStart 125 = .ok (.iinc 6 (-1), 3) := by decide +kernel
theorem dX6_findStart_128 : decode cX6_findStart 128 = .ok (.goto (-68), 3) := by decide +kernel
theorem dX6_findStart_131 : decode cX6_findStart 131 = .ok (.iconst 0, 1) := by decide +kernel
theorem dX6_findStart_132 : decode cX6_findStart 132 = .ok (.ireturn, 1) := by decide +kernel
theorem dX6_addSegment_0 : decode cX6_addSegment 0 = .ok (.aload_n 0, 1) := by decide +kernel
theorem dX6_addSegment_1 : decode cX6_addSegment 1 = .ok (.getfield 53, 3) := by decide +kernel
theorem dX6_addSegment_4 : decode cX6_addSegment 4 = .ok (.sipush 600, 3) := by decide +kernel
theorem dX6_addSegment_7 : decode cX6_addSegment 7 = .ok (.if_icmp .lt 4, 3) := by decide +kernel
theorem dX6_addSegment_10 : decode cX6_addSegment 10 = .ok (.return_, 1) := by decide +kernel
theorem dX6_addSegment_11 : decode cX6_addSegment 11 = .ok (.aload_n 0, 1) := by decide +kernel
theorem dX6_addSegment_12 : decode cX6_addSegment 12 = .ok (.getfield 24, 3) := by decide +kernel
theorem dX6_addSegment_15 : decode cX6_addSegment 15 = .ok (.iconst 0, 1) := by decide +kernel
theorem dX6_addSegment_16 : decode cX6_addSegment 16 = .ok (.aaload, 1) := by decide +kernel
theorem dX6_addSegment_17 : decode cX6_addSegment 17 = .ok (.aload_n 0, 1) := by decide +kernel
theorem dX6_addSegment_18 : decode cX6_addSegment 18 = .ok (.getfield 53, 3) := by decide +kernel
theorem dX6_addSegment_21 : decode cX6_addSegment 21 = .ok (.aload_n 2, 1) := by decide +kernel
theorem dX6_addSegment_22 : decode cX6_addSegment 22 = .ok (.getfield 64, 3) := by decide +kernel
theorem dX6_addSegment_25 : decode cX6_addSegment 25 = .ok (.iastore, 1) := by decide +kernel
theorem dX6_addSegment_26 : decode cX6_addSegment 26 = .ok (.aload_n 0, 1) := by decide +kernel
theorem dX6_addSegment_27 : decode cX6_addSegment 27 = .ok (.getfield 24, 3) := by decide +kernel
theorem dX6_addSegment_30 : decode cX6_addSegment 30 = .ok (.bipush 7, 2) := by decide +kernel
theorem dX6_addSegment_32 : decode cX6_addSegment 32 = .ok (.aaload, 1) := by decide +kernel
theorem dX6_addSegment_33 : decode cX6_addSegment 33 = .ok (.aload_n 0, 1) := by decide +kernel
theorem dX6_addSegment_34 : decode cX6_addSegment 34 = .ok (.getfield 53, 3) := by decide +kernel
theorem dX6_addSegment_37 : decode cX6_addSegment 37 = .ok (.iload_n 3, 1) := by decide +kernel
theorem dX6_addSegment_38 : decode cX6_addSegment 38 = .ok (.iastore, 1) := by decide +kernel
theorem dX6_addSegment_39 : decode cX6_addSegment 39 = .ok (.iconst 0, 1) := by decide +kernel
theorem dX6_addSegment_40 : decode cX6_addSegment 40 = .ok (.istore 4, 2) := by decide +kernel
theorem dX6_addSegment_42 : decode cX6_addSegment 42 = .ok (.iload 4, 2) := by decide +kernel
theorem dX6_addSegment_44 : decode cX6_addSegment 44 = .ok (.iconst 2, 1) := by decide +kernel
theorem dX6_addSegment_45 : decode cX6_addSegment 45 = .ok (.if_icmp .ge 81, 3) := by decide +kernel
theorem dX6_addSegment_48 : decode cX6_addSegment 48 = .ok (.aload_n 0, 1) := by decide +kernel
theorem dX6_addSegment_49 : decode cX6_addSegment 49 = .ok (.getfield 24, 3) := by decide +kernel
theorem dX6_addSegment_52 : decode cX6_addSegment 52 = .ok (.getstatic 142, 3) := by decide +kernel
theorem dX6_addSegment_55 : decode cX6_addSegment 55 = .ok (.iload 4, 2) := by decide +kernel
theorem dX6_addSegment_57 : decode cX6_addSegment 57 = .ok (.iaload, 1) := by decide +kernel
theorem dX6_addSegment_58 : decode cX6_addSegment 58 = .ok (.aaload, 1) := by decide +kernel
theorem dX6_addSegment_59 : decode cX6_addSegment 59 = .ok (.aload_n 0, 1) := by decide +kernel
theorem dX6_addSegment_60 : decode cX6_addSegment 60 = .ok (.getfield 53, 3) := by decide +kernel
theorem dX6_addSegment_63 : decode cX6_addSegment 63 = .ok (.aload_n 2, 1) := by decide +kernel
theorem dX6_addSegment_64 : decode cX6_addSegment 64 = .ok (.getfield 145, 3) := by decide +kernel
theorem dX6_addSegment_67 : decode cX6_addSegment 67 = .ok (.iload 4, 2) := by decide +kernel
theorem dX6_addSegment_69 : decode cX6_addSegment 69 = .ok (.iaload, 1) := by decide +kernel
theorem dX6_addSegment_70 : decode cX6_addSegment 70 = .ok (.iastore, 1) := by decide +kernel
theorem dX6_addSegment_71 : decode cX6_addSegment 71 = .ok (.aload_n 0, 1) := by decide +kernel
theorem dX6_addSegment_72 : decode cX6_addSegment 72 = .ok (.getfield 24, 3) := by decide +kernel
theorem dX6_addSegment_75 : decode cX6_addSegment 75 = .ok (.getstatic 148, 3) := by decide +kernel
theorem dX6_addSegment_78 : decode cX6_addSegment 78 = .ok (.iload 4, 2) := by decide +kernel
theorem dX6_addSegment_80 : decode cX6_addSegment 80 = .ok (.iaload, 1) := by decide +kernel
theorem dX6_addSegment_81 : decode cX6_addSegment 81 = .ok (.aaload, 1) := by decide +kernel
theorem dX6_addSegment_82 : decode cX6_addSegment 82 = .ok (.aload_n 0, 1) := by decide +kernel
theorem dX6_addSegment_83 : decode cX6_addSegment 83 = .ok (.getfield 53, 3) := by decide +kernel
theorem dX6_addSegment_86 : decode cX6_addSegment 86 = .ok (.aload_n 2, 1) := by decide +kernel
theorem dX6_addSegment_87 : decode cX6_addSegment 87 = .ok (.getfield 126, 3) := by decide +kernel
theorem dX6_addSegment_90 : decode cX6_addSegment 90 = .ok (.iload 4, 2) := by decide +kernel
theorem dX6_addSegment_92 : decode cX6_addSegment 92 = .ok (.iaload, 1) := by decide +kernel
theorem dX6_addSegment_93 : decode cX6_addSegment 93 = .ok (.iastore, 1) := by decide +kernel
theorem dX6_addSegment_94 : decode cX6_addSegment 94 = .ok (.aload_n 0, 1) := by decide +kernel
theorem dX6_addSegment_95 : decode cX6_addSegment 95 = .ok (.getfield 24, 3) := by decide +kernel
theorem dX6_addSegment_98 : decode cX6_addSegment 98 = .ok (.getstatic 151, 3) := by decide +kernel
theorem dX6_addSegment_101 : decode cX6_addSegment 101 = .ok (.iload 4, 2) := by decide +kernel
theorem dX6_addSegment_103 : decode cX6_addSegment 103 = .ok (.iaload, 1) := by decide +kernel
theorem dX6_addSegment_104 : decode cX6_addSegment 104 = .ok (.aaload, 1) := by decide +kernel
theorem dX6_addSegment_105 : decode cX6_addSegment 105 = .ok (.aload_n 0, 1) := by decide +kernel
theorem dX6_addSegment_106 : decode cX6_addSegment 106 = .ok (.getfield 53, 3) := by decide +kernel
theorem dX6_addSegment_109 : decode cX6_addSegment 109 = .ok (.aload_n 0, 1) := by decide +kernel
theorem dX6_addSegment_110 : decode cX6_addSegment 110 = .ok (.getfield 33, 3) := by decide +kernel
theorem dX6_addSegment_113 : decode cX6_addSegment 113 = .ok (.getfield 129, 3) := by decide +kernel
theorem dX6_addSegment_116 : decode cX6_addSegment 116 = .ok (.iload 4, 2) := by decide +kernel
theorem dX6_addSegment_118 : decode cX6_addSegment 118 = .ok (.iaload, 1) := by decide +kernel
theorem dX6_addSegment_119 : decode cX6_addSegment 119 = .ok (.iastore, 1) := by decide +kernel
theorem dX6_addSegment_120 : decode cX6_addSegment 120 = .ok (.iinc 4 1, 3) := by decide +kernel
theorem dX6_addSegment_123 : decode cX6_addSegment 123 = .ok (.goto (-81), 3) := by decide +kernel
theorem dX6_addSegment_126 : decode cX6_addSegment 126 = .ok (.aload_n 0, 1) := by decide +kernel
theorem dX6_addSegment_127 : decode cX6_addSegment 127 = .ok (.dup, 1) := by decide +kernel
theorem dX6_addSegment_128 : decode cX6_addSegment 128 = .ok (.getfield 53, 3) := by decide +kernel
theorem dX6_addSegment_131 : decode cX6_addSegment 131 = .ok (.iconst 1, 1) := by decide +kernel
theorem dX6_addSegment_132 : decode cX6_addSegment 132 = .ok (.iadd, 1) := by decide +kernel
theorem dX6_addSegment_133 : decode cX6_addSegment 133 = .ok (.putfield 53, 3) := by decide +kernel
theorem dX6_addSegment_136 : decode cX6_addSegment 136 = .ok (.aload_n 0, 1) := by decide +kernel
theorem dX6_addSegment_137 : decode cX6_addSegment 137 = .ok (.getfield 33, 3) := by decide +kernel
theorem dX6_addSegment_140 : decode cX6_addSegment 140 = .ok (.aload_n 1, 1) := by decide +kernel
theorem dX6_addSegment_141 : decode cX6_addSegment 141 = .ok (.aload_n 2, 1) := by decide +kernel
theorem dX6_addSegment_142 : decode cX6_addSegment 142 = .ok (.invokevirtual 116, 3) := by decide +kernel
theorem dX6_addSegment_145 : decode cX6_addSegment 145 = .ok (.return_, 1) := by decide +kernel
theorem dX6_endSpread_0 : decode cX6_endSpread 0 = .ok (.iconst 0, 1) := by decide +kernel
theorem dX6_endSpread_1 : decode cX6_endSpread 1 = .ok (.istore_n 2, 1) := by decide +kernel
theorem dX6_endSpread_2 : decode cX6_endSpread 2 = .ok (.iload_n 2, 1) := by decide +kernel
theorem dX6_endSpread_3 : decode cX6_endSpread 3 = .ok (.iconst 2, 1) := by decide +kernel
theorem dX6_endSpread_4 : decode cX6_endSpread 4 = .ok (.if_icmp .ge 198, 3) := by decide +kernel
theorem dX6_endSpread_7 : decode cX6_endSpread 7 = .ok (.iconst 2, 1) := by decide +kernel
theorem dX6_endSpread_8 : decode cX6_endSpread 8 = .ok (.aload_n 0, 1) := by decide +kernel
theorem dX6_endSpread_9 : decode cX6_endSpread 9 = .ok (.getfield 50, 3) := by decide +kernel
theorem dX6_endSpread_12 : decode cX6_endSpread 12 = .ok (.imul, 1) := by decide +kernel
theorem dX6_endSpread_13 : decode cX6_endSpread 13 = .ok (.iload_n 2, 1) := by decide +kernel
theorem dX6_endSpread_14 : decode cX6_endSpread 14 = .ok (.iadd, 1) := by decide +kernel
theorem dX6_endSpread_15 : decode cX6_endSpread 15 = .ok (.istore_n 3, 1) := by decide +kernel
theorem dX6_endSpread_16 : decode cX6_endSpread 16 = .ok (.aload_n 0, 1) := by decide +kernel
theorem dX6_endSpread_17 : decode cX6_endSpread 17 = .ok (.getfield 33, 3) := by decide +kernel
theorem dX6_endSpread_20 : decode cX6_endSpread 20 = .ok (.iload_n 2, 1) := by decide +kernel
theorem dX6_endSpread_21 : decode cX6_endSpread 21 = .ok (.aload_n 1, 1) := by decide +kernel
theorem dX6_endSpread_22 : decode cX6_endSpread 22 = .ok (.aload_n 0, 1) := by decide +kernel
theorem dX6_endSpread_23 : decode cX6_endSpread 23 = .ok (.getfield 11, 3) := by decide +kernel
theorem dX6_endSpread_26 : decode cX6_endSpread 26 = .ok (.invokevirtual 154, 3) := by decide +kernel
theorem dX6_endSpread_29 : decode cX6_endSpread 29 = .ok (.istore 4, 2) := by decide +kernel
theorem dX6_endSpread_31 : decode cX6_endSpread 31 = .ok (.aload_n 0, 1) := by decide +kernel
theorem dX6_endSpread_32 : decode cX6_endSpread 32 = .ok (.getfield 33, 3) := by decide +kernel
theorem dX6_endSpread_35 : decode cX6_endSpread 35 = .ok (.iload_n 2, 1) := by decide +kernel
theorem dX6_endSpread_36 : decode cX6_endSpread 36 = .ok (.aload_n 1, 1) := by decide +kernel
theorem dX6_endSpread_37 : decode cX6_endSpread 37 = .ok (.getfield 120, 3) := by decide +kernel
theorem dX6_endSpread_40 : decode cX6_endSpread 40 = .ok (.iconst 2, 1) := by decide +kernel
theorem dX6_endSpread_41 : decode cX6_endSpread 41 = .ok (.iaload, 1) := by decide +kernel
theorem dX6_endSpread_42 : decode cX6_endSpread 42 = .ok (.iload 4, 2) := by decide +kernel
theorem dX6_endSpread_44 : decode cX6_endSpread 44 = .ok (.invokevirtual 158, 3) := by decide +kernel
theorem dX6_endSpread_47 : decode cX6_endSpread 47 = .ok (.istore 5, 2) := by decide +kernel
theorem dX6_endSpread_49 : decode cX6_endSpread 49 = .ok (.aload_n 0, 1) := by decide +kernel
theorem dX6_endSpread_50 : decode cX6_endSpread 50 = .ok (.getfield 27, 3) := by decide +kernel
theorem dX6_endSpread_53 : decode cX6_endSpread 53 = .ok (.iconst 0, 1) := by decide +kernel
theorem dX6_endSpread_54 : decode cX6_endSpread 54 = .ok (.aaload, 1) := by decide +kernel
theorem dX6_endSpread_55 : decode cX6_endSpread 55 = .ok (.iload_n 3, 1) := by decide +kernel
theorem dX6_endSpread_56 : decode cX6_endSpread 56 = .ok (.aload_n 0, 1) := by decide +kernel
theorem dX6_endSpread_57 : decode cX6_endSpread 57 = .ok (.getfield 33, 3) := by decide +kernel
theorem dX6_endSpread_60 : decode cX6_endSpread 60 = .ok (.getfield 162, 3) := by decide +kernel
theorem dX6_endSpread_63 : decode cX6_endSpread 63 = .ok (.iload_n 2, 1) := by decide +kernel
theorem dX6_endSpread_64 : decode cX6_endSpread 64 = .ok (.iaload, 1) := by decide +kernel
theorem dX6_endSpread_65 : decode cX6_endSpread 65 = .ok (.iastore, 1) := by decide +kernel
theorem dX6_endSpread_66 : decode cX6_endSpread 66 = .ok (.aload_n 0, 1) := by decide +kernel
theorem dX6_endSpread_67 : decode cX6_endSpread 67 = .ok (.getfield 27, 3) := by decide +kernel
theorem dX6_endSpread_70 : decode cX6_endSpread 70 = .ok (.iconst 1, 1) := by decide +kernel
theorem dX6_endSpread_71 : decode cX6_endSpread 71 = .ok (.aaload, 1) := by decide +kernel
theorem dX6_endSpread_72 : decode cX6_endSpread 72 = .ok (.iload_n 3, 1) := by decide +kernel
theorem dX6_endSpread_73 : decode cX6_endSpread 73 = .ok (.iload 5, 2) := by decide +kernel
theorem dX6_endSpread_75 : decode cX6_endSpread 75 = .ok (.iastore, 1) := by decide +kernel
theorem dX6_endSpread_76 : decode cX6_endSpread 76 = .ok (.aload_n 0, 1) := by decide +kernel
theorem dX6_endSpread_77 : decode cX6_endSpread 77 = .ok (.getfield 27, 3) := by decide +kernel
theorem dX6_endSpread_80 : decode cX6_endSpread 80 = .ok (.iconst 2, 1) := by decide +kernel
theorem dX6_endSpread_81 : decode cX6_endSpread 81 = .ok (.aaload, 1) := by decide +kernel
theorem dX6_endSpread_82 : decode cX6_endSpread 82 = .ok (.iload_n 3, 1) := by decide +kernel
theorem dX6_endSpread_83 : decode cX6_endSpread 83 = .ok (.iconst 0, 1) := by decide +kernel
theorem dX6_endSpread_84 : decode cX6_endSpread 84 = .ok (.aload_n 0, 1) := by decide +kernel
theorem dX6_endSpread_85 : decode cX6_endSpread 85 = .ok (.getfield 11, 3) := by decide +kernel
theorem dX6_endSpread_88 : decode cX6_endSpread 88 = .ok (.aload_n 0, 1) := by decide +kernel
theorem dX6_endSpread_89 : decode cX6_endSpread 89 = .ok (.getfield 33, 3) := by decide +kernel
theorem dX6_endSpread_92 : decode cX6_endSpread 92 = .ok (.getfield 162, 3) := by decide +kernel
theorem dX6_endSpread_95 : decode cX6_endSpread 95 = .ok (.iload_n 2, 1) := by decide +kernel
theorem dX6_endSpread_96 : decode cX6_endSpread 96 = .ok (.iaload, 1) := by decide +kernel
theorem dX6_endSpread_97 : decode cX6_endSpread 97 = .ok (.isub, 1) := by decide +kernel
theorem dX6_endSpread_98 : decode cX6_endSpread 98 = .ok (.iload 5, 2) := by decide +kernel
theorem dX6_endSpread_100 : decode cX6_endSpread 100 = .ok (.isub, 1) := by decide +kernel
theorem dX6_endSpread_101 : decode cX6_endSpread 101 = .ok (.invokestatic 165, 3) := by decide +kernel
theorem dX6_endSpread_104 : decode cX6_endSpread 104 = .ok (.iastore, 1) := by decide +kernel
theorem dX6_endSpread_105 : decode cX6_endSpread 105 = .ok (.aload_n 0, 1) := by decide +kernel
theorem dX6_endSpread_106 : decode cX6_endSpread 106 = .ok (.getfield 27, 3) := by decide +kernel
theorem dX6_endSpread_109 : decode cX6_endSpread 109 = .ok (.iconst 3, 1) := by decide +kernel
theorem dX6_endSpread_110 : decode cX6_endSpread 110 = .ok (.aaload, 1) := by decide +kernel
theorem dX6_endSpread_111 : decode cX6_endSpread 111 = .ok (.iload_n 3, 1) := by decide +kernel
theorem dX6_endSpread_112 : decode cX6_endSpread 112 = .ok (.aload_n 0, 1) := by decide +kernel
theorem dX6_endSpread_113 : decode cX6_endSpread 113 = .ok (.getfield 33, 3) := by decide +kernel
theorem dX6_endSpread_116 : decode cX6_endSpread 116 = .ok (.getfield 85, 3) := by decide +kernel
theorem dX6_endSpread_119 : decode cX6_endSpread 119 = .ok (.iload_n 2, 1) := by decide +kernel
theorem dX6_endSpread_120 : decode cX6_endSpread 120 = .ok (.iaload, 1) := by decide +kernel
theorem dX6_endSpread_121 : decode cX6_endSpread 121 = .ok (.iastore, 1) := by decide +kernel
theorem dX6_endSpread_122 : decode cX6_endSpread 122 = .ok (.aload_n 0, 1) := by decide +kernel
theorem dX6_endSpread_123 : decode cX6_endSpread 123 = .ok (.getfield 27, 3) := by decide +kernel
theorem dX6_endSpread_126 : decode cX6_endSpread 126 = .ok (.iconst 4, 1) := by decide +kernel
theorem dX6_endSpread_127 : decode cX6_endSpread 127 = .ok (.aaload, 1) := by decide +kernel
theorem dX6_endSpread_128 : decode cX6_endSpread 128 = .ok (.iload_n 3, 1) := by decide +kernel
theorem dX6_endSpread_129 : decode cX6_endSpread 129 = .ok (.iload 4, 2) := by decide +kernel
theorem dX6_endSpread_131 : decode cX6_endSpread 131 = .ok (.iastore, 1) := by decide +kernel
theorem dX6_endSpread_132 : decode cX6_endSpread 132 = .ok (.aload_n 0, 1) := by decide +kernel
theorem dX6_endSpread_133 : decode cX6_endSpread 133 = .ok (.getfield 27, 3) := by decide +kernel
theorem dX6_endSpread_136 : decode cX6_endSpread 136 = .ok (.iconst 5, 1) := by decide +kernel
theorem dX6_endSpread_137 : decode cX6_endSpread 137 = .ok (.aaload, 1) := by decide +kernel
theorem dX6_endSpread_138 : decode cX6_endSpread 138 = .ok (.iload_n 3, 1) := by decide +kernel
theorem dX6_endSpread_139 : decode cX6_endSpread 139 = .ok (.aload_n 0, 1) := by decide +kernel
theorem dX6_endSpread_140 : decode cX6_endSpread 140 = .ok (.getfield 33, 3) := by decide +kernel
theorem dX6_endSpread_143 : decode cX6_endSpread 143 = .ok (.getfield 168, 3) := by decide +kernel
theorem dX6_endSpread_146 : decode cX6_endSpread 146 = .ok (.iload_n 2, 1) := by decide +kernel
theorem dX6_endSpread_147 : decode cX6_endSpread 147 = .ok (.iaload, 1) := by decide +kernel
theorem dX6_endSpread_148 : decode cX6_endSpread 148 = .ok (.iastore, 1) := by decide +kernel
theorem dX6_endSpread_149 : decode cX6_endSpread 149 = .ok (.aload_n 0, 1) := by decide +kernel
theorem dX6_endSpread_150 : decode cX6_endSpread 150 = .ok (.getfield 27, 3) := by decide +kernel
theorem dX6_endSpread_153 : decode cX6_endSpread 153 = .ok (.bipush 6, 2) := by decide +kernel
theorem dX6_endSpread_155 : decode cX6_endSpread 155 = .ok (.aaload, 1) := by decide +kernel
theorem dX6_endSpread_156 : decode cX6_endSpread 156 = .ok (.iload_n 3, 1) := by decide +kernel
theorem dX6_endSpread_157 : decode cX6_endSpread 157 = .ok (.aload_n 0, 1) := by decide +kernel
theorem dX6_endSpread_158 : decode cX6_endSpread 158 = .ok (.getfield 33, 3) := by decide +kernel
theorem dX6_endSpread_161 : decode cX6_endSpread 161 = .ok (.getfield 171, 3) := by decide +kernel
theorem dX6_endSpread_164 : decode cX6_endSpread 164 = .ok (.iload_n 2, 1) := by decide +kernel
theorem dX6_endSpread_165 : decode cX6_endSpread 165 = .ok (.iaload, 1) := by decide +kernel
theorem dX6_endSpread_166 : decode cX6_endSpread 166 = .ok (.iastore, 1) := by decide +kernel
theorem dX6_endSpread_167 : decode cX6_endSpread 167 = .ok (.aload_n 0, 1) := by decide +kernel
theorem dX6_endSpread_168 : decode cX6_endSpread 168 = .ok (.getfield 33, 3) := by decide +kernel
theorem dX6_endSpread_171 : decode cX6_endSpread 171 = .ok (.iload_n 2, 1) := by decide +kernel
theorem dX6_endSpread_172 : decode cX6_endSpread 172 = .ok (.iload 4, 2) := by decide +kernel
theorem dX6_endSpread_174 : decode cX6_endSpread 174 = .ok (.aload_n 0, 1) := by decide +kernel
theorem dX6_endSpread_175 : decode cX6_endSpread 175 = .ok (.getfield 33, 3) := by decide +kernel
theorem dX6_endSpread_178 : decode cX6_endSpread 178 = .ok (.getfield 171, 3) := by decide +kernel
theorem dX6_endSpread_181 : decode cX6_endSpread 181 = .ok (.iload_n 2, 1) := by decide +kernel
theorem dX6_endSpread_182 : decode cX6_endSpread 182 = .ok (.iaload, 1) := by decide +kernel
theorem dX6_endSpread_183 : decode cX6_endSpread 183 = .ok (.aload_n 0, 1) := by decide +kernel
theorem dX6_endSpread_184 : decode cX6_endSpread 184 = .ok (.getfield 33, 3) := by decide +kernel
theorem dX6_endSpread_187 : decode cX6_endSpread 187 = .ok (.getfield 168, 3) := by decide +kernel
theorem dX6_endSpread_190 : decode cX6_endSpread 190 = .ok (.iload_n 2, 1) := by decide +kernel
theorem dX6_endSpread_191 : decode cX6_endSpread 191 = .ok (.iaload, 1) := by decide +kernel
theorem dX6_endSpread_192 : decode cX6_endSpread 192 = .ok (.iadd, 1) := by decide +kernel
theorem dX6_endSpread_193 : decode cX6_endSpread 193 = .ok (.invokevirtual 60, 3) := by decide +kernel
theorem dX6_endSpread_196 : decode cX6_endSpread 196 = .ok (.iinc 2 1, 3) := by decide +kernel
theorem dX6_endSpread_199 : decode cX6_endSpread 199 = .ok (.goto (-197), 3) := by decide +kernel
theorem dX6_endSpread_202 : decode cX6_endSpread 202 = .ok (.aload_n 0, 1) := by decide +kernel
theorem dX6_endSpread_203 : decode cX6_endSpread 203 = .ok (.dup, 1) := by decide +kernel
theorem dX6_endSpread_204 : decode cX6_endSpread 204 = .ok (.getfield 50, 3) := by decide +kernel
theorem dX6_endSpread_207 : decode cX6_endSpread 207 = .ok (.iconst 1, 1) := by decide +kernel
theorem dX6_endSpread_208 : decode cX6_endSpread 208 = .ok (.iadd, 1) := by decide +kernel
theorem dX6_endSpread_209 : decode cX6_endSpread 209 = .ok (.putfield 50, 3) := by decide +kernel
theorem dX6_endSpread_212 : decode cX6_endSpread 212 = .ok (.aload_n 0, 1) := by decide +kernel
theorem dX6_endSpread_213 : decode cX6_endSpread 213 = .ok (.getfield 15, 3) := by decide +kernel
theorem dX6_endSpread_216 : decode cX6_endSpread 216 = .ok (.aload_n 0, 1) := by decide +kernel
theorem dX6_endSpread_217 : decode cX6_endSpread 217 = .ok (.getfield 50, 3) := by decide +kernel
theorem dX6_endSpread_220 : decode cX6_endSpread 220 = .ok (.aload_n 0, 1) := by decide +kernel
theorem dX6_endSpread_221 : decode cX6_endSpread 221 = .ok (.getfield 53, 3) := by decide +kernel
theorem dX6_endSpread_224 : decode cX6_endSpread 224 = .ok (.iastore, 1) := by decide +kernel
theorem dX6_endSpread_225 : decode cX6_endSpread 225 = .ok (.return_, 1) := by decide +kernel
theorem dX6_has_0 : decode cX6_has 0 = .ok (.iload_n 1, 1) := by decide +kernel
theorem dX6_has_1 : decode cX6_has 1 = .ok (.iconst 0, 1) := by decide +kernel
theorem dX6_has_2 : decode cX6_has 2 = .ok (.aload_n 0, 1) := by decide +kernel
theorem dX6_has_3 : decode cX6_has 3 = .ok (.getfield 50, 3) := by decide +kernel
theorem dX6_has_6 : decode cX6_has 6 = .ok (.iconst 1, 1) := by decide +kernel
theorem dX6_has_7 : decode cX6_has 7 = .ok (.isub, 1) := by decide +kernel
theorem dX6_has_8 : decode cX6_has 8 = .ok (.invokestatic 174, 3) := by decide +kernel
theorem dX6_has_11 : decode cX6_has 11 = .ok (.ireturn, 1) := by decide +kernel
theorem dX6_segmentsOf_0 : decode cX6_segmentsOf 0 = .ok (.aload_n 0, 1) := by decide +kernel
theorem dX6_segmentsOf_1 : decode cX6_segmentsOf 1 = .ok (.getfield 15, 3) := by decide +kernel
theorem dX6_segmentsOf_4 : decode cX6_segmentsOf 4 = .ok (.iload_n 1, 1) := by decide +kernel
theorem dX6_segmentsOf_5 : decode cX6_segmentsOf 5 = .ok (.iconst 1, 1) := by decide +kernel
theorem dX6_segmentsOf_6 : decode cX6_segmentsOf 6 = .ok (.iadd, 1) := by decide +kernel
theorem dX6_segmentsOf_7 : decode cX6_segmentsOf 7 = .ok (.iaload, 1) := by decide +kernel
theorem dX6_segmentsOf_8 : decode cX6_segmentsOf 8 = .ok (.aload_n 0, 1) := by decide +kernel
theorem dX6_segmentsOf_9 : decode cX6_segmentsOf 9 = .ok (.getfield 15, 3) := by decide +kernel
theorem dX6_segmentsOf_12 : decode cX6_segmentsOf 12 = .ok (.iload_n 1, 1) := by decide +kernel
theorem dX6_segmentsOf_13 : decode cX6_segmentsOf 13 = .ok (.iaload, 1) := by decide +kernel
theorem dX6_segmentsOf_14 : decode cX6_segmentsOf 14 = .ok (.isub, 1) := by decide +kernel
theorem dX6_segmentsOf_15 : decode cX6_segmentsOf 15 = .ok (.ireturn, 1) := by decide +kernel
theorem dX6_segmentWith_0 : decode cX6_segmentWith 0 = .ok (.iconst 0, 1) := by decide +kernel
theorem dX6_segmentWith_1 : decode cX6_segmentWith 1 = .ok (.istore 4, 2) := by decide +kernel
theorem dX6_segmentWith_3 : decode cX6_segmentWith 3 = .ok (.iload 4, 2) := by decide +kernel
theorem dX6_segmentWith_5 : decode cX6_segmentWith 5 = .ok (.aload_n 0, 1) := by decide +kernel
theorem dX6_segmentWith_6 : decode cX6_segmentWith 6 = .ok (.getfield 53, 3) := by decide +kernel
theorem dX6_segmentWith_9 : decode cX6_segmentWith 9 = .ok (.iconst 1, 1) := by decide +kernel
theorem dX6_segmentWith_10 : decode cX6_segmentWith 10 = .ok (.isub, 1) := by decide +kernel
theorem dX6_segmentWith_11 : decode cX6_segmentWith 11 = .ok (.if_icmp .ge 21, 3) := by decide +kernel
theorem dX6_segmentWith_14 : decode cX6_segmentWith 14 = .ok (.aload_n 0, 1) := by decide +kernel
theorem dX6_segmentWith_15 : decode cX6_segmentWith 15 = .ok (.iload 4, 2) := by decide +kernel
theorem dX6_segmentWith_17 : decode cX6_segmentWith 17 = .ok (.iload_n 1, 1) := by decide +kernel
theorem dX6_segmentWith_18 : decode cX6_segmentWith 18 = .ok (.iload_n 2, 1) := by decide +kernel
theorem dX6_segmentWith_19 : decode cX6_segmentWith 19 = .ok (.iload_n 3, 1) := by decide +kernel
theorem dX6_segmentWith_20 : decode cX6_segmentWith 20 = .ok (.invokevirtual 177, 3) := by decide +kernel
theorem dX6_segmentWith_23 : decode cX6_segmentWith 23 = .ok (.ifCond .ne 9, 3) := by decide +kernel
theorem dX6_segmentWith_26 : decode cX6_segmentWith 26 = .ok (.iinc 4 1, 3) := by decide +kernel
theorem dX6_segmentWith_29 : decode cX6_segmentWith 29 = .ok (.goto (-26), 3) := by decide +kernel
theorem dX6_segmentWith_32 : decode cX6_segmentWith 32 = .ok (.iload 4, 2) := by decide +kernel
theorem dX6_segmentWith_34 : decode cX6_segmentWith 34 = .ok (.ireturn, 1) := by decide +kernel
theorem dX6_contains_0 : decode cX6_contains 0 = .ok (.iload 4, 2) := by decide +kernel
theorem dX6_contains_2 : decode cX6_contains 2 = .ok (.aload_n 0, 1) := by decide +kernel
theorem dX6_contains_3 : decode cX6_contains 3 = .ok (.getfield 24, 3) := by decide +kernel
theorem dX6_contains_6 : decode cX6_contains 6 = .ok (.getstatic 142, 3) := by decide +kernel
theorem dX6_contains_9 : decode cX6_contains 9 = .ok (.iload_n 3, 1) := by decide +kernel
theorem dX6_contains_10 : decode cX6_contains 10 = .ok (.iaload, 1) := by decide +kernel
theorem dX6_contains_11 : decode cX6_contains 11 = .ok (.aaload, 1) := by decide +kernel
theorem dX6_contains_12 : decode cX6_contains 12 = .ok (.iload_n 1, 1) := by decide +kernel
theorem dX6_contains_13 : decode cX6_contains 13 = .ok (.iaload, 1) := by decide +kernel
theorem dX6_contains_14 : decode cX6_contains 14 = .ok (.isub, 1) := by decide +kernel
theorem dX6_contains_15 : decode cX6_contains 15 = .ok (.istore 5, 2) := by decide +kernel
theorem dX6_contains_17 : decode cX6_contains 17 = .ok (.aload_n 0, 1) := by decide +kernel
theorem dX6_contains_18 : decode cX6_contains 18 = .ok (.getfield 24, 3) := by decide +kernel
theorem dX6_contains_21 : decode cX6_contains 21 = .ok (.iconst 0, 1) := by decide +kernel
theorem dX6_contains_22 : decode cX6_contains 22 = .ok (.aaload, 1) := by decide +kernel
theorem dX6_contains_23 : decode cX6_contains 23 = .ok (.iload_n 1, 1) := by decide +kernel
theorem dX6_contains_24 : decode cX6_contains 24 = .ok (.iaload, 1) := by decide +kernel
theorem dX6_contains_25 : decode cX6_contains 25 = .ok (.iload_n 2, 1) := by decide +kernel
theorem dX6_contains_26 : decode cX6_contains 26 = .ok (.if_icmp .ne 30, 3) := by decide +kernel
theorem dX6_contains_29 : decode cX6_contains 29 = .ok (.iload 5, 2) := by decide +kernel
theorem dX6_contains_31 : decode cX6_contains 31 = .ok (.iconst 0, 1) := by decide +kernel
theorem dX6_contains_32 : decode cX6_contains 32 = .ok (.aload_n 0, 1) := by decide +kernel
theorem dX6_contains_33 : decode cX6_contains 33 = .ok (.getfield 24, 3) := by decide +kernel
theorem dX6_contains_36 : decode cX6_contains 36 = .ok (.getstatic 148, 3) := by decide +kernel
theorem dX6_contains_39 : decode cX6_contains 39 = .ok (.iload_n 3, 1) := by decide +kernel
theorem dX6_contains_40 : decode cX6_contains 40 = .ok (.iaload, 1) := by decide +kernel
theorem dX6_contains_41 : decode cX6_contains 41 = .ok (.aaload, 1) := by decide +kernel
theorem dX6_contains_42 : decode cX6_contains 42 = .ok (.iload_n 1, 1) := by decide +kernel
theorem dX6_contains_43 : decode cX6_contains 43 = .ok (.iaload, 1) := by decide +kernel
theorem dX6_contains_44 : decode cX6_contains 44 = .ok (.iconst 1, 1) := by decide +kernel
theorem dX6_contains_45 : decode cX6_contains 45 = .ok (.isub, 1) := by decide +kernel
theorem dX6_contains_46 : decode cX6_contains 46 = .ok (.invokestatic 174, 3) := by decide +kernel
theorem dX6_contains_49 : decode cX6_contains 49 = .ok (.ifCond .eq 7, 3) := by decide +kernel
theorem dX6_contains_52 : decode cX6_contains 52 = .ok (.iconst 1, 1) := by decide +kernel
theorem dX6_contains_53 : decode cX6_contains 53 = .ok (.goto 4, 3) := by decide +kernel
theorem dX6_contains_56 : decode cX6_contains 56 = .ok (.iconst 0, 1) := by decide +kernel
theorem dX6_contains_57 : decode cX6_contains 57 = .ok (.ireturn, 1) := by decide +kernel
theorem dX6_spreadWith_0 : decode cX6_spreadWith 0 = .ok (.iconst 0, 1) := by decide +kernel
theorem dX6_spreadWith_1 : decode cX6_spreadWith 1 = .ok (.istore_n 2, 1) := by decide +kernel
theorem dX6_spreadWith_2 : decode cX6_spreadWith 2 = .ok (.iload_n 2, 1) := by decide +kernel
theorem dX6_spreadWith_3 : decode cX6_spreadWith 3 = .ok (.aload_n 0, 1) := by decide +kernel
theorem dX6_spreadWith_4 : decode cX6_spreadWith 4 = .ok (.getfield 50, 3) := by decide +kernel
theorem dX6_spreadWith_7 : decode cX6_spreadWith 7 = .ok (.iconst 1, 1) := by decide +kernel
theorem dX6_spreadWith_8 : decode cX6_spreadWith 8 = .ok (.isub, 1) := by decide +kernel
theorem dX6_spreadWith_9 : decode cX6_spreadWith 9 = .ok (.if_icmp .ge 21, 3) := by decide +kernel
theorem dX6_spreadWith_12 : decode cX6_spreadWith 12 = .ok (.aload_n 0, 1) := by decide +kernel
theorem dX6_spreadWith_13 : decode cX6_spreadWith 13 = .ok (.getfield 15, 3) := by decide +kernel
theorem dX6_spreadWith_16 : decode cX6_spreadWith 16 = .ok (.iload_n 2, 1) := by decide +kernel
theorem dX6_spreadWith_17 : decode cX6_spreadWith 17 = .ok (.iconst 1, 1) := by decide +kernel
theorem dX6_spreadWith_18 : decode cX6_spreadWith 18 = .ok (.iadd, 1) := by decide +kernel
theorem dX6_spreadWith_19 : decode cX6_spreadWith 19 = .ok (.iaload, 1) := by decide +kernel
theorem dX6_spreadWith_20 : decode cX6_spreadWith 20 = .ok (.iload_n 1, 1) := by decide +kernel
theorem dX6_spreadWith_21 : decode cX6_spreadWith 21 = .ok (.if_icmp .gt 9, 3) := by decide +kernel
theorem dX6_spreadWith_24 : decode cX6_spreadWith 24 = .ok (.iinc 2 1, 3) := by decide +kernel
theorem dX6_spreadWith_27 : decode cX6_spreadWith 27 = .ok (.goto (-25), 3) := by decide +kernel
theorem dX6_spreadWith_30 : decode cX6_spreadWith 30 = .ok (.iload_n 2, 1) := by decide +kernel
theorem dX6_spreadWith_31 : decode cX6_spreadWith 31 = .ok (.ireturn, 1) := by decide +kernel
theorem dX6_rowIn_0 : decode cX6_rowIn 0 = .ok (.aload_n 0, 1) := by decide +kernel
theorem dX6_rowIn_1 : decode cX6_rowIn 1 = .ok (.getfield 24, 3) := by decide +kernel
theorem dX6_rowIn_4 : decode cX6_rowIn 4 = .ok (.getstatic 151, 3) := by decide +kernel
theorem dX6_rowIn_7 : decode cX6_rowIn 7 = .ok (.iload_n 2, 1) := by decide +kernel
theorem dX6_rowIn_8 : decode cX6_rowIn 8 = .ok (.iaload, 1) := by decide +kernel
theorem dX6_rowIn_9 : decode cX6_rowIn 9 = .ok (.aaload, 1) := by decide +kernel
theorem dX6_rowIn_10 : decode cX6_rowIn 10 = .ok (.iload_n 1, 1) := by decide +kernel
theorem dX6_rowIn_11 : decode cX6_rowIn 11 = .ok (.iaload, 1) := by decide +kernel
theorem dX6_rowIn_12 : decode cX6_rowIn 12 = .ok (.iload_n 3, 1) := by decide +kernel
theorem dX6_rowIn_13 : decode cX6_rowIn 13 = .ok (.iadd, 1) := by decide +kernel
theorem dX6_rowIn_14 : decode cX6_rowIn 14 = .ok (.aload_n 0, 1) := by decide +kernel
theorem dX6_rowIn_15 : decode cX6_rowIn 15 = .ok (.getfield 24, 3) := by decide +kernel
theorem dX6_rowIn_18 : decode cX6_rowIn 18 = .ok (.getstatic 142, 3) := by decide +kernel
theorem dX6_rowIn_21 : decode cX6_rowIn 21 = .ok (.iload_n 2, 1) := by decide +kernel
theorem dX6_rowIn_22 : decode cX6_rowIn 22 = .ok (.iaload, 1) := by decide +kernel
theorem dX6_rowIn_23 : decode cX6_rowIn 23 = .ok (.aaload, 1) := by decide +kernel
theorem dX6_rowIn_24 : decode cX6_rowIn 24 = .ok (.iload_n 1, 1) := by decide +kernel
theorem dX6_rowIn_25 : decode cX6_rowIn 25 = .ok (.iaload, 1) := by decide +kernel
theorem dX6_rowIn_26 : decode cX6_rowIn 26 = .ok (.isub, 1) := by decide +kernel
theorem dX6_rowIn_27 : decode cX6_rowIn 27 = .ok (.ireturn, 1) := by decide +kernel
theorem dX6_textAt_0 : decode cX6_textAt 0 = .ok (.aload_n 0, 1) := by decide +kernel
theorem dX6_textAt_1 : decode cX6_textAt 1 = .ok (.getfield 15, 3) := by decide +kernel
theorem dX6_textAt_4 : decode cX6_textAt 4 = .ok (.iload_n 1, 1) := by decide +kernel
theorem dX6_textAt_5 : decode cX6_textAt 5 = .ok (.iaload, 1) := by decide +kernel
theorem dX6_textAt_6 : decode cX6_textAt 6 = .ok (.istore 4, 2) := by decide +kernel
theorem dX6_textAt_8 : decode cX6_textAt 8 = .ok (.iload 4, 2) := by decide +kernel
theorem dX6_textAt_10 : decode cX6_textAt 10 = .ok (.aload_n 0, 1) := by decide +kernel
theorem dX6_textAt_11 : decode cX6_textAt 11 = .ok (.getfield 15, 3) := by decide +kernel
theorem dX6_textAt_14 : decode cX6_textAt 14 = .ok (.iload_n 1, 1) := by decide +kernel
theorem dX6_textAt_15 : decode cX6_textAt 15 = .ok (.iconst 1, 1) := by decide +kernel
theorem dX6_textAt_16 : decode cX6_textAt 16 = .ok (.iadd, 1) := by decide +kernel
theorem dX6_textAt_17 : decode cX6_textAt 17 = .ok (.iaload, 1) := by decide +kernel
theorem dX6_textAt_18 : decode cX6_textAt 18 = .ok (.if_icmp .ge 88, 3) := by decide +kernel
theorem dX6_textAt_21 : decode cX6_textAt 21 = .ok (.iload_n 3, 1) := by decide +kernel
theorem dX6_textAt_22 : decode cX6_textAt 22 = .ok (.aload_n 0, 1) := by decide +kernel
theorem dX6_textAt_23 : decode cX6_textAt 23 = .ok (.getfield 24, 3) := by decide +kernel
theorem dX6_textAt_26 : decode cX6_textAt 26 = .ok (.getstatic 151, 3) := by decide +kernel
theorem dX6_textAt_29 : decode cX6_textAt 29 = .ok (.iload_n 2, 1) := by decide +kernel
theorem dX6_textAt_30 : decode cX6_textAt 30 = .ok (.iaload, 1) := by decide +kernel
theorem dX6_textAt_31 : decode cX6_textAt 31 = .ok (.aaload, 1) := by decide +kernel
theorem dX6_textAt_32 : decode cX6_textAt 32 = .ok (.iload 4, 2) := by decide +kernel
theorem dX6_textAt_34 : decode cX6_textAt 34 = .ok (.iaload, 1) := by decide +kernel
theorem dX6_textAt_35 : decode cX6_textAt 35 = .ok (.isub, 1) := by decide +kernel
theorem dX6_textAt_36 : decode cX6_textAt 36 = .ok (.istore 5, 2) := by decide +kernel
theorem dX6_textAt_38 : decode cX6_textAt 38 = .ok (.iload 5, 2) := by decide +kernel
theorem dX6_textAt_40 : decode cX6_textAt 40 = .ok (.iconst 0, 1) := by decide +kernel
theorem dX6_textAt_41 : decode cX6_textAt 41 = .ok (.aload_n 0, 1) := by decide +kernel
theorem dX6_textAt_42 : decode cX6_textAt 42 = .ok (.getfield 24, 3) := by decide +kernel
theorem dX6_textAt_45 : decode cX6_textAt 45 = .ok (.getstatic 148, 3) := by decide +kernel
theorem dX6_textAt_48 : decode cX6_textAt 48 = .ok (.iload_n 2, 1) := by decide +kernel
theorem dX6_textAt_49 : decode cX6_textAt 49 = .ok (.iaload, 1) := by decide +kernel
theorem dX6_textAt_50 : decode cX6_textAt 50 = .ok (.aaload, 1) := by decide +kernel
theorem dX6_textAt_51 : decode cX6_textAt 51 = .ok (.iload 4, 2) := by decide +kernel
theorem dX6_textAt_53 : decode cX6_textAt 53 = .ok (.iaload, 1) := by decide +kernel
theorem dX6_textAt_54 : decode cX6_textAt 54 = .ok (.iconst 1, 1) := by decide +kernel
theorem dX6_textAt_55 : decode cX6_textAt 55 = .ok (.isub, 1) := by decide +kernel
theorem dX6_textAt_56 : decode cX6_textAt 56 = .ok (.invokestatic 174, 3) := by decide +kernel
theorem dX6_textAt_59 : decode cX6_textAt 59 = .ok (.ifCond .eq 41, 3) := by decide +kernel
theorem dX6_textAt_62 : decode cX6_textAt 62 = .ok (.aload_n 0, 1) := by decide +kernel
theorem dX6_textAt_63 : decode cX6_textAt 63 = .ok (.getfield 24, 3) := by decide +kernel
theorem dX6_textAt_66 : decode cX6_textAt 66 = .ok (.getstatic 142, 3) := by decide +kernel
theorem dX6_textAt_69 : decode cX6_textAt 69 = .ok (.iload_n 2, 1) := by decide +kernel
theorem dX6_textAt_70 : decode cX6_textAt 70 = .ok (.iaload, 1) := by decide +kernel
theorem dX6_textAt_71 : decode cX6_textAt 71 = .ok (.aaload, 1) := by decide +kernel
theorem dX6_textAt_72 : decode cX6_textAt 72 = .ok (.iload 4, 2) := by decide +kernel
theorem dX6_textAt_74 : decode cX6_textAt 74 = .ok (.iaload, 1) := by decide +kernel
theorem dX6_textAt_75 : decode cX6_textAt 75 = .ok (.iload 5, 2) := by decide +kernel
theorem dX6_textAt_77 : decode cX6_textAt 77 = .ok (.iadd, 1) := by decide +kernel
theorem dX6_textAt_78 : decode cX6_textAt 78 = .ok (.istore 6, 2) := by decide +kernel
theorem dX6_textAt_80 : decode cX6_textAt 80 = .ok (.sipush 10000, 3) := by decide +kernel
theorem dX6_textAt_83 : decode cX6_textAt 83 = .ok (.bipush 100, 2) := by decide +kernel
theorem dX6_textAt_85 : decode cX6_textAt 85 = .ok (.aload_n 0, 1) := by decide +kernel
theorem dX6_textAt_86 : decode cX6_textAt 86 = .ok (.getfield 24, 3) := by decide +kernel
theorem dX6_textAt_89 : decode cX6_textAt 89 = .ok (.iconst 0, 1) := by decide +kernel
theorem dX6_textAt_90 : decode cX6_textAt 90 = .ok (.aaload, 1) := by decide +kernel
theorem dX6_textAt_91 : decode cX6_textAt 91 = .ok (.iload 4, 2) := by decide +kernel
theorem dX6_textAt_93 : decode cX6_textAt 93 = .ok (.iaload, 1) := by decide +kernel
theorem dX6_textAt_94 : decode cX6_textAt 94 = .ok (.imul, 1) := by decide +kernel
theorem dX6_textAt_95 : decode cX6_textAt 95 = .ok (.iadd, 1) := by decide +kernel
theorem dX6_textAt_96 : decode cX6_textAt 96 = .ok (.iload 6, 2) := by decide +kernel
theorem dX6_textAt_98 : decode cX6_textAt 98 = .ok (.iadd, 1) := by decide +kernel
theorem dX6_textAt_99 : decode cX6_textAt 99 = .ok (.ireturn, 1) := by decide +kernel
theorem dX6_textAt_100 : decode cX6_textAt 100 = .ok (.iinc 4 1, 3) := by decide +kernel
theorem dX6_textAt_103 : decode cX6_textAt 103 = .ok (.goto (-95), 3) := by decide +kernel
theorem dX6_textAt_106 : decode cX6_textAt 106 = .ok (.iconst 0, 1) := by decide +kernel
theorem dX6_textAt_107 : decode cX6_textAt 107 = .ok (.ireturn, 1) := by decide +kernel
theorem dX6_noteAt_0 : decode cX6_noteAt 0 = .ok (.iconst 2, 1) := by decide +kernel
theorem dX6_noteAt_1 : decode cX6_noteAt 1 = .ok (.iload_n 2, 1) := by decide +kernel
theorem dX6_noteAt_2 : decode cX6_noteAt 2 = .ok (.imul, 1) := by decide +kernel
theorem dX6_noteAt_3 : decode cX6_noteAt 3 = .ok (.iload_n 3, 1) := by decide +kernel
theorem dX6_noteAt_4 : decode cX6_noteAt 4 = .ok (.iadd, 1) := by decide +kernel
theorem dX6_noteAt_5 : decode cX6_noteAt 5 = .ok (.istore 5, 2) := by decide +kernel
theorem dX6_noteAt_7 : decode cX6_noteAt 7 = .ok (.aload_n 0, 1) := by decide +kernel
theorem dX6_noteAt_8 : decode cX6_noteAt 8 = .ok (.getfield 27, 3) := by decide +kernel
theorem dX6_noteAt_11 : decode cX6_noteAt 11 = .ok (.iconst 1, 1) := by decide +kernel
theorem dX6_noteAt_12 : decode cX6_noteAt 12 = .ok (.aaload, 1) := by decide +kernel
theorem dX6_noteAt_13 : decode cX6_noteAt 13 = .ok (.iload 5, 2) := by decide +kernel
theorem dX6_noteAt_15 : decode cX6_noteAt 15 = .ok (.iaload, 1) := by decide +kernel
theorem dX6_noteAt_16 : decode cX6_noteAt 16 = .ok (.istore 6, 2) := by decide +kernel
theorem dX6_noteAt_18 : decode cX6_noteAt 18 = .ok (.aload_n 0, 1) := by decide +kernel
theorem dX6_noteAt_19 : decode cX6_noteAt 19 = .ok (.getfield 11, 3) := by decide +kernel
theorem dX6_noteAt_22 : decode cX6_noteAt 22 = .ok (.iload 6, 2) := by decide +kernel
theorem dX6_noteAt_24 : decode cX6_noteAt 24 = .ok (.isub, 1) := by decide +kernel
theorem dX6_noteAt_25 : decode cX6_noteAt 25 = .ok (.aload_n 0, 1) := by decide +kernel
theorem dX6_noteAt_26 : decode cX6_noteAt 26 = .ok (.getfield 27, 3) := by decide +kernel
theorem dX6_noteAt_29 : decode cX6_noteAt 29 = .ok (.iconst 0, 1) := by decide +kernel
theorem dX6_noteAt_30 : decode cX6_noteAt 30 = .ok (.aaload, 1) := by decide +kernel
theorem dX6_noteAt_31 : decode cX6_noteAt 31 = .ok (.iload 5, 2) := by decide +kernel
theorem dX6_noteAt_33 : decode cX6_noteAt 33 = .ok (.iaload, 1) := by decide +kernel
theorem dX6_noteAt_34 : decode cX6_noteAt 34 = .ok (.invokestatic 165, 3) := by decide +kernel
theorem dX6_noteAt_37 : decode cX6_noteAt 37 = .ok (.istore 7, 2) := by decide +kernel
theorem dX6_noteAt_39 : decode cX6_noteAt 39 = .ok (.iload 4, 2) := by decide +kernel
theorem dX6_noteAt_41 : decode cX6_noteAt 41 = .ok (.iload 7, 2) := by decide +kernel
theorem dX6_noteAt_43 : decode cX6_noteAt 43 = .ok (.iload 7, 2) := by decide +kernel
theorem dX6_noteAt_45 : decode cX6_noteAt 45 = .ok (.iload 6, 2) := by decide +kernel
theorem dX6_noteAt_47 : decode cX6_noteAt 47 = .ok (.iadd, 1) := by decide +kernel
theorem dX6_noteAt_48 : decode cX6_noteAt 48 = .ok (.iconst 1, 1) := by decide +kernel
theorem dX6_noteAt_49 : decode cX6_noteAt 49 = .ok (.isub, 1) := by decide +kernel
theorem dX6_noteAt_50 : decode cX6_noteAt 50 = .ok (.invokestatic 174, 3) := by decide +kernel
theorem dX6_noteAt_53 : decode cX6_noteAt 53 = .ok (.ifCond .ne 5, 3) := by decide +kernel
theorem dX6_noteAt_56 : decode cX6_noteAt 56 = .ok (.iconst 0, 1) := by decide +kernel
theorem dX6_noteAt_57 : decode cX6_noteAt 57 = .ok (.ireturn, 1) := by decide +kernel
theorem dX6_noteAt_58 : decode cX6_noteAt 58 = .ok (.iload 4, 2) := by decide +kernel
theorem dX6_noteAt_60 : decode cX6_noteAt 60 = .ok (.iload 7, 2) := by decide +kernel
theorem dX6_noteAt_62 : decode cX6_noteAt 62 = .ok (.isub, 1) := by decide +kernel
theorem dX6_noteAt_63 : decode cX6_noteAt 63 = .ok (.aload_n 1, 1) := by decide +kernel
theorem dX6_noteAt_64 : decode cX6_noteAt 64 = .ok (.getfield 120, 3) := by decide +kernel
theorem dX6_noteAt_67 : decode cX6_noteAt 67 = .ok (.iconst 2, 1) := by decide +kernel
theorem dX6_noteAt_68 : decode cX6_noteAt 68 = .ok (.iaload, 1) := by decide +kernel
theorem dX6_noteAt_69 : decode cX6_noteAt 69 = .ok (.isub, 1) := by decide +kernel
theorem dX6_noteAt_70 : decode cX6_noteAt 70 = .ok (.istore 8, 2) := by decide +kernel
theorem dX6_noteAt_72 : decode cX6_noteAt 72 = .ok (.iload 8, 2) := by decide +kernel
theorem dX6_noteAt_74 : decode cX6_noteAt 74 = .ok (.ifCond .ge 9, 3) := by decide +kernel
theorem dX6_noteAt_77 : decode cX6_noteAt 77 = .ok (.sipush 30000, 3) := by decide +kernel
theorem dX6_noteAt_80 : decode cX6_noteAt 80 = .ok (.goto 16, 3) := by decide +kernel
theorem dX6_noteAt_83 : decode cX6_noteAt 83 = .ok (.aload_n 0, 1) := by decide +kernel
theorem dX6_noteAt_84 : decode cX6_noteAt 84 = .ok (.aload_n 1, 1) := by decide +kernel
theorem dX6_noteAt_85 : decode cX6_noteAt 85 = .ok (.iload_n 3, 1) := by decide +kernel
theorem dX6_noteAt_86 : decode cX6_noteAt 86 = .ok (.invokevirtual 181, 3) := by decide +kernel
theorem dX6_noteAt_89 : decode cX6_noteAt 89 = .ok (.iload 5, 2) := by decide +kernel
theorem dX6_noteAt_91 : decode cX6_noteAt 91 = .ok (.iload 8, 2) := by decide +kernel
theorem dX6_noteAt_93 : decode cX6_noteAt 93 = .ok (.invokevirtual 184, 3) := by decide +kernel
theorem dX6_noteAt_96 : decode cX6_noteAt 96 = .ok (.ireturn, 1) := by decide +kernel
theorem dX6_noteLine_0 : decode cX6_noteLine 0 = .ok (.aload_n 0, 1) := by decide +kernel
theorem dX6_noteLine_1 : decode cX6_noteLine 1 = .ok (.getfield 27, 3) := by decide +kernel
theorem dX6_noteLine_4 : decode cX6_noteLine 4 = .ok (.iconst 3, 1) := by decide +kernel
theorem dX6_noteLine_5 : decode cX6_noteLine 5 = .ok (.aaload, 1) := by decide +kernel
theorem dX6_noteLine_6 : decode cX6_noteLine 6 = .ok (.iload_n 2, 1) := by decide +kernel
theorem dX6_noteLine_7 : decode cX6_noteLine 7 = .ok (.iaload, 1) := by decide +kernel
theorem dX6_noteLine_8 : decode cX6_noteLine 8 = .ok (.istore 4, 2) := by decide +kernel
theorem dX6_noteLine_10 : decode cX6_noteLine 10 = .ok (.aload_n 0, 1) := by decide +kernel
theorem dX6_noteLine_11 : decode cX6_noteLine 11 = .ok (.getfield 27, 3) := by decide +kernel
theorem dX6_noteLine_14 : decode cX6_noteLine 14 = .ok (.bipush 6, 2) := by decide +kernel
theorem dX6_noteLine_16 : decode cX6_noteLine 16 = .ok (.aaload, 1) := by decide +kernel
theorem dX6_noteLine_17 : decode cX6_noteLine 17 = .ok (.iload_n 2, 1) := by decide +kernel
theorem dX6_noteLine_18 : decode cX6_noteLine 18 = .ok (.iaload, 1) := by decide +kernel
theorem dX6_noteLine_19 : decode cX6_noteLine 19 = .ok (.istore 5, 2) := by decide +kernel
theorem dX6_noteLine_21 : decode cX6_noteLine 21 = .ok (.iload_n 3, 1) := by decide +kernel
theorem dX6_noteLine_22 : decode cX6_noteLine 22 = .ok (.iload 4, 2) := by decide +kernel
theorem dX6_noteLine_24 : decode cX6_noteLine 24 = .ok (.if_icmp .ge 41, 3) := by decide +kernel
theorem dX6_noteLine_27 : decode cX6_noteLine 27 = .ok (.iload 5, 2) := by decide +kernel
theorem dX6_noteLine_29 : decode cX6_noteLine 29 = .ok (.ifCond .le 36, 3) := by decide +kernel
theorem dX6_noteLine_32 : decode cX6_noteLine 32 = .ok (.aload_n 1, 1) := by decide +kernel
theorem dX6_noteLine_33 : decode cX6_noteLine 33 = .ok (.getfield 188, 3) := by decide +kernel
theorem dX6_noteLine_36 : decode cX6_noteLine 36 = .ok (.iconst 2, 1) := by decide +kernel
theorem dX6_noteLine_37 : decode cX6_noteLine 37 = .ok (.aaload, 1) := by decide +kernel
theorem dX6_noteLine_38 : decode cX6_noteLine 38 = .ok (.iload 5, 2) := by decide +kernel
theorem dX6_noteLine_40 : decode cX6_noteLine 40 = .ok (.iconst 1, 1) := by decide +kernel
theorem dX6_noteLine_41 : decode cX6_noteLine 41 = .ok (.isub, 1) := by decide +kernel
theorem dX6_noteLine_42 : decode cX6_noteLine 42 = .ok (.iaload, 1) := by decide +kernel
theorem dX6_noteLine_43 : decode cX6_noteLine 43 = .ok (.iload 4, 2) := by decide +kernel
theorem dX6_noteLine_45 : decode cX6_noteLine 45 = .ok (.isub, 1) := by decide +kernel
theorem dX6_noteLine_46 : decode cX6_noteLine 46 = .ok (.istore 6, 2) := by decide +kernel
theorem dX6_noteLine_48 : decode cX6_noteLine 48 = .ok (.sipush 20000, 3) := by decide +kernel
theorem dX6_noteLine_51 : decode cX6_noteLine 51 = .ok (.bipush 100, 2) := by decide +kernel
theorem dX6_noteLine_53 : decode cX6_noteLine 53 = .ok (.iload 5, 2) := by decide +kernel
theorem dX6_noteLine_55 : decode cX6_noteLine 55 = .ok (.iconst 1, 1) := by decide +kernel
theorem dX6_noteLine_56 : decode cX6_noteLine 56 = .ok (.isub, 1) := by decide +kernel
theorem dX6_noteLine_57 : decode cX6_noteLine 57 = .ok (.imul, 1) := by decide +kernel
theorem dX6_noteLine_58 : decode cX6_noteLine 58 = .ok (.iadd, 1) := by decide +kernel
theorem dX6_noteLine_59 : decode cX6_noteLine 59 = .ok (.iload 6, 2) := by decide +kernel
theorem dX6_noteLine_61 : decode cX6_noteLine 61 = .ok (.iadd, 1) := by decide +kernel
theorem dX6_noteLine_62 : decode cX6_noteLine 62 = .ok (.iload_n 3, 1) := by decide +kernel
theorem dX6_noteLine_63 : decode cX6_noteLine 63 = .ok (.iadd, 1) := by decide +kernel
theorem dX6_noteLine_64 : decode cX6_noteLine 64 = .ok (.ireturn, 1) := by decide +kernel
theorem dX6_noteLine_65 : decode cX6_noteLine 65 = .ok (.iload_n 3, 1) := by decide +kernel
theorem dX6_noteLine_66 : decode cX6_noteLine 66 = .ok (.iload 4, 2) := by decide +kernel
theorem dX6_noteLine_68 : decode cX6_noteLine 68 = .ok (.isub, 1) := by decide +kernel
theorem dX6_noteLine_69 : decode cX6_noteLine 69 = .ok (.istore 6, 2) := by decide +kernel
theorem dX6_noteLine_71 : decode cX6_noteLine 71 = .ok (.iload 5, 2) := by decide +kernel
theorem dX6_noteLine_73 : decode cX6_noteLine 73 = .ok (.istore 7, 2) := by decide +kernel
theorem dX6_noteLine_75 : decode cX6_noteLine 75 = .ok (.iload 7, 2) := by decide +kernel
theorem dX6_noteLine_77 : decode cX6_noteLine 77 = .ok (.aload_n 1, 1) := by decide +kernel
theorem dX6_noteLine_78 : decode cX6_noteLine 78 = .ok (.getfield 193, 3) := by decide +kernel
theorem dX6_noteLine_81 : decode cX6_noteLine 81 = .ok (.if_icmp .ge 47, 3) := by decide +kernel
theorem dX6_noteLine_84 : decode cX6_noteLine 84 = .ok (.aload_n 1, 1) := by decide +kernel
theorem dX6_noteLine_85 : decode cX6_noteLine 85 = .ok (.getfield 188, 3) := by decide +kernel
theorem dX6_noteLine_88 : decode cX6_noteLine 88 = .ok (.iconst 2, 1) := by decide +kernel
theorem dX6_noteLine_89 : decode cX6_noteLine 89 = .ok (.aaload, 1) := by decide +kernel
theorem dX6_noteLine_90 : decode cX6_noteLine 90 = .ok (.iload 7, 2) := by decide +kernel
theorem dX6_noteLine_92 : decode cX6_noteLine 92 = .ok (.iaload, 1) := by decide +kernel
theorem dX6_noteLine_93 : decode cX6_noteLine 93 = .ok (.istore 8, 2) := by decide +kernel
theorem dX6_noteLine_95 : decode cX6_noteLine 95 = .ok (.iload 6, 2) := by decide +kernel
theorem dX6_noteLine_97 : decode cX6_noteLine 97 = .ok (.iload 8, 2) := by decide +kernel
theorem dX6_noteLine_99 : decode cX6_noteLine 99 = .ok (.if_icmp .ge 16, 3) := by decide +kernel
theorem dX6_noteLine_102 : decode cX6_noteLine 102 = .ok (.sipush 20000, 3) := by decide +kernel
theorem dX6_noteLine_105 : decode cX6_noteLine 105 = .ok (.bipush 100, 2) := by decide +kernel
theorem dX6_noteLine_107 : decode cX6_noteLine 107 = .ok (.iload 7, 2) := by decide +kernel
theorem dX6_noteLine_109 : decode cX6_noteLine 109 = .ok (.imul, 1) := by decide +kernel
theorem dX6_noteLine_110 : decode cX6_noteLine 110 = .ok (.iadd, 1) := by decide +kernel
theorem dX6_noteLine_111 : decode cX6_noteLine 111 = .ok (.iload 6, 2) := by decide +kernel
theorem dX6_noteLine_113 : decode cX6_noteLine 113 = .ok (.iadd, 1) := by decide +kernel
theorem dX6_noteLine_114 : decode cX6_noteLine 114 = .ok (.ireturn, 1) := by decide +kernel
theorem dX6_noteLine_115 : decode cX6_noteLine 115 = .ok (.iload 6, 2) := by decide +kernel
theorem dX6_noteLine_117 : decode cX6_noteLine 117 = .ok (.iload 8, 2) := by decide +kernel
theorem dX6_noteLine_119 : decode cX6_noteLine 119 = .ok (.isub, 1) := by decide +kernel
theorem dX6_noteLine_120 : decode cX6_noteLine 120 = .ok (.istore 6, 2) := by decide +kernel
theorem dX6_noteLine_122 : decode cX6_noteLine 122 = .ok (.iinc 7 1, 3) := by decide +kernel
theorem dX6_noteLine_125 : decode cX6_noteLine 125 = .ok (.goto (-50), 3) := by decide +kernel
theorem dX6_noteLine_128 : decode cX6_noteLine 128 = .ok (.iconst 0, 1) := by decide +kernel
theorem dX6_noteLine_129 : decode cX6_noteLine 129 = .ok (.ireturn, 1) := by decide +kernel
theorem dX6_blankSquares_0 : decode cX6_blankSquares 0 = .ok (.iconst 0, 1) := by decide +kernel
theorem dX6_blankSquares_1 : decode cX6_blankSquares 1 = .ok (.istore_n 1, 1) := by decide +kernel
theorem dX6_blankSquares_2 : decode cX6_blankSquares 2 = .ok (.iconst 0, 1) := by decide +kernel
theorem dX6_blankSquares_3 : decode cX6_blankSquares 3 = .ok (.istore_n 2, 1) := by decide +kernel
theorem dX6_blankSquares_4 : decode cX6_blankSquares 4 = .ok (.iload_n 2, 1) := by decide +kernel
theorem dX6_blankSquares_5 : decode cX6_blankSquares 5 = .ok (.iconst 2, 1) := by decide +kernel
theorem dX6_blankSquares_6 : decode cX6_blankSquares 6 = .ok (.aload_n 0, 1) := by decide +kernel
theorem dX6_blankSquares_7 : decode cX6_blankSquares 7 = .ok (.getfield 50, 3) := by decide +kernel
theorem dX6_blankSquares_10 : decode cX6_blankSquares 10 = .ok (.iconst 1, 1) := by decide +kernel
theorem dX6_blankSquares_11 : decode cX6_blankSquares 11 = .ok (.isub, 1) := by decide +kernel
theorem dX6_blankSquares_12 : decode cX6_blankSquares 12 = .ok (.imul, 1) := by decide +kernel
theorem dX6_blankSquares_13 : decode cX6_blankSquares 13 = .ok (.if_icmp .ge 29, 3) := by decide +kernel
theorem dX6_blankSquares_16 : decode cX6_blankSquares 16 = .ok (.iload_n 1, 1) := by decide +kernel
theorem dX6_blankSquares_17 : decode cX6_blankSquares 17 = .ok (.aload_n 0, 1) := by decide +kernel
theorem dX6_blankSquares_18 : decode cX6_blankSquares 18 = .ok (.getfield 27, 3) := by decide +kernel
theorem dX6_blankSquares_21 : decode cX6_blankSquares 21 = .ok (.iconst 2, 1) := by decide +kernel
theorem dX6_blankSquares_22 : decode cX6_blankSquares 22 = .ok (.aaload, 1) := by decide +kernel
theorem dX6_blankSquares_23 : decode cX6_blankSquares 23 = .ok (.iload_n 2, 1) := by decide +kernel
theorem dX6_blankSquares_24 : decode cX6_blankSquares 24 = .ok (.iaload, 1) := by decide +kernel
theorem dX6_blankSquares_25 : decode cX6_blankSquares 25 = .ok (.aload_n 0, 1) := by decide +kernel
theorem dX6_blankSquares_26 : decode cX6_blankSquares 26 = .ok (.getfield 27, 3) := by decide +kernel
theorem dX6_blankSquares_29 : decode cX6_blankSquares 29 = .ok (.iconst 2, 1) := by decide +kernel
theorem dX6_blankSquares_30 : decode cX6_blankSquares 30 = .ok (.aaload, 1) := by decide +kernel
theorem dX6_blankSquares_31 : decode cX6_blankSquares 31 = .ok (.iload_n 2, 1) := by decide +kernel
theorem dX6_blankSquares_32 : decode cX6_blankSquares 32 = .ok (.iaload, 1) := by decide +kernel
theorem dX6_blankSquares_33 : decode cX6_blankSquares 33 = .ok (.imul, 1) := by decide +kernel
theorem dX6_blankSquares_34 : decode cX6_blankSquares 34 = .ok (.iadd, 1) := by decide +kernel
theorem dX6_blankSquares_35 : decode cX6_blankSquares 35 = .ok (.istore_n 1, 1) := by decide +kernel
theorem dX6_blankSquares_36 : decode cX6_blankSquares 36 = .ok (.iinc 2 1, 3) := by decide +kernel
theorem dX6_blankSquares_39 : decode cX6_blankSquares 39 = .ok (.goto (-35), 3) := by decide +kernel
theorem dX6_blankSquares_42 : decode cX6_blankSquares 42 = .ok (.iload_n 1, 1) := by decide +kernel
theorem dX6_blankSquares_43 : decode cX6_blankSquares 43 = .ok (.ireturn, 1) := by decide +kernel
theorem dX7_init_0 : decode cX7_init 0 = .ok (.aload_n 0, 1) := by decide +kernel
theorem dX7_init_1 : decode cX7_init 1 = .ok (.invokespecial 1, 3) := by decide +kernel
theorem dX7_init_4 : decode cX7_init 4 = .ok (.aload_n 0, 1) := by decide +kernel
theorem dX7_init_5 : decode cX7_init 5 = .ok (.new 7, 3) := by decide +kernel
theorem dX7_init_8 : decode cX7_init 8 = .ok (.dup, 1) := by decide +kernel
theorem dX7_init_9 : decode cX7_init 9 = .ok (.invokespecial 9, 3) := by decide +kernel
theorem dX7_init_12 : decode cX7_init 12 = .ok (.putfield 10, 3) := by decide +kernel
theorem dX7_init_15 : decode cX7_init 15 = .ok (.aload_n 0, 1) := by decide +kernel
theorem dX7_init_16 : decode cX7_init 16 = .ok (.new 16, 3) := by decide +kernel
theorem dX7_init_19 : decode cX7_init 19 = .ok (.dup, 1) := by decide +kernel
theorem dX7_init_20 : decode cX7_init 20 = .ok (.invokespecial 18, 3) := by decide +kernel
theorem dX7_init_23 : decode cX7_init 23 = .ok (.putfield 19, 3) := by decide +kernel
theorem dX7_init_26 : decode cX7_init 26 = .ok (.aload_n 0, 1) := by decide +kernel
theorem dX7_init_27 : decode cX7_init 27 = .ok (.new 23, 3) := by decide +kernel
theorem dX7_init_30 : decode cX7_init 30 = .ok (.dup, 1) := by decide +kernel
theorem dX7_init_31 : decode cX7_init 31 = .ok (.invokespecial 25, 3) := by decide +kernel
theorem dX7_init_34 : decode cX7_init 34 = .ok (.putfield 26, 3) := by decide +kernel
theorem dX7_init_37 : decode cX7_init 37 = .ok (.aload_n 0, 1) := by decide +kernel
theorem dX7_init_38 : decode cX7_init 38 = .ok (.new 30, 3) := by decide +kernel
theorem dX7_init_41 : decode cX7_init 41 = .ok (.dup, 1) := by decide +kernel
theorem dX7_init_42 : decode cX7_init 42 = .ok (.invokespecial 32, 3) := by decide +kernel
theorem dX7_init_45 : decode cX7_init 45 = .ok (.putfield 33, 3) := by decide +kernel
theorem dX7_init_48 : decode cX7_init 48 = .ok (.return_, 1) := by decide +kernel
theorem dX7_insert_0 : decode cX7_insert 0 = .ok (.iload_n 1, 1) := by decide +kernel
theorem dX7_insert_1 : decode cX7_insert 1 = .ok (.iconst 0, 1) := by decide +kernel
theorem dX7_insert_2 : decode cX7_insert 2 = .ok (.aload_n 0, 1) := by decide +kernel
theorem dX7_insert_3 : decode cX7_insert 3 = .ok (.getfield 10, 3) := by decide +kernel
theorem dX7_insert_6 : decode cX7_insert 6 = .ok (.getfield 37, 3) := by decide +kernel
theorem dX7_insert_9 : decode cX7_insert 9 = .ok (.invokestatic 41, 3) := by decide +kernel
theorem dX7_insert_12 : decode cX7_insert 12 = .ok (.ifCond .eq 23, 3) := by decide +kernel
theorem dX7_insert_15 : decode cX7_insert 15 = .ok (.iload_n 2, 1) := by decide +kernel
theorem dX7_insert_16 : decode cX7_insert 16 = .ok (.iconst 1, 1) := by decide +kernel
theorem dX7_insert_17 : decode cX7_insert 17 = .ok (.bipush 30, 2) := by decide +kernel
theorem dX7_insert_19 : decode cX7_insert 19 = .ok (.invokestatic 41, 3) := by decide +kernel
theorem dX7_insert_22 : decode cX7_insert 22 = .ok (.ifCond .eq 13, 3) := by decide +kernel
theorem dX7_insert_25 : decode cX7_insert 25 = .ok (.iload_n 3, 1) := by decide +kernel
theorem dX7_insert_26 : decode cX7_insert 26 = .ok (.iconst 1, 1) := by decide +kernel
theorem dX7_insert_27 : decode cX7_insert 27 = .ok (.bipush 30, 2) := by decide +kernel
theorem dX7_insert_29 : decode cX7_insert 29 = .ok (.invokestatic 41, 3) := by decide +kernel
theorem dX7_insert_32 : decode cX7_insert 32 = .ok (.ifCond .ne 5, 3) := by decide +kernel
theorem dX7_insert_35 : decode cX7_insert 35 = .ok (.iconst (-1), 1) := by decide +kernel
theorem dX7_insert_36 : decode cX7_insert 36 = .ok (.ireturn, 1) := by decide +kernel
theorem dX7_insert_37 : decode cX7_insert 37 = .ok (.aload_n 0, 1) := by decide +kernel
theorem dX7_insert_38 : decode cX7_insert 38 = .ok (.getfield 10, 3) := by decide +kernel
theorem dX7_insert_41 : decode cX7_insert 41 = .ok (.getfield 37, 3) := by decide +kernel
theorem dX7_insert_44 : decode cX7_insert 44 = .ok (.bipush 20, 2) := by decide +kernel
theorem dX7_insert_46 : decode cX7_insert 46 = .ok (.if_icmp .lt 6, 3) := by decide +kernel
theorem dX7_insert_49 : decode cX7_insert 49 = .ok (.bipush (-3), 2) := by decide +kernel
theorem dX7_insert_51 : decode cX7_insert 51 = .ok (.ireturn, 1) := by decide +kernel
theorem dX7_insert_52 : decode cX7_insert 52 = .ok (.aload_n 0, 1) := by decide +kernel
theorem dX7_insert_53 : decode cX7_insert 53 = .ok (.invokevirtual 45, 3) := by decide +kernel
theorem dX7_insert_56 : decode cX7_insert 56 = .ok (.aload_n 0, 1) := by decide +kernel
theorem dX7_insert_57 : decode cX7_insert 57 = .ok (.getfield 10, 3) := by decide +kernel
theorem dX7_insert_60 : decode cX7_insert 60 = .ok (.iload_n 1, 1) := by decide +kernel
theorem dX7_insert_61 : decode cX7_insert 61 = .ok (.iload_n 2, 1) := by decide +kernel
theorem dX7_insert_62 : decode cX7_insert 62 = .ok (.iload_n 3, 1) := by decide +kernel
theorem dX7_insert_63 : decode cX7_insert 63 = .ok (.invokevirtual 48, 3) := by decide +kernel
theorem dX7_insert_66 : decode cX7_insert 66 = .ok (.aload_n 0, 1) := by decide +kernel
theorem dX7_insert_67 : decode cX7_insert 67 = .ok (.getfield 10, 3) := by decide +kernel
theorem dX7_insert_70 : decode cX7_insert 70 = .ok (.getfield 37, 3) := by decide +kernel
theorem dX7_insert_73 : decode cX7_insert 73 = .ok (.ireturn, 1) := by decide +kernel
theorem dX7_setFlag_0 : decode cX7_setFlag 0 = .ok (.aload_n 0, 1) := by decide +kernel
theorem dX7_setFlag_1 : decode cX7_setFlag 1 = .ok (.getfield 10, 3) := by decide +kernel
theorem dX7_setFlag_4 : decode cX7_setFlag 4 = .ok (.iload_n 1, 1) := by decide +kernel
theorem dX7_setFlag_5 : decode cX7_setFlag 5 = .ok (.invokevirtual 52, 3) := by decide +kernel
theorem dX7_setFlag_8 : decode cX7_setFlag 8 = .ok (.ifCond .eq 21, 3) := by decide +kernel
theorem dX7_setFlag_11 : decode cX7_setFlag 11 = .ok (.iload_n 2, 1) := by decide +kernel
theorem dX7_setFlag_12 : decode cX7_setFlag 12 = .ok (.iconst 0, 1) := by decide +kernel
theorem dX7_setFlag_13 : decode cX7_setFlag 13 = .ok (.iconst 1, 1) := by decide +kernel
theorem dX7_setFlag_14 : decode cX7_setFlag 14 = .ok (.invokestatic 41, 3) := by decide +kernel
theorem dX7_setFlag_17 : decode cX7_setFlag 17 = .ok (.ifCond .eq 12, 3) := by decide +kernel
theorem dX7_setFlag_20 : decode cX7_setFlag 20 = .ok (.iload_n 3, 1) := by decide +kernel
theorem dX7_setFlag_21 : decode cX7_setFlag 21 = .ok (.iconst 0, 1) := by decide +kernel
theorem dX7_setFlag_22 : decode cX7_setFlag 22 = .ok (.iconst 1, 1) := by decide +kernel
theorem dX7_setFlag_23 : decode cX7_setFlag 23 = .ok (.invokestatic 41, 3) := by decide +kernel
theorem dX7_setFlag_26 : decode cX7_setFlag 26 = .ok (.ifCond .ne 5, 3) := by decide +kernel
theorem dX7_setFlag_29 : decode cX7_setFlag 29 = .ok (.iconst (-1), 1) := by decide +kernel
theorem dX7_setFlag_30 : decode cX7_setFlag 30 = .ok (.ireturn, 1) := by decide +kernel
theorem dX7_setFlag_31 : decode cX7_setFlag 31 = .ok (.aload_n 0, 1) := by decide +kernel
theorem dX7_setFlag_32 : decode cX7_setFlag 32 = .ok (.iload_n 1, 1) := by decide +kernel
theorem dX7_setFlag_33 : decode cX7_setFlag 33 = .ok (.iconst 2, 1) := by decide +kernel
theorem dX7_setFlag_34 : decode cX7_setFlag 34 = .ok (.iload_n 2, 1) := by decide +kernel
theorem dX7_setFlag_35 : decode cX7_setFlag 35 = .ok (.iadd, 1) := by decide +kernel
theorem dX7_setFlag_36 : decode cX7_setFlag 36 = .ok (.iload_n 3, 1) := by decide +kernel
theorem dX7_setFlag_37 : decode cX7_setFlag 37 = .ok (.invokevirtual 73, 3) := by decide +kernel
theorem dX7_setFlag_40 : decode cX7_setFlag 40 = .ok (.ireturn, 1) := by decide +kernel
theorem dX7_addNote_0 : decode cX7_addNote 0 = .ok (.aload_n 0, 1) := by decide +kernel
theorem dX7_addNote_1 : decode cX7_addNote 1 = .ok (.getfield 10, 3) := by decide +kernel
theorem dX7_addNote_4 : decode cX7_addNote 4 = .ok (.iload_n 1, 1) := by decide +kernel
theorem dX7_addNote_5 : decode cX7_addNote 5 = .ok (.iload_n 2, 1) := by decide +kernel
theorem dX7_addNote_6 : decode cX7_addNote 6 = .ok (.iload_n 3, 1) := by decide +kernel
theorem dX7_addNote_7 : decode cX7_addNote 7 = .ok (.invokevirtual 77, 3) := by decide +kernel
theorem dX7_addNote_10 : decode cX7_addNote 10 = .ok (.ifCond .eq 14, 3) := by decide +kernel
theorem dX7_addNote_13 : decode cX7_addNote 13 = .ok (.iload 4, 2) := by decide +kernel
theorem dX7_addNote_15 : decode cX7_addNote 15 = .ok (.iconst 1, 1) := by decide +kernel
theorem dX7_addNote_16 : decode cX7_addNote 16 = .ok (.bipush 10, 2) := by decide +kernel
theorem dX7_addNote_18 : decode cX7_addNote 18 = .ok (.invokestatic 41, 3) := by decide +kernel
theorem dX7_addNote_21 : decode cX7_addNote 21 = .ok (.ifCond .ne 5, 3) := by decide +kernel
theorem dX7_addNote_24 : decode cX7_addNote 24 = .ok (.iconst (-1), 1) := by decide +kernel
theorem dX7_addNote_25 : decode cX7_addNote 25 = .ok (.ireturn, 1) := by decide +kernel
theorem dX7_addNote_26 : decode cX7_addNote 26 = .ok (.aload_n 0, 1) := by decide +kernel
theorem dX7_addNote_27 : decode cX7_addNote 27 = .ok (.getfield 10, 3) := by decide +kernel
theorem dX7_addNote_30 : decode cX7_addNote 30 = .ok (.getfield 80, 3) := by decide +kernel
theorem dX7_addNote_33 : decode cX7_addNote 33 = .ok (.getfield 84, 3) := by decide +kernel
theorem dX7_addNote_36 : decode cX7_addNote 36 = .ok (.aload_n 0, 1) := by decide +kernel
theorem dX7_addNote_37 : decode cX7_addNote 37 = .ok (.getfield 10, 3) := by decide +kernel
theorem dX7_addNote_40 : decode cX7_addNote 40 = .ok (.getfield 85, 3) := by decide +kernel
theorem dX7_addNote_43 : decode cX7_addNote 43 = .ok (.getfield 84, 3) := by decide +kernel
theorem dX7_addNote_46 : decode cX7_addNote 46 = .ok (.iadd, 1) := by decide +kernel
theorem dX7_addNote_47 : decode cX7_addNote 47 = .ok (.bipush 40, 2) := by decide +kernel
theorem dX7_addNote_49 : decode cX7_addNote 49 = .ok (.if_icmp .lt 6, 3) := by decide +kernel
theorem dX7_addNote_52 : decode cX7_addNote 52 = .ok (.bipush (-3), 2) := by decide +kernel
theorem dX7_addNote_54 : decode cX7_addNote 54 = .ok (.ireturn, 1) := by decide +kernel
theorem dX7_addNote_55 : decode cX7_addNote 55 = .ok (.aload_n 0, 1) := by decide +kernel
theorem dX7_addNote_56 : decode cX7_addNote 56 = .ok (.invokevirtual 45, 3) := by decide +kernel
theorem dX7_addNote_59 : decode cX7_addNote 59 = .ok (.aload_n 0, 1) := by decide +kernel
theorem dX7_addNote_60 : decode cX7_addNote 60 = .ok (.getfield 10, 3) := by decide +kernel
theorem dX7_addNote_63 : decode cX7_addNote 63 = .ok (.iload_n 2, 1) := by decide +kernel
theorem dX7_addNote_64 : decode cX7_addNote 64 = .ok (.invokevirtual 63, 3) := by decide +kernel
theorem dX7_addNote_67 : decode cX7_addNote 67 = .ok (.iload_n 1, 1) := by decide +kernel
theorem dX7_addNote_68 : decode cX7_addNote 68 = .ok (.iload_n 3, 1) := by decide +kernel
theorem dX7_addNote_69 : decode cX7_addNote 69 = .ok (.iload 4, 2) := by decide +kernel
theorem dX7_addNote_71 : decode cX7_addNote 71 = .ok (.invokevirtual 88, 3) := by decide +kernel
theorem dX7_addNote_74 : decode cX7_addNote 74 = .ok (.ireturn, 1) := by decide +kernel
theorem dX7_removeNote_0 : decode cX7_removeNote 0 = .ok (.iload_n 1, 1) := by decide +kernel
theorem dX7_removeNote_1 : decode cX7_removeNote 1 = .ok (.invokestatic 60, 3) := by decide +kernel
theorem dX7_removeNote_4 : decode cX7_removeNote 4 = .ok (.ifCond .eq 7, 3) := by decide +kernel
theorem dX7_removeNote_7 : decode cX7_removeNote 7 = .ok (.iload_n 2, 1) := by decide +kernel
theorem dX7_removeNote_8 : decode cX7_removeNote 8 = .ok (.ifCond .ge 5, 3) := by decide +kernel
theorem dX7_removeNote_11 : decode cX7_removeNote 11 = .ok (.iconst (-1), 1) := by decide +kernel
theorem dX7_removeNote_12 : decode cX7_removeNote 12 = .ok (.ireturn, 1) := by decide +kernel
theorem dX7_removeNote_13 : decode cX7_removeNote 13 = .ok (.aload_n 0, 1) := by decide +kernel
theorem dX7_removeNote_14 : decode cX7_removeNote 14 = .ok (.getfield 10, 3) := by decide +kernel
theorem dX7_removeNote_17 : decode cX7_removeNote 17 = .ok (.iload_n 1, 1) := by decide +kernel
theorem dX7_removeNote_18 : decode cX7_removeNote 18 = .ok (.invokevirtual 63, 3) := by decide +kernel
theorem dX7_removeNote_21 : decode cX7_removeNote 21 = .ok (.astore_n 3, 1) := by decide +kernel
theorem dX7_removeNote_22 : decode cX7_removeNote 22 = .ok (.iload_n 2, 1) := by decide +kernel
theorem dX7_removeNote_23 : decode cX7_removeNote 23 = .ok (.aload_n 3, 1) := by decide +kernel
theorem dX7_removeNote_24 : decode cX7_removeNote 24 = .ok (.getfield 84, 3) := by decide +kernel
theorem dX7_removeNote_27 : decode cX7_removeNote 27 = .ok (.if_icmp .lt 6, 3) := by decide +kernel
theorem dX7_removeNote_30 : decode cX7_removeNote 30 = .ok (.bipush (-4), 2) := by decide +kernel
theorem dX7_removeNote_32 : decode cX7_removeNote 32 = .ok (.ireturn, 1) := by decide +kernel
theorem dX7_removeNote_33 : decode cX7_removeNote 33 = .ok (.aload_n 0, 1) := by decide +kernel
theorem dX7_removeNote_34 : decode cX7_removeNote 34 = .ok (.invokevirtual 45, 3) := by decide +kernel
theorem dX7_removeNote_37 : decode cX7_removeNote 37 = .ok (.aload_n 3, 1) := by decide +kernel
theorem dX7_removeNote_38 : decode cX7_removeNote 38 = .ok (.iload_n 2, 1) := by decide +kernel
theorem dX7_removeNote_39 : decode cX7_removeNote 39 = .ok (.invokevirtual 91, 3) := by decide +kernel
theorem dX7_removeNote_42 : decode cX7_removeNote 42 = .ok (.aload_n 3, 1) := by decide +kernel
theorem dX7_removeNote_43 : decode cX7_removeNote 43 = .ok (.getfield 84, 3) := by decide +kernel
theorem dX7_removeNote_46 : decode cX7_removeNote 46 = .ok (.ireturn, 1) := by decide +kernel
theorem dX7_set_0 : decode cX7_set 0 = .ok (.iload_n 1, 1) := by decide +kernel
theorem dX7_set_1 : decode cX7_set 1 = .ok (.iconst 0, 1) := by decide +kernel
theorem dX7_set_2 : decode cX7_set 2 = .ok (.iconst 5, 1) := by decide +kernel
theorem dX7_set_3 : decode cX7_set 3 = .ok (.invokestatic 41, 3) := by decide +kernel
theorem dX7_set_6 : decode cX7_set 6 = .ok (.ifCond .eq 20, 3) := by decide +kernel
theorem dX7_set_9 : decode cX7_set 9 = .ok (.iload_n 2, 1) := by decide +kernel
theorem dX7_set_10 : decode cX7_set 10 = .ok (.getstatic 94, 3) := by decide +kernel
theorem dX7_set_13 : decode cX7_set 13 = .ok (.iload_n 1, 1) := by decide +kernel
theorem dX7_set_14 : decode cX7_set 14 = .ok (.iaload, 1) := by decide +kernel
theorem dX7_set_15 : decode cX7_set 15 = .ok (.getstatic 98, 3) := by decide +kernel
theorem dX7_set_18 : decode cX7_set 18 = .ok (.iload_n 1, 1) := by decide +kernel
theorem dX7_set_19 : decode cX7_set 19 = .ok (.iaload, 1) := by decide +kernel
theorem dX7_set_20 : decode cX7_set 20 = .ok (.invokestatic 41, 3) := by decide +kernel
theorem dX7_set_23 : decode cX7_set 23 = .ok (.ifCond .ne 5, 3) := by decide +kernel
theorem dX7_set_26 : decode cX7_set 26 = .ok (.iconst (-1), 1) := by decide +kernel
theorem dX7_set_27 : decode cX7_set 27 = .ok (.ireturn, 1) := by decide +kernel
theorem dX7_set_28 : decode cX7_set 28 = .ok (.aload_n 0, 1) := by decide +kernel
theorem dX7_set_29 : decode cX7_set 29 = .ok (.invokevirtual 45, 3) := by decide +kernel
theorem dX7_set_32 : decode cX7_set 32 = .ok (.aload_n 0, 1) := by decide +kernel
theorem dX7_set_33 : decode cX7_set 33 = .ok (.getfield 10, 3) := by decide +kernel
theorem dX7_set_36 : decode cX7_set 36 = .ok (.getfield 101, 3) := by decide +kernel
theorem dX7_set_39 : decode cX7_set 39 = .ok (.iload_n 1, 1) := by decide +kernel
theorem dX7_set_40 : decode cX7_set 40 = .ok (.iaload, 1) := by decide +kernel
theorem dX7_set_41 : decode cX7_set 41 = .ok (.istore_n 3, 1) := by decide +kernel
theorem dX7_set_42 : decode cX7_set 42 = .ok (.aload_n 0, 1) := by decide +kernel
theorem dX7_set_43 : decode cX7_set 43 = .ok (.getfield 10, 3) := by decide +kernel
theorem dX7_set_46 : decode cX7_set 46 = .ok (.getfield 101, 3) := by decide +kernel
theorem dX7_set_49 : decode cX7_set 49 = .ok (.iload_n 1, 1) := by decide +kernel
theorem dX7_set_50 : decode cX7_set 50 = .ok (.iload_n 2, 1) := by decide +kernel
theorem dX7_set_51 : decode cX7_set 51 = .ok (.iastore, 1) := by decide +kernel
theorem dX7_set_52 : decode cX7_set 52 = .ok (.iload_n 3, 1) := by decide +kernel
theorem dX7_set_53 : decode cX7_set 53 = .ok (.ireturn, 1) := by decide +kernel
theorem dX7_undo_0 : decode cX7_undo 0 = .ok (.aload_n 0, 1) := by decide +kernel
theorem dX7_undo_1 : decode cX7_undo 1 = .ok (.getfield 19, 3) := by decide +kernel
theorem dX7_undo_4 : decode cX7_undo 4 = .ok (.getfield 104, 3) := by decide +kernel
theorem dX7_undo_7 : decode cX7_undo 7 = .ok (.ifCond .gt 6, 3) := by decide +kernel
theorem dX7_undo_10 : decode cX7_undo 10 = .ok (.bipush (-2), 2) := by decide +kernel
theorem dX7_undo_12 : decode cX7_undo 12 = .ok (.ireturn, 1) := by decide +kernel
theorem dX7_undo_13 : decode cX7_undo 13 = .ok (.aload_n 0, 1) := by decide +kernel
theorem dX7_undo_14 : decode cX7_undo 14 = .ok (.getfield 19, 3) := by decide +kernel
theorem dX7_undo_17 : decode cX7_undo 17 = .ok (.aload_n 0, 1) := by decide +kernel
theorem dX7_undo_18 : decode cX7_undo 18 = .ok (.getfield 10, 3) := by decide +kernel
theorem dX7_undo_21 : decode cX7_undo 21 = .ok (.invokevirtual 105, 3) := by decide +kernel
theorem dX7_undo_24 : decode cX7_undo 24 = .ok (.aload_n 0, 1) := by decide +kernel
theorem dX7_undo_25 : decode cX7_undo 25 = .ok (.invokevirtual 109, 3) := by decide +kernel
theorem dX7_undo_28 : decode cX7_undo 28 = .ok (.aload_n 0, 1) := by decide +kernel
theorem dX7_undo_29 : decode cX7_undo 29 = .ok (.getfield 19, 3) := by decide +kernel
theorem dX7_undo_32 : decode cX7_undo 32 = .ok (.getfield 104, 3) := by decide +kernel
theorem dX7_undo_35 : decode cX7_undo 35 = .ok (.ireturn, 1) := by decide +kernel
theorem dX7_pairCount_0 : decode cX7_pairCount 0 = .ok (.aload_n 0, 1) := by decide +kernel
theorem dX7_pairCount_1 : decode cX7_pairCount 1 = .ok (.getfield 10, 3) := by decide +kernel
theorem dX7_pairCount_4 : decode cX7_pairCount 4 = .ok (.getfield 37, 3) := by decide +kernel
theorem dX7_pairCount_7 : decode cX7_pairCount 7 = .ok (.ireturn, 1) := by decide +kernel
theorem dX7_pairInfo_0 : decode cX7_pairInfo 0 = .ok (.aload_n 0, 1) := by decide +kernel
theorem dX7_pairInfo_1 : decode cX7_pairInfo 1 = .ok (.getfield 10, 3) := by decide +kernel
theorem dX7_pairInfo_4 : decode cX7_pairInfo 4 = .ok (.iload_n 1, 1) := by decide +kernel
theorem dX7_pairInfo_5 : decode cX7_pairInfo 5 = .ok (.invokevirtual 52, 3) := by decide +kernel
theorem dX7_pairInfo_8 : decode cX7_pairInfo 8 = .ok (.ifCond .eq 12, 3) := by decide +kernel
theorem dX7_pairInfo_11 : decode cX7_pairInfo 11 = .ok (.iload_n 2, 1) := by decide +kernel
theorem dX7_pairInfo_12 : decode cX7_pairInfo 12 = .ok (.iconst 0, 1) := by decide +kernel
theorem dX7_pairInfo_13 : decode cX7_pairInfo 13 = .ok (.iconst 3, 1) := by decide +kernel
theorem dX7_pairInfo_14 : decode cX7_pairInfo 14 = .ok (.invokestatic 41, 3) := by decide +kernel
theorem dX7_pairInfo_17 : decode cX7_pairInfo 17 = .ok (.ifCond .ne 5, 3) := by decide +kernel
theorem dX7_pairInfo_20 : decode cX7_pairInfo 20 = .ok (.iconst (-1), 1) := by decide +kernel
theorem dX7_pairInfo_21 : decode cX7_pairInfo 21 = .ok (.ireturn, 1) := by decide +kernel
theorem dX7_pairInfo_22 : decode cX7_pairInfo 22 = .ok (.aload_n 0, 1) := by decide +kernel
theorem dX7_pairInfo_23 : decode cX7_pairInfo 23 = .ok (.getfield 10, 3) := by decide +kernel
theorem dX7_pairInfo_26 : decode cX7_pairInfo 26 = .ok (.getfield 112, 3) := by decide +kernel
theorem dX7_pairInfo_29 : decode cX7_pairInfo 29 = .ok (.iload_n 2, 1) := by decide +kernel
theorem dX7_pairInfo_30 : decode cX7_pairInfo 30 = .ok (.aaload, 1) := by decide +kernel
theorem dX7_pairInfo_31 : decode cX7_pairInfo 31 = .ok (.iload_n 1, 1) := by decide +kernel
theorem dX7_pairInfo_32 : decode cX7_pairInfo 32 = .ok (.iaload, 1) := by decide +kernel
theorem dX7_pairInfo_33 : decode cX7_pairInfo 33 = .ok (.ireturn, 1) := by decide +kernel
theorem dX7_noteCount_0 : decode cX7_noteCount 0 = .ok (.iload_n 1, 1) := by decide +kernel
theorem dX7_noteCount_1 : decode cX7_noteCount 1 = .ok (.invokestatic 60, 3) := by decide +kernel
theorem dX7_noteCount_4 : decode cX7_noteCount 4 = .ok (.ifCond .eq 17, 3) := by decide +kernel
theorem dX7_noteCount_7 : decode cX7_noteCount 7 = .ok (.aload_n 0, 1) := by decide +kernel
theorem dX7_noteCount_8 : decode cX7_noteCount 8 = .ok (.getfield 10, 3) := by decide +kernel
theorem dX7_noteCount_11 : decode cX7_noteCount 11 = .ok (.iload_n 1, 1) := by decide +kernel
theorem dX7_noteCount_12 : decode cX7_noteCount 12 = .ok (.invokevirtual 63, 3) := by decide +kernel
theorem dX7_noteCount_15 : decode cX7_noteCount 15 = .ok (.getfield 84, 3) := by decide +kernel
theorem dX7_noteCount_18 : decode cX7_noteCount 18 = .ok (.goto 4, 3) := by decide +kernel
theorem dX7_noteCount_21 : decode cX7_noteCount 21 = .ok (.iconst (-1), 1) := by decide +kernel
theorem dX7_noteCount_22 : decode cX7_noteCount 22 = .ok (.ireturn, 1) := by decide +kernel
theorem dX7_noteInfo_0 : decode cX7_noteInfo 0 = .ok (.iload_n 1, 1) := by decide +kernel
theorem dX7_noteInfo_1 : decode cX7_noteInfo 1 = .ok (.invokestatic 60, 3) := by decide +kernel
theorem dX7_noteInfo_4 : decode cX7_noteInfo 4 = .ok (.ifCond .eq 16, 3) := by decide +kernel
theorem dX7_noteInfo_7 : decode cX7_noteInfo 7 = .ok (.iload_n 2, 1) := by decide +kernel
theorem dX7_noteInfo_8 : decode cX7_noteInfo 8 = .ok (.ifCond .lt 12, 3) := by decide +kernel
theorem dX7_noteInfo_11 : decode cX7_noteInfo 11 = .ok (.iload_n 3, 1) := by decide +kernel
theorem dX7_noteInfo_12 : decode cX7_noteInfo 12 = .ok (.iconst 0, 1) := by decide +kernel
theorem dX7_noteInfo_13 : decode cX7_noteInfo 13 = .ok (.iconst 2, 1) := by decide +kernel
theorem dX7_noteInfo_14 : decode cX7_noteInfo 14 = .ok (.invokestatic 41, 3) := by decide +kernel
theorem dX7_noteInfo_17 : decode cX7_noteInfo 17 = .ok (.ifCond .ne 5, 3) := by decide +kernel
theorem dX7_noteInfo_20 : decode cX7_noteInfo 20 = .ok (.iconst (-1), 1) := by decide +kernel
theorem dX7_noteInfo_21 : decode cX7_noteInfo 21 = .ok (.ireturn, 1) := by decide +kernel
theorem dX7_noteInfo_22 : decode cX7_noteInfo 22 = .ok (.aload_n 0, 1) := by decide +kernel
theorem dX7_noteInfo_23 : decode cX7_noteInfo 23 = .ok (.getfield 10, 3) := by decide +kernel
theorem dX7_noteInfo_26 : decode cX7_noteInfo 26 = .ok (.iload_n 1, 1) := by decide +kernel
theorem dX7_noteInfo_27 : decode cX7_noteInfo 27 = .ok (.invokevirtual 63, 3) := by decide +kernel
theorem dX7_noteInfo_30 : decode cX7_noteInfo 30 = .ok (.astore 4, 2) := by decide +kernel
theorem dX7_noteInfo_32 : decode cX7_noteInfo 32 = .ok (.iload_n 2, 1) := by decide +kernel
theorem dX7_noteInfo_33 : decode cX7_noteInfo 33 = .ok (.aload 4, 2) := by decide +kernel
theorem dX7_noteInfo_35 : decode cX7_noteInfo 35 = .ok (.getfield 84, 3) := by decide +kernel
theorem dX7_noteInfo_38 : decode cX7_noteInfo 38 = .ok (.if_icmp .ge 15, 3) := by decide +kernel
theorem dX7_noteInfo_41 : decode cX7_noteInfo 41 = .ok (.aload 4, 2) := by decide +kernel
theorem dX7_noteInfo_43 : decode cX7_noteInfo 43 = .ok (.getfield 116, 3) := by decide +kernel
theorem dX7_noteInfo_46 : decode cX7_noteInfo 46 = .ok (.iload_n 3, 1) := by decide +kernel
theorem dX7_noteInfo_47 : decode cX7_noteInfo 47 = .ok (.aaload, 1) := by decide +kernel
theorem dX7_noteInfo_48 : decode cX7_noteInfo 48 = .ok (.iload_n 2, 1) := by decide +kernel
theorem dX7_noteInfo_49 : decode cX7_noteInfo 49 = .ok (.iaload, 1) := by decide +kernel
theorem dX7_noteInfo_50 : decode cX7_noteInfo 50 = .ok (.goto 5, 3) := by decide +kernel
theorem dX7_noteInfo_53 : decode cX7_noteInfo 53 = .ok (.bipush (-4), 2) := by decide +kernel
theorem dX7_noteInfo_55 : decode cX7_noteInfo 55 = .ok (.ireturn, 1) := by decide +kernel
theorem dX7_spreadCount_0 : decode cX7_spreadCount 0 = .ok (.aload_n 0, 1) := by decide +kernel
theorem dX7_spreadCount_1 : decode cX7_spreadCount 1 = .ok (.getfield 26, 3) := by decide +kernel
theorem dX7_spreadCount_4 : decode cX7_spreadCount 4 = .ok (.aload_n 0, 1) := by decide +kernel
theorem dX7_spreadCount_5 : decode cX7_spreadCount 5 = .ok (.getfield 10, 3) := by decide +kernel
theorem dX7_spreadCount_8 : decode cX7_spreadCount 8 = .ok (.aload_n 0, 1) := by decide +kernel
theorem dX7_spreadCount_9 : decode cX7_spreadCount 9 = .ok (.getfield 10, 3) := by decide +kernel
theorem dX7_spreadCount_12 : decode cX7_spreadCount 12 = .ok (.getfield 101, 3) := by decide +kernel
theorem dX7_spreadCount_15 : decode cX7_spreadCount 15 = .ok (.iconst 0, 1) := by decide +kernel
theorem dX7_spreadCount_16 : decode cX7_spreadCount 16 = .ok (.iaload, 1) := by decide +kernel
theorem dX7_spreadCount_17 : decode cX7_spreadCount 17 = .ok (.invokevirtual 119, 3) := by decide +kernel
theorem dX7_spreadCount_20 : decode cX7_spreadCount 20 = .ok (.aload_n 0, 1) := by decide +kernel
theorem dX7_spreadCount_21 : decode cX7_spreadCount 21 = .ok (.getfield 26, 3) := by decide +kernel
theorem dX7_spreadCount_24 : decode cX7_spreadCount 24 = .ok (.getfield 123, 3) := by decide +kernel
theorem dX7_spreadCount_27 : decode cX7_spreadCount 27 = .ok (.ireturn, 1) := by decide +kernel
theorem dX7_segmentCount_0 : decode cX7_segmentCount 0 = .ok (.aload_n 0, 1) := by decide +kernel
theorem dX7_segmentCount_1 : decode cX7_segmentCount 1 = .ok (.getfield 26, 3) := by decide +kernel
theorem dX7_segmentCount_4 : decode cX7_segmentCount 4 = .ok (.aload_n 0, 1) := by decide +kernel
theorem dX7_segmentCount_5 : decode cX7_segmentCount 5 = .ok (.getfield 10, 3) := by decide +kernel
theorem dX7_segmentCount_8 : decode cX7_segmentCount 8 = .ok (.aload_n 0, 1) := by decide +kernel
theorem dX7_segmentCount_9 : decode cX7_segmentCount 9 = .ok (.getfield 10, 3) := by decide +kernel
theorem dX7_segmentCount_12 : decode cX7_segmentCount 12 = .ok (.getfield 101, 3) := by decide +kernel
theorem dX7_segmentCount_15 : decode cX7_segmentCount 15 = .ok (.iconst 0, 1) := by decide +kernel
theorem dX7_segmentCount_16 : decode cX7_segmentCount 16 = .ok (.iaload, 1) := by decide +kernel
theorem dX7_segmentCount_17 : decode cX7_segmentCount 17 = .ok (.invokevirtual 119, 3) := by decide +kernel
theorem dX7_segmentCount_20 : decode cX7_segmentCount 20 = .ok (.aload_n 0, 1) := by decide +kernel
theorem dX7_segmentCount_21 : decode cX7_segmentCount 21 = .ok (.getfield 26, 3) := by decide +kernel
theorem dX7_segmentCount_24 : decode cX7_segmentCount 24 = .ok (.iload_n 1, 1) := by decide +kernel
theorem dX7_segmentCount_25 : decode cX7_segmentCount 25 = .ok (.invokevirtual 124, 3) := by decide +kernel
theorem dX7_segmentCount_28 : decode cX7_segmentCount 28 = .ok (.ifCond .eq 14, 3) := by decide +kernel
theorem dX7_segmentCount_31 : decode cX7_segmentCount 31 = .ok (.aload_n 0, 1) := by decide +kernel
theorem dX7_segmentCount_32 : decode cX7_segmentCount 32 = .ok (.getfield 26, 3) := by decide +kernel
theorem dX7_segmentCount_35 : decode cX7_segmentCount 35 = .ok (.iload_n 1, 1) := by decide +kernel
theorem dX7_segmentCount_36 : decode cX7_segmentCount 36 = .ok (.invokevirtual 127, 3) := by decide +kernel
theorem dX7_segmentCount_39 : decode cX7_segmentCount 39 = .ok (.goto 4, 3) := by decide +kernel
theorem dX7_segmentCount_42 : decode cX7_segmentCount 42 = .ok (.iconst (-1), 1) := by decide +kernel
theorem dX7_segmentCount_43 : decode cX7_segmentCount 43 = .ok (.ireturn, 1) := by decide +kernel
theorem dX7_pageInfo_0 : decode cX7_pageInfo 0 = .ok (.aload_n 0, 1) := by decide +kernel
theorem dX7_pageInfo_1 : decode cX7_pageInfo 1 = .ok (.getfield 26, 3) := by decide +kernel
theorem dX7_pageInfo_4 : decode cX7_pageInfo 4 = .ok (.aload_n 0, 1) := by decide +kernel
theorem dX7_pageInfo_5 : decode cX7_pageInfo 5 = .ok (.getfield 10, 3) := by decide +kernel
theorem dX7_pageInfo_8 : decode cX7_pageInfo 8 = .ok (.aload_n 0, 1) := by decide +kernel
theorem dX7_pageInfo_9 : decode cX7_pageInfo 9 = .ok (.getfield 10, 3) := by decide +kernel
theorem dX7_pageInfo_12 : decode cX7_pageInfo 12 = .ok (.getfield 101, 3) := by decide +kernel
theorem dX7_pageInfo_15 : decode cX7_pageInfo 15 = .ok (.iconst 0, 1) := by decide +kernel
theorem dX7_pageInfo_16 : decode cX7_pageInfo 16 = .ok (.iaload, 1) := by decide +kernel
theorem dX7_pageInfo_17 : decode cX7_pageInfo 17 = .ok (.invokevirtual 119, 3) := by decide +kernel
theorem dX7_pageInfo_20 : decode cX7_pageInfo 20 = .ok (.aload_n 0, 1) := by decide +kernel
theorem dX7_pageInfo_21 : decode cX7_pageInfo 21 = .ok (.getfield 26, 3) := by decide +kernel
theorem dX7_pageInfo_24 : decode cX7_pageInfo 24 = .ok (.iload_n 1, 1) := by decide +kernel
theorem dX7_pageInfo_25 : decode cX7_pageInfo 25 = .ok (.invokevirtual 124, 3) := by decide +kernel
theorem dX7_pageInfo_28 : decode cX7_pageInfo 28 = .ok (.ifCond .eq 19, 3) := by decide +kernel
theorem dX7_pageInfo_31 : decode cX7_pageInfo 31 = .ok (.iload_n 2, 1) := by decide +kernel
theorem dX7_pageInfo_32 : decode cX7_pageInfo 32 = .ok (.invokestatic 60, 3) := by decide +kernel
theorem dX7_pageInfo_35 : decode cX7_pageInfo 35 = .ok (.ifCond .eq 12, 3) := by decide +kernel
theorem dX7_pageInfo_38 : decode cX7_pageInfo 38 = .ok (.iload_n 3, 1) := by decide +kernel
theorem dX7_pageInfo_39 : decode cX7_pageInfo 39 = .ok (.iconst 0, 1) := by decide +kernel
theorem dX7_pageInfo_40 : decode cX7_pageInfo 40 = .ok (.iconst 5, 1) := by decide +kernel
theorem dX7_pageInfo_41 : decode cX7_pageInfo 41 = .ok (.invokestatic 41, 3) := by decide +kernel
theorem dX7_pageInfo_44 : decode cX7_pageInfo 44 = .ok (.ifCond .ne 5, 3) := by decide +kernel
theorem dX7_pageInfo_47 : decode cX7_pageInfo 47 = .ok (.iconst (-1), 1) := by decide +kernel
theorem dX7_pageInfo_48 : decode cX7_pageInfo 48 = .ok (.ireturn, 1) := by decide +kernel
theorem dX7_pageInfo_49 : decode cX7_pageInfo 49 = .ok (.aload_n 0, 1) := by decide +kernel
theorem dX7_pageInfo_50 : decode cX7_pageInfo 50 = .ok (.getfield 26, 3) := by decide +kernel
theorem dX7_pageInfo_53 : decode cX7_pageInfo 53 = .ok (.getfield 137, 3) := by decide +kernel
theorem dX7_pageInfo_56 : decode cX7_pageInfo 56 = .ok (.iload_n 3, 1) := by decide +kernel
theorem dX7_pageInfo_57 : decode cX7_pageInfo 57 = .ok (.aaload, 1) := by decide +kernel
theorem dX7_pageInfo_58 : decode cX7_pageInfo 58 = .ok (.iconst 2, 1) := by decide +kernel
theorem dX7_pageInfo_59 : decode cX7_pageInfo 59 = .ok (.iload_n 1, 1) := by decide +kernel
theorem dX7_pageInfo_60 : decode cX7_pageInfo 60 = .ok (.imul, 1) := by decide +kernel
theorem dX7_pageInfo_61 : decode cX7_pageInfo 61 = .ok (.iload_n 2, 1) := by decide +kernel
theorem dX7_pageInfo_62 : decode cX7_pageInfo 62 = .ok (.iadd, 1) := by decide +kernel
theorem dX7_pageInfo_63 : decode cX7_pageInfo 63 = .ok (.iaload, 1) := by decide +kernel
theorem dX7_pageInfo_64 : decode cX7_pageInfo 64 = .ok (.ireturn, 1) := by decide +kernel
theorem dX7_isOverfull_0 : decode cX7_isOverfull 0 = .ok (.aload_n 0, 1) := by decide +kernel
theorem dX7_isOverfull_1 : decode cX7_isOverfull 1 = .ok (.getfield 26, 3) := by decide +kernel
theorem dX7_isOverfull_4 : decode cX7_isOverfull 4 = .ok (.aload_n 0, 1) := by decide +kernel
theorem dX7_isOverfull_5 : decode cX7_isOverfull 5 = .ok (.getfield 10, 3) := by decide +kernel
theorem dX7_isOverfull_8 : decode cX7_isOverfull 8 = .ok (.aload_n 0, 1) := by decide +kernel
theorem dX7_isOverfull_9 : decode cX7_isOverfull 9 = .ok (.getfield 10, 3) := by decide +kernel
theorem dX7_isOverfull_12 : decode cX7_isOverfull 12 = .ok (.getfield 101, 3) := by decide +kernel
theorem dX7_isOverfull_15 : decode cX7_isOverfull 15 = .ok (.iconst 0, 1) := by decide +kernel
theorem dX7_isOverfull_16 : decode cX7_isOverfull 16 = .ok (.iaload, 1) := by decide +kernel
theorem dX7_isOverfull_17 : decode cX7_isOverfull 17 = .ok (.invokevirtual 119, 3) := by decide +kernel
theorem dX7_isOverfull_20 : decode cX7_isOverfull 20 = .ok (.aload_n 0, 1) := by decide +kernel
theorem dX7_isOverfull_21 : decode cX7_isOverfull 21 = .ok (.getfield 26, 3) := by decide +kernel
theorem dX7_isOverfull_24 : decode cX7_isOverfull 24 = .ok (.iload_n 1, 1) := by decide +kernel
theorem dX7_isOverfull_25 : decode cX7_isOverfull 25 = .ok (.invokevirtual 124, 3) := by decide +kernel
theorem dX7_isOverfull_28 : decode cX7_isOverfull 28 = .ok (.ifCond .eq 15, 3) := by decide +kernel
theorem dX7_isOverfull_31 : decode cX7_isOverfull 31 = .ok (.aload_n 0, 1) := by decide +kernel
theorem dX7_isOverfull_32 : decode cX7_isOverfull 32 = .ok (.getfield 26, 3) := by decide +kernel
theorem dX7_isOverfull_35 : decode cX7_isOverfull 35 = .ok (.getfield 140, 3) := by decide +kernel
theorem dX7_isOverfull_38 : decode cX7_isOverfull 38 = .ok (.iload_n 1, 1) := by decide +kernel
theorem dX7_isOverfull_39 : decode cX7_isOverfull 39 = .ok (.iaload, 1) := by decide +kernel
theorem dX7_isOverfull_40 : decode cX7_isOverfull 40 = .ok (.goto 4, 3) := by decide +kernel
theorem dX7_isOverfull_43 : decode cX7_isOverfull 43 = .ok (.iconst (-1), 1) := by decide +kernel
theorem dX7_isOverfull_44 : decode cX7_isOverfull 44 = .ok (.ireturn, 1) := by decide +kernel
theorem dX7_spreadOf_0 : decode cX7_spreadOf 0 = .ok (.aload_n 0, 1) := by decide +kernel
theorem dX7_spreadOf_1 : decode cX7_spreadOf 1 = .ok (.getfield 10, 3) := by decide +kernel
theorem dX7_spreadOf_4 : decode cX7_spreadOf 4 = .ok (.iload_n 1, 1) := by decide +kernel
theorem dX7_spreadOf_5 : decode cX7_spreadOf 5 = .ok (.iload_n 2, 1) := by decide +kernel
theorem dX7_spreadOf_6 : decode cX7_spreadOf 6 = .ok (.iload_n 3, 1) := by decide +kernel
theorem dX7_spreadOf_7 : decode cX7_spreadOf 7 = .ok (.invokevirtual 77, 3) := by decide +kernel
theorem dX7_spreadOf_10 : decode cX7_spreadOf 10 = .ok (.ifCond .ne 5, 3) := by decide +kernel
theorem dX7_spreadOf_13 : decode cX7_spreadOf 13 = .ok (.iconst (-1), 1) := by decide +kernel
theorem dX7_spreadOf_14 : decode cX7_spreadOf 14 = .ok (.ireturn, 1) := by decide +kernel
theorem dX7_spreadOf_15 : decode cX7_spreadOf 15 = .ok (.aload_n 0, 1) := by decide +kernel
theorem dX7_spreadOf_16 : decode cX7_spreadOf 16 = .ok (.getfield 26, 3) := by decide +kernel
theorem dX7_spreadOf_19 : decode cX7_spreadOf 19 = .ok (.aload_n 0, 1) := by decide +kernel
theorem dX7_spreadOf_20 : decode cX7_spreadOf 20 = .ok (.getfield 10, 3) := by decide +kernel
theorem dX7_spreadOf_23 : decode cX7_spreadOf 23 = .ok (.aload_n 0, 1) := by decide +kernel
theorem dX7_spreadOf_24 : decode cX7_spreadOf 24 = .ok (.getfield 10, 3) := by decide +kernel
theorem dX7_spreadOf_27 : decode cX7_spreadOf 27 = .ok (.getfield 101, 3) := by decide +kernel
theorem dX7_spreadOf_30 : decode cX7_spreadOf 30 = .ok (.iconst 0, 1) := by decide +kernel
theorem dX7_spreadOf_31 : decode cX7_spreadOf 31 = .ok (.iaload, 1) := by decide +kernel
theorem dX7_spreadOf_32 : decode cX7_spreadOf 32 = .ok (.invokevirtual 119, 3) := by decide +kernel
theorem dX7_spreadOf_35 : decode cX7_spreadOf 35 = .ok (.aload_n 0, 1) := by decide +kernel
theorem dX7_spreadOf_36 : decode cX7_spreadOf 36 = .ok (.getfield 26, 3) := by decide +kernel
theorem dX7_spreadOf_39 : decode cX7_spreadOf 39 = .ok (.aload_n 0, 1) := by decide +kernel
theorem dX7_spreadOf_40 : decode cX7_spreadOf 40 = .ok (.getfield 26, 3) := by decide +kernel
theorem dX7_spreadOf_43 : decode cX7_spreadOf 43 = .ok (.iload_n 1, 1) := by decide +kernel
theorem dX7_spreadOf_44 : decode cX7_spreadOf 44 = .ok (.iload_n 2, 1) := by decide +kernel
theorem dX7_spreadOf_45 : decode cX7_spreadOf 45 = .ok (.iload_n 3, 1) := by decide +kernel
theorem dX7_spreadOf_46 : decode cX7_spreadOf 46 = .ok (.invokevirtual 143, 3) := by decide +kernel
theorem dX7_spreadOf_49 : decode cX7_spreadOf 49 = .ok (.invokevirtual 146, 3) := by decide +kernel
theorem dX7_spreadOf_52 : decode cX7_spreadOf 52 = .ok (.ireturn, 1) := by decide +kernel
theorem dX7_rowOf_0 : decode cX7_rowOf 0 = .ok (.aload_n 0, 1) := by decide +kernel
theorem dX7_rowOf_1 : decode cX7_rowOf 1 = .ok (.getfield 10, 3) := by decide +kernel
theorem dX7_rowOf_4 : decode cX7_rowOf 4 = .ok (.iload_n 1, 1) := by decide +kernel
theorem dX7_rowOf_5 : decode cX7_rowOf 5 = .ok (.iload_n 2, 1) := by decide +kernel
theorem dX7_rowOf_6 : decode cX7_rowOf 6 = .ok (.iload_n 3, 1) := by decide +kernel
theorem dX7_rowOf_7 : decode cX7_rowOf 7 = .ok (.invokevirtual 77, 3) := by decide +kernel
theorem dX7_rowOf_10 : decode cX7_rowOf 10 = .ok (.ifCond .ne 5, 3) := by decide +kernel
theorem dX7_rowOf_13 : decode cX7_rowOf 13 = .ok (.iconst (-1), 1) := by decide +kernel
theorem dX7_rowOf_14 : decode cX7_rowOf 14 = .ok (.ireturn, 1) := by decide +kernel
theorem dX7_rowOf_15 : decode cX7_rowOf 15 = .ok (.aload_n 0, 1) := by decide +kernel
theorem dX7_rowOf_16 : decode cX7_rowOf 16 = .ok (.getfield 26, 3) := by decide +kernel
theorem dX7_rowOf_19 : decode cX7_rowOf 19 = .ok (.aload_n 0, 1) := by decide +kernel
theorem dX7_rowOf_20 : decode cX7_rowOf 20 = .ok (.getfield 10, 3) := by decide +kernel
theorem dX7_rowOf_23 : decode cX7_rowOf 23 = .ok (.aload_n 0, 1) := by decide +kernel
theorem dX7_rowOf_24 : decode cX7_rowOf 24 = .ok (.getfield 10, 3) := by decide +kernel
theorem dX7_rowOf_27 : decode cX7_rowOf 27 = .ok (.getfield 101, 3) := by decide +kernel
theorem dX7_rowOf_30 : decode cX7_rowOf 30 = .ok (.iconst 0, 1) := by decide +kernel
theorem dX7_rowOf_31 : decode cX7_rowOf 31 = .ok (.iaload, 1) := by decide +kernel
theorem dX7_rowOf_32 : decode cX7_rowOf 32 = .ok (.invokevirtual 119, 3) := by decide +kernel
theorem dX7_rowOf_35 : decode cX7_rowOf 35 = .ok (.aload_n 0, 1) := by decide +kernel
theorem dX7_rowOf_36 : decode cX7_rowOf 36 = .ok (.getfield 26, 3) := by decide +kernel
theorem dX7_rowOf_39 : decode cX7_rowOf 39 = .ok (.aload_n 0, 1) := by decide +kernel
theorem dX7_rowOf_40 : decode cX7_rowOf 40 = .ok (.getfield 26, 3) := by decide +kernel
theorem dX7_rowOf_43 : decode cX7_rowOf 43 = .ok (.iload_n 1, 1) := by decide +kernel
theorem dX7_rowOf_44 : decode cX7_rowOf 44 = .ok (.iload_n 2, 1) := by decide +kernel
theorem dX7_rowOf_45 : decode cX7_rowOf 45 = .ok (.iload_n 3, 1) := by decide +kernel
theorem dX7_rowOf_46 : decode cX7_rowOf 46 = .ok (.invokevirtual 143, 3) := by decide +kernel
theorem dX7_rowOf_49 : decode cX7_rowOf 49 = .ok (.iload_n 2, 1) := by decide +kernel
theorem dX7_rowOf_50 : decode cX7_rowOf 50 = .ok (.iload_n 3, 1) := by decide +kernel
theorem dX7_rowOf_51 : decode cX7_rowOf 51 = .ok (.invokevirtual 149, 3) := by decide +kernel
theorem dX7_rowOf_54 : decode cX7_rowOf 54 = .ok (.ireturn, 1) := by decide +kernel
theorem dX7_shown_0 : decode cX7_shown 0 = .ok (.aload_n 0, 1) := by decide +kernel
theorem dX7_shown_1 : decode cX7_shown 1 = .ok (.getfield 26, 3) := by decide +kernel
theorem dX7_shown_4 : decode cX7_shown 4 = .ok (.aload_n 0, 1) := by decide +kernel
theorem dX7_shown_5 : decode cX7_shown 5 = .ok (.getfield 10, 3) := by decide +kernel
theorem dX7_shown_8 : decode cX7_shown 8 = .ok (.aload_n 0, 1) := by decide +kernel
theorem dX7_shown_9 : decode cX7_shown 9 = .ok (.getfield 10, 3) := by decide +kernel
theorem dX7_shown_12 : decode cX7_shown 12 = .ok (.getfield 101, 3) := by decide +kernel
theorem dX7_shown_15 : decode cX7_shown 15 = .ok (.iconst 0, 1) := by decide +kernel
theorem dX7_shown_16 : decode cX7_shown 16 = .ok (.iaload, 1) := by decide +kernel
theorem dX7_shown_17 : decode cX7_shown 17 = .ok (.invokevirtual 119, 3) := by decide +kernel
theorem dX7_shown_20 : decode cX7_shown 20 = .ok (.aload_n 0, 1) := by decide +kernel
theorem dX7_shown_21 : decode cX7_shown 21 = .ok (.getfield 26, 3) := by decide +kernel
theorem dX7_shown_24 : decode cX7_shown 24 = .ok (.iload_n 1, 1) := by decide +kernel
theorem dX7_shown_25 : decode cX7_shown 25 = .ok (.invokevirtual 124, 3) := by decide +kernel
theorem dX7_shown_28 : decode cX7_shown 28 = .ok (.ifCond .eq 20, 3) := by decide +kernel
theorem dX7_shown_31 : decode cX7_shown 31 = .ok (.iload_n 2, 1) := by decide +kernel
theorem dX7_shown_32 : decode cX7_shown 32 = .ok (.invokestatic 60, 3) := by decide +kernel
theorem dX7_shown_35 : decode cX7_shown 35 = .ok (.ifCond .eq 13, 3) := by decide +kernel
theorem dX7_shown_38 : decode cX7_shown 38 = .ok (.iload_n 3, 1) := by decide +kernel
theorem dX7_shown_39 : decode cX7_shown 39 = .ok (.iconst 0, 1) := by decide +kernel
theorem dX7_shown_40 : decode cX7_shown 40 = .ok (.bipush 99, 2) := by decide +kernel
theorem dX7_shown_42 : decode cX7_shown 42 = .ok (.invokestatic 41, 3) := by decide +kernel
theorem dX7_shown_45 : decode cX7_shown 45 = .ok (.ifCond .ne 5, 3) := by decide +kernel
theorem dX7_shown_48 : decode cX7_shown 48 = .ok (.iconst (-1), 1) := by decide +kernel
theorem dX7_shown_49 : decode cX7_shown 49 = .ok (.ireturn, 1) := by decide +kernel
theorem dX7_shown_50 : decode cX7_shown 50 = .ok (.aload_n 0, 1) := by decide +kernel
theorem dX7_shown_51 : decode cX7_shown 51 = .ok (.getfield 26, 3) := by decide +kernel
theorem dX7_shown_54 : decode cX7_shown 54 = .ok (.iload_n 1, 1) := by decide +kernel
theorem dX7_shown_55 : decode cX7_shown 55 = .ok (.iload_n 2, 1) := by decide +kernel
theorem dX7_shown_56 : decode cX7_shown 56 = .ok (.iload_n 3, 1) := by decide +kernel
theorem dX7_shown_57 : decode cX7_shown 57 = .ok (.invokevirtual 152, 3) := by decide +kernel
theorem dX7_shown_60 : decode cX7_shown 60 = .ok (.istore 4, 2) := by decide +kernel
theorem dX7_shown_62 : decode cX7_shown 62 = .ok (.iload 4, 2) := by decide +kernel
theorem dX7_shown_64 : decode cX7_shown 64 = .ok (.ifCond .eq 8, 3) := by decide +kernel
theorem dX7_shown_67 : decode cX7_shown 67 = .ok (.iload 4, 2) := by decide +kernel
theorem dX7_shown_69 : decode cX7_shown 69 = .ok (.goto 17, 3) := by decide +kernel
theorem dX7_shown_72 : decode cX7_shown 72 = .ok (.aload_n 0, 1) := by decide +kernel
theorem dX7_shown_73 : decode cX7_shown 73 = .ok (.getfield 26, 3) := by decide +kernel
theorem dX7_shown_76 : decode cX7_shown 76 = .ok (.aload_n 0, 1) := by decide +kernel
theorem dX7_shown_77 : decode cX7_shown 77 = .ok (.getfield 10, 3) := by decide +kernel
theorem dX7_shown_80 : decode cX7_shown 80 = .ok (.iload_n 1, 1) := by decide +kernel
theorem dX7_shown_81 : decode cX7_shown 81 = .ok (.iload_n 2, 1) := by decide +kernel
theorem dX7_shown_82 : decode cX7_shown 82 = .ok (.iload_n 3, 1) := by decide +kernel
theorem dX7_shown_83 : decode cX7_shown 83 = .ok (.invokevirtual 155, 3) := by decide +kernel
theorem dX7_shown_86 : decode cX7_shown 86 = .ok (.ireturn, 1) := by decide +kernel
theorem dX7_cost_0 : decode cX7_cost 0 = .ok (.aload_n 0, 1) := by decide +kernel
theorem dX7_cost_1 : decode cX7_cost 1 = .ok (.getfield 26, 3) := by decide +kernel
theorem dX7_cost_4 : decode cX7_cost 4 = .ok (.aload_n 0, 1) := by decide +kernel
theorem dX7_cost_5 : decode cX7_cost 5 = .ok (.getfield 10, 3) := by decide +kernel
theorem dX7_cost_8 : decode cX7_cost 8 = .ok (.aload_n 0, 1) := by decide +kernel
theorem dX7_cost_9 : decode cX7_cost 9 = .ok (.getfield 10, 3) := by decide +kernel
theorem dX7_cost_12 : decode cX7_cost 12 = .ok (.getfield 101, 3) := by decide +kernel
theorem dX7_cost_15 : decode cX7_cost 15 = .ok (.iconst 0, 1) := by decide +kernel
theorem dX7_cost_16 : decode cX7_cost 16 = .ok (.iaload, 1) := by decide +kernel
theorem dX7_cost_17 : decode cX7_cost 17 = .ok (.invokevirtual 119, 3) := by decide +kernel
theorem dX7_cost_20 : decode cX7_cost 20 = .ok (.aload_n 0, 1) := by decide +kernel
theorem dX7_cost_21 : decode cX7_cost 21 = .ok (.getfield 26, 3) := by decide +kernel
theorem dX7_cost_24 : decode cX7_cost 24 = .ok (.invokevirtual 159, 3) := by decide +kernel
theorem dX7_cost_27 : decode cX7_cost 27 = .ok (.ireturn, 1) := by decide +kernel
theorem dX7_bestCost_0 : decode cX7_bestCost 0 = .ok (.aload_n 0, 1) := by decide +kernel
theorem dX7_bestCost_1 : decode cX7_bestCost 1 = .ok (.getfield 33, 3) := by decide +kernel
theorem dX7_bestCost_4 : decode cX7_bestCost 4 = .ok (.aload_n 0, 1) := by decide +kernel
theorem dX7_bestCost_5 : decode cX7_bestCost 5 = .ok (.getfield 10, 3) := by decide +kernel
theorem dX7_bestCost_8 : decode cX7_bestCost 8 = .ok (.invokevirtual 163, 3) := by decide +kernel
theorem dX7_bestCost_11 : decode cX7_bestCost 11 = .ok (.aload_n 0, 1) := by decide +kernel
theorem dX7_bestCost_12 : decode cX7_bestCost 12 = .ok (.getfield 33, 3) := by decide +kernel
theorem dX7_bestCost_15 : decode cX7_bestCost 15 = .ok (.invokevirtual 166, 3) := by decide +kernel
theorem dX7_bestCost_18 : decode cX7_bestCost 18 = .ok (.ifCond .eq 15, 3) := by decide +kernel
theorem dX7_bestCost_21 : decode cX7_bestCost 21 = .ok (.aload_n 0, 1) := by decide +kernel
theorem dX7_bestCost_22 : decode cX7_bestCost 22 = .ok (.getfield 33, 3) := by decide +kernel
theorem dX7_bestCost_25 : decode cX7_bestCost 25 = .ok (.getfield 170, 3) := by decide +kernel
theorem dX7_bestCost_28 : decode cX7_bestCost 28 = .ok (.iconst 0, 1) := by decide +kernel
theorem dX7_bestCost_29 : decode cX7_bestCost 29 = .ok (.iaload, 1) := by decide +kernel
theorem dX7_bestCost_30 : decode cX7_bestCost 30 = .ok (.goto 5, 3) := by decide +kernel
theorem dX7_bestCost_33 : decode cX7_bestCost 33 = .ok (.bipush (-4), 2) := by decide +kernel
theorem dX7_bestCost_35 : decode cX7_bestCost 35 = .ok (.ireturn, 1) := by decide +kernel
theorem dX7_bestBreak_0 : decode cX7_bestBreak 0 = .ok (.iload_n 1, 1) := by decide +kernel
theorem dX7_bestBreak_1 : decode cX7_bestBreak 1 = .ok (.ifCond .ge 5, 3) := by decide +kernel
theorem dX7_bestBreak_4 : decode cX7_bestBreak 4 = .ok (.iconst (-1), 1) := by decide +kernel
theorem dX7_bestBreak_5 : decode cX7_bestBreak 5 = .ok (.ireturn, 1) := by decide +kernel
theorem dX7_bestBreak_6 : decode cX7_bestBreak 6 = .ok (.aload_n 0, 1) := by decide +kernel
theorem dX7_bestBreak_7 : decode cX7_bestBreak 7 = .ok (.getfield 33, 3) := by decide +kernel
theorem dX7_bestBreak_10 : decode cX7_bestBreak 10 = .ok (.aload_n 0, 1) := by decide +kernel
theorem dX7_bestBreak_11 : decode cX7_bestBreak 11 = .ok (.getfield 10, 3) := by decide +kernel
theorem dX7_bestBreak_14 : decode cX7_bestBreak 14 = .ok (.invokevirtual 163, 3) := by decide +kernel
theorem dX7_bestBreak_17 : decode cX7_bestBreak 17 = .ok (.iload_n 1, 1) := by decide +kernel
theorem dX7_bestBreak_18 : decode cX7_bestBreak 18 = .ok (.aload_n 0, 1) := by decide +kernel
theorem dX7_bestBreak_19 : decode cX7_bestBreak 19 = .ok (.getfield 33, 3) := by decide +kernel
theorem dX7_bestBreak_22 : decode cX7_bestBreak 22 = .ok (.getfield 173, 3) := by decide +kernel
theorem dX7_bestBreak_25 : decode cX7_bestBreak 25 = .ok (.if_icmp .ge 15, 3) := by decide +kernel
theorem dX7_bestBreak_28 : decode cX7_bestBreak 28 = .ok (.aload_n 0, 1) := by decide +kernel
theorem dX7_bestBreak_29 : decode cX7_bestBreak 29 = .ok (.getfield 33, 3) := by decide +kernel
theorem dX7_bestBreak_32 : decode cX7_bestBreak 32 = .ok (.getfield 176, 3) := by decide +kernel
theorem dX7_bestBreak_35 : decode cX7_bestBreak 35 = .ok (.iload_n 1, 1) := by decide +kernel
theorem dX7_bestBreak_36 : decode cX7_bestBreak 36 = .ok (.iaload, 1) := by decide +kernel
theorem dX7_bestBreak_37 : decode cX7_bestBreak 37 = .ok (.goto 5, 3) := by decide +kernel
theorem dX7_bestBreak_40 : decode cX7_bestBreak 40 = .ok (.bipush (-4), 2) := by decide +kernel
theorem dX7_bestBreak_42 : decode cX7_bestBreak 42 = .ok (.ireturn, 1) := by decide +kernel
theorem dX7_leastHeight_0 : decode cX7_leastHeight 0 = .ok (.iload_n 1, 1) := by decide +kernel
theorem dX7_leastHeight_1 : decode cX7_leastHeight 1 = .ok (.iconst 1, 1) := by decide +kernel
theorem dX7_leastHeight_2 : decode cX7_leastHeight 2 = .ok (.bipush 40, 2) := by decide +kernel
theorem dX7_leastHeight_4 : decode cX7_leastHeight 4 = .ok (.invokestatic 41, 3) := by decide +kernel
theorem dX7_leastHeight_7 : decode cX7_leastHeight 7 = .ok (.ifCond .ne 5, 3) := by decide +kernel
theorem dX7_leastHeight_10 : decode cX7_leastHeight 10 = .ok (.iconst (-1), 1) := by decide +kernel
theorem dX7_leastHeight_11 : decode cX7_leastHeight 11 = .ok (.ireturn, 1) := by decide +kernel
theorem dX7_leastHeight_12 : decode cX7_leastHeight 12 = .ok (.getstatic 94, 3) := by decide +kernel
theorem dX7_leastHeight_15 : decode cX7_leastHeight 15 = .ok (.iconst 0, 1) := by decide +kernel
theorem dX7_leastHeight_16 : decode cX7_leastHeight 16 = .ok (.iaload, 1) := by decide +kernel
theorem dX7_leastHeight_17 : decode cX7_leastHeight 17 = .ok (.istore_n 2, 1) := by decide +kernel
theorem dX7_leastHeight_18 : decode cX7_leastHeight 18 = .ok (.iload_n 2, 1) := by decide +kernel
theorem dX7_leastHeight_19 : decode cX7_leastHeight 19 = .ok (.getstatic 98, 3) := by decide +kernel
theorem dX7_leastHeight_22 : decode cX7_leastHeight 22 = .ok (.iconst 0, 1) := by decide +kernel
theorem dX7_leastHeight_23 : decode cX7_leastHeight 23 = .ok (.iaload, 1) := by decide +kernel
theorem dX7_leastHeight_24 : decode cX7_leastHeight 24 = .ok (.if_icmp .gt 34, 3) := by decide +kernel
theorem dX7_leastHeight_27 : decode cX7_leastHeight 27 = .ok (.aload_n 0, 1) := by decide +kernel
theorem dX7_leastHeight_28 : decode cX7_leastHeight 28 = .ok (.getfield 26, 3) := by decide +kernel
theorem dX7_leastHeight_31 : decode cX7_leastHeight 31 = .ok (.aload_n 0, 1) := by decide +kernel
theorem dX7_leastHeight_32 : decode cX7_leastHeight 32 = .ok (.getfield 10, 3) := by decide +kernel
theorem dX7_leastHeight_35 : decode cX7_leastHeight 35 = .ok (.iload_n 2, 1) := by decide +kernel
theorem dX7_leastHeight_36 : decode cX7_leastHeight 36 = .ok (.invokevirtual 119, 3) := by decide +kernel
theorem dX7_leastHeight_39 : decode cX7_leastHeight 39 = .ok (.aload_n 0, 1) := by decide +kernel
theorem dX7_leastHeight_40 : decode cX7_leastHeight 40 = .ok (.getfield 26, 3) := by decide +kernel
theorem dX7_leastHeight_43 : decode cX7_leastHeight 43 = .ok (.getfield 123, 3) := by decide +kernel
theorem dX7_leastHeight_46 : decode cX7_leastHeight 46 = .ok (.iload_n 1, 1) := by decide +kernel
theorem dX7_leastHeight_47 : decode cX7_leastHeight 47 = .ok (.if_icmp .gt 5, 3) := by decide +kernel
theorem dX7_leastHeight_50 : decode cX7_leastHeight 50 = .ok (.iload_n 2, 1) := by decide +kernel
theorem dX7_leastHeight_51 : decode cX7_leastHeight 51 = .ok (.ireturn, 1) := by decide +kernel
theorem dX7_leastHeight_52 : decode cX7_leastHeight 52 = .ok (.iinc 2 1, 3) := by decide +kernel
theorem dX7_leastHeight_55 : decode cX7_leastHeight 55 = .ok (.goto (-37), 3) := by decide +kernel
theorem dX7_leastHeight_58 : decode cX7_leastHeight 58 = .ok (.bipush (-4), 2) := by decide +kernel
theorem dX7_leastHeight_60 : decode cX7_leastHeight 60 = .ok (.ireturn, 1) := by decide +kernel
theorem dX7_changePair_0 : decode cX7_changePair 0 = .ok (.aload_n 0, 1) := by decide +kernel
theorem dX7_changePair_1 : decode cX7_changePair 1 = .ok (.invokevirtual 45, 3) := by decide +kernel
theorem dX7_changePair_4 : decode cX7_changePair 4 = .ok (.aload_n 0, 1) := by decide +kernel
theorem dX7_changePair_5 : decode cX7_changePair 5 = .ok (.getfield 10, 3) := by decide +kernel
theorem dX7_changePair_8 : decode cX7_changePair 8 = .ok (.getfield 112, 3) := by decide +kernel
theorem dX7_changePair_11 : decode cX7_changePair 11 = .ok (.iload_n 2, 1) := by decide +kernel
theorem dX7_changePair_12 : decode cX7_changePair 12 = .ok (.aaload, 1) := by decide +kernel
theorem dX7_changePair_13 : decode cX7_changePair 13 = .ok (.iload_n 1, 1) := by decide +kernel
theorem dX7_changePair_14 : decode cX7_changePair 14 = .ok (.iaload, 1) := by decide +kernel
theorem dX7_changePair_15 : decode cX7_changePair 15 = .ok (.istore 4, 2) := by decide +kernel
theorem dX7_changePair_17 : decode cX7_changePair 17 = .ok (.aload_n 0, 1) := by decide +kernel
theorem dX7_changePair_18 : decode cX7_changePair 18 = .ok (.getfield 10, 3) := by decide +kernel
theorem dX7_changePair_21 : decode cX7_changePair 21 = .ok (.getfield 112, 3) := by decide +kernel
theorem dX7_changePair_24 : decode cX7_changePair 24 = .ok (.iload_n 2, 1) := by decide +kernel
theorem dX7_changePair_25 : decode cX7_changePair 25 = .ok (.aaload, 1) := by decide +kernel
theorem dX7_changePair_26 : decode cX7_changePair 26 = .ok (.iload_n 1, 1) := by decide +kernel
theorem dX7_changePair_27 : decode cX7_changePair 27 = .ok (.iload_n 3, 1) := by decide +kernel
theorem dX7_changePair_28 : decode cX7_changePair 28 = .ok (.iastore, 1) := by decide +kernel
theorem dX7_changePair_29 : decode cX7_changePair 29 = .ok (.iload 4, 2) := by decide +kernel
theorem dX7_changePair_31 : decode cX7_changePair 31 = .ok (.ireturn, 1) := by decide +kernel
theorem dX7_beginChange_0 : decode cX7_beginChange 0 = .ok (.aload_n 0, 1) := by decide +kernel
theorem dX7_beginChange_1 : decode cX7_beginChange 1 = .ok (.getfield 19, 3) := by decide +kernel
theorem dX7_beginChange_4 : decode cX7_beginChange 4 = .ok (.aload_n 0, 1) := by decide +kernel
theorem dX7_beginChange_5 : decode cX7_beginChange 5 = .ok (.getfield 10, 3) := by decide +kernel
theorem dX7_beginChange_8 : decode cX7_beginChange 8 = .ok (.invokevirtual 185, 3) := by decide +kernel
theorem dX7_beginChange_11 : decode cX7_beginChange 11 = .ok (.aload_n 0, 1) := by decide +kernel
theorem dX7_beginChange_12 : decode cX7_beginChange 12 = .ok (.invokevirtual 109, 3) := by decide +kernel
theorem dX7_beginChange_15 : decode cX7_beginChange 15 = .ok (.return_, 1) := by decide +kernel
theorem dX7_forgetResults_0 : decode cX7_forgetResults 0 = .ok (.aload_n 0, 1) := by decide +kernel
theorem dX7_forgetResults_1 : decode cX7_forgetResults 1 = .ok (.getfield 26, 3) := by decide +kernel
theorem dX7_forgetResults_4 : decode cX7_forgetResults 4 = .ok (.iconst 0, 1) := by decide +kernel
theorem dX7_forgetResults_5 : decode cX7_forgetResults 5 = .ok (.putfield 188, 3) := by decide +kernel
theorem dX7_forgetResults_8 : decode cX7_forgetResults 8 = .ok (.aload_n 0, 1) := by decide +kernel
theorem dX7_forgetResults_9 : decode cX7_forgetResults 9 = .ok (.getfield 33, 3) := by decide +kernel
theorem dX7_forgetResults_12 : decode cX7_forgetResults 12 = .ok (.iconst 0, 1) := by decide +kernel
theorem dX7_forgetResults_13 : decode cX7_forgetResults 13 = .ok (.putfield 191, 3) := by decide +kernel
theorem dX7_forgetResults_16 : decode cX7_forgetResults 16 = .ok (.return_, 1) := by decide +kernel
theorem dX7_isIn_0 : decode cX7_isIn 0 = .ok (.iload_n 0, 1) := by decide +kernel
theorem dX7_isIn_1 : decode cX7_isIn 1 = .ok (.iload_n 1, 1) := by decide +kernel
theorem dX7_isIn_2 : decode cX7_isIn 2 = .ok (.if_icmp .lt 12, 3) := by decide +kernel
theorem dX7_isIn_5 : decode cX7_isIn 5 = .ok (.iload_n 0, 1) := by decide +kernel
theorem dX7_isIn_6 : decode cX7_isIn 6 = .ok (.iload_n 2, 1) := by decide +kernel
theorem dX7_isIn_7 : decode cX7_isIn 7 = .ok (.if_icmp .gt 7, 3) := by decide +kernel
theorem dX7_isIn_10 : decode cX7_isIn 10 = .ok (.iconst 1, 1) := by decide +kernel
theorem dX7_isIn_11 : decode cX7_isIn 11 = .ok (.goto 4, 3) := by decide +kernel
theorem dX7_isIn_14 : decode cX7_isIn 14 = .ok (.iconst 0, 1) := by decide +kernel
theorem dX7_isIn_15 : decode cX7_isIn 15 = .ok (.ireturn, 1) := by decide +kernel
theorem dX7_isSide_0 : decode cX7_isSide 0 = .ok (.iload_n 0, 1) := by decide +kernel
theorem dX7_isSide_1 : decode cX7_isSide 1 = .ok (.iconst 0, 1) := by decide +kernel
theorem dX7_isSide_2 : decode cX7_isSide 2 = .ok (.iconst 1, 1) := by decide +kernel
theorem dX7_isSide_3 : decode cX7_isSide 3 = .ok (.invokestatic 41, 3) := by decide +kernel
theorem dX7_isSide_6 : decode cX7_isSide 6 = .ok (.ireturn, 1) := by decide +kernel
theorem dX7_openPlace_0 : decode cX7_openPlace 0 = .ok (.iload_n 1, 1) := by decide +kernel
theorem dX7_openPlace_1 : decode cX7_openPlace 1 = .ok (.iconst 0, 1) := by decide +kernel
theorem dX7_openPlace_2 : decode cX7_openPlace 2 = .ok (.iload_n 2, 1) := by decide +kernel
theorem dX7_openPlace_3 : decode cX7_openPlace 3 = .ok (.invokestatic 41, 3) := by decide +kernel
theorem dX7_openPlace_6 : decode cX7_openPlace 6 = .ok (.ifCond .eq 21, 3) := by decide +kernel
theorem dX7_openPlace_9 : decode cX7_openPlace 9 = .ok (.iload_n 2, 1) := by decide +kernel
theorem dX7_openPlace_10 : decode cX7_openPlace 10 = .ok (.aload_n 0, 1) := by decide +kernel
theorem dX7_openPlace_11 : decode cX7_openPlace 11 = .ok (.arraylength, 1) := by decide +kernel
theorem dX7_openPlace_12 : decode cX7_openPlace 12 = .ok (.if_icmp .ge 15, 3) := by decide +kernel
theorem dX7_openPlace_15 : decode cX7_openPlace 15 = .ok (.aload_n 0, 1) := by decide +kernel
theorem dX7_openPlace_16 : decode cX7_openPlace 16 = .ok (.iload_n 1, 1) := by decide +kernel
theorem dX7_openPlace_17 : decode cX7_openPlace 17 = .ok (.aload_n 0, 1) := by decide +kernel
theorem dX7_openPlace_18 : decode cX7_openPlace 18 = .ok (.iload_n 1, 1) := by decide +kernel
theorem dX7_openPlace_19 : decode cX7_openPlace 19 = .ok (.iconst 1, 1) := by decide +kernel
theorem dX7_openPlace_20 : decode cX7_openPlace 20 = .ok (.iadd, 1) := by decide +kernel
theorem dX7_openPlace_21 : decode cX7_openPlace 21 = .ok (.iload_n 2, 1) := by decide +kernel
theorem dX7_openPlace_22 : decode cX7_openPlace 22 = .ok (.iload_n 1, 1) := by decide +kernel
theorem dX7_openPlace_23 : decode cX7_openPlace 23 = .ok (.isub, 1) := by decide +kernel
theorem dX7_openPlace_24 : decode cX7_openPlace 24 = .ok (.invokestatic 195, 3) := by decide +kernel
theorem dX7_openPlace_27 : decode cX7_openPlace 27 = .ok (.return_, 1) := by decide +kernel
theorem dX7_closePlace_0 : decode cX7_closePlace 0 = .ok (.iload_n 1, 1) := by decide +kernel
theorem dX7_closePlace_1 : decode cX7_closePlace 1 = .ok (.iconst 0, 1) := by decide +kernel
theorem dX7_closePlace_2 : decode cX7_closePlace 2 = .ok (.iload_n 2, 1) := by decide +kernel
theorem dX7_closePlace_3 : decode cX7_closePlace 3 = .ok (.iconst 1, 1) := by decide +kernel
theorem dX7_closePlace_4 : decode cX7_closePlace 4 = .ok (.isub, 1) := by decide +kernel
theorem dX7_closePlace_5 : decode cX7_closePlace 5 = .ok (.invokestatic 41, 3) := by decide +kernel
theorem dX7_closePlace_8 : decode cX7_closePlace 8 = .ok (.ifCond .eq 23, 3) := by decide +kernel
theorem dX7_closePlace_11 : decode cX7_closePlace 11 = .ok (.iload_n 2, 1) := by decide +kernel
theorem dX7_closePlace_12 : decode cX7_closePlace 12 = .ok (.aload_n 0, 1) := by decide +kernel
theorem dX7_closePlace_13 : decode cX7_closePlace 13 = .ok (.arraylength, 1) := by decide +kernel
theorem dX7_closePlace_14 : decode cX7_closePlace 14 = .ok (.if_icmp .gt 17, 3) := by decide +kernel
theorem dX7_closePlace_17 : decode cX7_closePlace 17 = .ok (.aload_n 0, 1) := by decide +kernel
theorem dX7_closePlace_18 : decode cX7_closePlace 18 = .ok (.iload_n 1, 1) := by decide +kernel
theorem dX7_closePlace_19 : decode cX7_closePlace 19 = .ok (.iconst 1, 1) := by decide +kernel
theorem dX7_closePlace_20 : decode cX7_closePlace 20 = .ok (.iadd, 1) := by decide +kernel
theorem dX7_closePlace_21 : decode cX7_closePlace 21 = .ok (.aload_n 0, 1) := by decide +kernel
theorem dX7_closePlace_22 : decode cX7_closePlace 22 = .ok (.iload_n 1, 1) := by decide +kernel
theorem dX7_closePlace_23 : decode cX7_closePlace 23 = .ok (.iload_n 2, 1) := by decide +kernel
theorem dX7_closePlace_24 : decode cX7_closePlace 24 = .ok (.iload_n 1, 1) := by decide +kernel
theorem dX7_closePlace_25 : decode cX7_closePlace 25 = .ok (.isub, 1) := by decide +kernel
theorem dX7_closePlace_26 : decode cX7_closePlace 26 = .ok (.iconst 1, 1) := by decide +kernel
theorem dX7_closePlace_27 : decode cX7_closePlace 27 = .ok (.isub, 1) := by decide +kernel
theorem dX7_closePlace_28 : decode cX7_closePlace 28 = .ok (.invokestatic 195, 3) := by decide +kernel
theorem dX7_closePlace_31 : decode cX7_closePlace 31 = .ok (.return_, 1) := by decide +kernel
theorem dX7_copyTable_0 : decode cX7_copyTable 0 = .ok (.iconst 0, 1) := by decide +kernel
theorem dX7_copyTable_1 : decode cX7_copyTable 1 = .ok (.istore_n 2, 1) := by decide +kernel
theorem dX7_copyTable_2 : decode cX7_copyTable 2 = .ok (.iload_n 2, 1) := by decide +kernel
theorem dX7_copyTable_3 : decode cX7_copyTable 3 = .ok (.aload_n 0, 1) := by decide +kernel
theorem dX7_copyTable_4 : decode cX7_copyTable 4 = .ok (.arraylength, 1) := by decide +kernel
theorem dX7_copyTable_5 : decode cX7_copyTable 5 = .ok (.if_icmp .ge 37, 3) := by decide +kernel
theorem dX7_copyTable_8 : decode cX7_copyTable 8 = .ok (.iload_n 2, 1) := by decide +kernel
theorem dX7_copyTable_9 : decode cX7_copyTable 9 = .ok (.aload_n 1, 1) := by decide +kernel
theorem dX7_copyTable_10 : decode cX7_copyTable 10 = .ok (.arraylength, 1) := by decide +kernel
theorem dX7_copyTable_11 : decode cX7_copyTable 11 = .ok (.if_icmp .ge 31, 3) := by decide +kernel
theorem dX7_copyTable_14 : decode cX7_copyTable 14 = .ok (.aload_n 0, 1) := by decide +kernel
theorem dX7_copyTable_15 : decode cX7_copyTable 15 = .ok (.iload_n 2, 1) := by decide +kernel
theorem dX7_copyTable_16 : decode cX7_copyTable 16 = .ok (.aaload, 1) := by decide +kernel
theorem dX7_copyTable_17 : decode cX7_copyTable 17 = .ok (.iconst 0, 1) := by decide +kernel
theorem dX7_copyTable_18 : decode cX7_copyTable 18 = .ok (.aload_n 1, 1) := by decide +kernel
theorem dX7_copyTable_19 : decode cX7_copyTable 19 = .ok (.iload_n 2, 1) := by decide +kernel
theorem dX7_copyTable_20 : decode cX7_copyTable 20 = .ok (.aaload, 1) := by decide +kernel
theorem dX7_copyTable_21 : decode cX7_copyTable 21 = .ok (.iconst 0, 1) := by decide +kernel
theorem dX7_copyTable_22 : decode cX7_copyTable 22 = .ok (.aload_n 0, 1) := by decide +kernel
theorem dX7_copyTable_23 : decode cX7_copyTable 23 = .ok (.iload_n 2, 1) := by decide +kernel
theorem dX7_copyTable_24 : decode cX7_copyTable 24 = .ok (.aaload, 1) := by decide +kernel
theorem dX7_copyTable_25 : decode cX7_copyTable 25 = .ok (.arraylength, 1) := by decide +kernel
theorem dX7_copyTable_26 : decode cX7_copyTable 26 = .ok (.aload_n 1, 1) := by decide +kernel
theorem dX7_copyTable_27 : decode cX7_copyTable 27 = .ok (.iload_n 2, 1) := by decide +kernel
theorem dX7_copyTable_28 : decode cX7_copyTable 28 = .ok (.aaload, 1) := by decide +kernel
theorem dX7_copyTable_29 : decode cX7_copyTable 29 = .ok (.arraylength, 1) := by decide +kernel
theorem dX7_copyTable_30 : decode cX7_copyTable 30 = .ok (.invokestatic 201, 3) := by decide +kernel
theorem dX7_copyTable_33 : decode cX7_copyTable 33 = .ok (.invokestatic 195, 3) := by decide +kernel
theorem dX7_copyTable_36 : decode cX7_copyTable 36 = .ok (.iinc 2 1, 3) := by decide +kernel
theorem dX7_copyTable_39 : decode cX7_copyTable 39 = .ok (.goto (-37), 3) := by decide +kernel
theorem dX7_copyTable_42 : decode cX7_copyTable 42 = .ok (.return_, 1) := by decide +kernel
theorem dL_cell_0 : decode cL_cell 0 = .ok (.iload_n 1, 1) := by decide +kernel
theorem dL_cell_1 : decode cL_cell 1 = .ok (.aload_n 0, 1) := by decide +kernel
theorem dL_cell_2 : decode cL_cell 2 = .ok (.arraylength, 1) := by decide +kernel
theorem dL_cell_3 : decode cL_cell 3 = .ok (.if_icmp .ge 9, 3) := by decide +kernel
theorem dL_cell_6 : decode cL_cell 6 = .ok (.aload_n 0, 1) := by decide +kernel
theorem dL_cell_7 : decode cL_cell 7 = .ok (.iload_n 1, 1) := by decide +kernel
theorem dL_cell_8 : decode cL_cell 8 = .ok (.iaload, 1) := by decide +kernel
theorem dL_cell_9 : decode cL_cell 9 = .ok (.goto 10, 3) := by decide +kernel
theorem dL_cell_12 : decode cL_cell 12 = .ok (.ldc 7, 2) := by decide +kernel
theorem dL_cell_14 : decode cL_cell 14 = .ok (.iload_n 1, 1) := by decide +kernel
theorem dL_cell_15 : decode cL_cell 15 = .ok (.imul, 1) := by decide +kernel
theorem dL_cell_16 : decode cL_cell 16 = .ok (.bipush 109, 2) := by decide +kernel
theorem dL_cell_18 : decode cL_cell 18 = .ok (.iadd, 1) := by decide +kernel
theorem dL_cell_19 : decode cL_cell 19 = .ok (.ldc 8, 2) := by decide +kernel
theorem dL_cell_21 : decode cL_cell 21 = .ok (.iand, 1) := by decide +kernel
theorem dL_cell_22 : decode cL_cell 22 = .ok (.ireturn, 1) := by decide +kernel
theorem dL_acts_0 : decode cL_acts 0 = .ok (.iload_n 1, 1) := by decide +kernel
theorem dL_acts_1 : decode cL_acts 1 = .ok (.iconst 4, 1) := by decide +kernel
theorem dL_acts_2 : decode cL_acts 2 = .ok (.ishr, 1) := by decide +kernel
theorem dL_acts_3 : decode cL_acts 3 = .ok (.istore_n 2, 1) := by decide +kernel
theorem dL_acts_4 : decode cL_acts 4 = .ok (.aload_n 0, 1) := by decide +kernel
theorem dL_acts_5 : decode cL_acts 5 = .ok (.invokevirtual 9, 3) := by decide +kernel
theorem dL_acts_8 : decode cL_acts 8 = .ok (.istore_n 3, 1) := by decide +kernel
theorem dL_acts_9 : decode cL_acts 9 = .ok (.iload_n 1, 1) := by decide +kernel
theorem dL_acts_10 : decode cL_acts 10 = .ok (.bipush 12, 2) := by decide +kernel
theorem dL_acts_12 : decode cL_acts 12 = .ok (.irem, 1) := by decide +kernel
theorem dL_acts_13 : decode cL_acts 13 = .ok (.tableswitch 253 0 10 #[59, 59, 59, 100, 100, 100, 100, 154, 178, 206, 230], 59) := by decide +kernel
theorem dL_acts_72 : decode cL_acts 72 = .ok (.iload_n 3, 1) := by decide +kernel
theorem dL_acts_73 : decode cL_acts 73 = .ok (.bipush 9, 2) := by decide +kernel
theorem dL_acts_75 : decode cL_acts 75 = .ok (.if_icmp .gt 32, 3) := by decide +kernel
theorem dL_acts_78 : decode cL_acts 78 = .ok (.aload_n 0, 1) := by decide +kernel
theorem dL_acts_79 : decode cL_acts 79 = .ok (.iload_n 2, 1) := by decide +kernel
theorem dL_acts_80 : decode cL_acts 80 = .ok (.iload_n 3, 1) := by decide +kernel
theorem dL_acts_81 : decode cL_acts 81 = .ok (.iconst 1, 1) := by decide +kernel
theorem dL_acts_82 : decode cL_acts 82 = .ok (.iadd, 1) := by decide +kernel
theorem dL_acts_83 : decode cL_acts 83 = .ok (.irem, 1) := by decide +kernel
theorem dL_acts_84 : decode cL_acts 84 = .ok (.iconst 1, 1) := by decide +kernel
theorem dL_acts_85 : decode cL_acts 85 = .ok (.iload_n 2, 1) := by decide +kernel
theorem dL_acts_86 : decode cL_acts 86 = .ok (.bipush 17, 2) := by decide +kernel
theorem dL_acts_88 : decode cL_acts 88 = .ok (.irem, 1) := by decide +kernel
theorem dL_acts_89 : decode cL_acts 89 = .ok (.iadd, 1) := by decide +kernel
theorem dL_acts_90 : decode cL_acts 90 = .ok (.iconst 1, 1) := by decide +kernel
theorem dL_acts_91 : decode cL_acts 91 = .ok (.iload_n 2, 1) := by decide +kernel
theorem dL_acts_92 : decode cL_acts 92 = .ok (.iconst 5, 1) := by decide +kernel
theorem dL_acts_93 : decode cL_acts 93 = .ok (.ishr, 1) := by decide +kernel
theorem dL_acts_94 : decode cL_acts 94 = .ok (.bipush 17, 2) := by decide +kernel
theorem dL_acts_96 : decode cL_acts 96 = .ok (.irem, 1) := by decide +kernel
theorem dL_acts_97 : decode cL_acts 97 = .ok (.iadd, 1) := by decide +kernel
theorem dL_acts_98 : decode cL_acts 98 = .ok (.invokevirtual 15, 3) := by decide +kernel
theorem dL_acts_101 : decode cL_acts 101 = .ok (.iload_n 3, 1) := by decide +kernel
theorem dL_acts_102 : decode cL_acts 102 = .ok (.iconst 1, 1) := by decide +kernel
theorem dL_acts_103 : decode cL_acts 103 = .ok (.iadd, 1) := by decide +kernel
theorem dL_acts_104 : decode cL_acts 104 = .ok (.if_icmp .ne 7, 3) := by decide +kernel
theorem dL_acts_107 : decode cL_acts 107 = .ok (.iconst 1, 1) := by decide +kernel
theorem dL_acts_108 : decode cL_acts 108 = .ok (.goto 4, 3) := by decide +kernel
theorem dL_acts_111 : decode cL_acts 111 = .ok (.iconst 0, 1) := by decide +kernel
theorem dL_acts_112 : decode cL_acts 112 = .ok (.ireturn, 1) := by decide +kernel
theorem dL_acts_113 : decode cL_acts 113 = .ok (.aload_n 0, 1) := by decide +kernel
theorem dL_acts_114 : decode cL_acts 114 = .ok (.iconst 0, 1) := by decide +kernel
theorem dL_acts_115 : decode cL_acts 115 = .ok (.invokevirtual 19, 3) := by decide +kernel
theorem dL_acts_118 : decode cL_acts 118 = .ok (.aload_n 0, 1) := by decide +kernel
theorem dL_acts_119 : decode cL_acts 119 = .ok (.iconst 1, 1) := by decide +kernel
theorem dL_acts_120 : decode cL_acts 120 = .ok (.invokevirtual 19, 3) := by decide +kernel
theorem dL_acts_123 : decode cL_acts 123 = .ok (.iadd, 1) := by decide +kernel
theorem dL_acts_124 : decode cL_acts 124 = .ok (.bipush 18, 2) := by decide +kernel
theorem dL_acts_126 : decode cL_acts 126 = .ok (.if_icmp .gt 35, 3) := by decide +kernel
theorem dL_acts_129 : decode cL_acts 129 = .ok (.aload_n 0, 1) := by decide +kernel
theorem dL_acts_130 : decode cL_acts 130 = .ok (.iload_n 2, 1) := by decide +kernel
theorem dL_acts_131 : decode cL_acts 131 = .ok (.bipush 10, 2) := by decide +kernel
theorem dL_acts_133 : decode cL_acts 133 = .ok (.irem, 1) := by decide +kernel
theorem dL_acts_134 : decode cL_acts 134 = .ok (.iload_n 2, 1) := by decide +kernel
theorem dL_acts_135 : decode cL_acts 135 = .ok (.iconst 4, 1) := by decide +kernel
theorem dL_acts_136 : decode cL_acts 136 = .ok (.ishr, 1) := by decide +kernel
theorem dL_acts_137 : decode cL_acts 137 = .ok (.iconst 2, 1) := by decide +kernel
theorem dL_acts_138 : decode cL_acts 138 = .ok (.irem, 1) := by decide +kernel
theorem dL_acts_139 : decode cL_acts 139 = .ok (.iload_n 2, 1) := by decide +kernel
theorem dL_acts_140 : decode cL_acts 140 = .ok (.iconst 5, 1) := by decide +kernel
theorem dL_acts_141 : decode cL_acts 141 = .ok (.ishr, 1) := by decide +kernel
theorem dL_acts_142 : decode cL_acts 142 = .ok (.bipush 12, 2) := by decide +kernel
theorem dL_acts_144 : decode cL_acts 144 = .ok (.irem, 1) := by decide +kernel
theorem dL_acts_145 : decode cL_acts 145 = .ok (.iconst 1, 1) := by decide +kernel
theorem dL_acts_146 : decode cL_acts 146 = .ok (.iload_n 2, 1) := by decide +kernel
theorem dL_acts_147 : decode cL_acts 147 = .ok (.bipush 9, 2) := by decide +kernel
theorem dL_acts_149 : decode cL_acts 149 = .ok (.ishr, 1) := by decide +kernel
theorem dL_acts_150 : decode cL_acts 150 = .ok (.bipush 8, 2) := by decide +kernel
theorem dL_acts_152 : decode cL_acts 152 = .ok (.irem, 1) := by decide +kernel
theorem dL_acts_153 : decode cL_acts 153 = .ok (.iadd, 1) := by decide +kernel
theorem dL_acts_154 : decode cL_acts 154 = .ok (.invokevirtual 23, 3) := by decide +kernel
theorem dL_acts_157 : decode cL_acts 157 = .ok (.iconst (-1), 1) := by decide +kernel
theorem dL_acts_158 : decode cL_acts 158 = .ok (.if_icmp .lt 7, 3) := by decide +kernel
theorem dL_acts_161 : decode cL_acts 161 = .ok (.iconst 1, 1) := by decide +kernel
theorem dL_acts_162 : decode cL_acts 162 = .ok (.goto 4, 3) := by decide +kernel
theorem dL_acts_165 : decode cL_acts 165 = .ok (.iconst 0, 1) := by decide +kernel
theorem dL_acts_166 : decode cL_acts 166 = .ok (.ireturn, 1) := by decide +kernel
theorem dL_acts_167 : decode cL_acts 167 = .ok (.aload_n 0, 1) := by decide +kernel
theorem dL_acts_168 : decode cL_acts 168 = .ok (.iload_n 2, 1) := by decide +kernel
theorem dL_acts_169 : decode cL_acts 169 = .ok (.iconst 2, 1) := by decide +kernel
theorem dL_acts_170 : decode cL_acts 170 = .ok (.irem, 1) := by decide +kernel
theorem dL_acts_171 : decode cL_acts 171 = .ok (.iload_n 2, 1) := by decide +kernel
theorem dL_acts_172 : decode cL_acts 172 = .ok (.iconst 1, 1) := by decide +kernel
theorem dL_acts_173 : decode cL_acts 173 = .ok (.ishr, 1) := by decide +kernel
theorem dL_acts_174 : decode cL_acts 174 = .ok (.bipush 6, 2) := by decide +kernel
theorem dL_acts_176 : decode cL_acts 176 = .ok (.irem, 1) := by decide +kernel
theorem dL_acts_177 : decode cL_acts 177 = .ok (.invokevirtual 27, 3) := by decide +kernel
theorem dL_acts_180 : decode cL_acts 180 = .ok (.bipush (-4), 2) := by decide +kernel
theorem dL_acts_182 : decode cL_acts 182 = .ok (.if_icmp .lt 7, 3) := by decide +kernel
theorem dL_acts_185 : decode cL_acts 185 = .ok (.iconst 1, 1) := by decide +kernel
theorem dL_acts_186 : decode cL_acts 186 = .ok (.goto 4, 3) := by decide +kernel
theorem dL_acts_189 : decode cL_acts 189 = .ok (.iconst 0, 1) := by decide +kernel
theorem dL_acts_190 : decode cL_acts 190 = .ok (.ireturn, 1) := by decide +kernel
theorem dL_acts_191 : decode cL_acts 191 = .ok (.aload_n 0, 1) := by decide +kernel
theorem dL_acts_192 : decode cL_acts 192 = .ok (.iload_n 2, 1) := by decide +kernel
theorem dL_acts_193 : decode cL_acts 193 = .ok (.bipush 10, 2) := by decide +kernel
theorem dL_acts_195 : decode cL_acts 195 = .ok (.irem, 1) := by decide +kernel
theorem dL_acts_196 : decode cL_acts 196 = .ok (.iload_n 2, 1) := by decide +kernel
theorem dL_acts_197 : decode cL_acts 197 = .ok (.iconst 4, 1) := by decide +kernel
theorem dL_acts_198 : decode cL_acts 198 = .ok (.ishr, 1) := by decide +kernel
theorem dL_acts_199 : decode cL_acts 199 = .ok (.iconst 2, 1) := by decide +kernel
theorem dL_acts_200 : decode cL_acts 200 = .ok (.irem, 1) := by decide +kernel
theorem dL_acts_201 : decode cL_acts 201 = .ok (.iload_n 2, 1) := by decide +kernel
theorem dL_acts_202 : decode cL_acts 202 = .ok (.iconst 5, 1) := by decide +kernel
theorem dL_acts_203 : decode cL_acts 203 = .ok (.ishr, 1) := by decide +kernel
theorem dL_acts_204 : decode cL_acts 204 = .ok (.iconst 2, 1) := by decide +kernel
theorem dL_acts_205 : decode cL_acts 205 = .ok (.irem, 1) := by decide +kernel
theorem dL_acts_206 : decode cL_acts 206 = .ok (.invokevirtual 31, 3) := by decide +kernel
theorem dL_acts_209 : decode cL_acts 209 = .ok (.iconst (-1), 1) := by decide +kernel
theorem dL_acts_210 : decode cL_acts 210 = .ok (.if_icmp .lt 7, 3) := by decide +kernel
theorem dL_acts_213 : decode cL_acts 213 = .ok (.iconst 1, 1) := by decide +kernel
theorem dL_acts_214 : decode cL_acts 214 = .ok (.goto 4, 3) := by decide +kernel
theorem dL_acts_217 : decode cL_acts 217 = .ok (.iconst 0, 1) := by decide +kernel
theorem dL_acts_218 : decode cL_acts 218 = .ok (.ireturn, 1) := by decide +kernel
theorem dL_acts_219 : decode cL_acts 219 = .ok (.aload_n 0, 1) := by decide +kernel
theorem dL_acts_220 : decode cL_acts 220 = .ok (.iconst 1, 1) := by decide +kernel
theorem dL_acts_221 : decode cL_acts 221 = .ok (.iload_n 2, 1) := by decide +kernel
theorem dL_acts_222 : decode cL_acts 222 = .ok (.iconst 5, 1) := by decide +kernel
theorem dL_acts_223 : decode cL_acts 223 = .ok (.irem, 1) := by decide +kernel
theorem dL_acts_224 : decode cL_acts 224 = .ok (.iadd, 1) := by decide +kernel
theorem dL_acts_225 : decode cL_acts 225 = .ok (.iload_n 2, 1) := by decide +kernel
theorem dL_acts_226 : decode cL_acts 226 = .ok (.iconst 3, 1) := by decide +kernel
theorem dL_acts_227 : decode cL_acts 227 = .ok (.ishr, 1) := by decide +kernel
theorem dL_acts_228 : decode cL_acts 228 = .ok (.iconst 3, 1) := by decide +kernel
theorem dL_acts_229 : decode cL_acts 229 = .ok (.irem, 1) := by decide +kernel
theorem dL_acts_230 : decode cL_acts 230 = .ok (.invokevirtual 34, 3) := by decide +kernel
theorem dL_acts_233 : decode cL_acts 233 = .ok (.iconst (-1), 1) := by decide +kernel
theorem dL_acts_234 : decode cL_acts 234 = .ok (.if_icmp .lt 7, 3) := by decide +kernel
theorem dL_acts_237 : decode cL_acts 237 = .ok (.iconst 1, 1) := by decide +kernel
theorem dL_acts_238 : decode cL_acts 238 = .ok (.goto 4, 3) := by decide +kernel
theorem dL_acts_241 : decode cL_acts 241 = .ok (.iconst 0, 1) := by decide +kernel
theorem dL_acts_242 : decode cL_acts 242 = .ok (.ireturn, 1) := by decide +kernel
theorem dL_acts_243 : decode cL_acts 243 = .ok (.aload_n 0, 1) := by decide +kernel
theorem dL_acts_244 : decode cL_acts 244 = .ok (.iconst 0, 1) := by decide +kernel
theorem dL_acts_245 : decode cL_acts 245 = .ok (.bipush 8, 2) := by decide +kernel
theorem dL_acts_247 : decode cL_acts 247 = .ok (.iload_n 2, 1) := by decide +kernel
theorem dL_acts_248 : decode cL_acts 248 = .ok (.bipush 30, 2) := by decide +kernel
theorem dL_acts_250 : decode cL_acts 250 = .ok (.irem, 1) := by decide +kernel
theorem dL_acts_251 : decode cL_acts 251 = .ok (.iadd, 1) := by decide +kernel
theorem dL_acts_252 : decode cL_acts 252 = .ok (.invokevirtual 34, 3) := by decide +kernel
theorem dL_acts_255 : decode cL_acts 255 = .ok (.bipush 8, 2) := by decide +kernel
theorem dL_acts_257 : decode cL_acts 257 = .ok (.if_icmp .lt 7, 3) := by decide +kernel
theorem dL_acts_260 : decode cL_acts 260 = .ok (.iconst 1, 1) := by decide +kernel
theorem dL_acts_261 : decode cL_acts 261 = .ok (.goto 4, 3) := by decide +kernel
theorem dL_acts_264 : decode cL_acts 264 = .ok (.iconst 0, 1) := by decide +kernel
theorem dL_acts_265 : decode cL_acts 265 = .ok (.ireturn, 1) := by decide +kernel
theorem dL_acts_266 : decode cL_acts 266 = .ok (.iload_n 2, 1) := by decide +kernel
theorem dL_acts_267 : decode cL_acts 267 = .ok (.iconst 3, 1) := by decide +kernel
theorem dL_acts_268 : decode cL_acts 268 = .ok (.irem, 1) := by decide +kernel
theorem dL_acts_269 : decode cL_acts 269 = .ok (.ifCond .gt 12, 3) := by decide +kernel
theorem dL_acts_272 : decode cL_acts 272 = .ok (.aload_n 0, 1) := by decide +kernel
theorem dL_acts_273 : decode cL_acts 273 = .ok (.invokevirtual 37, 3) := by decide +kernel
theorem dL_acts_276 : decode cL_acts 276 = .ok (.bipush (-2), 2) := by decide +kernel
theorem dL_acts_278 : decode cL_acts 278 = .ok (.if_icmp .lt 7, 3) := by decide +kernel
theorem dL_acts_281 : decode cL_acts 281 = .ok (.iconst 1, 1) := by decide +kernel
theorem dL_acts_282 : decode cL_acts 282 = .ok (.goto 4, 3) := by decide +kernel
theorem dL_acts_285 : decode cL_acts 285 = .ok (.iconst 0, 1) := by decide +kernel
theorem dL_acts_286 : decode cL_acts 286 = .ok (.ireturn, 1) := by decide +kernel
theorem dL_shows_0 : decode cL_shows 0 = .ok (.iconst 1, 1) := by decide +kernel
theorem dL_shows_1 : decode cL_shows 1 = .ok (.istore_n 2, 1) := by decide +kernel
theorem dL_shows_2 : decode cL_shows 2 = .ok (.iconst 0, 1) := by decide +kernel
theorem dL_shows_3 : decode cL_shows 3 = .ok (.istore_n 3, 1) := by decide +kernel
theorem dL_shows_4 : decode cL_shows 4 = .ok (.iload_n 3, 1) := by decide +kernel
theorem dL_shows_5 : decode cL_shows 5 = .ok (.iconst 2, 1) := by decide +kernel
theorem dL_shows_6 : decode cL_shows 6 = .ok (.if_icmp .ge 473, 3) := by decide +kernel
theorem dL_shows_9 : decode cL_shows 9 = .ok (.iload_n 2, 1) := by decide +kernel
theorem dL_shows_10 : decode cL_shows 10 = .ok (.ifCond .eq 469, 3) := by decide +kernel
theorem dL_shows_13 : decode cL_shows 13 = .ok (.iconst 0, 1) := by decide +kernel
theorem dL_shows_14 : decode cL_shows 14 = .ok (.istore 4, 2) := by decide +kernel
theorem dL_shows_16 : decode cL_shows 16 = .ok (.iconst 0, 1) := by decide +kernel
theorem dL_shows_17 : decode cL_shows 17 = .ok (.istore 5, 2) := by decide +kernel
theorem dL_shows_19 : decode cL_shows 19 = .ok (.iconst 0, 1) := by decide +kernel
theorem dL_shows_20 : decode cL_shows 20 = .ok (.istore 6, 2) := by decide +kernel
theorem dL_shows_22 : decode cL_shows 22 = .ok (.iconst 0, 1) := by decide +kernel
theorem dL_shows_23 : decode cL_shows 23 = .ok (.istore 7, 2) := by decide +kernel
theorem dL_shows_25 : decode cL_shows 25 = .ok (.iconst 0, 1) := by decide +kernel
theorem dL_shows_26 : decode cL_shows 26 = .ok (.istore 8, 2) := by decide +kernel
theorem dL_shows_28 : decode cL_shows 28 = .ok (.iload 8, 2) := by decide +kernel
theorem dL_shows_30 : decode cL_shows 30 = .ok (.iload_n 1, 1) := by decide +kernel
theorem dL_shows_31 : decode cL_shows 31 = .ok (.if_icmp .ge 403, 3) := by decide +kernel
theorem dL_shows_34 : decode cL_shows 34 = .ok (.iload_n 2, 1) := by decide +kernel
theorem dL_shows_35 : decode cL_shows 35 = .ok (.ifCond .eq 399, 3) := by decide +kernel
theorem dL_shows_38 : decode cL_shows 38 = .ok (.iconst 0, 1) := by decide +kernel
theorem dL_shows_39 : decode cL_shows 39 = .ok (.istore 9, 2) := by decide +kernel
theorem dL_shows_41 : decode cL_shows 41 = .ok (.iconst 0, 1) := by decide +kernel
theorem dL_shows_42 : decode cL_shows 42 = .ok (.istore 10, 2) := by decide +kernel
theorem dL_shows_44 : decode cL_shows 44 = .ok (.iconst 0, 1) := by decide +kernel
theorem dL_shows_45 : decode cL_shows 45 = .ok (.istore 11, 2) := by decide +kernel
theorem dL_shows_47 : decode cL_shows 47 = .ok (.iload 11, 2) := by decide +kernel
theorem dL_shows_49 : decode cL_shows 49 = .ok (.bipush 100, 2) := by decide +kernel
theorem dL_shows_51 : decode cL_shows 51 = .ok (.if_icmp .ge 277, 3) := by decide +kernel
theorem dL_shows_54 : decode cL_shows 54 = .ok (.iload_n 2, 1) := by decide +kernel
theorem dL_shows_55 : decode cL_shows 55 = .ok (.ifCond .eq 273, 3) := by decide +kernel
theorem dL_shows_58 : decode cL_shows 58 = .ok (.aload_n 0, 1) := by decide +kernel
theorem dL_shows_59 : decode cL_shows 59 = .ok (.iload 8, 2) := by decide +kernel
theorem dL_shows_61 : decode cL_shows 61 = .ok (.iload_n 3, 1) := by decide +kernel
theorem dL_shows_62 : decode cL_shows 62 = .ok (.iload 11, 2) := by decide +kernel
theorem dL_shows_64 : decode cL_shows 64 = .ok (.invokevirtual 40, 3) := by decide +kernel
theorem dL_shows_67 : decode cL_shows 67 = .ok (.istore 12, 2) := by decide +kernel
theorem dL_shows_69 : decode cL_shows 69 = .ok (.iload 12, 2) := by decide +kernel
theorem dL_shows_71 : decode cL_shows 71 = .ok (.sipush 20000, 3) := by decide +kernel
theorem dL_shows_74 : decode cL_shows 74 = .ok (.if_icmp .lt 121, 3) := by decide +kernel
theorem dL_shows_77 : decode cL_shows 77 = .ok (.iload 12, 2) := by decide +kernel
theorem dL_shows_79 : decode cL_shows 79 = .ok (.sipush 30000, 3) := by decide +kernel
theorem dL_shows_82 : decode cL_shows 82 = .ok (.if_icmp .ge 113, 3) := by decide +kernel
theorem dL_shows_85 : decode cL_shows 85 = .ok (.iload 12, 2) := by decide +kernel
theorem dL_shows_87 : decode cL_shows 87 = .ok (.sipush 20000, 3) := by decide +kernel
theorem dL_shows_90 : decode cL_shows 90 = .ok (.bipush 100, 2) := by decide +kernel
theorem dL_shows_92 : decode cL_shows 92 = .ok (.iload 6, 2) := by decide +kernel
theorem dL_shows_94 : decode cL_shows 94 = .ok (.imul, 1) := by decide +kernel
theorem dL_shows_95 : decode cL_shows 95 = .ok (.iadd, 1) := by decide +kernel
theorem dL_shows_96 : decode cL_shows 96 = .ok (.iload 7, 2) := by decide +kernel
theorem dL_shows_98 : decode cL_shows 98 = .ok (.iadd, 1) := by decide +kernel
theorem dL_shows_99 : decode cL_shows 99 = .ok (.if_icmp .ne 33, 3) := by decide +kernel
theorem dL_shows_102 : decode cL_shows 102 = .ok (.aload_n 0, 1) := by decide +kernel
theorem dL_shows_103 : decode cL_shows 103 = .ok (.aload_n 0, 1) := by decide +kernel
theorem dL_shows_104 : decode cL_shows 104 = .ok (.iload_n 3, 1) := by decide +kernel
theorem dL_shows_105 : decode cL_shows 105 = .ok (.iload 6, 2) := by decide +kernel
theorem dL_shows_107 : decode cL_shows 107 = .ok (.iconst 0, 1) := by decide +kernel
theorem dL_shows_108 : decode cL_shows 108 = .ok (.invokevirtual 43, 3) := by decide +kernel
theorem dL_shows_111 : decode cL_shows 111 = .ok (.iload_n 3, 1) := by decide +kernel
theorem dL_shows_112 : decode cL_shows 112 = .ok (.aload_n 0, 1) := by decide +kernel
theorem dL_shows_113 : decode cL_shows 113 = .ok (.iload_n 3, 1) := by decide +kernel
theorem dL_shows_114 : decode cL_shows 114 = .ok (.iload 6, 2) := by decide +kernel
theorem dL_shows_116 : decode cL_shows 116 = .ok (.iconst 1, 1) := by decide +kernel
theorem dL_shows_117 : decode cL_shows 117 = .ok (.invokevirtual 43, 3) := by decide +kernel
theorem dL_shows_120 : decode cL_shows 120 = .ok (.invokevirtual 46, 3) := by decide +kernel
theorem dL_shows_123 : decode cL_shows 123 = .ok (.iload 8, 2) := by decide +kernel
theorem dL_shows_125 : decode cL_shows 125 = .ok (.if_icmp .gt 7, 3) := by decide +kernel
theorem dL_shows_128 : decode cL_shows 128 = .ok (.iconst 1, 1) := by decide +kernel
theorem dL_shows_129 : decode cL_shows 129 = .ok (.goto 4, 3) := by decide +kernel
theorem dL_shows_132 : decode cL_shows 132 = .ok (.iconst 0, 1) := by decide +kernel
theorem dL_shows_133 : decode cL_shows 133 = .ok (.istore_n 2, 1) := by decide +kernel
theorem dL_shows_134 : decode cL_shows 134 = .ok (.iinc 7 1, 3) := by decide +kernel
theorem dL_shows_137 : decode cL_shows 137 = .ok (.iload_n 2, 1) := by decide +kernel
theorem dL_shows_138 : decode cL_shows 138 = .ok (.ifCond .eq 20, 3) := by decide +kernel
theorem dL_shows_141 : decode cL_shows 141 = .ok (.iload 7, 2) := by decide +kernel
theorem dL_shows_143 : decode cL_shows 143 = .ok (.aload_n 0, 1) := by decide +kernel
theorem dL_shows_144 : decode cL_shows 144 = .ok (.iload_n 3, 1) := by decide +kernel
theorem dL_shows_145 : decode cL_shows 145 = .ok (.iload 6, 2) := by decide +kernel
theorem dL_shows_147 : decode cL_shows 147 = .ok (.iconst 2, 1) := by decide +kernel
theorem dL_shows_148 : decode cL_shows 148 = .ok (.invokevirtual 43, 3) := by decide +kernel
theorem dL_shows_151 : decode cL_shows 151 = .ok (.if_icmp .ne 7, 3) := by decide +kernel
theorem dL_shows_154 : decode cL_shows 154 = .ok (.iconst 1, 1) := by decide +kernel
theorem dL_shows_155 : decode cL_shows 155 = .ok (.goto 4, 3) := by decide +kernel
theorem dL_shows_158 : decode cL_shows 158 = .ok (.iconst 0, 1) := by decide +kernel
theorem dL_shows_159 : decode cL_shows 159 = .ok (.istore 13, 2) := by decide +kernel
theorem dL_shows_161 : decode cL_shows 161 = .ok (.iload 6, 2) := by decide +kernel
theorem dL_shows_163 : decode cL_shows 163 = .ok (.iload 13, 2) := by decide +kernel
theorem dL_shows_165 : decode cL_shows 165 = .ok (.ifCond .eq 7, 3) := by decide +kernel
theorem dL_shows_168 : decode cL_shows 168 = .ok (.iconst 1, 1) := by decide +kernel
theorem dL_shows_169 : decode cL_shows 169 = .ok (.goto 4, 3) := by decide +kernel
theorem dL_shows_172 : decode cL_shows 172 = .ok (.iconst 0, 1) := by decide +kernel
theorem dL_shows_173 : decode cL_shows 173 = .ok (.iadd, 1) := by decide +kernel
theorem dL_shows_174 : decode cL_shows 174 = .ok (.istore 6, 2) := by decide +kernel
theorem dL_shows_176 : decode cL_shows 176 = .ok (.iload 13, 2) := by decide +kernel
theorem dL_shows_178 : decode cL_shows 178 = .ok (.ifCond .eq 7, 3) := by decide +kernel
theorem dL_shows_181 : decode cL_shows 181 = .ok (.iconst 0, 1) := by decide +kernel
theorem dL_shows_182 : decode cL_shows 182 = .ok (.goto 5, 3) := by decide +kernel
theorem dL_shows_185 : decode cL_shows 185 = .ok (.iload 7, 2) := by decide +kernel
theorem dL_shows_187 : decode cL_shows 187 = .ok (.istore 7, 2) := by decide +kernel
theorem dL_shows_189 : decode cL_shows 189 = .ok (.iinc 10 1, 3) := by decide +kernel
theorem dL_shows_192 : decode cL_shows 192 = .ok (.goto 130, 3) := by decide +kernel
theorem dL_shows_195 : decode cL_shows 195 = .ok (.iload 12, 2) := by decide +kernel
theorem dL_shows_197 : decode cL_shows 197 = .ok (.sipush 10000, 3) := by decide +kernel
theorem dL_shows_200 : decode cL_shows 200 = .ok (.if_icmp .lt 122, 3) := by decide +kernel
theorem dL_shows_203 : decode cL_shows 203 = .ok (.iload 12, 2) := by decide +kernel
theorem dL_shows_205 : decode cL_shows 205 = .ok (.sipush 20000, 3) := by decide +kernel
theorem dL_shows_208 : decode cL_shows 208 = .ok (.if_icmp .ge 114, 3) := by decide +kernel
theorem dL_shows_211 : decode cL_shows 211 = .ok (.iload 12, 2) := by decide +kernel
theorem dL_shows_213 : decode cL_shows 213 = .ok (.sipush 10000, 3) := by decide +kernel
theorem dL_shows_216 : decode cL_shows 216 = .ok (.bipush 100, 2) := by decide +kernel
theorem dL_shows_218 : decode cL_shows 218 = .ok (.iload 4, 2) := by decide +kernel
theorem dL_shows_220 : decode cL_shows 220 = .ok (.imul, 1) := by decide +kernel
theorem dL_shows_221 : decode cL_shows 221 = .ok (.iadd, 1) := by decide +kernel
theorem dL_shows_222 : decode cL_shows 222 = .ok (.iload 5, 2) := by decide +kernel
theorem dL_shows_224 : decode cL_shows 224 = .ok (.iadd, 1) := by decide +kernel
theorem dL_shows_225 : decode cL_shows 225 = .ok (.if_icmp .ne 35, 3) := by decide +kernel
theorem dL_shows_228 : decode cL_shows 228 = .ok (.aload_n 0, 1) := by decide +kernel
theorem dL_shows_229 : decode cL_shows 229 = .ok (.iload 4, 2) := by decide +kernel
theorem dL_shows_231 : decode cL_shows 231 = .ok (.iload_n 3, 1) := by decide +kernel
theorem dL_shows_232 : decode cL_shows 232 = .ok (.iload 5, 2) := by decide +kernel
theorem dL_shows_234 : decode cL_shows 234 = .ok (.invokevirtual 46, 3) := by decide +kernel
theorem dL_shows_237 : decode cL_shows 237 = .ok (.iload 8, 2) := by decide +kernel
theorem dL_shows_239 : decode cL_shows 239 = .ok (.if_icmp .ne 21, 3) := by decide +kernel
theorem dL_shows_242 : decode cL_shows 242 = .ok (.aload_n 0, 1) := by decide +kernel
theorem dL_shows_243 : decode cL_shows 243 = .ok (.iload 4, 2) := by decide +kernel
theorem dL_shows_245 : decode cL_shows 245 = .ok (.iload_n 3, 1) := by decide +kernel
theorem dL_shows_246 : decode cL_shows 246 = .ok (.iload 5, 2) := by decide +kernel
theorem dL_shows_248 : decode cL_shows 248 = .ok (.invokevirtual 49, 3) := by decide +kernel
theorem dL_shows_251 : decode cL_shows 251 = .ok (.iload 11, 2) := by decide +kernel
theorem dL_shows_253 : decode cL_shows 253 = .ok (.if_icmp .ne 7, 3) := by decide +kernel
theorem dL_shows_256 : decode cL_shows 256 = .ok (.iconst 1, 1) := by decide +kernel
theorem dL_shows_257 : decode cL_shows 257 = .ok (.goto 4, 3) := by decide +kernel
theorem dL_shows_260 : decode cL_shows 260 = .ok (.iconst 0, 1) := by decide +kernel
theorem dL_shows_261 : decode cL_shows 261 = .ok (.istore_n 2, 1) := by decide +kernel
theorem dL_shows_262 : decode cL_shows 262 = .ok (.iinc 5 1, 3) := by decide +kernel
theorem dL_shows_265 : decode cL_shows 265 = .ok (.iload_n 2, 1) := by decide +kernel
theorem dL_shows_266 : decode cL_shows 266 = .ok (.ifCond .eq 19, 3) := by decide +kernel
theorem dL_shows_269 : decode cL_shows 269 = .ok (.iload 5, 2) := by decide +kernel
theorem dL_shows_271 : decode cL_shows 271 = .ok (.aload_n 0, 1) := by decide +kernel
theorem dL_shows_272 : decode cL_shows 272 = .ok (.iload 4, 2) := by decide +kernel
theorem dL_shows_274 : decode cL_shows 274 = .ok (.iload_n 3, 1) := by decide +kernel
theorem dL_shows_275 : decode cL_shows 275 = .ok (.invokevirtual 52, 3) := by decide +kernel
theorem dL_shows_278 : decode cL_shows 278 = .ok (.if_icmp .ne 7, 3) := by decide +kernel
theorem dL_shows_281 : decode cL_shows 281 = .ok (.iconst 1, 1) := by decide +kernel
theorem dL_shows_282 : decode cL_shows 282 = .ok (.goto 4, 3) := by decide +kernel
theorem dL_shows_285 : decode cL_shows 285 = .ok (.iconst 0, 1) := by decide +kernel
theorem dL_shows_286 : decode cL_shows 286 = .ok (.istore 13, 2) := by decide +kernel
theorem dL_shows_288 : decode cL_shows 288 = .ok (.iload 4, 2) := by decide +kernel
theorem dL_shows_290 : decode cL_shows 290 = .ok (.iload 13, 2) := by decide +kernel
theorem dL_shows_292 : decode cL_shows 292 = .ok (.ifCond .eq 7, 3) := by decide +kernel
theorem dL_shows_295 : decode cL_shows 295 = .ok (.iconst 1, 1) := by decide +kernel
theorem dL_shows_296 : decode cL_shows 296 = .ok (.goto 4, 3) := by decide +kernel
theorem dL_shows_299 : decode cL_shows 299 = .ok (.iconst 0, 1) := by decide +kernel
theorem dL_shows_300 : decode cL_shows 300 = .ok (.iadd, 1) := by decide +kernel
theorem dL_shows_301 : decode cL_shows 301 = .ok (.istore 4, 2) := by decide +kernel
theorem dL_shows_303 : decode cL_shows 303 = .ok (.iload 13, 2) := by decide +kernel
theorem dL_shows_305 : decode cL_shows 305 = .ok (.ifCond .eq 7, 3) := by decide +kernel
theorem dL_shows_308 : decode cL_shows 308 = .ok (.iconst 0, 1) := by decide +kernel
theorem dL_shows_309 : decode cL_shows 309 = .ok (.goto 5, 3) := by decide +kernel
theorem dL_shows_312 : decode cL_shows 312 = .ok (.iload 5, 2) := by decide +kernel
theorem dL_shows_314 : decode cL_shows 314 = .ok (.istore 5, 2) := by decide +kernel
theorem dL_shows_316 : decode cL_shows 316 = .ok (.iload 11, 2) := by decide +kernel
theorem dL_shows_318 : decode cL_shows 318 = .ok (.iconst 1, 1) := by decide +kernel
theorem dL_shows_319 : decode cL_shows 319 = .ok (.iadd, 1) := by decide +kernel
theorem dL_shows_320 : decode cL_shows 320 = .ok (.istore 9, 2) := by decide +kernel
theorem dL_shows_322 : decode cL_shows 322 = .ok (.iinc 11 1, 3) := by decide +kernel
theorem dL_shows_325 : decode cL_shows 325 = .ok (.goto (-278), 3) := by decide +kernel
theorem dL_shows_328 : decode cL_shows 328 = .ok (.iload_n 2, 1) := by decide +kernel
theorem dL_shows_329 : decode cL_shows 329 = .ok (.ifCond .eq 49, 3) := by decide +kernel
theorem dL_shows_332 : decode cL_shows 332 = .ok (.aload_n 0, 1) := by decide +kernel
theorem dL_shows_333 : decode cL_shows 333 = .ok (.iload 8, 2) := by decide +kernel
theorem dL_shows_335 : decode cL_shows 335 = .ok (.iload_n 3, 1) := by decide +kernel
theorem dL_shows_336 : decode cL_shows 336 = .ok (.iconst 0, 1) := by decide +kernel
theorem dL_shows_337 : decode cL_shows 337 = .ok (.invokevirtual 55, 3) := by decide +kernel
theorem dL_shows_340 : decode cL_shows 340 = .ok (.iload 9, 2) := by decide +kernel
theorem dL_shows_342 : decode cL_shows 342 = .ok (.if_icmp .ne 36, 3) := by decide +kernel
theorem dL_shows_345 : decode cL_shows 345 = .ok (.iload 10, 2) := by decide +kernel
theorem dL_shows_347 : decode cL_shows 347 = .ok (.ifCond .ne 7, 3) := by decide +kernel
theorem dL_shows_350 : decode cL_shows 350 = .ok (.iconst 1, 1) := by decide +kernel
theorem dL_shows_351 : decode cL_shows 351 = .ok (.goto 4, 3) := by decide +kernel
theorem dL_shows_354 : decode cL_shows 354 = .ok (.iconst 0, 1) := by decide +kernel
theorem dL_shows_355 : decode cL_shows 355 = .ok (.aload_n 0, 1) := by decide +kernel
theorem dL_shows_356 : decode cL_shows 356 = .ok (.iload 8, 2) := by decide +kernel
theorem dL_shows_358 : decode cL_shows 358 = .ok (.iload_n 3, 1) := by decide +kernel
theorem dL_shows_359 : decode cL_shows 359 = .ok (.iconst 1, 1) := by decide +kernel
theorem dL_shows_360 : decode cL_shows 360 = .ok (.invokevirtual 55, 3) := by decide +kernel
theorem dL_shows_363 : decode cL_shows 363 = .ok (.ifCond .ne 7, 3) := by decide +kernel
theorem dL_shows_366 : decode cL_shows 366 = .ok (.iconst 1, 1) := by decide +kernel
theorem dL_shows_367 : decode cL_shows 367 = .ok (.goto 4, 3) := by decide +kernel
theorem dL_shows_370 : decode cL_shows 370 = .ok (.iconst 0, 1) := by decide +kernel
theorem dL_shows_371 : decode cL_shows 371 = .ok (.if_icmp .ne 7, 3) := by decide +kernel
theorem dL_shows_374 : decode cL_shows 374 = .ok (.iconst 1, 1) := by decide +kernel
theorem dL_shows_375 : decode cL_shows 375 = .ok (.goto 4, 3) := by decide +kernel
theorem dL_shows_378 : decode cL_shows 378 = .ok (.iconst 0, 1) := by decide +kernel
theorem dL_shows_379 : decode cL_shows 379 = .ok (.istore_n 2, 1) := by decide +kernel
theorem dL_shows_380 : decode cL_shows 380 = .ok (.iload_n 2, 1) := by decide +kernel
theorem dL_shows_381 : decode cL_shows 381 = .ok (.ifCond .eq 45, 3) := by decide +kernel
theorem dL_shows_384 : decode cL_shows 384 = .ok (.iload 8, 2) := by decide +kernel
theorem dL_shows_386 : decode cL_shows 386 = .ok (.ifCond .eq 24, 3) := by decide +kernel
theorem dL_shows_389 : decode cL_shows 389 = .ok (.aload_n 0, 1) := by decide +kernel
theorem dL_shows_390 : decode cL_shows 390 = .ok (.iload 8, 2) := by decide +kernel
theorem dL_shows_392 : decode cL_shows 392 = .ok (.iload_n 3, 1) := by decide +kernel
theorem dL_shows_393 : decode cL_shows 393 = .ok (.iconst 3, 1) := by decide +kernel
theorem dL_shows_394 : decode cL_shows 394 = .ok (.invokevirtual 55, 3) := by decide +kernel
theorem dL_shows_397 : decode cL_shows 397 = .ok (.aload_n 0, 1) := by decide +kernel
theorem dL_shows_398 : decode cL_shows 398 = .ok (.iload 8, 2) := by decide +kernel
theorem dL_shows_400 : decode cL_shows 400 = .ok (.iconst 1, 1) := by decide +kernel
theorem dL_shows_401 : decode cL_shows 401 = .ok (.isub, 1) := by decide +kernel
theorem dL_shows_402 : decode cL_shows 402 = .ok (.iload_n 3, 1) := by decide +kernel
theorem dL_shows_403 : decode cL_shows 403 = .ok (.iconst 4, 1) := by decide +kernel
theorem dL_shows_404 : decode cL_shows 404 = .ok (.invokevirtual 55, 3) := by decide +kernel
theorem dL_shows_407 : decode cL_shows 407 = .ok (.if_icmp .ne 19, 3) := by decide +kernel
theorem dL_shows_410 : decode cL_shows 410 = .ok (.aload_n 0, 1) := by decide +kernel
theorem dL_shows_411 : decode cL_shows 411 = .ok (.iload 8, 2) := by decide +kernel
theorem dL_shows_413 : decode cL_shows 413 = .ok (.iload_n 3, 1) := by decide +kernel
theorem dL_shows_414 : decode cL_shows 414 = .ok (.iconst 4, 1) := by decide +kernel
theorem dL_shows_415 : decode cL_shows 415 = .ok (.invokevirtual 55, 3) := by decide +kernel
theorem dL_shows_418 : decode cL_shows 418 = .ok (.iconst 5, 1) := by decide +kernel
theorem dL_shows_419 : decode cL_shows 419 = .ok (.if_icmp .gt 7, 3) := by decide +kernel
theorem dL_shows_422 : decode cL_shows 422 = .ok (.iconst 1, 1) := by decide +kernel
theorem dL_shows_423 : decode cL_shows 423 = .ok (.goto 4, 3) := by decide +kernel
theorem dL_shows_426 : decode cL_shows 426 = .ok (.iconst 0, 1) := by decide +kernel
theorem dL_shows_427 : decode cL_shows 427 = .ok (.istore_n 2, 1) := by decide +kernel
theorem dL_shows_428 : decode cL_shows 428 = .ok (.iinc 8 1, 3) := by decide +kernel
theorem dL_shows_431 : decode cL_shows 431 = .ok (.goto (-403), 3) := by decide +kernel
theorem dL_shows_434 : decode cL_shows 434 = .ok (.iload_n 2, 1) := by decide +kernel
theorem dL_shows_435 : decode cL_shows 435 = .ok (.ifCond .eq 36, 3) := by decide +kernel
theorem dL_shows_438 : decode cL_shows 438 = .ok (.iload 4, 2) := by decide +kernel
theorem dL_shows_440 : decode cL_shows 440 = .ok (.aload_n 0, 1) := by decide +kernel
theorem dL_shows_441 : decode cL_shows 441 = .ok (.invokevirtual 9, 3) := by decide +kernel
theorem dL_shows_444 : decode cL_shows 444 = .ok (.if_icmp .ne 27, 3) := by decide +kernel
theorem dL_shows_447 : decode cL_shows 447 = .ok (.iload 5, 2) := by decide +kernel
theorem dL_shows_449 : decode cL_shows 449 = .ok (.ifCond .ne 22, 3) := by decide +kernel
theorem dL_shows_452 : decode cL_shows 452 = .ok (.iload 6, 2) := by decide +kernel
theorem dL_shows_454 : decode cL_shows 454 = .ok (.aload_n 0, 1) := by decide +kernel
theorem dL_shows_455 : decode cL_shows 455 = .ok (.iload_n 3, 1) := by decide +kernel
theorem dL_shows_456 : decode cL_shows 456 = .ok (.invokevirtual 19, 3) := by decide +kernel
theorem dL_shows_459 : decode cL_shows 459 = .ok (.if_icmp .ne 12, 3) := by decide +kernel
theorem dL_shows_462 : decode cL_shows 462 = .ok (.iload 7, 2) := by decide +kernel
theorem dL_shows_464 : decode cL_shows 464 = .ok (.ifCond .ne 7, 3) := by decide +kernel
theorem dL_shows_467 : decode cL_shows 467 = .ok (.iconst 1, 1) := by decide +kernel
theorem dL_shows_468 : decode cL_shows 468 = .ok (.goto 4, 3) := by decide +kernel
theorem dL_shows_471 : decode cL_shows 471 = .ok (.iconst 0, 1) := by decide +kernel
theorem dL_shows_472 : decode cL_shows 472 = .ok (.istore_n 2, 1) := by decide +kernel
theorem dL_shows_473 : decode cL_shows 473 = .ok (.iinc 3 1, 3) := by decide +kernel
theorem dL_shows_476 : decode cL_shows 476 = .ok (.goto (-472), 3) := by decide +kernel
theorem dL_shows_479 : decode cL_shows 479 = .ok (.iload_n 2, 1) := by decide +kernel
theorem dL_shows_480 : decode cL_shows 480 = .ok (.ireturn, 1) := by decide +kernel
theorem dL_adds_0 : decode cL_adds 0 = .ok (.aload_n 0, 1) := by decide +kernel
theorem dL_adds_1 : decode cL_adds 1 = .ok (.invokevirtual 58, 3) := by decide +kernel
theorem dL_adds_4 : decode cL_adds 4 = .ok (.istore_n 1, 1) := by decide +kernel
theorem dL_adds_5 : decode cL_adds 5 = .ok (.iconst 0, 1) := by decide +kernel
theorem dL_adds_6 : decode cL_adds 6 = .ok (.istore_n 2, 1) := by decide +kernel
theorem dL_adds_7 : decode cL_adds 7 = .ok (.iconst 0, 1) := by decide +kernel
theorem dL_adds_8 : decode cL_adds 8 = .ok (.istore_n 3, 1) := by decide +kernel
theorem dL_adds_9 : decode cL_adds 9 = .ok (.iload_n 1, 1) := by decide +kernel
theorem dL_adds_10 : decode cL_adds 10 = .ok (.bipush 40, 2) := by decide +kernel
theorem dL_adds_12 : decode cL_adds 12 = .ok (.if_icmp .le 7, 3) := by decide +kernel
theorem dL_adds_15 : decode cL_adds 15 = .ok (.iconst 1, 1) := by decide +kernel
theorem dL_adds_16 : decode cL_adds 16 = .ok (.goto 4, 3) := by decide +kernel
theorem dL_adds_19 : decode cL_adds 19 = .ok (.iconst 0, 1) := by decide +kernel
theorem dL_adds_20 : decode cL_adds 20 = .ok (.istore 4, 2) := by decide +kernel
theorem dL_adds_22 : decode cL_adds 22 = .ok (.iconst 1, 1) := by decide +kernel
theorem dL_adds_23 : decode cL_adds 23 = .ok (.istore 5, 2) := by decide +kernel
theorem dL_adds_25 : decode cL_adds 25 = .ok (.iconst 0, 1) := by decide +kernel
theorem dL_adds_26 : decode cL_adds 26 = .ok (.istore 6, 2) := by decide +kernel
theorem dL_adds_28 : decode cL_adds 28 = .ok (.iload 6, 2) := by decide +kernel
theorem dL_adds_30 : decode cL_adds 30 = .ok (.iload_n 1, 1) := by decide +kernel
theorem dL_adds_31 : decode cL_adds 31 = .ok (.if_icmp .ge 179, 3) := by decide +kernel
theorem dL_adds_34 : decode cL_adds 34 = .ok (.iload 5, 2) := by decide +kernel
theorem dL_adds_36 : decode cL_adds 36 = .ok (.ifCond .eq 174, 3) := by decide +kernel
theorem dL_adds_39 : decode cL_adds 39 = .ok (.iload 4, 2) := by decide +kernel
theorem dL_adds_41 : decode cL_adds 41 = .ok (.ifCond .ne 47, 3) := by decide +kernel
theorem dL_adds_44 : decode cL_adds 44 = .ok (.aload_n 0, 1) := by decide +kernel
theorem dL_adds_45 : decode cL_adds 45 = .ok (.iload 6, 2) := by decide +kernel
theorem dL_adds_47 : decode cL_adds 47 = .ok (.iconst 0, 1) := by decide +kernel
theorem dL_adds_48 : decode cL_adds 48 = .ok (.iconst 0, 1) := by decide +kernel
theorem dL_adds_49 : decode cL_adds 49 = .ok (.invokevirtual 55, 3) := by decide +kernel
theorem dL_adds_52 : decode cL_adds 52 = .ok (.aload_n 0, 1) := by decide +kernel
theorem dL_adds_53 : decode cL_adds 53 = .ok (.iload 6, 2) := by decide +kernel
theorem dL_adds_55 : decode cL_adds 55 = .ok (.iconst 0, 1) := by decide +kernel
theorem dL_adds_56 : decode cL_adds 56 = .ok (.iconst 1, 1) := by decide +kernel
theorem dL_adds_57 : decode cL_adds 57 = .ok (.invokevirtual 55, 3) := by decide +kernel
theorem dL_adds_60 : decode cL_adds 60 = .ok (.iadd, 1) := by decide +kernel
theorem dL_adds_61 : decode cL_adds 61 = .ok (.bipush 99, 2) := by decide +kernel
theorem dL_adds_63 : decode cL_adds 63 = .ok (.if_icmp .gt 25, 3) := by decide +kernel
theorem dL_adds_66 : decode cL_adds 66 = .ok (.aload_n 0, 1) := by decide +kernel
theorem dL_adds_67 : decode cL_adds 67 = .ok (.iload 6, 2) := by decide +kernel
theorem dL_adds_69 : decode cL_adds 69 = .ok (.iconst 1, 1) := by decide +kernel
theorem dL_adds_70 : decode cL_adds 70 = .ok (.iconst 0, 1) := by decide +kernel
theorem dL_adds_71 : decode cL_adds 71 = .ok (.invokevirtual 55, 3) := by decide +kernel
theorem dL_adds_74 : decode cL_adds 74 = .ok (.aload_n 0, 1) := by decide +kernel
theorem dL_adds_75 : decode cL_adds 75 = .ok (.iload 6, 2) := by decide +kernel
theorem dL_adds_77 : decode cL_adds 77 = .ok (.iconst 1, 1) := by decide +kernel
theorem dL_adds_78 : decode cL_adds 78 = .ok (.iconst 1, 1) := by decide +kernel
theorem dL_adds_79 : decode cL_adds 79 = .ok (.invokevirtual 55, 3) := by decide +kernel
theorem dL_adds_82 : decode cL_adds 82 = .ok (.iadd, 1) := by decide +kernel
theorem dL_adds_83 : decode cL_adds 83 = .ok (.bipush 99, 2) := by decide +kernel
theorem dL_adds_85 : decode cL_adds 85 = .ok (.if_icmp .le 7, 3) := by decide +kernel
theorem dL_adds_88 : decode cL_adds 88 = .ok (.iconst 1, 1) := by decide +kernel
theorem dL_adds_89 : decode cL_adds 89 = .ok (.goto 4, 3) := by decide +kernel
theorem dL_adds_92 : decode cL_adds 92 = .ok (.iconst 0, 1) := by decide +kernel
theorem dL_adds_93 : decode cL_adds 93 = .ok (.istore 4, 2) := by decide +kernel
theorem dL_adds_95 : decode cL_adds 95 = .ok (.aload_n 0, 1) := by decide +kernel
theorem dL_adds_96 : decode cL_adds 96 = .ok (.iload 6, 2) := by decide +kernel
theorem dL_adds_98 : decode cL_adds 98 = .ok (.iconst 0, 1) := by decide +kernel
theorem dL_adds_99 : decode cL_adds 99 = .ok (.iconst 2, 1) := by decide +kernel
theorem dL_adds_100 : decode cL_adds 100 = .ok (.invokevirtual 55, 3) := by decide +kernel
theorem dL_adds_103 : decode cL_adds 103 = .ok (.istore 7, 2) := by decide +kernel
theorem dL_adds_105 : decode cL_adds 105 = .ok (.aload_n 0, 1) := by decide +kernel
theorem dL_adds_106 : decode cL_adds 106 = .ok (.iload 6, 2) := by decide +kernel
theorem dL_adds_108 : decode cL_adds 108 = .ok (.iconst 1, 1) := by decide +kernel
theorem dL_adds_109 : decode cL_adds 109 = .ok (.iconst 2, 1) := by decide +kernel
theorem dL_adds_110 : decode cL_adds 110 = .ok (.invokevirtual 55, 3) := by decide +kernel
theorem dL_adds_113 : decode cL_adds 113 = .ok (.istore 8, 2) := by decide +kernel
theorem dL_adds_115 : decode cL_adds 115 = .ok (.iload_n 2, 1) := by decide +kernel
theorem dL_adds_116 : decode cL_adds 116 = .ok (.iload 6, 2) := by decide +kernel
theorem dL_adds_118 : decode cL_adds 118 = .ok (.iload_n 1, 1) := by decide +kernel
theorem dL_adds_119 : decode cL_adds 119 = .ok (.iconst 1, 1) := by decide +kernel
theorem dL_adds_120 : decode cL_adds 120 = .ok (.isub, 1) := by decide +kernel
theorem dL_adds_121 : decode cL_adds 121 = .ok (.if_icmp .ge 17, 3) := by decide +kernel
theorem dL_adds_124 : decode cL_adds 124 = .ok (.iload 7, 2) := by decide +kernel
theorem dL_adds_126 : decode cL_adds 126 = .ok (.iload 7, 2) := by decide +kernel
theorem dL_adds_128 : decode cL_adds 128 = .ok (.imul, 1) := by decide +kernel
theorem dL_adds_129 : decode cL_adds 129 = .ok (.iload 8, 2) := by decide +kernel
theorem dL_adds_131 : decode cL_adds 131 = .ok (.iload 8, 2) := by decide +kernel
theorem dL_adds_133 : decode cL_adds 133 = .ok (.imul, 1) := by decide +kernel
theorem dL_adds_134 : decode cL_adds 134 = .ok (.iadd, 1) := by decide +kernel
theorem dL_adds_135 : decode cL_adds 135 = .ok (.goto 4, 3) := by decide +kernel
theorem dL_adds_138 : decode cL_adds 138 = .ok (.iconst 0, 1) := by decide +kernel
theorem dL_adds_139 : decode cL_adds 139 = .ok (.iadd, 1) := by decide +kernel
theorem dL_adds_140 : decode cL_adds 140 = .ok (.istore_n 2, 1) := by decide +kernel
theorem dL_adds_141 : decode cL_adds 141 = .ok (.iload_n 3, 1) := by decide +kernel
theorem dL_adds_142 : decode cL_adds 142 = .ok (.aload_n 0, 1) := by decide +kernel
theorem dL_adds_143 : decode cL_adds 143 = .ok (.iload 6, 2) := by decide +kernel
theorem dL_adds_145 : decode cL_adds 145 = .ok (.invokevirtual 61, 3) := by decide +kernel
theorem dL_adds_148 : decode cL_adds 148 = .ok (.iadd, 1) := by decide +kernel
theorem dL_adds_149 : decode cL_adds 149 = .ok (.istore_n 3, 1) := by decide +kernel
theorem dL_adds_150 : decode cL_adds 150 = .ok (.iload 7, 2) := by decide +kernel
theorem dL_adds_152 : decode cL_adds 152 = .ok (.ifCond .lt 49, 3) := by decide +kernel
theorem dL_adds_155 : decode cL_adds 155 = .ok (.iload 8, 2) := by decide +kernel
theorem dL_adds_157 : decode cL_adds 157 = .ok (.ifCond .lt 44, 3) := by decide +kernel
theorem dL_adds_160 : decode cL_adds 160 = .ok (.aload_n 0, 1) := by decide +kernel
theorem dL_adds_161 : decode cL_adds 161 = .ok (.iload 6, 2) := by decide +kernel
theorem dL_adds_163 : decode cL_adds 163 = .ok (.invokevirtual 64, 3) := by decide +kernel
theorem dL_adds_166 : decode cL_adds 166 = .ok (.ifCond .gt 31, 3) := by decide +kernel
theorem dL_adds_169 : decode cL_adds 169 = .ok (.iload 6, 2) := by decide +kernel
theorem dL_adds_171 : decode cL_adds 171 = .ok (.iload_n 1, 1) := by decide +kernel
theorem dL_adds_172 : decode cL_adds 172 = .ok (.iconst 1, 1) := by decide +kernel
theorem dL_adds_173 : decode cL_adds 173 = .ok (.isub, 1) := by decide +kernel
theorem dL_adds_174 : decode cL_adds 174 = .ok (.if_icmp .ne 27, 3) := by decide +kernel
theorem dL_adds_177 : decode cL_adds 177 = .ok (.aload_n 0, 1) := by decide +kernel
theorem dL_adds_178 : decode cL_adds 178 = .ok (.iload 6, 2) := by decide +kernel
theorem dL_adds_180 : decode cL_adds 180 = .ok (.iconst 0, 1) := by decide +kernel
theorem dL_adds_181 : decode cL_adds 181 = .ok (.iconst 3, 1) := by decide +kernel
theorem dL_adds_182 : decode cL_adds 182 = .ok (.invokevirtual 55, 3) := by decide +kernel
theorem dL_adds_185 : decode cL_adds 185 = .ok (.aload_n 0, 1) := by decide +kernel
theorem dL_adds_186 : decode cL_adds 186 = .ok (.iload 6, 2) := by decide +kernel
theorem dL_adds_188 : decode cL_adds 188 = .ok (.iconst 1, 1) := by decide +kernel
theorem dL_adds_189 : decode cL_adds 189 = .ok (.iconst 3, 1) := by decide +kernel
theorem dL_adds_190 : decode cL_adds 190 = .ok (.invokevirtual 55, 3) := by decide +kernel
theorem dL_adds_193 : decode cL_adds 193 = .ok (.iadd, 1) := by decide +kernel
theorem dL_adds_194 : decode cL_adds 194 = .ok (.ifCond .le 7, 3) := by decide +kernel
theorem dL_adds_197 : decode cL_adds 197 = .ok (.iconst 1, 1) := by decide +kernel
theorem dL_adds_198 : decode cL_adds 198 = .ok (.goto 4, 3) := by decide +kernel
theorem dL_adds_201 : decode cL_adds 201 = .ok (.iconst 0, 1) := by decide +kernel
theorem dL_adds_202 : decode cL_adds 202 = .ok (.istore 5, 2) := by decide +kernel
theorem dL_adds_204 : decode cL_adds 204 = .ok (.iinc 6 1, 3) := by decide +kernel
theorem dL_adds_207 : decode cL_adds 207 = .ok (.goto (-179), 3) := by decide +kernel
theorem dL_adds_210 : decode cL_adds 210 = .ok (.iload 5, 2) := by decide +kernel
theorem dL_adds_212 : decode cL_adds 212 = .ok (.ifCond .eq 33, 3) := by decide +kernel
theorem dL_adds_215 : decode cL_adds 215 = .ok (.aload_n 0, 1) := by decide +kernel
theorem dL_adds_216 : decode cL_adds 216 = .ok (.invokevirtual 67, 3) := by decide +kernel
theorem dL_adds_219 : decode cL_adds 219 = .ok (.iload_n 2, 1) := by decide +kernel
theorem dL_adds_220 : decode cL_adds 220 = .ok (.if_icmp .ne 25, 3) := by decide +kernel
theorem dL_adds_223 : decode cL_adds 223 = .ok (.iload 4, 2) := by decide +kernel
theorem dL_adds_225 : decode cL_adds 225 = .ok (.ifCond .ne 11, 3) := by decide +kernel
theorem dL_adds_228 : decode cL_adds 228 = .ok (.aload_n 0, 1) := by decide +kernel
theorem dL_adds_229 : decode cL_adds 229 = .ok (.iload_n 1, 1) := by decide +kernel
theorem dL_adds_230 : decode cL_adds 230 = .ok (.invokestatic 70, 3) := by decide +kernel
theorem dL_adds_233 : decode cL_adds 233 = .ok (.ifCond .eq 12, 3) := by decide +kernel
theorem dL_adds_236 : decode cL_adds 236 = .ok (.iload_n 3, 1) := by decide +kernel
theorem dL_adds_237 : decode cL_adds 237 = .ok (.iload_n 1, 1) := by decide +kernel
theorem dL_adds_238 : decode cL_adds 238 = .ok (.if_icmp .gt 7, 3) := by decide +kernel
theorem dL_adds_241 : decode cL_adds 241 = .ok (.iconst 1, 1) := by decide +kernel
theorem dL_adds_242 : decode cL_adds 242 = .ok (.goto 4, 3) := by decide +kernel
theorem dL_adds_245 : decode cL_adds 245 = .ok (.iconst 0, 1) := by decide +kernel
theorem dL_adds_246 : decode cL_adds 246 = .ok (.ireturn, 1) := by decide +kernel
theorem dL_law_0 : decode cL_law 0 = .ok (.new 10, 3) := by decide +kernel
theorem dL_law_3 : decode cL_law 3 = .ok (.dup, 1) := by decide +kernel
theorem dL_law_4 : decode cL_law 4 = .ok (.invokespecial 76, 3) := by decide +kernel
theorem dL_law_7 : decode cL_law 7 = .ok (.astore_n 1, 1) := by decide +kernel
theorem dL_law_8 : decode cL_law 8 = .ok (.iconst 1, 1) := by decide +kernel
theorem dL_law_9 : decode cL_law 9 = .ok (.istore_n 2, 1) := by decide +kernel
theorem dL_law_10 : decode cL_law 10 = .ok (.iconst 0, 1) := by decide +kernel
theorem dL_law_11 : decode cL_law 11 = .ok (.istore_n 3, 1) := by decide +kernel
theorem dL_law_12 : decode cL_law 12 = .ok (.iload_n 3, 1) := by decide +kernel
theorem dL_law_13 : decode cL_law 13 = .ok (.bipush 48, 2) := by decide +kernel
theorem dL_law_15 : decode cL_law 15 = .ok (.if_icmp .ge 46, 3) := by decide +kernel
theorem dL_law_18 : decode cL_law 18 = .ok (.iload_n 2, 1) := by decide +kernel
theorem dL_law_19 : decode cL_law 19 = .ok (.ifCond .eq 42, 3) := by decide +kernel
theorem dL_law_22 : decode cL_law 22 = .ok (.aload_n 1, 1) := by decide +kernel
theorem dL_law_23 : decode cL_law 23 = .ok (.aload_n 0, 1) := by decide +kernel
theorem dL_law_24 : decode cL_law 24 = .ok (.iload_n 3, 1) := by decide +kernel
theorem dL_law_25 : decode cL_law 25 = .ok (.invokestatic 77, 3) := by decide +kernel
theorem dL_law_28 : decode cL_law 28 = .ok (.invokestatic 81, 3) := by decide +kernel
theorem dL_law_31 : decode cL_law 31 = .ok (.ifCond .eq 22, 3) := by decide +kernel
theorem dL_law_34 : decode cL_law 34 = .ok (.iload_n 3, 1) := by decide +kernel
theorem dL_law_35 : decode cL_law 35 = .ok (.bipush 6, 2) := by decide +kernel
theorem dL_law_37 : decode cL_law 37 = .ok (.irem, 1) := by decide +kernel
theorem dL_law_38 : decode cL_law 38 = .ok (.iconst 5, 1) := by decide +kernel
theorem dL_law_39 : decode cL_law 39 = .ok (.if_icmp .lt 10, 3) := by decide +kernel
theorem dL_law_42 : decode cL_law 42 = .ok (.aload_n 1, 1) := by decide +kernel
theorem dL_law_43 : decode cL_law 43 = .ok (.invokestatic 84, 3) := by decide +kernel
theorem dL_law_46 : decode cL_law 46 = .ok (.ifCond .eq 7, 3) := by decide +kernel
theorem dL_law_49 : decode cL_law 49 = .ok (.iconst 1, 1) := by decide +kernel
theorem dL_law_50 : decode cL_law 50 = .ok (.goto 4, 3) := by decide +kernel
theorem dL_law_53 : decode cL_law 53 = .ok (.iconst 0, 1) := by decide +kernel
theorem dL_law_54 : decode cL_law 54 = .ok (.istore_n 2, 1) := by decide +kernel
theorem dL_law_55 : decode cL_law 55 = .ok (.iinc 3 1, 3) := by decide +kernel
theorem dL_law_58 : decode cL_law 58 = .ok (.goto (-46), 3) := by decide +kernel
theorem dL_law_61 : decode cL_law 61 = .ok (.iload_n 2, 1) := by decide +kernel
theorem dL_law_62 : decode cL_law 62 = .ok (.ifCond .eq 14, 3) := by decide +kernel
theorem dL_law_65 : decode cL_law 65 = .ok (.aload_n 1, 1) := by decide +kernel
theorem dL_law_66 : decode cL_law 66 = .ok (.invokestatic 84, 3) := by decide +kernel
theorem dL_law_69 : decode cL_law 69 = .ok (.ifCond .eq 7, 3) := by decide +kernel
theorem dL_law_72 : decode cL_law 72 = .ok (.iconst 1, 1) := by decide +kernel
theorem dL_law_73 : decode cL_law 73 = .ok (.goto 4, 3) := by decide +kernel
theorem dL_law_76 : decode cL_law 76 = .ok (.iconst 0, 1) := by decide +kernel
theorem dL_law_77 : decode cL_law 77 = .ok (.istore_n 2, 1) := by decide +kernel
theorem dL_law_78 : decode cL_law 78 = .ok (.iconst 1, 1) := by decide +kernel
theorem dL_law_79 : decode cL_law 79 = .ok (.aload_n 0, 1) := by decide +kernel
theorem dL_law_80 : decode cL_law 80 = .ok (.bipush 49, 2) := by decide +kernel
theorem dL_law_82 : decode cL_law 82 = .ok (.invokestatic 77, 3) := by decide +kernel
theorem dL_law_85 : decode cL_law 85 = .ok (.bipush 12, 2) := by decide +kernel
theorem dL_law_87 : decode cL_law 87 = .ok (.irem, 1) := by decide +kernel
theorem dL_law_88 : decode cL_law 88 = .ok (.iadd, 1) := by decide +kernel
theorem dL_law_89 : decode cL_law 89 = .ok (.istore_n 3, 1) := by decide +kernel
theorem dL_law_90 : decode cL_law 90 = .ok (.iload_n 2, 1) := by decide +kernel
theorem dL_law_91 : decode cL_law 91 = .ok (.ifCond .eq 11, 3) := by decide +kernel
theorem dL_law_94 : decode cL_law 94 = .ok (.aload_n 1, 1) := by decide +kernel
theorem dL_law_95 : decode cL_law 95 = .ok (.iload_n 3, 1) := by decide +kernel
theorem dL_law_96 : decode cL_law 96 = .ok (.invokevirtual 88, 3) := by decide +kernel
theorem dL_law_99 : decode cL_law 99 = .ok (.goto 5, 3) := by decide +kernel
theorem dL_law_102 : decode cL_law 102 = .ok (.bipush (-4), 2) := by decide +kernel
theorem dL_law_104 : decode cL_law 104 = .ok (.istore 4, 2) := by decide +kernel
theorem dL_law_106 : decode cL_law 106 = .ok (.iload_n 2, 1) := by decide +kernel
theorem dL_law_107 : decode cL_law 107 = .ok (.ifCond .eq 67, 3) := by decide +kernel
theorem dL_law_110 : decode cL_law 110 = .ok (.iload 4, 2) := by decide +kernel
theorem dL_law_112 : decode cL_law 112 = .ok (.ifCond .le 62, 3) := by decide +kernel
theorem dL_law_115 : decode cL_law 115 = .ok (.aload_n 1, 1) := by decide +kernel
theorem dL_law_116 : decode cL_law 116 = .ok (.iconst 0, 1) := by decide +kernel
theorem dL_law_117 : decode cL_law 117 = .ok (.iload 4, 2) := by decide +kernel
theorem dL_law_119 : decode cL_law 119 = .ok (.invokevirtual 34, 3) := by decide +kernel
theorem dL_law_122 : decode cL_law 122 = .ok (.istore 5, 2) := by decide +kernel
theorem dL_law_124 : decode cL_law 124 = .ok (.iload 5, 2) := by decide +kernel
theorem dL_law_126 : decode cL_law 126 = .ok (.bipush 8, 2) := by decide +kernel
theorem dL_law_128 : decode cL_law 128 = .ok (.if_icmp .lt 44, 3) := by decide +kernel
theorem dL_law_131 : decode cL_law 131 = .ok (.aload_n 1, 1) := by decide +kernel
theorem dL_law_132 : decode cL_law 132 = .ok (.invokevirtual 58, 3) := by decide +kernel
theorem dL_law_135 : decode cL_law 135 = .ok (.iload_n 3, 1) := by decide +kernel
theorem dL_law_136 : decode cL_law 136 = .ok (.if_icmp .gt 36, 3) := by decide +kernel
theorem dL_law_139 : decode cL_law 139 = .ok (.iload 4, 2) := by decide +kernel
theorem dL_law_141 : decode cL_law 141 = .ok (.bipush 8, 2) := by decide +kernel
theorem dL_law_143 : decode cL_law 143 = .ok (.if_icmp .eq 25, 3) := by decide +kernel
theorem dL_law_146 : decode cL_law 146 = .ok (.aload_n 1, 1) := by decide +kernel
theorem dL_law_147 : decode cL_law 147 = .ok (.iconst 0, 1) := by decide +kernel
theorem dL_law_148 : decode cL_law 148 = .ok (.iload 4, 2) := by decide +kernel
theorem dL_law_150 : decode cL_law 150 = .ok (.iconst 1, 1) := by decide +kernel
theorem dL_law_151 : decode cL_law 151 = .ok (.isub, 1) := by decide +kernel
theorem dL_law_152 : decode cL_law 152 = .ok (.invokevirtual 34, 3) := by decide +kernel
theorem dL_law_155 : decode cL_law 155 = .ok (.iload 4, 2) := by decide +kernel
theorem dL_law_157 : decode cL_law 157 = .ok (.if_icmp .ne 15, 3) := by decide +kernel
theorem dL_law_160 : decode cL_law 160 = .ok (.aload_n 1, 1) := by decide +kernel
theorem dL_law_161 : decode cL_law 161 = .ok (.invokevirtual 58, 3) := by decide +kernel
theorem dL_law_164 : decode cL_law 164 = .ok (.iload_n 3, 1) := by decide +kernel
theorem dL_law_165 : decode cL_law 165 = .ok (.if_icmp .le 7, 3) := by decide +kernel
theorem dL_law_168 : decode cL_law 168 = .ok (.iconst 1, 1) := by decide +kernel
theorem dL_law_169 : decode cL_law 169 = .ok (.goto 4, 3) := by decide +kernel
theorem dL_law_172 : decode cL_law 172 = .ok (.iconst 0, 1) := by decide +kernel
theorem dL_law_173 : decode cL_law 173 = .ok (.istore_n 2, 1) := by decide +kernel
theorem dL_law_174 : decode cL_law 174 = .ok (.iload_n 2, 1) := by decide +kernel
theorem dL_law_175 : decode cL_law 175 = .ok (.ifCond .eq 10, 3) := by decide +kernel
theorem dL_law_178 : decode cL_law 178 = .ok (.aload_n 1, 1) := by decide +kernel
theorem dL_law_179 : decode cL_law 179 = .ok (.invokevirtual 91, 3) := by decide +kernel
theorem dL_law_182 : decode cL_law 182 = .ok (.goto 5, 3) := by decide +kernel
theorem dL_law_185 : decode cL_law 185 = .ok (.bipush (-4), 2) := by decide +kernel
theorem dL_law_187 : decode cL_law 187 = .ok (.istore 5, 2) := by decide +kernel
theorem dL_law_189 : decode cL_law 189 = .ok (.iconst (-1), 1) := by decide +kernel
theorem dL_law_190 : decode cL_law 190 = .ok (.istore 6, 2) := by decide +kernel
theorem dL_law_192 : decode cL_law 192 = .ok (.iconst 0, 1) := by decide +kernel
theorem dL_law_193 : decode cL_law 193 = .ok (.istore 7, 2) := by decide +kernel
theorem dL_law_195 : decode cL_law 195 = .ok (.iload 7, 2) := by decide +kernel
theorem dL_law_197 : decode cL_law 197 = .ok (.bipush 21, 2) := by decide +kernel
theorem dL_law_199 : decode cL_law 199 = .ok (.if_icmp .ge 83, 3) := by decide +kernel
theorem dL_law_202 : decode cL_law 202 = .ok (.iload_n 2, 1) := by decide +kernel
theorem dL_law_203 : decode cL_law 203 = .ok (.ifCond .eq 79, 3) := by decide +kernel
theorem dL_law_206 : decode cL_law 206 = .ok (.iload 5, 2) := by decide +kernel
theorem dL_law_208 : decode cL_law 208 = .ok (.ifCond .lt 74, 3) := by decide +kernel
theorem dL_law_211 : decode cL_law 211 = .ok (.aload_n 1, 1) := by decide +kernel
theorem dL_law_212 : decode cL_law 212 = .ok (.iload 7, 2) := by decide +kernel
theorem dL_law_214 : decode cL_law 214 = .ok (.invokevirtual 94, 3) := by decide +kernel
theorem dL_law_217 : decode cL_law 217 = .ok (.istore 8, 2) := by decide +kernel
theorem dL_law_219 : decode cL_law 219 = .ok (.iload 8, 2) := by decide +kernel
theorem dL_law_221 : decode cL_law 221 = .ok (.bipush (-4), 2) := by decide +kernel
theorem dL_law_223 : decode cL_law 223 = .ok (.if_icmp .eq 29, 3) := by decide +kernel
theorem dL_law_226 : decode cL_law 226 = .ok (.iload 8, 2) := by decide +kernel
theorem dL_law_228 : decode cL_law 228 = .ok (.iload 6, 2) := by decide +kernel
theorem dL_law_230 : decode cL_law 230 = .ok (.if_icmp .le 26, 3) := by decide +kernel
theorem dL_law_233 : decode cL_law 233 = .ok (.iload 7, 2) := by decide +kernel
theorem dL_law_235 : decode cL_law 235 = .ok (.ifCond .gt 8, 3) := by decide +kernel
theorem dL_law_238 : decode cL_law 238 = .ok (.iload 8, 2) := by decide +kernel
theorem dL_law_240 : decode cL_law 240 = .ok (.ifCond .ne 16, 3) := by decide +kernel
theorem dL_law_243 : decode cL_law 243 = .ok (.iload 6, 2) := by decide +kernel
theorem dL_law_245 : decode cL_law 245 = .ok (.aload_n 1, 1) := by decide +kernel
theorem dL_law_246 : decode cL_law 246 = .ok (.invokevirtual 9, 3) := by decide +kernel
theorem dL_law_249 : decode cL_law 249 = .ok (.if_icmp .ge 7, 3) := by decide +kernel
theorem dL_law_252 : decode cL_law 252 = .ok (.iconst 1, 1) := by decide +kernel
theorem dL_law_253 : decode cL_law 253 = .ok (.goto 4, 3) := by decide +kernel
theorem dL_law_256 : decode cL_law 256 = .ok (.iconst 0, 1) := by decide +kernel
theorem dL_law_257 : decode cL_law 257 = .ok (.istore_n 2, 1) := by decide +kernel
theorem dL_law_258 : decode cL_law 258 = .ok (.iload 8, 2) := by decide +kernel
theorem dL_law_260 : decode cL_law 260 = .ok (.bipush (-4), 2) := by decide +kernel
theorem dL_law_262 : decode cL_law 262 = .ok (.if_icmp .ne 10, 3) := by decide +kernel
theorem dL_law_265 : decode cL_law 265 = .ok (.aload_n 1, 1) := by decide +kernel
theorem dL_law_266 : decode cL_law 266 = .ok (.invokevirtual 9, 3) := by decide +kernel
theorem dL_law_269 : decode cL_law 269 = .ok (.goto 5, 3) := by decide +kernel
theorem dL_law_272 : decode cL_law 272 = .ok (.iload 8, 2) := by decide +kernel
theorem dL_law_274 : decode cL_law 274 = .ok (.istore 6, 2) := by decide +kernel
theorem dL_law_276 : decode cL_law 276 = .ok (.iinc 7 1, 3) := by decide +kernel
theorem dL_law_279 : decode cL_law 279 = .ok (.goto (-84), 3) := by decide +kernel
theorem dL_law_282 : decode cL_law 282 = .ok (.iload_n 2, 1) := by decide +kernel
theorem dL_law_283 : decode cL_law 283 = .ok (.ifCond .eq 22, 3) := by decide +kernel
theorem dL_law_286 : decode cL_law 286 = .ok (.iload 5, 2) := by decide +kernel
theorem dL_law_288 : decode cL_law 288 = .ok (.ifCond .ge 13, 3) := by decide +kernel
theorem dL_law_291 : decode cL_law 291 = .ok (.aload_n 1, 1) := by decide +kernel
theorem dL_law_292 : decode cL_law 292 = .ok (.iconst 0, 1) := by decide +kernel
theorem dL_law_293 : decode cL_law 293 = .ok (.invokevirtual 94, 3) := by decide +kernel
theorem dL_law_296 : decode cL_law 296 = .ok (.bipush (-4), 2) := by decide +kernel
theorem dL_law_298 : decode cL_law 298 = .ok (.if_icmp .ne 7, 3) := by decide +kernel
theorem dL_law_301 : decode cL_law 301 = .ok (.iconst 1, 1) := by decide +kernel
theorem dL_law_302 : decode cL_law 302 = .ok (.goto 4, 3) := by decide +kernel
theorem dL_law_305 : decode cL_law 305 = .ok (.iconst 0, 1) := by decide +kernel
theorem dL_law_306 : decode cL_law 306 = .ok (.ireturn, 1) := by decide +kernel
abbrev vwCl : List vw_C := [(RX0, TX0, 7), (RX1, TX1, 5), (RX2, TX2, 7), (RX3, TX3, 3), (RX4, TX4, 2), (RX5, TX5, 3), (RX6, TX6, 11), (RX7, TX7, 4)]
