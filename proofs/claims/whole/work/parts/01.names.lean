/-! ===== BEGIN printed: names, fields, word lists, decode rows ===== -/
def RX0 : String := "BilingualSetter$Division"
def TX0 : u_T := fun k => match k with
  | 0 => ("BilingualSetter$Division", "isSearched", "Z", false)
  | 1 => ("BilingualSetter$Division", "groups", "I", false)
  | 2 => ("BilingualSetter$Division", "firstPairs", "[I", true)
  | 3 => ("BilingualSetter$Division", "costs", "[I", true)
  | 4 => ("BilingualSetter$Division", "sizes", "[I", true)
  | 5 => ("BilingualSetter$Division", "group", "LBilingualSetter$Facing;", true)
  | _ => ("BilingualSetter$Division", "whole", "LBilingualSetter$Part;", true)
def tyX0 : Nat → FieldType := fun k => match k with
  | 0 => .boolean
  | 1 => .int
  | 2 => .array .int
  | 3 => .array .int
  | 4 => .array .int
  | 5 => .object "BilingualSetter$Facing"
  | _ => .object "BilingualSetter$Part"
abbrev wsX00 : List Cond := u_ws RX0 TX0 7
theorem nmX0 : ∀ a, a < 7 → ∀ b, b < 7 → a ≠ b → (TX0 a).2.1 ≠ (TX0 b).2.1 := by decide +kernel
theorem tyX0_ok : ∀ k, k < 7 → parseFieldDescriptor (TX0 k).2.2.1 = some (tyX0 k) := by decide +kernel
abbrev cX0_init : ByteArray := prog_2_method_1_code
def yX0_init : MethodName := ⟨RX0, "<init>", "()V"⟩
abbrev cX0_isAllowed : ByteArray := prog_2_method_2_code
def yX0_isAllowed : MethodName := ⟨RX0, "isAllowed", "()Z"⟩
abbrev cX0_search : ByteArray := prog_2_method_3_code
def yX0_search : MethodName := ⟨RX0, "search", "(LBilingualSetter$Edition;)V"⟩
abbrev cX0_searchFrom : ByteArray := prog_2_method_4_code
def yX0_searchFrom : MethodName := ⟨RX0, "searchFrom", "(LBilingualSetter$Edition;I)V"⟩
abbrev cX0_considerGroup : ByteArray := prog_2_method_5_code
def yX0_considerGroup : MethodName := ⟨RX0, "considerGroup", "(LBilingualSetter$Edition;II)V"⟩
abbrev cX0_blankSquares : ByteArray := prog_2_method_6_code
def yX0_blankSquares : MethodName := ⟨RX0, "blankSquares", "(LBilingualSetter$Edition;)I"⟩
def RX1 : String := "BilingualSetter$Edition"
def TX1 : u_T := fun k => match k with
  | 0 => ("BilingualSetter$Edition", "count", "I", false)
  | 1 => ("BilingualSetter$Edition", "pairs", "[[I", true)
  | 2 => ("BilingualSetter$Edition", "left", "LBilingualSetter$Notes;", true)
  | 3 => ("BilingualSetter$Edition", "right", "LBilingualSetter$Notes;", true)
  | _ => ("BilingualSetter$Edition", "settings", "[I", true)
def tyX1 : Nat → FieldType := fun k => match k with
  | 0 => .int
  | 1 => .array (.array .int)
  | 2 => .object "BilingualSetter$Notes"
  | 3 => .object "BilingualSetter$Notes"
  | _ => .array .int
abbrev wsX10 : List Cond := u_ws RX1 TX1 5
theorem nmX1 : ∀ a, a < 5 → ∀ b, b < 5 → a ≠ b → (TX1 a).2.1 ≠ (TX1 b).2.1 := by decide +kernel
theorem tyX1_ok : ∀ k, k < 5 → parseFieldDescriptor (TX1 k).2.2.1 = some (tyX1 k) := by decide +kernel
abbrev cX1_init : ByteArray := prog_3_method_1_code
def yX1_init : MethodName := ⟨RX1, "<init>", "()V"⟩
abbrev cX1_notes : ByteArray := prog_3_method_2_code
def yX1_notes : MethodName := ⟨RX1, "notes", "(I)LBilingualSetter$Notes;"⟩
abbrev cX1_hasPair : ByteArray := prog_3_method_3_code
def yX1_hasPair : MethodName := ⟨RX1, "hasPair", "(I)Z"⟩
abbrev cX1_hasLine : ByteArray := prog_3_method_4_code
def yX1_hasLine : MethodName := ⟨RX1, "hasLine", "(III)Z"⟩
abbrev cX1_placePair : ByteArray := prog_3_method_5_code
def yX1_placePair : MethodName := ⟨RX1, "placePair", "(III)V"⟩
abbrev cX1_dropPair : ByteArray := prog_3_method_6_code
def yX1_dropPair : MethodName := ⟨RX1, "dropPair", "(I)V"⟩
abbrev cX1_copyFrom : ByteArray := prog_3_method_7_code
def yX1_copyFrom : MethodName := ⟨RX1, "copyFrom", "(LBilingualSetter$Edition;)V"⟩
def RX2 : String := "BilingualSetter$Facing"
def TX2 : u_T := fun k => match k with
  | 0 => ("BilingualSetter$Facing", "text", "[I", true)
  | 1 => ("BilingualSetter$Facing", "next", "[I", true)
  | 2 => ("BilingualSetter$Facing", "carriedTo", "[I", true)
  | 3 => ("BilingualSetter$Facing", "firstNote", "[I", true)
  | 4 => ("BilingualSetter$Facing", "notes", "[I", true)
  | 5 => ("BilingualSetter$Facing", "noteLines", "[I", true)
  | _ => ("BilingualSetter$Facing", "lastLength", "[I", true)
def tyX2 : Nat → FieldType := fun k => match k with
  | 0 => .array .int
  | 1 => .array .int
  | 2 => .array .int
  | 3 => .array .int
  | 4 => .array .int
  | 5 => .array .int
  | _ => .array .int
abbrev wsX20 : List Cond := u_ws RX2 TX2 7
theorem nmX2 : ∀ a, a < 7 → ∀ b, b < 7 → a ≠ b → (TX2 a).2.1 ≠ (TX2 b).2.1 := by decide +kernel
theorem tyX2_ok : ∀ k, k < 7 → parseFieldDescriptor (TX2 k).2.2.1 = some (tyX2 k) := by decide +kernel
abbrev cX2_init : ByteArray := prog_4_method_1_code
def yX2_init : MethodName := ⟨RX2, "<init>", "()V"⟩
abbrev cX2_turn : ByteArray := prog_4_method_2_code
def yX2_turn : MethodName := ⟨RX2, "turn", "(III)V"⟩
abbrev cX2_copyFrom : ByteArray := prog_4_method_3_code
def yX2_copyFrom : MethodName := ⟨RX2, "copyFrom", "(LBilingualSetter$Facing;)V"⟩
abbrev cX2_put : ByteArray := prog_4_method_4_code
def yX2_put : MethodName := ⟨RX2, "put", "(LBilingualSetter$Edition;LBilingualSetter$Part;)V"⟩
abbrev cX2_noteRows : ByteArray := prog_4_method_5_code
def yX2_noteRows : MethodName := ⟨RX2, "noteRows", "(III)I"⟩
abbrev cX2_mostCarried : ByteArray := prog_4_method_6_code
def yX2_mostCarried : MethodName := ⟨RX2, "mostCarried", "(II)I"⟩
abbrev cX2_fits : ByteArray := prog_4_method_7_code
def yX2_fits : MethodName := ⟨RX2, "fits", "(III)Z"⟩
abbrev cX2_carriedFrom : ByteArray := prog_4_method_8_code
def yX2_carriedFrom : MethodName := ⟨RX2, "carriedFrom", "(ILBilingualSetter$Edition;I)I"⟩
def RX3 : String := "BilingualSetter$History"
def TX3 : u_T := fun k => match k with
  | 0 => ("BilingualSetter$History", "count", "I", false)
  | 1 => ("BilingualSetter$History", "next", "I", false)
  | _ => ("BilingualSetter$History", "ring", "[LBilingualSetter$Edition;", true)
def tyX3 : Nat → FieldType := fun k => match k with
  | 0 => .int
  | 1 => .int
  | _ => .array (.object "BilingualSetter$Edition")
abbrev wsX30 : List Cond := u_ws RX3 TX3 3
theorem nmX3 : ∀ a, a < 3 → ∀ b, b < 3 → a ≠ b → (TX3 a).2.1 ≠ (TX3 b).2.1 := by decide +kernel
theorem tyX3_ok : ∀ k, k < 3 → parseFieldDescriptor (TX3 k).2.2.1 = some (tyX3 k) := by decide +kernel
abbrev cX3_init : ByteArray := prog_5_method_1_code
def yX3_init : MethodName := ⟨RX3, "<init>", "()V"⟩
abbrev cX3_record : ByteArray := prog_5_method_2_code
def yX3_record : MethodName := ⟨RX3, "record", "(LBilingualSetter$Edition;)V"⟩
abbrev cX3_restore : ByteArray := prog_5_method_3_code
def yX3_restore : MethodName := ⟨RX3, "restore", "(LBilingualSetter$Edition;)V"⟩
def RX4 : String := "BilingualSetter$Notes"
def TX4 : u_T := fun k => match k with
  | 0 => ("BilingualSetter$Notes", "count", "I", false)
  | _ => ("BilingualSetter$Notes", "table", "[[I", true)
def tyX4 : Nat → FieldType := fun k => match k with
  | 0 => .int
  | _ => .array (.array .int)
abbrev wsX40 : List Cond := u_ws RX4 TX4 2
theorem nmX4 : ∀ a, a < 2 → ∀ b, b < 2 → a ≠ b → (TX4 a).2.1 ≠ (TX4 b).2.1 := by decide +kernel
theorem tyX4_ok : ∀ k, k < 2 → parseFieldDescriptor (TX4 k).2.2.1 = some (tyX4 k) := by decide +kernel
abbrev cX4_init : ByteArray := prog_6_method_1_code
def yX4_init : MethodName := ⟨RX4, "<init>", "()V"⟩
abbrev cX4_before : ByteArray := prog_6_method_2_code
def yX4_before : MethodName := ⟨RX4, "before", "(II)I"⟩
abbrev cX4_endBefore : ByteArray := prog_6_method_3_code
def yX4_endBefore : MethodName := ⟨RX4, "endBefore", "(III)I"⟩
abbrev cX4_standFrom : ByteArray := prog_6_method_4_code
def yX4_standFrom : MethodName := ⟨RX4, "standFrom", "(II)Z"⟩
abbrev cX4_place : ByteArray := prog_6_method_5_code
def yX4_place : MethodName := ⟨RX4, "place", "(III)I"⟩
abbrev cX4_drop : ByteArray := prog_6_method_6_code
def yX4_drop : MethodName := ⟨RX4, "drop", "(I)V"⟩
abbrev cX4_dropPair : ByteArray := prog_6_method_7_code
def yX4_dropPair : MethodName := ⟨RX4, "dropPair", "(I)V"⟩
abbrev cX4_movePairs : ByteArray := prog_6_method_8_code
def yX4_movePairs : MethodName := ⟨RX4, "movePairs", "(II)V"⟩
abbrev cX4_copyFrom : ByteArray := prog_6_method_9_code
def yX4_copyFrom : MethodName := ⟨RX4, "copyFrom", "(LBilingualSetter$Notes;)V"⟩
def RX5 : String := "BilingualSetter$Part"
def TX5 : u_T := fun k => match k with
  | 0 => ("BilingualSetter$Part", "pair", "I", false)
  | 1 => ("BilingualSetter$Part", "first", "[I", true)
  | _ => ("BilingualSetter$Part", "lines", "[I", true)
def tyX5 : Nat → FieldType := fun k => match k with
  | 0 => .int
  | 1 => .array .int
  | _ => .array .int
abbrev wsX50 : List Cond := u_ws RX5 TX5 3
theorem nmX5 : ∀ a, a < 3 → ∀ b, b < 3 → a ≠ b → (TX5 a).2.1 ≠ (TX5 b).2.1 := by decide +kernel
theorem tyX5_ok : ∀ k, k < 3 → parseFieldDescriptor (TX5 k).2.2.1 = some (tyX5 k) := by decide +kernel
abbrev cX5_init : ByteArray := prog_7_method_1_code
def yX5_init : MethodName := ⟨RX5, "<init>", "()V"⟩
abbrev cX5_takePair : ByteArray := prog_7_method_2_code
def yX5_takePair : MethodName := ⟨RX5, "takePair", "(LBilingualSetter$Edition;I)V"⟩
abbrev cX5_takeStart : ByteArray := prog_7_method_3_code
def yX5_takeStart : MethodName := ⟨RX5, "takeStart", "(LBilingualSetter$Part;II)V"⟩
abbrev cX5_dropStart : ByteArray := prog_7_method_4_code
def yX5_dropStart : MethodName := ⟨RX5, "dropStart", "(LBilingualSetter$Part;)V"⟩
abbrev cX5_isBegun : ByteArray := prog_7_method_5_code
def yX5_isBegun : MethodName := ⟨RX5, "isBegun", "()Z"⟩
def RX6 : String := "BilingualSetter$Spreads"
def TX6 : u_T := fun k => match k with
  | 0 => ("BilingualSetter$Spreads", "height", "I", false)
  | 1 => ("BilingualSetter$Spreads", "count", "I", false)
  | 2 => ("BilingualSetter$Spreads", "firstSegment", "[I", true)
  | 3 => ("BilingualSetter$Spreads", "overfull", "[I", true)
  | 4 => ("BilingualSetter$Spreads", "segments", "[[I", true)
  | 5 => ("BilingualSetter$Spreads", "pages", "[[I", true)
  | 6 => ("BilingualSetter$Spreads", "segmentsMade", "I", false)
  | 7 => ("BilingualSetter$Spreads", "now", "LBilingualSetter$Facing;", true)
  | 8 => ("BilingualSetter$Spreads", "trial", "LBilingualSetter$Facing;", true)
  | 9 => ("BilingualSetter$Spreads", "rest", "LBilingualSetter$Part;", true)
  | _ => ("BilingualSetter$Spreads", "start", "LBilingualSetter$Part;", true)
def tyX6 : Nat → FieldType := fun k => match k with
  | 0 => .int
  | 1 => .int
  | 2 => .array .int
  | 3 => .array .int
  | 4 => .array (.array .int)
  | 5 => .array (.array .int)
  | 6 => .int
  | 7 => .object "BilingualSetter$Facing"
  | 8 => .object "BilingualSetter$Facing"
  | 9 => .object "BilingualSetter$Part"
  | _ => .object "BilingualSetter$Part"
abbrev wsX60 : List Cond := u_ws RX6 TX6 11
theorem nmX6 : ∀ a, a < 11 → ∀ b, b < 11 → a ≠ b → (TX6 a).2.1 ≠ (TX6 b).2.1 := by decide +kernel
theorem tyX6_ok : ∀ k, k < 11 → parseFieldDescriptor (TX6 k).2.2.1 = some (tyX6 k) := by decide +kernel
abbrev cX6_init : ByteArray := prog_8_method_1_code
def yX6_init : MethodName := ⟨RX6, "<init>", "()V"⟩
abbrev cX6_arrange : ByteArray := prog_8_method_2_code
def yX6_arrange : MethodName := ⟨RX6, "arrange", "(LBilingualSetter$Edition;I)V"⟩
abbrev cX6_isCarried : ByteArray := prog_8_method_3_code
def yX6_isCarried : MethodName := ⟨RX6, "isCarried", "()Z"⟩
abbrev cX6_putNext : ByteArray := prog_8_method_4_code
def yX6_putNext : MethodName := ⟨RX6, "putNext", "(LBilingualSetter$Edition;)Z"⟩
abbrev cX6_putRest : ByteArray := prog_8_method_5_code
def yX6_putRest : MethodName := ⟨RX6, "putRest", "(LBilingualSetter$Edition;)V"⟩
abbrev cX6_fits : ByteArray := prog_8_method_6_code
def yX6_fits : MethodName := ⟨RX6, "fits", "(LBilingualSetter$Edition;LBilingualSetter$Part;)Z"⟩
abbrev cX6_findStart : ByteArray := prog_8_method_7_code
def yX6_findStart : MethodName := ⟨RX6, "findStart", "(LBilingualSetter$Edition;)Z"⟩
abbrev cX6_addSegment : ByteArray := prog_8_method_8_code
def yX6_addSegment : MethodName := ⟨RX6, "addSegment", "(LBilingualSetter$Edition;LBilingualSetter$Part;I)V"⟩
abbrev cX6_endSpread : ByteArray := prog_8_method_9_code
def yX6_endSpread : MethodName := ⟨RX6, "endSpread", "(LBilingualSetter$Edition;)V"⟩
abbrev cX6_has : ByteArray := prog_8_method_10_code
def yX6_has : MethodName := ⟨RX6, "has", "(I)Z"⟩
abbrev cX6_segmentsOf : ByteArray := prog_8_method_11_code
def yX6_segmentsOf : MethodName := ⟨RX6, "segmentsOf", "(I)I"⟩
abbrev cX6_segmentWith : ByteArray := prog_8_method_12_code
def yX6_segmentWith : MethodName := ⟨RX6, "segmentWith", "(III)I"⟩
abbrev cX6_contains : ByteArray := prog_8_method_13_code
def yX6_contains : MethodName := ⟨RX6, "contains", "(IIII)Z"⟩
abbrev cX6_spreadWith : ByteArray := prog_8_method_14_code
def yX6_spreadWith : MethodName := ⟨RX6, "spreadWith", "(I)I"⟩
abbrev cX6_rowIn : ByteArray := prog_8_method_15_code
def yX6_rowIn : MethodName := ⟨RX6, "rowIn", "(III)I"⟩
abbrev cX6_textAt : ByteArray := prog_8_method_16_code
def yX6_textAt : MethodName := ⟨RX6, "textAt", "(III)I"⟩
abbrev cX6_noteAt : ByteArray := prog_8_method_17_code
def yX6_noteAt : MethodName := ⟨RX6, "noteAt", "(LBilingualSetter$Edition;III)I"⟩
abbrev cX6_noteLine : ByteArray := prog_8_method_18_code
def yX6_noteLine : MethodName := ⟨RX6, "noteLine", "(LBilingualSetter$Notes;II)I"⟩
abbrev cX6_blankSquares : ByteArray := prog_8_method_19_code
def yX6_blankSquares : MethodName := ⟨RX6, "blankSquares", "()I"⟩
abbrev cX6_overfullSpreads : ByteArray := prog_8_method_20_code
def yX6_overfullSpreads : MethodName := ⟨RX6, "overfullSpreads", "()I"⟩
abbrev cX6_splitSegments : ByteArray := prog_8_method_21_code
def yX6_splitSegments : MethodName := ⟨RX6, "splitSegments", "()I"⟩
def RX7 : String := "BilingualSetter"
def TX7 : u_T := fun k => match k with
  | 0 => ("BilingualSetter", "edition", "LBilingualSetter$Edition;", true)
  | 1 => ("BilingualSetter", "history", "LBilingualSetter$History;", true)
  | 2 => ("BilingualSetter", "spreads", "LBilingualSetter$Spreads;", true)
  | _ => ("BilingualSetter", "division", "LBilingualSetter$Division;", true)
def tyX7 : Nat → FieldType := fun k => match k with
  | 0 => .object "BilingualSetter$Edition"
  | 1 => .object "BilingualSetter$History"
  | 2 => .object "BilingualSetter$Spreads"
  | _ => .object "BilingualSetter$Division"
abbrev wsX70 : List Cond := u_ws RX7 TX7 4
theorem nmX7 : ∀ a, a < 4 → ∀ b, b < 4 → a ≠ b → (TX7 a).2.1 ≠ (TX7 b).2.1 := by decide +kernel
theorem tyX7_ok : ∀ k, k < 4 → parseFieldDescriptor (TX7 k).2.2.1 = some (tyX7 k) := by decide +kernel
abbrev cX7_init : ByteArray := prog_1_method_1_code
def yX7_init : MethodName := ⟨RX7, "<init>", "()V"⟩
abbrev cX7_insert : ByteArray := prog_1_method_2_code
def yX7_insert : MethodName := ⟨RX7, "insert", "(III)I"⟩
abbrev cX7_remove : ByteArray := prog_1_method_3_code
def yX7_remove : MethodName := ⟨RX7, "remove", "(I)I"⟩
abbrev cX7_setLines : ByteArray := prog_1_method_4_code
def yX7_setLines : MethodName := ⟨RX7, "setLines", "(III)I"⟩
abbrev cX7_setFlag : ByteArray := prog_1_method_5_code
def yX7_setFlag : MethodName := ⟨RX7, "setFlag", "(III)I"⟩
abbrev cX7_addNote : ByteArray := prog_1_method_6_code
def yX7_addNote : MethodName := ⟨RX7, "addNote", "(IIII)I"⟩
abbrev cX7_removeNote : ByteArray := prog_1_method_7_code
def yX7_removeNote : MethodName := ⟨RX7, "removeNote", "(II)I"⟩
abbrev cX7_set : ByteArray := prog_1_method_8_code
def yX7_set : MethodName := ⟨RX7, "set", "(II)I"⟩
abbrev cX7_undo : ByteArray := prog_1_method_9_code
def yX7_undo : MethodName := ⟨RX7, "undo", "()I"⟩
abbrev cX7_pairCount : ByteArray := prog_1_method_10_code
def yX7_pairCount : MethodName := ⟨RX7, "pairCount", "()I"⟩
abbrev cX7_pairInfo : ByteArray := prog_1_method_11_code
def yX7_pairInfo : MethodName := ⟨RX7, "pairInfo", "(II)I"⟩
abbrev cX7_noteCount : ByteArray := prog_1_method_12_code
def yX7_noteCount : MethodName := ⟨RX7, "noteCount", "(I)I"⟩
abbrev cX7_noteInfo : ByteArray := prog_1_method_13_code
def yX7_noteInfo : MethodName := ⟨RX7, "noteInfo", "(III)I"⟩
abbrev cX7_spreadCount : ByteArray := prog_1_method_14_code
def yX7_spreadCount : MethodName := ⟨RX7, "spreadCount", "()I"⟩
abbrev cX7_segmentCount : ByteArray := prog_1_method_15_code
def yX7_segmentCount : MethodName := ⟨RX7, "segmentCount", "(I)I"⟩
abbrev cX7_segmentInfo : ByteArray := prog_1_method_16_code
def yX7_segmentInfo : MethodName := ⟨RX7, "segmentInfo", "(III)I"⟩
abbrev cX7_pageInfo : ByteArray := prog_1_method_17_code
def yX7_pageInfo : MethodName := ⟨RX7, "pageInfo", "(III)I"⟩
abbrev cX7_isOverfull : ByteArray := prog_1_method_18_code
def yX7_isOverfull : MethodName := ⟨RX7, "isOverfull", "(I)I"⟩
abbrev cX7_spreadOf : ByteArray := prog_1_method_19_code
def yX7_spreadOf : MethodName := ⟨RX7, "spreadOf", "(III)I"⟩
abbrev cX7_rowOf : ByteArray := prog_1_method_20_code
def yX7_rowOf : MethodName := ⟨RX7, "rowOf", "(III)I"⟩
abbrev cX7_shown : ByteArray := prog_1_method_21_code
def yX7_shown : MethodName := ⟨RX7, "shown", "(III)I"⟩
abbrev cX7_cost : ByteArray := prog_1_method_22_code
def yX7_cost : MethodName := ⟨RX7, "cost", "()I"⟩
abbrev cX7_bestCost : ByteArray := prog_1_method_23_code
def yX7_bestCost : MethodName := ⟨RX7, "bestCost", "()I"⟩
abbrev cX7_bestBreak : ByteArray := prog_1_method_24_code
def yX7_bestBreak : MethodName := ⟨RX7, "bestBreak", "(I)I"⟩
abbrev cX7_leastHeight : ByteArray := prog_1_method_25_code
def yX7_leastHeight : MethodName := ⟨RX7, "leastHeight", "(I)I"⟩
abbrev cX7_overfullWith : ByteArray := prog_1_method_26_code
def yX7_overfullWith : MethodName := ⟨RX7, "overfullWith", "(I)I"⟩
abbrev cX7_splitPairs : ByteArray := prog_1_method_27_code
def yX7_splitPairs : MethodName := ⟨RX7, "splitPairs", "()I"⟩
abbrev cX7_changePair : ByteArray := prog_1_method_28_code
def yX7_changePair : MethodName := ⟨RX7, "changePair", "(III)I"⟩
abbrev cX7_beginChange : ByteArray := prog_1_method_29_code
def yX7_beginChange : MethodName := ⟨RX7, "beginChange", "()V"⟩
abbrev cX7_forgetResults : ByteArray := prog_1_method_30_code
def yX7_forgetResults : MethodName := ⟨RX7, "forgetResults", "()V"⟩
abbrev cX7_isIn : ByteArray := prog_1_method_31_code
def yX7_isIn : MethodName := ⟨RX7, "isIn", "(III)Z"⟩
abbrev cX7_isSide : ByteArray := prog_1_method_32_code
def yX7_isSide : MethodName := ⟨RX7, "isSide", "(I)Z"⟩
abbrev cX7_openPlace : ByteArray := prog_1_method_33_code
def yX7_openPlace : MethodName := ⟨RX7, "openPlace", "([III)V"⟩
abbrev cX7_closePlace : ByteArray := prog_1_method_34_code
def yX7_closePlace : MethodName := ⟨RX7, "closePlace", "([III)V"⟩
abbrev cX7_copyTable : ByteArray := prog_1_method_35_code
def yX7_copyTable : MethodName := ⟨RX7, "copyTable", "([[I[[I)V"⟩
def RX8 : String := "BilingualSetterModel"
def TX8 : u_T := fun k => match k with
  | 0 => ("BilingualSetterModel", "d", "[I", true)
  | 1 => ("BilingualSetterModel", "was", "[I", true)
  | 2 => ("BilingualSetterModel", "many", "I", false)
  | 3 => ("BilingualSetterModel", "least", "[I", true)
  | 4 => ("BilingualSetterModel", "most", "[I", true)
  | 5 => ("BilingualSetterModel", "segments", "I", false)
  | 6 => ("BilingualSetterModel", "segPair", "[I", true)
  | 7 => ("BilingualSetterModel", "segFirst", "[I", true)
  | 8 => ("BilingualSetterModel", "segLines", "[I", true)
  | 9 => ("BilingualSetterModel", "segRow", "[I", true)
  | 10 => ("BilingualSetterModel", "spreads", "I", false)
  | 11 => ("BilingualSetterModel", "first", "[I", true)
  | 12 => ("BilingualSetterModel", "isOver", "[Z", true)
  | 13 => ("BilingualSetterModel", "textRows", "[I", true)
  | 14 => ("BilingualSetterModel", "noteLines", "[I", true)
  | 15 => ("BilingualSetterModel", "carried", "[I", true)
  | 16 => ("BilingualSetterModel", "firstNote", "[I", true)
  | 17 => ("BilingualSetterModel", "pair", "I", false)
  | 18 => ("BilingualSetterModel", "done", "[I", true)
  | 19 => ("BilingualSetterModel", "best", "[I", true)
  | _ => ("BilingualSetterModel", "next", "[I", true)
def tyX8 : Nat → FieldType := fun k => match k with
  | 0 => .array .int
  | 1 => .array .int
  | 2 => .int
  | 3 => .array .int
  | 4 => .array .int
  | 5 => .int
  | 6 => .array .int
  | 7 => .array .int
  | 8 => .array .int
  | 9 => .array .int
  | 10 => .int
  | 11 => .array .int
  | 12 => .array .boolean
  | 13 => .array .int
  | 14 => .array .int
  | 15 => .array .int
  | 16 => .array .int
  | 17 => .int
  | 18 => .array .int
  | 19 => .array .int
  | _ => .array .int
abbrev wsX80 : List Cond := u_ws RX8 TX8 21
theorem nmX8 : ∀ a, a < 21 → ∀ b, b < 21 → a ≠ b → (TX8 a).2.1 ≠ (TX8 b).2.1 := by decide +kernel
theorem tyX8_ok : ∀ k, k < 21 → parseFieldDescriptor (TX8 k).2.2.1 = some (tyX8 k) := by decide +kernel
abbrev cX8_init : ByteArray := prog_10_method_1_code
def yX8_init : MethodName := ⟨RX8, "<init>", "()V"⟩
abbrev cX8_in : ByteArray := prog_10_method_2_code
def yX8_in : MethodName := ⟨RX8, "in", "(III)Z"⟩
abbrev cX8_isPair : ByteArray := prog_10_method_3_code
def yX8_isPair : MethodName := ⟨RX8, "isPair", "(I)Z"⟩
abbrev cX8_isSide : ByteArray := prog_10_method_4_code
def yX8_isSide : MethodName := ⟨RX8, "isSide", "(I)Z"⟩
abbrev cX8_lines : ByteArray := prog_10_method_5_code
def yX8_lines : MethodName := ⟨RX8, "lines", "(II)I"⟩
abbrev cX8_isLine : ByteArray := prog_10_method_6_code
def yX8_isLine : MethodName := ⟨RX8, "isLine", "(III)Z"⟩
abbrev cX8_noteLong : ByteArray := prog_10_method_7_code
def yX8_noteLong : MethodName := ⟨RX8, "noteLong", "(II)I"⟩
abbrev cX8_records : ByteArray := prog_10_method_8_code
def yX8_records : MethodName := ⟨RX8, "records", "()V"⟩
abbrev cX8_insert : ByteArray := prog_10_method_9_code
def yX8_insert : MethodName := ⟨RX8, "insert", "(III)I"⟩
abbrev cX8_dropsNote : ByteArray := prog_10_method_10_code
def yX8_dropsNote : MethodName := ⟨RX8, "dropsNote", "(II)V"⟩
abbrev cX8_remove : ByteArray := prog_10_method_11_code
def yX8_remove : MethodName := ⟨RX8, "remove", "(I)I"⟩
abbrev cX8_setLines : ByteArray := prog_10_method_12_code
def yX8_setLines : MethodName := ⟨RX8, "setLines", "(III)I"⟩
abbrev cX8_setFlag : ByteArray := prog_10_method_13_code
def yX8_setFlag : MethodName := ⟨RX8, "setFlag", "(III)I"⟩
abbrev cX8_notesAhead : ByteArray := prog_10_method_14_code
def yX8_notesAhead : MethodName := ⟨RX8, "notesAhead", "(III)I"⟩
abbrev cX8_addNote : ByteArray := prog_10_method_15_code
def yX8_addNote : MethodName := ⟨RX8, "addNote", "(IIII)I"⟩
abbrev cX8_removeNote : ByteArray := prog_10_method_16_code
def yX8_removeNote : MethodName := ⟨RX8, "removeNote", "(II)I"⟩
abbrev cX8_set : ByteArray := prog_10_method_17_code
def yX8_set : MethodName := ⟨RX8, "set", "(II)I"⟩
abbrev cX8_undo : ByteArray := prog_10_method_18_code
def yX8_undo : MethodName := ⟨RX8, "undo", "()I"⟩
abbrev cX8_pairCount : ByteArray := prog_10_method_19_code
def yX8_pairCount : MethodName := ⟨RX8, "pairCount", "()I"⟩
abbrev cX8_pairInfo : ByteArray := prog_10_method_20_code
def yX8_pairInfo : MethodName := ⟨RX8, "pairInfo", "(II)I"⟩
abbrev cX8_noteCount : ByteArray := prog_10_method_21_code
def yX8_noteCount : MethodName := ⟨RX8, "noteCount", "(I)I"⟩
abbrev cX8_noteInfo : ByteArray := prog_10_method_22_code
def yX8_noteInfo : MethodName := ⟨RX8, "noteInfo", "(III)I"⟩
abbrev cX8_segmentsOfLast : ByteArray := prog_10_method_23_code
def yX8_segmentsOfLast : MethodName := ⟨RX8, "segmentsOfLast", "()I"⟩
abbrev cX8_rowsOf : ByteArray := prog_10_method_24_code
def yX8_rowsOf : MethodName := ⟨RX8, "rowsOf", "(I)I"⟩
abbrev cX8_beginning : ByteArray := prog_10_method_25_code
def yX8_beginning : MethodName := ⟨RX8, "beginning", "(I)I"⟩
abbrev cX8_carriedTo : ByteArray := prog_10_method_26_code
def yX8_carriedTo : MethodName := ⟨RX8, "carriedTo", "(II)I"⟩
abbrev cX8_notedLines : ByteArray := prog_10_method_27_code
def yX8_notedLines : MethodName := ⟨RX8, "notedLines", "(II)I"⟩
abbrev cX8_mostCarried : ByteArray := prog_10_method_28_code
def yX8_mostCarried : MethodName := ⟨RX8, "mostCarried", "(II)I"⟩
abbrev cX8_fitsOn : ByteArray := prog_10_method_29_code
def yX8_fitsOn : MethodName := ⟨RX8, "fitsOn", "(II)Z"⟩
abbrev cX8_fits : ByteArray := prog_10_method_30_code
def yX8_fits : MethodName := ⟨RX8, "fits", "(II)Z"⟩
abbrev cX8_puts : ByteArray := prog_10_method_31_code
def yX8_puts : MethodName := ⟨RX8, "puts", "(II)V"⟩
abbrev cX8_splits : ByteArray := prog_10_method_32_code
def yX8_splits : MethodName := ⟨RX8, "splits", "()Z"⟩
abbrev cX8_goesOn : ByteArray := prog_10_method_33_code
def yX8_goesOn : MethodName := ⟨RX8, "goesOn", "()Z"⟩
abbrev cX8_closes : ByteArray := prog_10_method_34_code
def yX8_closes : MethodName := ⟨RX8, "closes", "(I)V"⟩
abbrev cX8_sets : ByteArray := prog_10_method_35_code
def yX8_sets : MethodName := ⟨RX8, "sets", "()V"⟩
abbrev cX8_isSpread : ByteArray := prog_10_method_36_code
def yX8_isSpread : MethodName := ⟨RX8, "isSpread", "(I)Z"⟩
abbrev cX8_spreadCount : ByteArray := prog_10_method_37_code
def yX8_spreadCount : MethodName := ⟨RX8, "spreadCount", "()I"⟩
abbrev cX8_segmentCount : ByteArray := prog_10_method_38_code
def yX8_segmentCount : MethodName := ⟨RX8, "segmentCount", "(I)I"⟩
abbrev cX8_segmentInfo : ByteArray := prog_10_method_39_code
def yX8_segmentInfo : MethodName := ⟨RX8, "segmentInfo", "(III)I"⟩
abbrev cX8_blank : ByteArray := prog_10_method_40_code
def yX8_blank : MethodName := ⟨RX8, "blank", "(I)I"⟩
abbrev cX8_pageInfo : ByteArray := prog_10_method_41_code
def yX8_pageInfo : MethodName := ⟨RX8, "pageInfo", "(III)I"⟩
abbrev cX8_isOverfull : ByteArray := prog_10_method_42_code
def yX8_isOverfull : MethodName := ⟨RX8, "isOverfull", "(I)I"⟩
abbrev cX8_segmentOf : ByteArray := prog_10_method_43_code
def yX8_segmentOf : MethodName := ⟨RX8, "segmentOf", "(III)I"⟩
abbrev cX8_spreadOf : ByteArray := prog_10_method_44_code
def yX8_spreadOf : MethodName := ⟨RX8, "spreadOf", "(III)I"⟩
abbrev cX8_rowOf : ByteArray := prog_10_method_45_code
def yX8_rowOf : MethodName := ⟨RX8, "rowOf", "(III)I"⟩
abbrev cX8_noteAt : ByteArray := prog_10_method_46_code
def yX8_noteAt : MethodName := ⟨RX8, "noteAt", "(III)I"⟩
abbrev cX8_shown : ByteArray := prog_10_method_47_code
def yX8_shown : MethodName := ⟨RX8, "shown", "(III)I"⟩
abbrev cX8_cost : ByteArray := prog_10_method_48_code
def yX8_cost : MethodName := ⟨RX8, "cost", "()I"⟩
abbrev cX8_rowsOfGroup : ByteArray := prog_10_method_49_code
def yX8_rowsOfGroup : MethodName := ⟨RX8, "rowsOfGroup", "(III)I"⟩
abbrev cX8_isGroup : ByteArray := prog_10_method_50_code
def yX8_isGroup : MethodName := ⟨RX8, "isGroup", "(II)Z"⟩
abbrev cX8_divides : ByteArray := prog_10_method_51_code
def yX8_divides : MethodName := ⟨RX8, "divides", "()V"⟩
abbrev cX8_bestCost : ByteArray := prog_10_method_52_code
def yX8_bestCost : MethodName := ⟨RX8, "bestCost", "()I"⟩
abbrev cX8_bestBreak : ByteArray := prog_10_method_53_code
def yX8_bestBreak : MethodName := ⟨RX8, "bestBreak", "(I)I"⟩
abbrev cX8_leastHeight : ByteArray := prog_10_method_54_code
def yX8_leastHeight : MethodName := ⟨RX8, "leastHeight", "(I)I"⟩
abbrev cX8_overfullWith : ByteArray := prog_10_method_55_code
def yX8_overfullWith : MethodName := ⟨RX8, "overfullWith", "(I)I"⟩
abbrev cX8_splitPairs : ByteArray := prog_10_method_56_code
def yX8_splitPairs : MethodName := ⟨RX8, "splitPairs", "()I"⟩
def RL : String := "BilingualSetterLaw"
abbrev cL_law : ByteArray := code
def yL_law : MethodName := ⟨RL, "law", "([I)Z"⟩
theorem dX0_init_0 : decode cX0_init 0 = .ok (.aload_n 0, 1) := by decide +kernel
theorem dX0_init_1 : decode cX0_init 1 = .ok (.invokespecial 3, 3) := by decide +kernel
theorem dX0_init_4 : decode cX0_init 4 = .ok (.aload_n 0, 1) := by decide +kernel
theorem dX0_init_5 : decode cX0_init 5 = .ok (.bipush 20, 2) := by decide +kernel
theorem dX0_init_7 : decode cX0_init 7 = .ok (.newarray .int, 2) := by decide +kernel
theorem dX0_init_9 : decode cX0_init 9 = .ok (.putfield 9, 3) := by decide +kernel
theorem dX0_init_12 : decode cX0_init 12 = .ok (.aload_n 0, 1) := by decide +kernel
theorem dX0_init_13 : decode cX0_init 13 = .ok (.bipush 21, 2) := by decide +kernel
theorem dX0_init_15 : decode cX0_init 15 = .ok (.newarray .int, 2) := by decide +kernel
theorem dX0_init_17 : decode cX0_init 17 = .ok (.putfield 15, 3) := by decide +kernel
theorem dX0_init_20 : decode cX0_init 20 = .ok (.aload_n 0, 1) := by decide +kernel
theorem dX0_init_21 : decode cX0_init 21 = .ok (.bipush 20, 2) := by decide +kernel
theorem dX0_init_23 : decode cX0_init 23 = .ok (.newarray .int, 2) := by decide +kernel
theorem dX0_init_25 : decode cX0_init 25 = .ok (.putfield 18, 3) := by decide +kernel
theorem dX0_init_28 : decode cX0_init 28 = .ok (.aload_n 0, 1) := by decide +kernel
theorem dX0_init_29 : decode cX0_init 29 = .ok (.new 21, 3) := by decide +kernel
theorem dX0_init_32 : decode cX0_init 32 = .ok (.dup, 1) := by decide +kernel
theorem dX0_init_33 : decode cX0_init 33 = .ok (.invokespecial 23, 3) := by decide +kernel
theorem dX0_init_36 : decode cX0_init 36 = .ok (.putfield 24, 3) := by decide +kernel
theorem dX0_init_39 : decode cX0_init 39 = .ok (.aload_n 0, 1) := by decide +kernel
theorem dX0_init_40 : decode cX0_init 40 = .ok (.new 28, 3) := by decide +kernel
theorem dX0_init_43 : decode cX0_init 43 = .ok (.dup, 1) := by decide +kernel
theorem dX0_init_44 : decode cX0_init 44 = .ok (.invokespecial 30, 3) := by decide +kernel
theorem dX0_init_47 : decode cX0_init 47 = .ok (.putfield 31, 3) := by decide +kernel
theorem dX0_init_50 : decode cX0_init 50 = .ok (.return_, 1) := by decide +kernel
theorem dX0_isAllowed_0 : decode cX0_isAllowed 0 = .ok (.aload_n 0, 1) := by decide +kernel
theorem dX0_isAllowed_1 : decode cX0_isAllowed 1 = .ok (.getfield 15, 3) := by decide +kernel
theorem dX0_isAllowed_4 : decode cX0_isAllowed 4 = .ok (.iconst 0, 1) := by decide +kernel
theorem dX0_isAllowed_5 : decode cX0_isAllowed 5 = .ok (.iaload, 1) := by decide +kernel
theorem dX0_isAllowed_6 : decode cX0_isAllowed 6 = .ok (.iconst (-1), 1) := by decide +kernel
theorem dX0_isAllowed_7 : decode cX0_isAllowed 7 = .ok (.if_icmp .eq 7, 3) := by decide +kernel
theorem dX0_isAllowed_10 : decode cX0_isAllowed 10 = .ok (.iconst 1, 1) := by decide +kernel
theorem dX0_isAllowed_11 : decode cX0_isAllowed 11 = .ok (.goto 4, 3) := by decide +kernel
theorem dX0_isAllowed_14 : decode cX0_isAllowed 14 = .ok (.iconst 0, 1) := by decide +kernel
theorem dX0_isAllowed_15 : decode cX0_isAllowed 15 = .ok (.ireturn, 1) := by decide +kernel
theorem dX0_search_0 : decode cX0_search 0 = .ok (.aload_n 0, 1) := by decide +kernel
theorem dX0_search_1 : decode cX0_search 1 = .ok (.getfield 35, 3) := by decide +kernel
theorem dX0_search_4 : decode cX0_search 4 = .ok (.ifCond .eq 4, 3) := by decide +kernel
theorem dX0_search_7 : decode cX0_search 7 = .ok (.return_, 1) := by decide +kernel
theorem dX0_search_8 : decode cX0_search 8 = .ok (.aload_n 0, 1) := by decide +kernel
theorem dX0_search_9 : decode cX0_search 9 = .ok (.iconst 1, 1) := by decide +kernel
theorem dX0_search_10 : decode cX0_search 10 = .ok (.putfield 35, 3) := by decide +kernel
theorem dX0_search_13 : decode cX0_search 13 = .ok (.aload_n 0, 1) := by decide +kernel
theorem dX0_search_14 : decode cX0_search 14 = .ok (.getfield 15, 3) := by decide +kernel
theorem dX0_search_17 : decode cX0_search 17 = .ok (.aload_n 1, 1) := by decide +kernel
theorem dX0_search_18 : decode cX0_search 18 = .ok (.getfield 39, 3) := by decide +kernel
theorem dX0_search_21 : decode cX0_search 21 = .ok (.iconst 0, 1) := by decide +kernel
theorem dX0_search_22 : decode cX0_search 22 = .ok (.iastore, 1) := by decide +kernel
theorem dX0_search_23 : decode cX0_search 23 = .ok (.aload_n 1, 1) := by decide +kernel
theorem dX0_search_24 : decode cX0_search 24 = .ok (.getfield 39, 3) := by decide +kernel
theorem dX0_search_27 : decode cX0_search 27 = .ok (.iconst 1, 1) := by decide +kernel
theorem dX0_search_28 : decode cX0_search 28 = .ok (.isub, 1) := by decide +kernel
theorem dX0_search_29 : decode cX0_search 29 = .ok (.istore_n 2, 1) := by decide +kernel
theorem dX0_search_30 : decode cX0_search 30 = .ok (.iload_n 2, 1) := by decide +kernel
theorem dX0_search_31 : decode cX0_search 31 = .ok (.ifCond .lt 15, 3) := by decide +kernel
theorem dX0_search_34 : decode cX0_search 34 = .ok (.aload_n 0, 1) := by decide +kernel
theorem dX0_search_35 : decode cX0_search 35 = .ok (.aload_n 1, 1) := by decide +kernel
theorem dX0_search_36 : decode cX0_search 36 = .ok (.iload_n 2, 1) := by decide +kernel
theorem dX0_search_37 : decode cX0_search 37 = .ok (.invokevirtual 45, 3) := by decide +kernel
theorem dX0_search_40 : decode cX0_search 40 = .ok (.iinc 2 (-1), 3) := by decide +kernel
theorem dX0_search_43 : decode cX0_search 43 = .ok (.goto (-13), 3) := by decide +kernel
theorem dX0_search_46 : decode cX0_search 46 = .ok (.aload_n 0, 1) := by decide +kernel
theorem dX0_search_47 : decode cX0_search 47 = .ok (.iconst 0, 1) := by decide +kernel
theorem dX0_search_48 : decode cX0_search 48 = .ok (.putfield 49, 3) := by decide +kernel
theorem dX0_search_51 : decode cX0_search 51 = .ok (.iconst 0, 1) := by decide +kernel
theorem dX0_search_52 : decode cX0_search 52 = .ok (.istore_n 2, 1) := by decide +kernel
theorem dX0_search_53 : decode cX0_search 53 = .ok (.aload_n 0, 1) := by decide +kernel
theorem dX0_search_54 : decode cX0_search 54 = .ok (.invokevirtual 52, 3) := by decide +kernel
theorem dX0_search_57 : decode cX0_search 57 = .ok (.ifCond .eq 52, 3) := by decide +kernel
theorem dX0_search_60 : decode cX0_search 60 = .ok (.iload_n 2, 1) := by decide +kernel
theorem dX0_search_61 : decode cX0_search 61 = .ok (.aload_n 1, 1) := by decide +kernel
theorem dX0_search_62 : decode cX0_search 62 = .ok (.getfield 39, 3) := by decide +kernel
theorem dX0_search_65 : decode cX0_search 65 = .ok (.if_icmp .ge 44, 3) := by decide +kernel
theorem dX0_search_68 : decode cX0_search 68 = .ok (.aload_n 0, 1) := by decide +kernel
theorem dX0_search_69 : decode cX0_search 69 = .ok (.getfield 49, 3) := by decide +kernel
theorem dX0_search_72 : decode cX0_search 72 = .ok (.bipush 20, 2) := by decide +kernel
theorem dX0_search_74 : decode cX0_search 74 = .ok (.if_icmp .ge 35, 3) := by decide +kernel
theorem dX0_search_77 : decode cX0_search 77 = .ok (.aload_n 0, 1) := by decide +kernel
theorem dX0_search_78 : decode cX0_search 78 = .ok (.getfield 9, 3) := by decide +kernel
theorem dX0_search_81 : decode cX0_search 81 = .ok (.aload_n 0, 1) := by decide +kernel
theorem dX0_search_82 : decode cX0_search 82 = .ok (.getfield 49, 3) := by decide +kernel
theorem dX0_search_85 : decode cX0_search 85 = .ok (.iload_n 2, 1) := by decide +kernel
theorem dX0_search_86 : decode cX0_search 86 = .ok (.iastore, 1) := by decide +kernel
theorem dX0_search_87 : decode cX0_search 87 = .ok (.aload_n 0, 1) := by decide +kernel
theorem dX0_search_88 : decode cX0_search 88 = .ok (.dup, 1) := by decide +kernel
theorem dX0_search_89 : decode cX0_search 89 = .ok (.getfield 49, 3) := by decide +kernel
theorem dX0_search_92 : decode cX0_search 92 = .ok (.iconst 1, 1) := by decide +kernel
theorem dX0_search_93 : decode cX0_search 93 = .ok (.iadd, 1) := by decide +kernel
theorem dX0_search_94 : decode cX0_search 94 = .ok (.putfield 49, 3) := by decide +kernel
theorem dX0_search_97 : decode cX0_search 97 = .ok (.iload_n 2, 1) := by decide +kernel
theorem dX0_search_98 : decode cX0_search 98 = .ok (.aload_n 0, 1) := by decide +kernel
theorem dX0_search_99 : decode cX0_search 99 = .ok (.getfield 18, 3) := by decide +kernel
theorem dX0_search_102 : decode cX0_search 102 = .ok (.iload_n 2, 1) := by decide +kernel
theorem dX0_search_103 : decode cX0_search 103 = .ok (.iaload, 1) := by decide +kernel
theorem dX0_search_104 : decode cX0_search 104 = .ok (.iadd, 1) := by decide +kernel
theorem dX0_search_105 : decode cX0_search 105 = .ok (.istore_n 2, 1) := by decide +kernel
theorem dX0_search_106 : decode cX0_search 106 = .ok (.goto (-53), 3) := by decide +kernel
theorem dX0_search_109 : decode cX0_search 109 = .ok (.return_, 1) := by decide +kernel
theorem dX0_searchFrom_0 : decode cX0_searchFrom 0 = .ok (.aload_n 0, 1) := by decide +kernel
theorem dX0_searchFrom_1 : decode cX0_searchFrom 1 = .ok (.getfield 15, 3) := by decide +kernel
theorem dX0_searchFrom_4 : decode cX0_searchFrom 4 = .ok (.iload_n 2, 1) := by decide +kernel
theorem dX0_searchFrom_5 : decode cX0_searchFrom 5 = .ok (.iconst (-1), 1) := by decide +kernel
theorem dX0_searchFrom_6 : decode cX0_searchFrom 6 = .ok (.iastore, 1) := by decide +kernel
theorem dX0_searchFrom_7 : decode cX0_searchFrom 7 = .ok (.aload_n 0, 1) := by decide +kernel
theorem dX0_searchFrom_8 : decode cX0_searchFrom 8 = .ok (.getfield 24, 3) := by decide +kernel
theorem dX0_searchFrom_11 : decode cX0_searchFrom 11 = .ok (.iconst 0, 1) := by decide +kernel
theorem dX0_searchFrom_12 : decode cX0_searchFrom 12 = .ok (.iconst 0, 1) := by decide +kernel
theorem dX0_searchFrom_13 : decode cX0_searchFrom 13 = .ok (.aload_n 1, 1) := by decide +kernel
theorem dX0_searchFrom_14 : decode cX0_searchFrom 14 = .ok (.getfield 56, 3) := by decide +kernel
theorem dX0_searchFrom_17 : decode cX0_searchFrom 17 = .ok (.iload_n 2, 1) := by decide +kernel
theorem dX0_searchFrom_18 : decode cX0_searchFrom 18 = .ok (.iconst 0, 1) := by decide +kernel
theorem dX0_searchFrom_19 : decode cX0_searchFrom 19 = .ok (.invokevirtual 60, 3) := by decide +kernel
theorem dX0_searchFrom_22 : decode cX0_searchFrom 22 = .ok (.invokevirtual 66, 3) := by decide +kernel
theorem dX0_searchFrom_25 : decode cX0_searchFrom 25 = .ok (.aload_n 0, 1) := by decide +kernel
theorem dX0_searchFrom_26 : decode cX0_searchFrom 26 = .ok (.getfield 24, 3) := by decide +kernel
theorem dX0_searchFrom_29 : decode cX0_searchFrom 29 = .ok (.iconst 1, 1) := by decide +kernel
theorem dX0_searchFrom_30 : decode cX0_searchFrom 30 = .ok (.iconst 0, 1) := by decide +kernel
theorem dX0_searchFrom_31 : decode cX0_searchFrom 31 = .ok (.aload_n 1, 1) := by decide +kernel
theorem dX0_searchFrom_32 : decode cX0_searchFrom 32 = .ok (.getfield 70, 3) := by decide +kernel
theorem dX0_searchFrom_35 : decode cX0_searchFrom 35 = .ok (.iload_n 2, 1) := by decide +kernel
theorem dX0_searchFrom_36 : decode cX0_searchFrom 36 = .ok (.iconst 0, 1) := by decide +kernel
theorem dX0_searchFrom_37 : decode cX0_searchFrom 37 = .ok (.invokevirtual 60, 3) := by decide +kernel
theorem dX0_searchFrom_40 : decode cX0_searchFrom 40 = .ok (.invokevirtual 66, 3) := by decide +kernel
theorem dX0_searchFrom_43 : decode cX0_searchFrom 43 = .ok (.iload_n 2, 1) := by decide +kernel
theorem dX0_searchFrom_44 : decode cX0_searchFrom 44 = .ok (.istore_n 3, 1) := by decide +kernel
theorem dX0_searchFrom_45 : decode cX0_searchFrom 45 = .ok (.iload_n 3, 1) := by decide +kernel
theorem dX0_searchFrom_46 : decode cX0_searchFrom 46 = .ok (.aload_n 1, 1) := by decide +kernel
theorem dX0_searchFrom_47 : decode cX0_searchFrom 47 = .ok (.getfield 39, 3) := by decide +kernel
theorem dX0_searchFrom_50 : decode cX0_searchFrom 50 = .ok (.if_icmp .ge 81, 3) := by decide +kernel
theorem dX0_searchFrom_53 : decode cX0_searchFrom 53 = .ok (.iload_n 3, 1) := by decide +kernel
theorem dX0_searchFrom_54 : decode cX0_searchFrom 54 = .ok (.iload_n 2, 1) := by decide +kernel
theorem dX0_searchFrom_55 : decode cX0_searchFrom 55 = .ok (.if_icmp .le 16, 3) := by decide +kernel
theorem dX0_searchFrom_58 : decode cX0_searchFrom 58 = .ok (.aload_n 1, 1) := by decide +kernel
theorem dX0_searchFrom_59 : decode cX0_searchFrom 59 = .ok (.getfield 73, 3) := by decide +kernel
theorem dX0_searchFrom_62 : decode cX0_searchFrom 62 = .ok (.iconst 3, 1) := by decide +kernel
theorem dX0_searchFrom_63 : decode cX0_searchFrom 63 = .ok (.aaload, 1) := by decide +kernel
theorem dX0_searchFrom_64 : decode cX0_searchFrom 64 = .ok (.iload_n 3, 1) := by decide +kernel
theorem dX0_searchFrom_65 : decode cX0_searchFrom 65 = .ok (.iaload, 1) := by decide +kernel
theorem dX0_searchFrom_66 : decode cX0_searchFrom 66 = .ok (.iconst 1, 1) := by decide +kernel
theorem dX0_searchFrom_67 : decode cX0_searchFrom 67 = .ok (.if_icmp .ne 4, 3) := by decide +kernel
theorem dX0_searchFrom_70 : decode cX0_searchFrom 70 = .ok (.return_, 1) := by decide +kernel
theorem dX0_searchFrom_71 : decode cX0_searchFrom 71 = .ok (.aload_n 0, 1) := by decide +kernel
theorem dX0_searchFrom_72 : decode cX0_searchFrom 72 = .ok (.getfield 31, 3) := by decide +kernel
theorem dX0_searchFrom_75 : decode cX0_searchFrom 75 = .ok (.aload_n 1, 1) := by decide +kernel
theorem dX0_searchFrom_76 : decode cX0_searchFrom 76 = .ok (.iload_n 3, 1) := by decide +kernel
theorem dX0_searchFrom_77 : decode cX0_searchFrom 77 = .ok (.invokevirtual 77, 3) := by decide +kernel
theorem dX0_searchFrom_80 : decode cX0_searchFrom 80 = .ok (.aload_n 0, 1) := by decide +kernel
theorem dX0_searchFrom_81 : decode cX0_searchFrom 81 = .ok (.getfield 24, 3) := by decide +kernel
theorem dX0_searchFrom_84 : decode cX0_searchFrom 84 = .ok (.aload_n 1, 1) := by decide +kernel
theorem dX0_searchFrom_85 : decode cX0_searchFrom 85 = .ok (.aload_n 0, 1) := by decide +kernel
theorem dX0_searchFrom_86 : decode cX0_searchFrom 86 = .ok (.getfield 31, 3) := by decide +kernel
theorem dX0_searchFrom_89 : decode cX0_searchFrom 89 = .ok (.invokevirtual 80, 3) := by decide +kernel
theorem dX0_searchFrom_92 : decode cX0_searchFrom 92 = .ok (.aload_n 0, 1) := by decide +kernel
theorem dX0_searchFrom_93 : decode cX0_searchFrom 93 = .ok (.getfield 24, 3) := by decide +kernel
theorem dX0_searchFrom_96 : decode cX0_searchFrom 96 = .ok (.aload_n 1, 1) := by decide +kernel
theorem dX0_searchFrom_97 : decode cX0_searchFrom 97 = .ok (.getfield 84, 3) := by decide +kernel
theorem dX0_searchFrom_100 : decode cX0_searchFrom 100 = .ok (.iconst 0, 1) := by decide +kernel
theorem dX0_searchFrom_101 : decode cX0_searchFrom 101 = .ok (.iaload, 1) := by decide +kernel
theorem dX0_searchFrom_102 : decode cX0_searchFrom 102 = .ok (.aload_n 1, 1) := by decide +kernel
theorem dX0_searchFrom_103 : decode cX0_searchFrom 103 = .ok (.getfield 84, 3) := by decide +kernel
theorem dX0_searchFrom_106 : decode cX0_searchFrom 106 = .ok (.iconst 2, 1) := by decide +kernel
theorem dX0_searchFrom_107 : decode cX0_searchFrom 107 = .ok (.iaload, 1) := by decide +kernel
theorem dX0_searchFrom_108 : decode cX0_searchFrom 108 = .ok (.iconst 0, 1) := by decide +kernel
theorem dX0_searchFrom_109 : decode cX0_searchFrom 109 = .ok (.invokevirtual 87, 3) := by decide +kernel
theorem dX0_searchFrom_112 : decode cX0_searchFrom 112 = .ok (.ifCond .ne 4, 3) := by decide +kernel
theorem dX0_searchFrom_115 : decode cX0_searchFrom 115 = .ok (.return_, 1) := by decide +kernel
theorem dX0_searchFrom_116 : decode cX0_searchFrom 116 = .ok (.aload_n 0, 1) := by decide +kernel
theorem dX0_searchFrom_117 : decode cX0_searchFrom 117 = .ok (.aload_n 1, 1) := by decide +kernel
theorem dX0_searchFrom_118 : decode cX0_searchFrom 118 = .ok (.iload_n 2, 1) := by decide +kernel
theorem dX0_searchFrom_119 : decode cX0_searchFrom 119 = .ok (.iload_n 3, 1) := by decide +kernel
theorem dX0_searchFrom_120 : decode cX0_searchFrom 120 = .ok (.iconst 1, 1) := by decide +kernel
theorem dX0_searchFrom_121 : decode cX0_searchFrom 121 = .ok (.iadd, 1) := by decide +kernel
theorem dX0_searchFrom_122 : decode cX0_searchFrom 122 = .ok (.invokevirtual 91, 3) := by decide +kernel
theorem dX0_searchFrom_125 : decode cX0_searchFrom 125 = .ok (.iinc 3 1, 3) := by decide +kernel
theorem dX0_searchFrom_128 : decode cX0_searchFrom 128 = .ok (.goto (-83), 3) := by decide +kernel
theorem dX0_searchFrom_131 : decode cX0_searchFrom 131 = .ok (.return_, 1) := by decide +kernel
theorem dX0_considerGroup_0 : decode cX0_considerGroup 0 = .ok (.aload_n 0, 1) := by decide +kernel
theorem dX0_considerGroup_1 : decode cX0_considerGroup 1 = .ok (.getfield 15, 3) := by decide +kernel
theorem dX0_considerGroup_4 : decode cX0_considerGroup 4 = .ok (.iload_n 3, 1) := by decide +kernel
theorem dX0_considerGroup_5 : decode cX0_considerGroup 5 = .ok (.iaload, 1) := by decide +kernel
theorem dX0_considerGroup_6 : decode cX0_considerGroup 6 = .ok (.iconst (-1), 1) := by decide +kernel
theorem dX0_considerGroup_7 : decode cX0_considerGroup 7 = .ok (.if_icmp .ne 4, 3) := by decide +kernel
theorem dX0_considerGroup_10 : decode cX0_considerGroup 10 = .ok (.return_, 1) := by decide +kernel
theorem dX0_considerGroup_11 : decode cX0_considerGroup 11 = .ok (.aload_n 0, 1) := by decide +kernel
theorem dX0_considerGroup_12 : decode cX0_considerGroup 12 = .ok (.getfield 15, 3) := by decide +kernel
theorem dX0_considerGroup_15 : decode cX0_considerGroup 15 = .ok (.iload_n 3, 1) := by decide +kernel
theorem dX0_considerGroup_16 : decode cX0_considerGroup 16 = .ok (.iaload, 1) := by decide +kernel
theorem dX0_considerGroup_17 : decode cX0_considerGroup 17 = .ok (.iload_n 3, 1) := by decide +kernel
theorem dX0_considerGroup_18 : decode cX0_considerGroup 18 = .ok (.aload_n 1, 1) := by decide +kernel
theorem dX0_considerGroup_19 : decode cX0_considerGroup 19 = .ok (.getfield 39, 3) := by decide +kernel
theorem dX0_considerGroup_22 : decode cX0_considerGroup 22 = .ok (.if_icmp .ge 11, 3) := by decide +kernel
theorem dX0_considerGroup_25 : decode cX0_considerGroup 25 = .ok (.aload_n 0, 1) := by decide +kernel
theorem dX0_considerGroup_26 : decode cX0_considerGroup 26 = .ok (.aload_n 1, 1) := by decide +kernel
theorem dX0_considerGroup_27 : decode cX0_considerGroup 27 = .ok (.invokevirtual 95, 3) := by decide +kernel
theorem dX0_considerGroup_30 : decode cX0_considerGroup 30 = .ok (.goto 4, 3) := by decide +kernel
theorem dX0_considerGroup_33 : decode cX0_considerGroup 33 = .ok (.iconst 0, 1) := by decide +kernel
theorem dX0_considerGroup_34 : decode cX0_considerGroup 34 = .ok (.iadd, 1) := by decide +kernel
theorem dX0_considerGroup_35 : decode cX0_considerGroup 35 = .ok (.istore 4, 2) := by decide +kernel
theorem dX0_considerGroup_37 : decode cX0_considerGroup 37 = .ok (.aload_n 0, 1) := by decide +kernel
theorem dX0_considerGroup_38 : decode cX0_considerGroup 38 = .ok (.getfield 15, 3) := by decide +kernel
theorem dX0_considerGroup_41 : decode cX0_considerGroup 41 = .ok (.iload_n 2, 1) := by decide +kernel
theorem dX0_considerGroup_42 : decode cX0_considerGroup 42 = .ok (.iaload, 1) := by decide +kernel
theorem dX0_considerGroup_43 : decode cX0_considerGroup 43 = .ok (.iconst (-1), 1) := by decide +kernel
theorem dX0_considerGroup_44 : decode cX0_considerGroup 44 = .ok (.if_icmp .eq 14, 3) := by decide +kernel
theorem dX0_considerGroup_47 : decode cX0_considerGroup 47 = .ok (.iload 4, 2) := by decide +kernel
theorem dX0_considerGroup_49 : decode cX0_considerGroup 49 = .ok (.aload_n 0, 1) := by decide +kernel
theorem dX0_considerGroup_50 : decode cX0_considerGroup 50 = .ok (.getfield 15, 3) := by decide +kernel
theorem dX0_considerGroup_53 : decode cX0_considerGroup 53 = .ok (.iload_n 2, 1) := by decide +kernel
theorem dX0_considerGroup_54 : decode cX0_considerGroup 54 = .ok (.iaload, 1) := by decide +kernel
theorem dX0_considerGroup_55 : decode cX0_considerGroup 55 = .ok (.if_icmp .gt 20, 3) := by decide +kernel
theorem dX0_considerGroup_58 : decode cX0_considerGroup 58 = .ok (.aload_n 0, 1) := by decide +kernel
theorem dX0_considerGroup_59 : decode cX0_considerGroup 59 = .ok (.getfield 15, 3) := by decide +kernel
theorem dX0_considerGroup_62 : decode cX0_considerGroup 62 = .ok (.iload_n 2, 1) := by decide +kernel
theorem dX0_considerGroup_63 : decode cX0_considerGroup 63 = .ok (.iload 4, 2) := by decide +kernel
theorem dX0_considerGroup_65 : decode cX0_considerGroup 65 = .ok (.iastore, 1) := by decide +kernel
theorem dX0_considerGroup_66 : decode cX0_considerGroup 66 = .ok (.aload_n 0, 1) := by decide +kernel
theorem dX0_considerGroup_67 : decode cX0_considerGroup 67 = .ok (.getfield 18, 3) := by decide +kernel
theorem dX0_considerGroup_70 : decode cX0_considerGroup 70 = .ok (.iload_n 2, 1) := by decide +kernel
theorem dX0_considerGroup_71 : decode cX0_considerGroup 71 = .ok (.iload_n 3, 1) := by decide +kernel
theorem dX0_considerGroup_72 : decode cX0_considerGroup 72 = .ok (.iload_n 2, 1) := by decide +kernel
theorem dX0_considerGroup_73 : decode cX0_considerGroup 73 = .ok (.isub, 1) := by decide +kernel
theorem dX0_considerGroup_74 : decode cX0_considerGroup 74 = .ok (.iastore, 1) := by decide +kernel
theorem dX0_considerGroup_75 : decode cX0_considerGroup 75 = .ok (.return_, 1) := by decide +kernel
theorem dX0_blankSquares_0 : decode cX0_blankSquares 0 = .ok (.iconst 0, 1) := by decide +kernel
theorem dX0_blankSquares_1 : decode cX0_blankSquares 1 = .ok (.istore_n 2, 1) := by decide +kernel
theorem dX0_blankSquares_2 : decode cX0_blankSquares 2 = .ok (.iconst 0, 1) := by decide +kernel
theorem dX0_blankSquares_3 : decode cX0_blankSquares 3 = .ok (.istore_n 3, 1) := by decide +kernel
theorem dX0_blankSquares_4 : decode cX0_blankSquares 4 = .ok (.iload_n 3, 1) := by decide +kernel
theorem dX0_blankSquares_5 : decode cX0_blankSquares 5 = .ok (.iconst 2, 1) := by decide +kernel
theorem dX0_blankSquares_6 : decode cX0_blankSquares 6 = .ok (.if_icmp .ge 51, 3) := by decide +kernel
theorem dX0_blankSquares_9 : decode cX0_blankSquares 9 = .ok (.aload_n 1, 1) := by decide +kernel
theorem dX0_blankSquares_10 : decode cX0_blankSquares 10 = .ok (.getfield 84, 3) := by decide +kernel
theorem dX0_blankSquares_13 : decode cX0_blankSquares 13 = .ok (.iconst 0, 1) := by decide +kernel
theorem dX0_blankSquares_14 : decode cX0_blankSquares 14 = .ok (.iaload, 1) := by decide +kernel
theorem dX0_blankSquares_15 : decode cX0_blankSquares 15 = .ok (.aload_n 0, 1) := by decide +kernel
theorem dX0_blankSquares_16 : decode cX0_blankSquares 16 = .ok (.getfield 24, 3) := by decide +kernel
theorem dX0_blankSquares_19 : decode cX0_blankSquares 19 = .ok (.getfield 99, 3) := by decide +kernel
theorem dX0_blankSquares_22 : decode cX0_blankSquares 22 = .ok (.iload_n 3, 1) := by decide +kernel
theorem dX0_blankSquares_23 : decode cX0_blankSquares 23 = .ok (.iaload, 1) := by decide +kernel
theorem dX0_blankSquares_24 : decode cX0_blankSquares 24 = .ok (.isub, 1) := by decide +kernel
theorem dX0_blankSquares_25 : decode cX0_blankSquares 25 = .ok (.aload_n 0, 1) := by decide +kernel
theorem dX0_blankSquares_26 : decode cX0_blankSquares 26 = .ok (.getfield 24, 3) := by decide +kernel
theorem dX0_blankSquares_29 : decode cX0_blankSquares 29 = .ok (.iload_n 3, 1) := by decide +kernel
theorem dX0_blankSquares_30 : decode cX0_blankSquares 30 = .ok (.aload_n 1, 1) := by decide +kernel
theorem dX0_blankSquares_31 : decode cX0_blankSquares 31 = .ok (.getfield 84, 3) := by decide +kernel
theorem dX0_blankSquares_34 : decode cX0_blankSquares 34 = .ok (.iconst 2, 1) := by decide +kernel
theorem dX0_blankSquares_35 : decode cX0_blankSquares 35 = .ok (.iaload, 1) := by decide +kernel
theorem dX0_blankSquares_36 : decode cX0_blankSquares 36 = .ok (.iconst 0, 1) := by decide +kernel
theorem dX0_blankSquares_37 : decode cX0_blankSquares 37 = .ok (.invokevirtual 102, 3) := by decide +kernel
theorem dX0_blankSquares_40 : decode cX0_blankSquares 40 = .ok (.isub, 1) := by decide +kernel
theorem dX0_blankSquares_41 : decode cX0_blankSquares 41 = .ok (.istore 4, 2) := by decide +kernel
theorem dX0_blankSquares_43 : decode cX0_blankSquares 43 = .ok (.iload_n 2, 1) := by decide +kernel
theorem dX0_blankSquares_44 : decode cX0_blankSquares 44 = .ok (.iload 4, 2) := by decide +kernel
theorem dX0_blankSquares_46 : decode cX0_blankSquares 46 = .ok (.iload 4, 2) := by decide +kernel
theorem dX0_blankSquares_48 : decode cX0_blankSquares 48 = .ok (.imul, 1) := by decide +kernel
theorem dX0_blankSquares_49 : decode cX0_blankSquares 49 = .ok (.iadd, 1) := by decide +kernel
theorem dX0_blankSquares_50 : decode cX0_blankSquares 50 = .ok (.istore_n 2, 1) := by decide +kernel
theorem dX0_blankSquares_51 : decode cX0_blankSquares 51 = .ok (.iinc 3 1, 3) := by decide +kernel
theorem dX0_blankSquares_54 : decode cX0_blankSquares 54 = .ok (.goto (-50), 3) := by decide +kernel
theorem dX0_blankSquares_57 : decode cX0_blankSquares 57 = .ok (.iload_n 2, 1) := by decide +kernel
theorem dX0_blankSquares_58 : decode cX0_blankSquares 58 = .ok (.ireturn, 1) := by decide +kernel
theorem dX1_init_0 : decode cX1_init 0 = .ok (.aload_n 0, 1) := by decide +kernel
theorem dX1_init_1 : decode cX1_init 1 = .ok (.invokespecial 3, 3) := by decide +kernel
theorem dX1_init_4 : decode cX1_init 4 = .ok (.aload_n 0, 1) := by decide +kernel
theorem dX1_init_5 : decode cX1_init 5 = .ok (.iconst 4, 1) := by decide +kernel
theorem dX1_init_6 : decode cX1_init 6 = .ok (.bipush 20, 2) := by decide +kernel
theorem dX1_init_8 : decode cX1_init 8 = .ok (.multianewarray 9 2, 4) := by decide +kernel
theorem dX1_init_12 : decode cX1_init 12 = .ok (.putfield 11, 3) := by decide +kernel
theorem dX1_init_15 : decode cX1_init 15 = .ok (.aload_n 0, 1) := by decide +kernel
theorem dX1_init_16 : decode cX1_init 16 = .ok (.new 16, 3) := by decide +kernel
theorem dX1_init_19 : decode cX1_init 19 = .ok (.dup, 1) := by decide +kernel
theorem dX1_init_20 : decode cX1_init 20 = .ok (.invokespecial 18, 3) := by decide +kernel
theorem dX1_init_23 : decode cX1_init 23 = .ok (.putfield 19, 3) := by decide +kernel
theorem dX1_init_26 : decode cX1_init 26 = .ok (.aload_n 0, 1) := by decide +kernel
theorem dX1_init_27 : decode cX1_init 27 = .ok (.new 16, 3) := by decide +kernel
theorem dX1_init_30 : decode cX1_init 30 = .ok (.dup, 1) := by decide +kernel
theorem dX1_init_31 : decode cX1_init 31 = .ok (.invokespecial 18, 3) := by decide +kernel
theorem dX1_init_34 : decode cX1_init 34 = .ok (.putfield 23, 3) := by decide +kernel
theorem dX1_init_37 : decode cX1_init 37 = .ok (.aload_n 0, 1) := by decide +kernel
theorem dX1_init_38 : decode cX1_init 38 = .ok (.getstatic 26, 3) := by decide +kernel
theorem dX1_init_41 : decode cX1_init 41 = .ok (.invokevirtual 30, 3) := by decide +kernel
theorem dX1_init_44 : decode cX1_init 44 = .ok (.checkcast 31, 3) := by decide +kernel
theorem dX1_init_47 : decode cX1_init 47 = .ok (.putfield 35, 3) := by decide +kernel
theorem dX1_init_50 : decode cX1_init 50 = .ok (.return_, 1) := by decide +kernel
theorem dX1_notes_0 : decode cX1_notes 0 = .ok (.iload_n 1, 1) := by decide +kernel
theorem dX1_notes_1 : decode cX1_notes 1 = .ok (.ifCond .ne 10, 3) := by decide +kernel
theorem dX1_notes_4 : decode cX1_notes 4 = .ok (.aload_n 0, 1) := by decide +kernel
theorem dX1_notes_5 : decode cX1_notes 5 = .ok (.getfield 19, 3) := by decide +kernel
theorem dX1_notes_8 : decode cX1_notes 8 = .ok (.goto 7, 3) := by decide +kernel
theorem dX1_notes_11 : decode cX1_notes 11 = .ok (.aload_n 0, 1) := by decide +kernel
theorem dX1_notes_12 : decode cX1_notes 12 = .ok (.getfield 23, 3) := by decide +kernel
theorem dX1_notes_15 : decode cX1_notes 15 = .ok (.areturn, 1) := by decide +kernel
theorem dX1_hasPair_0 : decode cX1_hasPair 0 = .ok (.iload_n 1, 1) := by decide +kernel
theorem dX1_hasPair_1 : decode cX1_hasPair 1 = .ok (.iconst 0, 1) := by decide +kernel
theorem dX1_hasPair_2 : decode cX1_hasPair 2 = .ok (.aload_n 0, 1) := by decide +kernel
theorem dX1_hasPair_3 : decode cX1_hasPair 3 = .ok (.getfield 38, 3) := by decide +kernel
theorem dX1_hasPair_6 : decode cX1_hasPair 6 = .ok (.iconst 1, 1) := by decide +kernel
theorem dX1_hasPair_7 : decode cX1_hasPair 7 = .ok (.isub, 1) := by decide +kernel
theorem dX1_hasPair_8 : decode cX1_hasPair 8 = .ok (.invokestatic 42, 3) := by decide +kernel
theorem dX1_hasPair_11 : decode cX1_hasPair 11 = .ok (.ireturn, 1) := by decide +kernel
theorem dX1_hasLine_0 : decode cX1_hasLine 0 = .ok (.aload_n 0, 1) := by decide +kernel
theorem dX1_hasLine_1 : decode cX1_hasLine 1 = .ok (.iload_n 1, 1) := by decide +kernel
theorem dX1_hasLine_2 : decode cX1_hasLine 2 = .ok (.invokevirtual 46, 3) := by decide +kernel
theorem dX1_hasLine_5 : decode cX1_hasLine 5 = .ok (.ifCond .eq 32, 3) := by decide +kernel
theorem dX1_hasLine_8 : decode cX1_hasLine 8 = .ok (.iload_n 2, 1) := by decide +kernel
theorem dX1_hasLine_9 : decode cX1_hasLine 9 = .ok (.invokestatic 50, 3) := by decide +kernel
theorem dX1_hasLine_12 : decode cX1_hasLine 12 = .ok (.ifCond .eq 25, 3) := by decide +kernel
theorem dX1_hasLine_15 : decode cX1_hasLine 15 = .ok (.iload_n 3, 1) := by decide +kernel
theorem dX1_hasLine_16 : decode cX1_hasLine 16 = .ok (.iconst 0, 1) := by decide +kernel
theorem dX1_hasLine_17 : decode cX1_hasLine 17 = .ok (.aload_n 0, 1) := by decide +kernel
theorem dX1_hasLine_18 : decode cX1_hasLine 18 = .ok (.getfield 11, 3) := by decide +kernel
theorem dX1_hasLine_21 : decode cX1_hasLine 21 = .ok (.iload_n 2, 1) := by decide +kernel
theorem dX1_hasLine_22 : decode cX1_hasLine 22 = .ok (.aaload, 1) := by decide +kernel
theorem dX1_hasLine_23 : decode cX1_hasLine 23 = .ok (.iload_n 1, 1) := by decide +kernel
theorem dX1_hasLine_24 : decode cX1_hasLine 24 = .ok (.iaload, 1) := by decide +kernel
theorem dX1_hasLine_25 : decode cX1_hasLine 25 = .ok (.iconst 1, 1) := by decide +kernel
theorem dX1_hasLine_26 : decode cX1_hasLine 26 = .ok (.isub, 1) := by decide +kernel
theorem dX1_hasLine_27 : decode cX1_hasLine 27 = .ok (.invokestatic 42, 3) := by decide +kernel
theorem dX1_hasLine_30 : decode cX1_hasLine 30 = .ok (.ifCond .eq 7, 3) := by decide +kernel
theorem dX1_hasLine_33 : decode cX1_hasLine 33 = .ok (.iconst 1, 1) := by decide +kernel
theorem dX1_hasLine_34 : decode cX1_hasLine 34 = .ok (.goto 4, 3) := by decide +kernel
theorem dX1_hasLine_37 : decode cX1_hasLine 37 = .ok (.iconst 0, 1) := by decide +kernel
theorem dX1_hasLine_38 : decode cX1_hasLine 38 = .ok (.ireturn, 1) := by decide +kernel
theorem dX1_placePair_0 : decode cX1_placePair 0 = .ok (.iconst 0, 1) := by decide +kernel
theorem dX1_placePair_1 : decode cX1_placePair 1 = .ok (.istore 4, 2) := by decide +kernel
theorem dX1_placePair_3 : decode cX1_placePair 3 = .ok (.iload 4, 2) := by decide +kernel
theorem dX1_placePair_5 : decode cX1_placePair 5 = .ok (.iconst 4, 1) := by decide +kernel
theorem dX1_placePair_6 : decode cX1_placePair 6 = .ok (.if_icmp .ge 24, 3) := by decide +kernel
theorem dX1_placePair_9 : decode cX1_placePair 9 = .ok (.aload_n 0, 1) := by decide +kernel
theorem dX1_placePair_10 : decode cX1_placePair 10 = .ok (.getfield 11, 3) := by decide +kernel
theorem dX1_placePair_13 : decode cX1_placePair 13 = .ok (.iload 4, 2) := by decide +kernel
theorem dX1_placePair_15 : decode cX1_placePair 15 = .ok (.aaload, 1) := by decide +kernel
theorem dX1_placePair_16 : decode cX1_placePair 16 = .ok (.iload_n 1, 1) := by decide +kernel
theorem dX1_placePair_17 : decode cX1_placePair 17 = .ok (.aload_n 0, 1) := by decide +kernel
theorem dX1_placePair_18 : decode cX1_placePair 18 = .ok (.getfield 38, 3) := by decide +kernel
theorem dX1_placePair_21 : decode cX1_placePair 21 = .ok (.invokestatic 53, 3) := by decide +kernel
theorem dX1_placePair_24 : decode cX1_placePair 24 = .ok (.iinc 4 1, 3) := by decide +kernel
theorem dX1_placePair_27 : decode cX1_placePair 27 = .ok (.goto (-24), 3) := by decide +kernel
theorem dX1_placePair_30 : decode cX1_placePair 30 = .ok (.aload_n 0, 1) := by decide +kernel
theorem dX1_placePair_31 : decode cX1_placePair 31 = .ok (.getfield 11, 3) := by decide +kernel
theorem dX1_placePair_34 : decode cX1_placePair 34 = .ok (.iconst 0, 1) := by decide +kernel
theorem dX1_placePair_35 : decode cX1_placePair 35 = .ok (.aaload, 1) := by decide +kernel
theorem dX1_placePair_36 : decode cX1_placePair 36 = .ok (.iload_n 1, 1) := by decide +kernel
theorem dX1_placePair_37 : decode cX1_placePair 37 = .ok (.iload_n 2, 1) := by decide +kernel
theorem dX1_placePair_38 : decode cX1_placePair 38 = .ok (.iastore, 1) := by decide +kernel
theorem dX1_placePair_39 : decode cX1_placePair 39 = .ok (.aload_n 0, 1) := by decide +kernel
theorem dX1_placePair_40 : decode cX1_placePair 40 = .ok (.getfield 11, 3) := by decide +kernel
theorem dX1_placePair_43 : decode cX1_placePair 43 = .ok (.iconst 1, 1) := by decide +kernel
theorem dX1_placePair_44 : decode cX1_placePair 44 = .ok (.aaload, 1) := by decide +kernel
theorem dX1_placePair_45 : decode cX1_placePair 45 = .ok (.iload_n 1, 1) := by decide +kernel
theorem dX1_placePair_46 : decode cX1_placePair 46 = .ok (.iload_n 3, 1) := by decide +kernel
theorem dX1_placePair_47 : decode cX1_placePair 47 = .ok (.iastore, 1) := by decide +kernel
theorem dX1_placePair_48 : decode cX1_placePair 48 = .ok (.aload_n 0, 1) := by decide +kernel
theorem dX1_placePair_49 : decode cX1_placePair 49 = .ok (.getfield 11, 3) := by decide +kernel
theorem dX1_placePair_52 : decode cX1_placePair 52 = .ok (.iconst 2, 1) := by decide +kernel
theorem dX1_placePair_53 : decode cX1_placePair 53 = .ok (.aaload, 1) := by decide +kernel
theorem dX1_placePair_54 : decode cX1_placePair 54 = .ok (.iload_n 1, 1) := by decide +kernel
theorem dX1_placePair_55 : decode cX1_placePair 55 = .ok (.iconst 0, 1) := by decide +kernel
theorem dX1_placePair_56 : decode cX1_placePair 56 = .ok (.iastore, 1) := by decide +kernel
theorem dX1_placePair_57 : decode cX1_placePair 57 = .ok (.aload_n 0, 1) := by decide +kernel
theorem dX1_placePair_58 : decode cX1_placePair 58 = .ok (.getfield 11, 3) := by decide +kernel
theorem dX1_placePair_61 : decode cX1_placePair 61 = .ok (.iconst 3, 1) := by decide +kernel
theorem dX1_placePair_62 : decode cX1_placePair 62 = .ok (.aaload, 1) := by decide +kernel
theorem dX1_placePair_63 : decode cX1_placePair 63 = .ok (.iload_n 1, 1) := by decide +kernel
theorem dX1_placePair_64 : decode cX1_placePair 64 = .ok (.iconst 0, 1) := by decide +kernel
theorem dX1_placePair_65 : decode cX1_placePair 65 = .ok (.iastore, 1) := by decide +kernel
theorem dX1_placePair_66 : decode cX1_placePair 66 = .ok (.aload_n 0, 1) := by decide +kernel
theorem dX1_placePair_67 : decode cX1_placePair 67 = .ok (.dup, 1) := by decide +kernel
theorem dX1_placePair_68 : decode cX1_placePair 68 = .ok (.getfield 38, 3) := by decide +kernel
theorem dX1_placePair_71 : decode cX1_placePair 71 = .ok (.iconst 1, 1) := by decide +kernel
theorem dX1_placePair_72 : decode cX1_placePair 72 = .ok (.iadd, 1) := by decide +kernel
theorem dX1_placePair_73 : decode cX1_placePair 73 = .ok (.putfield 38, 3) := by decide +kernel
theorem dX1_placePair_76 : decode cX1_placePair 76 = .ok (.aload_n 0, 1) := by decide +kernel
theorem dX1_placePair_77 : decode cX1_placePair 77 = .ok (.getfield 19, 3) := by decide +kernel
theorem dX1_placePair_80 : decode cX1_placePair 80 = .ok (.iload_n 1, 1) := by decide +kernel
theorem dX1_placePair_81 : decode cX1_placePair 81 = .ok (.iconst 1, 1) := by decide +kernel
theorem dX1_placePair_82 : decode cX1_placePair 82 = .ok (.invokevirtual 57, 3) := by decide +kernel
theorem dX1_placePair_85 : decode cX1_placePair 85 = .ok (.aload_n 0, 1) := by decide +kernel
theorem dX1_placePair_86 : decode cX1_placePair 86 = .ok (.getfield 23, 3) := by decide +kernel
theorem dX1_placePair_89 : decode cX1_placePair 89 = .ok (.iload_n 1, 1) := by decide +kernel
theorem dX1_placePair_90 : decode cX1_placePair 90 = .ok (.iconst 1, 1) := by decide +kernel
theorem dX1_placePair_91 : decode cX1_placePair 91 = .ok (.invokevirtual 57, 3) := by decide +kernel
theorem dX1_placePair_94 : decode cX1_placePair 94 = .ok (.return_, 1) := by decide +kernel
theorem dX1_dropPair_0 : decode cX1_dropPair 0 = .ok (.iconst 0, 1) := by decide +kernel
theorem dX1_dropPair_1 : decode cX1_dropPair 1 = .ok (.istore_n 2, 1) := by decide +kernel
theorem dX1_dropPair_2 : decode cX1_dropPair 2 = .ok (.iload_n 2, 1) := by decide +kernel
theorem dX1_dropPair_3 : decode cX1_dropPair 3 = .ok (.iconst 4, 1) := by decide +kernel
theorem dX1_dropPair_4 : decode cX1_dropPair 4 = .ok (.if_icmp .ge 23, 3) := by decide +kernel
theorem dX1_dropPair_7 : decode cX1_dropPair 7 = .ok (.aload_n 0, 1) := by decide +kernel
theorem dX1_dropPair_8 : decode cX1_dropPair 8 = .ok (.getfield 11, 3) := by decide +kernel
theorem dX1_dropPair_11 : decode cX1_dropPair 11 = .ok (.iload_n 2, 1) := by decide +kernel
theorem dX1_dropPair_12 : decode cX1_dropPair 12 = .ok (.aaload, 1) := by decide +kernel
theorem dX1_dropPair_13 : decode cX1_dropPair 13 = .ok (.iload_n 1, 1) := by decide +kernel
theorem dX1_dropPair_14 : decode cX1_dropPair 14 = .ok (.aload_n 0, 1) := by decide +kernel
theorem dX1_dropPair_15 : decode cX1_dropPair 15 = .ok (.getfield 38, 3) := by decide +kernel
theorem dX1_dropPair_18 : decode cX1_dropPair 18 = .ok (.invokestatic 61, 3) := by decide +kernel
theorem dX1_dropPair_21 : decode cX1_dropPair 21 = .ok (.iinc 2 1, 3) := by decide +kernel
theorem dX1_dropPair_24 : decode cX1_dropPair 24 = .ok (.goto (-22), 3) := by decide +kernel
theorem dX1_dropPair_27 : decode cX1_dropPair 27 = .ok (.aload_n 0, 1) := by decide +kernel
theorem dX1_dropPair_28 : decode cX1_dropPair 28 = .ok (.dup, 1) := by decide +kernel
theorem dX1_dropPair_29 : decode cX1_dropPair 29 = .ok (.getfield 38, 3) := by decide +kernel
theorem dX1_dropPair_32 : decode cX1_dropPair 32 = .ok (.iconst 1, 1) := by decide +kernel
theorem dX1_dropPair_33 : decode cX1_dropPair 33 = .ok (.isub, 1) := by decide +kernel
theorem dX1_dropPair_34 : decode cX1_dropPair 34 = .ok (.putfield 38, 3) := by decide +kernel
theorem dX1_dropPair_37 : decode cX1_dropPair 37 = .ok (.aload_n 0, 1) := by decide +kernel
theorem dX1_dropPair_38 : decode cX1_dropPair 38 = .ok (.getfield 19, 3) := by decide +kernel
theorem dX1_dropPair_41 : decode cX1_dropPair 41 = .ok (.iload_n 1, 1) := by decide +kernel
theorem dX1_dropPair_42 : decode cX1_dropPair 42 = .ok (.invokevirtual 64, 3) := by decide +kernel
theorem dX1_dropPair_45 : decode cX1_dropPair 45 = .ok (.aload_n 0, 1) := by decide +kernel
theorem dX1_dropPair_46 : decode cX1_dropPair 46 = .ok (.getfield 23, 3) := by decide +kernel
theorem dX1_dropPair_49 : decode cX1_dropPair 49 = .ok (.iload_n 1, 1) := by decide +kernel
theorem dX1_dropPair_50 : decode cX1_dropPair 50 = .ok (.invokevirtual 64, 3) := by decide +kernel
theorem dX1_dropPair_53 : decode cX1_dropPair 53 = .ok (.return_, 1) := by decide +kernel
theorem dX1_copyFrom_0 : decode cX1_copyFrom 0 = .ok (.aload_n 0, 1) := by decide +kernel
theorem dX1_copyFrom_1 : decode cX1_copyFrom 1 = .ok (.aload_n 1, 1) := by decide +kernel
theorem dX1_copyFrom_2 : decode cX1_copyFrom 2 = .ok (.getfield 38, 3) := by decide +kernel
theorem dX1_copyFrom_5 : decode cX1_copyFrom 5 = .ok (.putfield 38, 3) := by decide +kernel
theorem dX1_copyFrom_8 : decode cX1_copyFrom 8 = .ok (.aload_n 1, 1) := by decide +kernel
theorem dX1_copyFrom_9 : decode cX1_copyFrom 9 = .ok (.getfield 11, 3) := by decide +kernel
theorem dX1_copyFrom_12 : decode cX1_copyFrom 12 = .ok (.aload_n 0, 1) := by decide +kernel
theorem dX1_copyFrom_13 : decode cX1_copyFrom 13 = .ok (.getfield 11, 3) := by decide +kernel
theorem dX1_copyFrom_16 : decode cX1_copyFrom 16 = .ok (.invokestatic 68, 3) := by decide +kernel
theorem dX1_copyFrom_19 : decode cX1_copyFrom 19 = .ok (.aload_n 0, 1) := by decide +kernel
theorem dX1_copyFrom_20 : decode cX1_copyFrom 20 = .ok (.getfield 19, 3) := by decide +kernel
theorem dX1_copyFrom_23 : decode cX1_copyFrom 23 = .ok (.aload_n 1, 1) := by decide +kernel
theorem dX1_copyFrom_24 : decode cX1_copyFrom 24 = .ok (.getfield 19, 3) := by decide +kernel
theorem dX1_copyFrom_27 : decode cX1_copyFrom 27 = .ok (.invokevirtual 72, 3) := by decide +kernel
theorem dX1_copyFrom_30 : decode cX1_copyFrom 30 = .ok (.aload_n 0, 1) := by decide +kernel
theorem dX1_copyFrom_31 : decode cX1_copyFrom 31 = .ok (.getfield 23, 3) := by decide +kernel
theorem dX1_copyFrom_34 : decode cX1_copyFrom 34 = .ok (.aload_n 1, 1) := by decide +kernel
theorem dX1_copyFrom_35 : decode cX1_copyFrom 35 = .ok (.getfield 23, 3) := by decide +kernel
theorem dX1_copyFrom_38 : decode cX1_copyFrom 38 = .ok (.invokevirtual 72, 3) := by decide +kernel
theorem dX1_copyFrom_41 : decode cX1_copyFrom 41 = .ok (.aload_n 1, 1) := by decide +kernel
theorem dX1_copyFrom_42 : decode cX1_copyFrom 42 = .ok (.getfield 35, 3) := by decide +kernel
theorem dX1_copyFrom_45 : decode cX1_copyFrom 45 = .ok (.iconst 0, 1) := by decide +kernel
theorem dX1_copyFrom_46 : decode cX1_copyFrom 46 = .ok (.aload_n 0, 1) := by decide +kernel
theorem dX1_copyFrom_47 : decode cX1_copyFrom 47 = .ok (.getfield 35, 3) := by decide +kernel
theorem dX1_copyFrom_50 : decode cX1_copyFrom 50 = .ok (.iconst 0, 1) := by decide +kernel
theorem dX1_copyFrom_51 : decode cX1_copyFrom 51 = .ok (.bipush 6, 2) := by decide +kernel
theorem dX1_copyFrom_53 : decode cX1_copyFrom 53 = .ok (.invokestatic 76, 3) := by decide +kernel
theorem dX1_copyFrom_56 : decode cX1_copyFrom 56 = .ok (.return_, 1) := by decide +kernel
theorem dX2_init_0 : decode cX2_init 0 = .ok (.aload_n 0, 1) := by decide +kernel
theorem dX2_init_1 : decode cX2_init 1 = .ok (.invokespecial 3, 3) := by decide +kernel
theorem dX2_init_4 : decode cX2_init 4 = .ok (.aload_n 0, 1) := by decide +kernel
theorem dX2_init_5 : decode cX2_init 5 = .ok (.iconst 2, 1) := by decide +kernel
theorem dX2_init_6 : decode cX2_init 6 = .ok (.newarray .int, 2) := by decide +kernel
theorem dX2_init_8 : decode cX2_init 8 = .ok (.putfield 9, 3) := by decide +kernel
theorem dX2_init_11 : decode cX2_init 11 = .ok (.aload_n 0, 1) := by decide +kernel
theorem dX2_init_12 : decode cX2_init 12 = .ok (.iconst 2, 1) := by decide +kernel
theorem dX2_init_13 : decode cX2_init 13 = .ok (.newarray .int, 2) := by decide +kernel
theorem dX2_init_15 : decode cX2_init 15 = .ok (.putfield 15, 3) := by decide +kernel
theorem dX2_init_18 : decode cX2_init 18 = .ok (.aload_n 0, 1) := by decide +kernel
theorem dX2_init_19 : decode cX2_init 19 = .ok (.iconst 2, 1) := by decide +kernel
theorem dX2_init_20 : decode cX2_init 20 = .ok (.newarray .int, 2) := by decide +kernel
theorem dX2_init_22 : decode cX2_init 22 = .ok (.putfield 18, 3) := by decide +kernel
theorem dX2_init_25 : decode cX2_init 25 = .ok (.aload_n 0, 1) := by decide +kernel
theorem dX2_init_26 : decode cX2_init 26 = .ok (.iconst 2, 1) := by decide +kernel
theorem dX2_init_27 : decode cX2_init 27 = .ok (.newarray .int, 2) := by decide +kernel
theorem dX2_init_29 : decode cX2_init 29 = .ok (.putfield 21, 3) := by decide +kernel
theorem dX2_init_32 : decode cX2_init 32 = .ok (.aload_n 0, 1) := by decide +kernel
theorem dX2_init_33 : decode cX2_init 33 = .ok (.iconst 2, 1) := by decide +kernel
theorem dX2_init_34 : decode cX2_init 34 = .ok (.newarray .int, 2) := by decide +kernel
theorem dX2_init_36 : decode cX2_init 36 = .ok (.putfield 24, 3) := by decide +kernel
theorem dX2_init_39 : decode cX2_init 39 = .ok (.aload_n 0, 1) := by decide +kernel
theorem dX2_init_40 : decode cX2_init 40 = .ok (.iconst 2, 1) := by decide +kernel
theorem dX2_init_41 : decode cX2_init 41 = .ok (.newarray .int, 2) := by decide +kernel
theorem dX2_init_43 : decode cX2_init 43 = .ok (.putfield 27, 3) := by decide +kernel
theorem dX2_init_46 : decode cX2_init 46 = .ok (.aload_n 0, 1) := by decide +kernel
theorem dX2_init_47 : decode cX2_init 47 = .ok (.iconst 2, 1) := by decide +kernel
theorem dX2_init_48 : decode cX2_init 48 = .ok (.newarray .int, 2) := by decide +kernel
theorem dX2_init_50 : decode cX2_init 50 = .ok (.putfield 30, 3) := by decide +kernel
theorem dX2_init_53 : decode cX2_init 53 = .ok (.return_, 1) := by decide +kernel
theorem dX2_turn_0 : decode cX2_turn 0 = .ok (.aload_n 0, 1) := by decide +kernel
theorem dX2_turn_1 : decode cX2_turn 1 = .ok (.getfield 9, 3) := by decide +kernel
theorem dX2_turn_4 : decode cX2_turn 4 = .ok (.iload_n 1, 1) := by decide +kernel
theorem dX2_turn_5 : decode cX2_turn 5 = .ok (.iconst 0, 1) := by decide +kernel
theorem dX2_turn_6 : decode cX2_turn 6 = .ok (.iastore, 1) := by decide +kernel
theorem dX2_turn_7 : decode cX2_turn 7 = .ok (.aload_n 0, 1) := by decide +kernel
theorem dX2_turn_8 : decode cX2_turn 8 = .ok (.getfield 15, 3) := by decide +kernel
theorem dX2_turn_11 : decode cX2_turn 11 = .ok (.iload_n 1, 1) := by decide +kernel
theorem dX2_turn_12 : decode cX2_turn 12 = .ok (.iconst 0, 1) := by decide +kernel
theorem dX2_turn_13 : decode cX2_turn 13 = .ok (.iastore, 1) := by decide +kernel
theorem dX2_turn_14 : decode cX2_turn 14 = .ok (.aload_n 0, 1) := by decide +kernel
theorem dX2_turn_15 : decode cX2_turn 15 = .ok (.getfield 18, 3) := by decide +kernel
theorem dX2_turn_18 : decode cX2_turn 18 = .ok (.iload_n 1, 1) := by decide +kernel
theorem dX2_turn_19 : decode cX2_turn 19 = .ok (.iload_n 2, 1) := by decide +kernel
theorem dX2_turn_20 : decode cX2_turn 20 = .ok (.iastore, 1) := by decide +kernel
theorem dX2_turn_21 : decode cX2_turn 21 = .ok (.aload_n 0, 1) := by decide +kernel
theorem dX2_turn_22 : decode cX2_turn 22 = .ok (.getfield 21, 3) := by decide +kernel
theorem dX2_turn_25 : decode cX2_turn 25 = .ok (.iload_n 1, 1) := by decide +kernel
theorem dX2_turn_26 : decode cX2_turn 26 = .ok (.iload_n 3, 1) := by decide +kernel
theorem dX2_turn_27 : decode cX2_turn 27 = .ok (.iastore, 1) := by decide +kernel
theorem dX2_turn_28 : decode cX2_turn 28 = .ok (.aload_n 0, 1) := by decide +kernel
theorem dX2_turn_29 : decode cX2_turn 29 = .ok (.getfield 24, 3) := by decide +kernel
theorem dX2_turn_32 : decode cX2_turn 32 = .ok (.iload_n 1, 1) := by decide +kernel
theorem dX2_turn_33 : decode cX2_turn 33 = .ok (.iconst 0, 1) := by decide +kernel
theorem dX2_turn_34 : decode cX2_turn 34 = .ok (.iastore, 1) := by decide +kernel
theorem dX2_turn_35 : decode cX2_turn 35 = .ok (.aload_n 0, 1) := by decide +kernel
theorem dX2_turn_36 : decode cX2_turn 36 = .ok (.getfield 27, 3) := by decide +kernel
theorem dX2_turn_39 : decode cX2_turn 39 = .ok (.iload_n 1, 1) := by decide +kernel
theorem dX2_turn_40 : decode cX2_turn 40 = .ok (.iconst 0, 1) := by decide +kernel
theorem dX2_turn_41 : decode cX2_turn 41 = .ok (.iastore, 1) := by decide +kernel
theorem dX2_turn_42 : decode cX2_turn 42 = .ok (.aload_n 0, 1) := by decide +kernel
theorem dX2_turn_43 : decode cX2_turn 43 = .ok (.getfield 30, 3) := by decide +kernel
theorem dX2_turn_46 : decode cX2_turn 46 = .ok (.iload_n 1, 1) := by decide +kernel
theorem dX2_turn_47 : decode cX2_turn 47 = .ok (.iconst 0, 1) := by decide +kernel
theorem dX2_turn_48 : decode cX2_turn 48 = .ok (.iastore, 1) := by decide +kernel
theorem dX2_turn_49 : decode cX2_turn 49 = .ok (.return_, 1) := by decide +kernel
theorem dX2_copyFrom_0 : decode cX2_copyFrom 0 = .ok (.aload_n 1, 1) := by decide +kernel
theorem dX2_copyFrom_1 : decode cX2_copyFrom 1 = .ok (.getfield 9, 3) := by decide +kernel
theorem dX2_copyFrom_4 : decode cX2_copyFrom 4 = .ok (.iconst 0, 1) := by decide +kernel
theorem dX2_copyFrom_5 : decode cX2_copyFrom 5 = .ok (.aload_n 0, 1) := by decide +kernel
theorem dX2_copyFrom_6 : decode cX2_copyFrom 6 = .ok (.getfield 9, 3) := by decide +kernel
theorem dX2_copyFrom_9 : decode cX2_copyFrom 9 = .ok (.iconst 0, 1) := by decide +kernel
theorem dX2_copyFrom_10 : decode cX2_copyFrom 10 = .ok (.iconst 2, 1) := by decide +kernel
theorem dX2_copyFrom_11 : decode cX2_copyFrom 11 = .ok (.invokestatic 33, 3) := by decide +kernel
theorem dX2_copyFrom_14 : decode cX2_copyFrom 14 = .ok (.aload_n 1, 1) := by decide +kernel
theorem dX2_copyFrom_15 : decode cX2_copyFrom 15 = .ok (.getfield 15, 3) := by decide +kernel
theorem dX2_copyFrom_18 : decode cX2_copyFrom 18 = .ok (.iconst 0, 1) := by decide +kernel
theorem dX2_copyFrom_19 : decode cX2_copyFrom 19 = .ok (.aload_n 0, 1) := by decide +kernel
theorem dX2_copyFrom_20 : decode cX2_copyFrom 20 = .ok (.getfield 15, 3) := by decide +kernel
theorem dX2_copyFrom_23 : decode cX2_copyFrom 23 = .ok (.iconst 0, 1) := by decide +kernel
theorem dX2_copyFrom_24 : decode cX2_copyFrom 24 = .ok (.iconst 2, 1) := by decide +kernel
theorem dX2_copyFrom_25 : decode cX2_copyFrom 25 = .ok (.invokestatic 33, 3) := by decide +kernel
theorem dX2_copyFrom_28 : decode cX2_copyFrom 28 = .ok (.aload_n 1, 1) := by decide +kernel
theorem dX2_copyFrom_29 : decode cX2_copyFrom 29 = .ok (.getfield 18, 3) := by decide +kernel
theorem dX2_copyFrom_32 : decode cX2_copyFrom 32 = .ok (.iconst 0, 1) := by decide +kernel
theorem dX2_copyFrom_33 : decode cX2_copyFrom 33 = .ok (.aload_n 0, 1) := by decide +kernel
theorem dX2_copyFrom_34 : decode cX2_copyFrom 34 = .ok (.getfield 18, 3) := by decide +kernel
theorem dX2_copyFrom_37 : decode cX2_copyFrom 37 = .ok (.iconst 0, 1) := by decide +kernel
theorem dX2_copyFrom_38 : decode cX2_copyFrom 38 = .ok (.iconst 2, 1) := by decide +kernel
theorem dX2_copyFrom_39 : decode cX2_copyFrom 39 = .ok (.invokestatic 33, 3) := by decide +kernel
theorem dX2_copyFrom_42 : decode cX2_copyFrom 42 = .ok (.aload_n 1, 1) := by decide +kernel
theorem dX2_copyFrom_43 : decode cX2_copyFrom 43 = .ok (.getfield 21, 3) := by decide +kernel
theorem dX2_copyFrom_46 : decode cX2_copyFrom 46 = .ok (.iconst 0, 1) := by decide +kernel
theorem dX2_copyFrom_47 : decode cX2_copyFrom 47 = .ok (.aload_n 0, 1) := by decide +kernel
theorem dX2_copyFrom_48 : decode cX2_copyFrom 48 = .ok (.getfield 21, 3) := by decide +kernel
theorem dX2_copyFrom_51 : decode cX2_copyFrom 51 = .ok (.iconst 0, 1) := by decide +kernel
theorem dX2_copyFrom_52 : decode cX2_copyFrom 52 = .ok (.iconst 2, 1) := by decide +kernel
theorem dX2_copyFrom_53 : decode cX2_copyFrom 53 = .ok (.invokestatic 33, 3) := by decide +kernel
theorem dX2_copyFrom_56 : decode cX2_copyFrom 56 = .ok (.aload_n 1, 1) := by decide +kernel
theorem dX2_copyFrom_57 : decode cX2_copyFrom 57 = .ok (.getfield 24, 3) := by decide +kernel
theorem dX2_copyFrom_60 : decode cX2_copyFrom 60 = .ok (.iconst 0, 1) := by decide +kernel
theorem dX2_copyFrom_61 : decode cX2_copyFrom 61 = .ok (.aload_n 0, 1) := by decide +kernel
theorem dX2_copyFrom_62 : decode cX2_copyFrom 62 = .ok (.getfield 24, 3) := by decide +kernel
theorem dX2_copyFrom_65 : decode cX2_copyFrom 65 = .ok (.iconst 0, 1) := by decide +kernel
theorem dX2_copyFrom_66 : decode cX2_copyFrom 66 = .ok (.iconst 2, 1) := by decide +kernel
theorem dX2_copyFrom_67 : decode cX2_copyFrom 67 = .ok (.invokestatic 33, 3) := by decide +kernel
theorem dX2_copyFrom_70 : decode cX2_copyFrom 70 = .ok (.aload_n 1, 1) := by decide +kernel
theorem dX2_copyFrom_71 : decode cX2_copyFrom 71 = .ok (.getfield 27, 3) := by decide +kernel
theorem dX2_copyFrom_74 : decode cX2_copyFrom 74 = .ok (.iconst 0, 1) := by decide +kernel
theorem dX2_copyFrom_75 : decode cX2_copyFrom 75 = .ok (.aload_n 0, 1) := by decide +kernel
theorem dX2_copyFrom_76 : decode cX2_copyFrom 76 = .ok (.getfield 27, 3) := by decide +kernel
theorem dX2_copyFrom_79 : decode cX2_copyFrom 79 = .ok (.iconst 0, 1) := by decide +kernel
theorem dX2_copyFrom_80 : decode cX2_copyFrom 80 = .ok (.iconst 2, 1) := by decide +kernel
theorem dX2_copyFrom_81 : decode cX2_copyFrom 81 = .ok (.invokestatic 33, 3) := by decide +kernel
theorem dX2_copyFrom_84 : decode cX2_copyFrom 84 = .ok (.aload_n 1, 1) := by decide +kernel
theorem dX2_copyFrom_85 : decode cX2_copyFrom 85 = .ok (.getfield 30, 3) := by decide +kernel
theorem dX2_copyFrom_88 : decode cX2_copyFrom 88 = .ok (.iconst 0, 1) := by decide +kernel
theorem dX2_copyFrom_89 : decode cX2_copyFrom 89 = .ok (.aload_n 0, 1) := by decide +kernel
theorem dX2_copyFrom_90 : decode cX2_copyFrom 90 = .ok (.getfield 30, 3) := by decide +kernel
theorem dX2_copyFrom_93 : decode cX2_copyFrom 93 = .ok (.iconst 0, 1) := by decide +kernel
theorem dX2_copyFrom_94 : decode cX2_copyFrom 94 = .ok (.iconst 2, 1) := by decide +kernel
theorem dX2_copyFrom_95 : decode cX2_copyFrom 95 = .ok (.invokestatic 33, 3) := by decide +kernel
theorem dX2_copyFrom_98 : decode cX2_copyFrom 98 = .ok (.return_, 1) := by decide +kernel
theorem dX2_put_0 : decode cX2_put 0 = .ok (.iconst 0, 1) := by decide +kernel
theorem dX2_put_1 : decode cX2_put 1 = .ok (.istore_n 3, 1) := by decide +kernel
theorem dX2_put_2 : decode cX2_put 2 = .ok (.iload_n 3, 1) := by decide +kernel
theorem dX2_put_3 : decode cX2_put 3 = .ok (.iconst 2, 1) := by decide +kernel
theorem dX2_put_4 : decode cX2_put 4 = .ok (.if_icmp .ge 139, 3) := by decide +kernel
theorem dX2_put_7 : decode cX2_put 7 = .ok (.aload_n 0, 1) := by decide +kernel
theorem dX2_put_8 : decode cX2_put 8 = .ok (.getfield 9, 3) := by decide +kernel
theorem dX2_put_11 : decode cX2_put 11 = .ok (.iload_n 3, 1) := by decide +kernel
theorem dX2_put_12 : decode cX2_put 12 = .ok (.aload_n 0, 1) := by decide +kernel
theorem dX2_put_13 : decode cX2_put 13 = .ok (.getfield 15, 3) := by decide +kernel
theorem dX2_put_16 : decode cX2_put 16 = .ok (.iload_n 3, 1) := by decide +kernel
theorem dX2_put_17 : decode cX2_put 17 = .ok (.iaload, 1) := by decide +kernel
theorem dX2_put_18 : decode cX2_put 18 = .ok (.aload_n 2, 1) := by decide +kernel
theorem dX2_put_19 : decode cX2_put 19 = .ok (.getfield 39, 3) := by decide +kernel
theorem dX2_put_22 : decode cX2_put 22 = .ok (.iload_n 3, 1) := by decide +kernel
theorem dX2_put_23 : decode cX2_put 23 = .ok (.iaload, 1) := by decide +kernel
theorem dX2_put_24 : decode cX2_put 24 = .ok (.iadd, 1) := by decide +kernel
theorem dX2_put_25 : decode cX2_put 25 = .ok (.iastore, 1) := by decide +kernel
theorem dX2_put_26 : decode cX2_put 26 = .ok (.aload_n 1, 1) := by decide +kernel
theorem dX2_put_27 : decode cX2_put 27 = .ok (.iload_n 3, 1) := by decide +kernel
theorem dX2_put_28 : decode cX2_put 28 = .ok (.invokevirtual 44, 3) := by decide +kernel
theorem dX2_put_31 : decode cX2_put 31 = .ok (.astore 4, 2) := by decide +kernel
theorem dX2_put_33 : decode cX2_put 33 = .ok (.aload_n 0, 1) := by decide +kernel
theorem dX2_put_34 : decode cX2_put 34 = .ok (.getfield 21, 3) := by decide +kernel
theorem dX2_put_37 : decode cX2_put 37 = .ok (.iload_n 3, 1) := by decide +kernel
theorem dX2_put_38 : decode cX2_put 38 = .ok (.iaload, 1) := by decide +kernel
theorem dX2_put_39 : decode cX2_put 39 = .ok (.aload_n 0, 1) := by decide +kernel
theorem dX2_put_40 : decode cX2_put 40 = .ok (.getfield 24, 3) := by decide +kernel
theorem dX2_put_43 : decode cX2_put 43 = .ok (.iload_n 3, 1) := by decide +kernel
theorem dX2_put_44 : decode cX2_put 44 = .ok (.iaload, 1) := by decide +kernel
theorem dX2_put_45 : decode cX2_put 45 = .ok (.iadd, 1) := by decide +kernel
theorem dX2_put_46 : decode cX2_put 46 = .ok (.istore 5, 2) := by decide +kernel
theorem dX2_put_48 : decode cX2_put 48 = .ok (.aload 4, 2) := by decide +kernel
theorem dX2_put_50 : decode cX2_put 50 = .ok (.iload 5, 2) := by decide +kernel
theorem dX2_put_52 : decode cX2_put 52 = .ok (.aload_n 2, 1) := by decide +kernel
theorem dX2_put_53 : decode cX2_put 53 = .ok (.getfield 49, 3) := by decide +kernel
theorem dX2_put_56 : decode cX2_put 56 = .ok (.aload_n 2, 1) := by decide +kernel
theorem dX2_put_57 : decode cX2_put 57 = .ok (.getfield 53, 3) := by decide +kernel
theorem dX2_put_60 : decode cX2_put 60 = .ok (.iload_n 3, 1) := by decide +kernel
theorem dX2_put_61 : decode cX2_put 61 = .ok (.iaload, 1) := by decide +kernel
theorem dX2_put_62 : decode cX2_put 62 = .ok (.aload_n 2, 1) := by decide +kernel
theorem dX2_put_63 : decode cX2_put 63 = .ok (.getfield 39, 3) := by decide +kernel
theorem dX2_put_66 : decode cX2_put 66 = .ok (.iload_n 3, 1) := by decide +kernel
theorem dX2_put_67 : decode cX2_put 67 = .ok (.iaload, 1) := by decide +kernel
theorem dX2_put_68 : decode cX2_put 68 = .ok (.iadd, 1) := by decide +kernel
theorem dX2_put_69 : decode cX2_put 69 = .ok (.invokevirtual 56, 3) := by decide +kernel
theorem dX2_put_72 : decode cX2_put 72 = .ok (.istore 6, 2) := by decide +kernel
theorem dX2_put_74 : decode cX2_put 74 = .ok (.iload 5, 2) := by decide +kernel
theorem dX2_put_76 : decode cX2_put 76 = .ok (.istore 7, 2) := by decide +kernel
theorem dX2_put_78 : decode cX2_put 78 = .ok (.iload 7, 2) := by decide +kernel
theorem dX2_put_80 : decode cX2_put 80 = .ok (.iload 6, 2) := by decide +kernel
theorem dX2_put_82 : decode cX2_put 82 = .ok (.if_icmp .ge 40, 3) := by decide +kernel
theorem dX2_put_85 : decode cX2_put 85 = .ok (.aload_n 0, 1) := by decide +kernel
theorem dX2_put_86 : decode cX2_put 86 = .ok (.getfield 30, 3) := by decide +kernel
theorem dX2_put_89 : decode cX2_put 89 = .ok (.iload_n 3, 1) := by decide +kernel
theorem dX2_put_90 : decode cX2_put 90 = .ok (.aload 4, 2) := by decide +kernel
theorem dX2_put_92 : decode cX2_put 92 = .ok (.getfield 62, 3) := by decide +kernel
theorem dX2_put_95 : decode cX2_put 95 = .ok (.iconst 2, 1) := by decide +kernel
theorem dX2_put_96 : decode cX2_put 96 = .ok (.aaload, 1) := by decide +kernel
theorem dX2_put_97 : decode cX2_put 97 = .ok (.iload 7, 2) := by decide +kernel
theorem dX2_put_99 : decode cX2_put 99 = .ok (.iaload, 1) := by decide +kernel
theorem dX2_put_100 : decode cX2_put 100 = .ok (.iastore, 1) := by decide +kernel
theorem dX2_put_101 : decode cX2_put 101 = .ok (.aload_n 0, 1) := by decide +kernel
theorem dX2_put_102 : decode cX2_put 102 = .ok (.getfield 27, 3) := by decide +kernel
theorem dX2_put_105 : decode cX2_put 105 = .ok (.iload_n 3, 1) := by decide +kernel
theorem dX2_put_106 : decode cX2_put 106 = .ok (.dup2, 1) := by decide +kernel
theorem dX2_put_107 : decode cX2_put 107 = .ok (.iaload, 1) := by decide +kernel
theorem dX2_put_108 : decode cX2_put 108 = .ok (.aload_n 0, 1) := by decide +kernel
theorem dX2_put_109 : decode cX2_put 109 = .ok (.getfield 30, 3) := by decide +kernel
theorem dX2_put_112 : decode cX2_put 112 = .ok (.iload_n 3, 1) := by decide +kernel
theorem dX2_put_113 : decode cX2_put 113 = .ok (.iaload, 1) := by decide +kernel
theorem dX2_put_114 : decode cX2_put 114 = .ok (.iadd, 1) := by decide +kernel
theorem dX2_put_115 : decode cX2_put 115 = .ok (.iastore, 1) := by decide +kernel
theorem dX2_put_116 : decode cX2_put 116 = .ok (.iinc 7 1, 3) := by decide +kernel
theorem dX2_put_119 : decode cX2_put 119 = .ok (.goto (-41), 3) := by decide +kernel
theorem dX2_put_122 : decode cX2_put 122 = .ok (.aload_n 0, 1) := by decide +kernel
theorem dX2_put_123 : decode cX2_put 123 = .ok (.getfield 24, 3) := by decide +kernel
theorem dX2_put_126 : decode cX2_put 126 = .ok (.iload_n 3, 1) := by decide +kernel
theorem dX2_put_127 : decode cX2_put 127 = .ok (.iload 6, 2) := by decide +kernel
theorem dX2_put_129 : decode cX2_put 129 = .ok (.aload_n 0, 1) := by decide +kernel
theorem dX2_put_130 : decode cX2_put 130 = .ok (.getfield 21, 3) := by decide +kernel
theorem dX2_put_133 : decode cX2_put 133 = .ok (.iload_n 3, 1) := by decide +kernel
theorem dX2_put_134 : decode cX2_put 134 = .ok (.iaload, 1) := by decide +kernel
theorem dX2_put_135 : decode cX2_put 135 = .ok (.isub, 1) := by decide +kernel
theorem dX2_put_136 : decode cX2_put 136 = .ok (.iastore, 1) := by decide +kernel
theorem dX2_put_137 : decode cX2_put 137 = .ok (.iinc 3 1, 3) := by decide +kernel
theorem dX2_put_140 : decode cX2_put 140 = .ok (.goto (-138), 3) := by decide +kernel
theorem dX2_put_143 : decode cX2_put 143 = .ok (.aload_n 1, 1) := by decide +kernel
theorem dX2_put_144 : decode cX2_put 144 = .ok (.getfield 66, 3) := by decide +kernel
theorem dX2_put_147 : decode cX2_put 147 = .ok (.iconst 5, 1) := by decide +kernel
theorem dX2_put_148 : decode cX2_put 148 = .ok (.iaload, 1) := by decide +kernel
theorem dX2_put_149 : decode cX2_put 149 = .ok (.iconst 1, 1) := by decide +kernel
theorem dX2_put_150 : decode cX2_put 150 = .ok (.if_icmp .ne 7, 3) := by decide +kernel
theorem dX2_put_153 : decode cX2_put 153 = .ok (.iconst 1, 1) := by decide +kernel
theorem dX2_put_154 : decode cX2_put 154 = .ok (.goto 4, 3) := by decide +kernel
theorem dX2_put_157 : decode cX2_put 157 = .ok (.iconst 0, 1) := by decide +kernel
theorem dX2_put_158 : decode cX2_put 158 = .ok (.istore_n 3, 1) := by decide +kernel
theorem dX2_put_159 : decode cX2_put 159 = .ok (.aload_n 0, 1) := by decide +kernel
theorem dX2_put_160 : decode cX2_put 160 = .ok (.getfield 9, 3) := by decide +kernel
theorem dX2_put_163 : decode cX2_put 163 = .ok (.iconst 0, 1) := by decide +kernel
theorem dX2_put_164 : decode cX2_put 164 = .ok (.iaload, 1) := by decide +kernel
theorem dX2_put_165 : decode cX2_put 165 = .ok (.aload_n 0, 1) := by decide +kernel
theorem dX2_put_166 : decode cX2_put 166 = .ok (.getfield 9, 3) := by decide +kernel
theorem dX2_put_169 : decode cX2_put 169 = .ok (.iconst 1, 1) := by decide +kernel
theorem dX2_put_170 : decode cX2_put 170 = .ok (.iaload, 1) := by decide +kernel
theorem dX2_put_171 : decode cX2_put 171 = .ok (.invokestatic 69, 3) := by decide +kernel
theorem dX2_put_174 : decode cX2_put 174 = .ok (.istore 4, 2) := by decide +kernel
theorem dX2_put_176 : decode cX2_put 176 = .ok (.iconst 0, 1) := by decide +kernel
theorem dX2_put_177 : decode cX2_put 177 = .ok (.istore 5, 2) := by decide +kernel
theorem dX2_put_179 : decode cX2_put 179 = .ok (.iload 5, 2) := by decide +kernel
theorem dX2_put_181 : decode cX2_put 181 = .ok (.iconst 2, 1) := by decide +kernel
theorem dX2_put_182 : decode cX2_put 182 = .ok (.if_icmp .ge 39, 3) := by decide +kernel
theorem dX2_put_185 : decode cX2_put 185 = .ok (.aload_n 0, 1) := by decide +kernel
theorem dX2_put_186 : decode cX2_put 186 = .ok (.getfield 15, 3) := by decide +kernel
theorem dX2_put_189 : decode cX2_put 189 = .ok (.iload 5, 2) := by decide +kernel
theorem dX2_put_191 : decode cX2_put 191 = .ok (.iload_n 3, 1) := by decide +kernel
theorem dX2_put_192 : decode cX2_put 192 = .ok (.ifCond .eq 8, 3) := by decide +kernel
theorem dX2_put_195 : decode cX2_put 195 = .ok (.iload 4, 2) := by decide +kernel
theorem dX2_put_197 : decode cX2_put 197 = .ok (.goto 10, 3) := by decide +kernel
theorem dX2_put_200 : decode cX2_put 200 = .ok (.aload_n 0, 1) := by decide +kernel
theorem dX2_put_201 : decode cX2_put 201 = .ok (.getfield 9, 3) := by decide +kernel
theorem dX2_put_204 : decode cX2_put 204 = .ok (.iload 5, 2) := by decide +kernel
theorem dX2_put_206 : decode cX2_put 206 = .ok (.iaload, 1) := by decide +kernel
theorem dX2_put_207 : decode cX2_put 207 = .ok (.aload_n 1, 1) := by decide +kernel
theorem dX2_put_208 : decode cX2_put 208 = .ok (.getfield 66, 3) := by decide +kernel
theorem dX2_put_211 : decode cX2_put 211 = .ok (.iconst 1, 1) := by decide +kernel
theorem dX2_put_212 : decode cX2_put 212 = .ok (.iaload, 1) := by decide +kernel
theorem dX2_put_213 : decode cX2_put 213 = .ok (.iadd, 1) := by decide +kernel
theorem dX2_put_214 : decode cX2_put 214 = .ok (.iastore, 1) := by decide +kernel
theorem dX2_put_215 : decode cX2_put 215 = .ok (.iinc 5 1, 3) := by decide +kernel
theorem dX2_put_218 : decode cX2_put 218 = .ok (.goto (-39), 3) := by decide +kernel
theorem dX2_put_221 : decode cX2_put 221 = .ok (.return_, 1) := by decide +kernel
theorem dX2_noteRows_0 : decode cX2_noteRows 0 = .ok (.aload_n 0, 1) := by decide +kernel
theorem dX2_noteRows_1 : decode cX2_noteRows 1 = .ok (.getfield 18, 3) := by decide +kernel
theorem dX2_noteRows_4 : decode cX2_noteRows 4 = .ok (.iload_n 1, 1) := by decide +kernel
theorem dX2_noteRows_5 : decode cX2_noteRows 5 = .ok (.iaload, 1) := by decide +kernel
theorem dX2_noteRows_6 : decode cX2_noteRows 6 = .ok (.aload_n 0, 1) := by decide +kernel
theorem dX2_noteRows_7 : decode cX2_noteRows 7 = .ok (.getfield 27, 3) := by decide +kernel
theorem dX2_noteRows_10 : decode cX2_noteRows 10 = .ok (.iload_n 1, 1) := by decide +kernel
theorem dX2_noteRows_11 : decode cX2_noteRows 11 = .ok (.iaload, 1) := by decide +kernel
theorem dX2_noteRows_12 : decode cX2_noteRows 12 = .ok (.iadd, 1) := by decide +kernel
theorem dX2_noteRows_13 : decode cX2_noteRows 13 = .ok (.iload_n 3, 1) := by decide +kernel
theorem dX2_noteRows_14 : decode cX2_noteRows 14 = .ok (.isub, 1) := by decide +kernel
theorem dX2_noteRows_15 : decode cX2_noteRows 15 = .ok (.istore 4, 2) := by decide +kernel
theorem dX2_noteRows_17 : decode cX2_noteRows 17 = .ok (.iload 4, 2) := by decide +kernel
theorem dX2_noteRows_19 : decode cX2_noteRows 19 = .ok (.ifCond .le 10, 3) := by decide +kernel
theorem dX2_noteRows_22 : decode cX2_noteRows 22 = .ok (.iload_n 2, 1) := by decide +kernel
theorem dX2_noteRows_23 : decode cX2_noteRows 23 = .ok (.iload 4, 2) := by decide +kernel
theorem dX2_noteRows_25 : decode cX2_noteRows 25 = .ok (.iadd, 1) := by decide +kernel
theorem dX2_noteRows_26 : decode cX2_noteRows 26 = .ok (.goto 4, 3) := by decide +kernel
theorem dX2_noteRows_29 : decode cX2_noteRows 29 = .ok (.iconst 0, 1) := by decide +kernel
theorem dX2_noteRows_30 : decode cX2_noteRows 30 = .ok (.ireturn, 1) := by decide +kernel
theorem dX2_mostCarried_0 : decode cX2_mostCarried 0 = .ok (.iconst 0, 1) := by decide +kernel
theorem dX2_mostCarried_1 : decode cX2_mostCarried 1 = .ok (.iload_n 2, 1) := by decide +kernel
theorem dX2_mostCarried_2 : decode cX2_mostCarried 2 = .ok (.aload_n 0, 1) := by decide +kernel
theorem dX2_mostCarried_3 : decode cX2_mostCarried 3 = .ok (.getfield 30, 3) := by decide +kernel
theorem dX2_mostCarried_6 : decode cX2_mostCarried 6 = .ok (.iload_n 1, 1) := by decide +kernel
theorem dX2_mostCarried_7 : decode cX2_mostCarried 7 = .ok (.iaload, 1) := by decide +kernel
theorem dX2_mostCarried_8 : decode cX2_mostCarried 8 = .ok (.iconst 1, 1) := by decide +kernel
theorem dX2_mostCarried_9 : decode cX2_mostCarried 9 = .ok (.isub, 1) := by decide +kernel
theorem dX2_mostCarried_10 : decode cX2_mostCarried 10 = .ok (.invokestatic 75, 3) := by decide +kernel
theorem dX2_mostCarried_13 : decode cX2_mostCarried 13 = .ok (.invokestatic 69, 3) := by decide +kernel
theorem dX2_mostCarried_16 : decode cX2_mostCarried 16 = .ok (.ireturn, 1) := by decide +kernel
theorem dX2_fits_0 : decode cX2_fits 0 = .ok (.iconst 0, 1) := by decide +kernel
theorem dX2_fits_1 : decode cX2_fits 1 = .ok (.istore 4, 2) := by decide +kernel
theorem dX2_fits_3 : decode cX2_fits 3 = .ok (.iload 4, 2) := by decide +kernel
theorem dX2_fits_5 : decode cX2_fits 5 = .ok (.iconst 2, 1) := by decide +kernel
theorem dX2_fits_6 : decode cX2_fits 6 = .ok (.if_icmp .ge 37, 3) := by decide +kernel
theorem dX2_fits_9 : decode cX2_fits 9 = .ok (.aload_n 0, 1) := by decide +kernel
theorem dX2_fits_10 : decode cX2_fits 10 = .ok (.getfield 9, 3) := by decide +kernel
theorem dX2_fits_13 : decode cX2_fits 13 = .ok (.iload 4, 2) := by decide +kernel
theorem dX2_fits_15 : decode cX2_fits 15 = .ok (.iaload, 1) := by decide +kernel
theorem dX2_fits_16 : decode cX2_fits 16 = .ok (.aload_n 0, 1) := by decide +kernel
theorem dX2_fits_17 : decode cX2_fits 17 = .ok (.iload 4, 2) := by decide +kernel
theorem dX2_fits_19 : decode cX2_fits 19 = .ok (.iload_n 2, 1) := by decide +kernel
theorem dX2_fits_20 : decode cX2_fits 20 = .ok (.aload_n 0, 1) := by decide +kernel
theorem dX2_fits_21 : decode cX2_fits 21 = .ok (.iload 4, 2) := by decide +kernel
theorem dX2_fits_23 : decode cX2_fits 23 = .ok (.iload_n 3, 1) := by decide +kernel
theorem dX2_fits_24 : decode cX2_fits 24 = .ok (.invokevirtual 78, 3) := by decide +kernel
theorem dX2_fits_27 : decode cX2_fits 27 = .ok (.invokevirtual 81, 3) := by decide +kernel
theorem dX2_fits_30 : decode cX2_fits 30 = .ok (.iadd, 1) := by decide +kernel
theorem dX2_fits_31 : decode cX2_fits 31 = .ok (.iload_n 1, 1) := by decide +kernel
theorem dX2_fits_32 : decode cX2_fits 32 = .ok (.if_icmp .le 5, 3) := by decide +kernel
theorem dX2_fits_35 : decode cX2_fits 35 = .ok (.iconst 0, 1) := by decide +kernel
theorem dX2_fits_36 : decode cX2_fits 36 = .ok (.ireturn, 1) := by decide +kernel
theorem dX2_fits_37 : decode cX2_fits 37 = .ok (.iinc 4 1, 3) := by decide +kernel
theorem dX2_fits_40 : decode cX2_fits 40 = .ok (.goto (-37), 3) := by decide +kernel
theorem dX2_fits_43 : decode cX2_fits 43 = .ok (.iconst 1, 1) := by decide +kernel
theorem dX2_fits_44 : decode cX2_fits 44 = .ok (.ireturn, 1) := by decide +kernel
theorem dX2_carriedFrom_0 : decode cX2_carriedFrom 0 = .ok (.aload_n 0, 1) := by decide +kernel
theorem dX2_carriedFrom_1 : decode cX2_carriedFrom 1 = .ok (.iload_n 1, 1) := by decide +kernel
theorem dX2_carriedFrom_2 : decode cX2_carriedFrom 2 = .ok (.aload_n 2, 1) := by decide +kernel
theorem dX2_carriedFrom_3 : decode cX2_carriedFrom 3 = .ok (.getfield 66, 3) := by decide +kernel
theorem dX2_carriedFrom_6 : decode cX2_carriedFrom 6 = .ok (.iconst 4, 1) := by decide +kernel
theorem dX2_carriedFrom_7 : decode cX2_carriedFrom 7 = .ok (.iaload, 1) := by decide +kernel
theorem dX2_carriedFrom_8 : decode cX2_carriedFrom 8 = .ok (.invokevirtual 78, 3) := by decide +kernel
theorem dX2_carriedFrom_11 : decode cX2_carriedFrom 11 = .ok (.istore 4, 2) := by decide +kernel
theorem dX2_carriedFrom_13 : decode cX2_carriedFrom 13 = .ok (.iconst 0, 1) := by decide +kernel
theorem dX2_carriedFrom_14 : decode cX2_carriedFrom 14 = .ok (.istore 5, 2) := by decide +kernel
theorem dX2_carriedFrom_16 : decode cX2_carriedFrom 16 = .ok (.iload 5, 2) := by decide +kernel
theorem dX2_carriedFrom_18 : decode cX2_carriedFrom 18 = .ok (.iload 4, 2) := by decide +kernel
theorem dX2_carriedFrom_20 : decode cX2_carriedFrom 20 = .ok (.if_icmp .ge 33, 3) := by decide +kernel
theorem dX2_carriedFrom_23 : decode cX2_carriedFrom 23 = .ok (.aload_n 0, 1) := by decide +kernel
theorem dX2_carriedFrom_24 : decode cX2_carriedFrom 24 = .ok (.getfield 9, 3) := by decide +kernel
theorem dX2_carriedFrom_27 : decode cX2_carriedFrom 27 = .ok (.iload_n 1, 1) := by decide +kernel
theorem dX2_carriedFrom_28 : decode cX2_carriedFrom 28 = .ok (.iaload, 1) := by decide +kernel
theorem dX2_carriedFrom_29 : decode cX2_carriedFrom 29 = .ok (.aload_n 0, 1) := by decide +kernel
theorem dX2_carriedFrom_30 : decode cX2_carriedFrom 30 = .ok (.iload_n 1, 1) := by decide +kernel
theorem dX2_carriedFrom_31 : decode cX2_carriedFrom 31 = .ok (.aload_n 2, 1) := by decide +kernel
theorem dX2_carriedFrom_32 : decode cX2_carriedFrom 32 = .ok (.getfield 66, 3) := by decide +kernel
theorem dX2_carriedFrom_35 : decode cX2_carriedFrom 35 = .ok (.iconst 2, 1) := by decide +kernel
theorem dX2_carriedFrom_36 : decode cX2_carriedFrom 36 = .ok (.iaload, 1) := by decide +kernel
theorem dX2_carriedFrom_37 : decode cX2_carriedFrom 37 = .ok (.iload 5, 2) := by decide +kernel
theorem dX2_carriedFrom_39 : decode cX2_carriedFrom 39 = .ok (.invokevirtual 81, 3) := by decide +kernel
theorem dX2_carriedFrom_42 : decode cX2_carriedFrom 42 = .ok (.iadd, 1) := by decide +kernel
theorem dX2_carriedFrom_43 : decode cX2_carriedFrom 43 = .ok (.iload_n 3, 1) := by decide +kernel
theorem dX2_carriedFrom_44 : decode cX2_carriedFrom 44 = .ok (.if_icmp .le 9, 3) := by decide +kernel
theorem dX2_carriedFrom_47 : decode cX2_carriedFrom 47 = .ok (.iinc 5 1, 3) := by decide +kernel
theorem dX2_carriedFrom_50 : decode cX2_carriedFrom 50 = .ok (.goto (-34), 3) := by decide +kernel
theorem dX2_carriedFrom_53 : decode cX2_carriedFrom 53 = .ok (.iload 5, 2) := by decide +kernel
theorem dX2_carriedFrom_55 : decode cX2_carriedFrom 55 = .ok (.ireturn, 1) := by decide +kernel
theorem dX3_init_0 : decode cX3_init 0 = .ok (.aload_n 0, 1) := by decide +kernel
theorem dX3_init_1 : decode cX3_init 1 = .ok (.invokespecial 3, 3) := by decide +kernel
theorem dX3_init_4 : decode cX3_init 4 = .ok (.aload_n 0, 1) := by decide +kernel
theorem dX3_init_5 : decode cX3_init 5 = .ok (.bipush 6, 2) := by decide +kernel
theorem dX3_init_7 : decode cX3_init 7 = .ok (.anewarray 9, 3) := by decide +kernel
theorem dX3_init_10 : decode cX3_init 10 = .ok (.putfield 11, 3) := by decide +kernel
theorem dX3_init_13 : decode cX3_init 13 = .ok (.iconst 0, 1) := by decide +kernel
theorem dX3_init_14 : decode cX3_init 14 = .ok (.istore_n 1, 1) := by decide +kernel
theorem dX3_init_15 : decode cX3_init 15 = .ok (.iload_n 1, 1) := by decide +kernel
theorem dX3_init_16 : decode cX3_init 16 = .ok (.bipush 6, 2) := by decide +kernel
theorem dX3_init_18 : decode cX3_init 18 = .ok (.if_icmp .ge 22, 3) := by decide +kernel
theorem dX3_init_21 : decode cX3_init 21 = .ok (.aload_n 0, 1) := by decide +kernel
theorem dX3_init_22 : decode cX3_init 22 = .ok (.getfield 11, 3) := by decide +kernel
theorem dX3_init_25 : decode cX3_init 25 = .ok (.iload_n 1, 1) := by decide +kernel
theorem dX3_init_26 : decode cX3_init 26 = .ok (.new 9, 3) := by decide +kernel
theorem dX3_init_29 : decode cX3_init 29 = .ok (.dup, 1) := by decide +kernel
theorem dX3_init_30 : decode cX3_init 30 = .ok (.invokespecial 17, 3) := by decide +kernel
theorem dX3_init_33 : decode cX3_init 33 = .ok (.aastore, 1) := by decide +kernel
theorem dX3_init_34 : decode cX3_init 34 = .ok (.iinc 1 1, 3) := by decide +kernel
theorem dX3_init_37 : decode cX3_init 37 = .ok (.goto (-22), 3) := by decide +kernel
theorem dX3_init_40 : decode cX3_init 40 = .ok (.return_, 1) := by decide +kernel
theorem dX3_record_0 : decode cX3_record 0 = .ok (.aload_n 0, 1) := by decide +kernel
theorem dX3_record_1 : decode cX3_record 1 = .ok (.getfield 11, 3) := by decide +kernel
theorem dX3_record_4 : decode cX3_record 4 = .ok (.aload_n 0, 1) := by decide +kernel
theorem dX3_record_5 : decode cX3_record 5 = .ok (.getfield 18, 3) := by decide +kernel
theorem dX3_record_8 : decode cX3_record 8 = .ok (.aaload, 1) := by decide +kernel
theorem dX3_record_9 : decode cX3_record 9 = .ok (.astore_n 2, 1) := by decide +kernel
theorem dX3_record_10 : decode cX3_record 10 = .ok (.aload_n 2, 1) := by decide +kernel
theorem dX3_record_11 : decode cX3_record 11 = .ok (.ifnull 8, 3) := by decide +kernel
theorem dX3_record_14 : decode cX3_record 14 = .ok (.aload_n 2, 1) := by decide +kernel
theorem dX3_record_15 : decode cX3_record 15 = .ok (.aload_n 1, 1) := by decide +kernel
theorem dX3_record_16 : decode cX3_record 16 = .ok (.invokevirtual 22, 3) := by decide +kernel
theorem dX3_record_19 : decode cX3_record 19 = .ok (.aload_n 0, 1) := by decide +kernel
theorem dX3_record_20 : decode cX3_record 20 = .ok (.aload_n 0, 1) := by decide +kernel
theorem dX3_record_21 : decode cX3_record 21 = .ok (.getfield 18, 3) := by decide +kernel
theorem dX3_record_24 : decode cX3_record 24 = .ok (.iconst 1, 1) := by decide +kernel
theorem dX3_record_25 : decode cX3_record 25 = .ok (.iadd, 1) := by decide +kernel
theorem dX3_record_26 : decode cX3_record 26 = .ok (.bipush 6, 2) := by decide +kernel
theorem dX3_record_28 : decode cX3_record 28 = .ok (.if_icmp .ge 12, 3) := by decide +kernel
theorem dX3_record_31 : decode cX3_record 31 = .ok (.aload_n 0, 1) := by decide +kernel
theorem dX3_record_32 : decode cX3_record 32 = .ok (.getfield 18, 3) := by decide +kernel
theorem dX3_record_35 : decode cX3_record 35 = .ok (.iconst 1, 1) := by decide +kernel
theorem dX3_record_36 : decode cX3_record 36 = .ok (.iadd, 1) := by decide +kernel
theorem dX3_record_37 : decode cX3_record 37 = .ok (.goto 4, 3) := by decide +kernel
theorem dX3_record_40 : decode cX3_record 40 = .ok (.iconst 0, 1) := by decide +kernel
theorem dX3_record_41 : decode cX3_record 41 = .ok (.putfield 18, 3) := by decide +kernel
theorem dX3_record_44 : decode cX3_record 44 = .ok (.aload_n 0, 1) := by decide +kernel
theorem dX3_record_45 : decode cX3_record 45 = .ok (.aload_n 0, 1) := by decide +kernel
theorem dX3_record_46 : decode cX3_record 46 = .ok (.getfield 26, 3) := by decide +kernel
theorem dX3_record_49 : decode cX3_record 49 = .ok (.iconst 1, 1) := by decide +kernel
theorem dX3_record_50 : decode cX3_record 50 = .ok (.iadd, 1) := by decide +kernel
theorem dX3_record_51 : decode cX3_record 51 = .ok (.bipush 6, 2) := by decide +kernel
theorem dX3_record_53 : decode cX3_record 53 = .ok (.invokestatic 29, 3) := by decide +kernel
theorem dX3_record_56 : decode cX3_record 56 = .ok (.putfield 26, 3) := by decide +kernel
theorem dX3_record_59 : decode cX3_record 59 = .ok (.return_, 1) := by decide +kernel
theorem dX3_restore_0 : decode cX3_restore 0 = .ok (.aload_n 0, 1) := by decide +kernel
theorem dX3_restore_1 : decode cX3_restore 1 = .ok (.aload_n 0, 1) := by decide +kernel
theorem dX3_restore_2 : decode cX3_restore 2 = .ok (.getfield 18, 3) := by decide +kernel
theorem dX3_restore_5 : decode cX3_restore 5 = .ok (.ifCond .le 12, 3) := by decide +kernel
theorem dX3_restore_8 : decode cX3_restore 8 = .ok (.aload_n 0, 1) := by decide +kernel
theorem dX3_restore_9 : decode cX3_restore 9 = .ok (.getfield 18, 3) := by decide +kernel
theorem dX3_restore_12 : decode cX3_restore 12 = .ok (.iconst 1, 1) := by decide +kernel
theorem dX3_restore_13 : decode cX3_restore 13 = .ok (.isub, 1) := by decide +kernel
theorem dX3_restore_14 : decode cX3_restore 14 = .ok (.goto 4, 3) := by decide +kernel
theorem dX3_restore_17 : decode cX3_restore 17 = .ok (.iconst 5, 1) := by decide +kernel
theorem dX3_restore_18 : decode cX3_restore 18 = .ok (.putfield 18, 3) := by decide +kernel
theorem dX3_restore_21 : decode cX3_restore 21 = .ok (.aload_n 0, 1) := by decide +kernel
theorem dX3_restore_22 : decode cX3_restore 22 = .ok (.dup, 1) := by decide +kernel
theorem dX3_restore_23 : decode cX3_restore 23 = .ok (.getfield 26, 3) := by decide +kernel
theorem dX3_restore_26 : decode cX3_restore 26 = .ok (.iconst 1, 1) := by decide +kernel
theorem dX3_restore_27 : decode cX3_restore 27 = .ok (.isub, 1) := by decide +kernel
theorem dX3_restore_28 : decode cX3_restore 28 = .ok (.putfield 26, 3) := by decide +kernel
theorem dX3_restore_31 : decode cX3_restore 31 = .ok (.aload_n 0, 1) := by decide +kernel
theorem dX3_restore_32 : decode cX3_restore 32 = .ok (.getfield 11, 3) := by decide +kernel
theorem dX3_restore_35 : decode cX3_restore 35 = .ok (.aload_n 0, 1) := by decide +kernel
theorem dX3_restore_36 : decode cX3_restore 36 = .ok (.getfield 18, 3) := by decide +kernel
theorem dX3_restore_39 : decode cX3_restore 39 = .ok (.aaload, 1) := by decide +kernel
theorem dX3_restore_40 : decode cX3_restore 40 = .ok (.astore_n 2, 1) := by decide +kernel
theorem dX3_restore_41 : decode cX3_restore 41 = .ok (.aload_n 2, 1) := by decide +kernel
theorem dX3_restore_42 : decode cX3_restore 42 = .ok (.ifnull 8, 3) := by decide +kernel
theorem dX3_restore_45 : decode cX3_restore 45 = .ok (.aload_n 1, 1) := by decide +kernel
theorem dX3_restore_46 : decode cX3_restore 46 = .ok (.aload_n 2, 1) := by decide +kernel
theorem dX3_restore_47 : decode cX3_restore 47 = .ok (.invokevirtual 22, 3) := by decide +kernel
theorem dX3_restore_50 : decode cX3_restore 50 = .ok (.return_, 1) := by decide +kernel
theorem dX4_init_0 : decode cX4_init 0 = .ok (.aload_n 0, 1) := by decide +kernel
theorem dX4_init_1 : decode cX4_init 1 = .ok (.invokespecial 3, 3) := by decide +kernel
theorem dX4_init_4 : decode cX4_init 4 = .ok (.aload_n 0, 1) := by decide +kernel
theorem dX4_init_5 : decode cX4_init 5 = .ok (.iconst 3, 1) := by decide +kernel
theorem dX4_init_6 : decode cX4_init 6 = .ok (.bipush 40, 2) := by decide +kernel
theorem dX4_init_8 : decode cX4_init 8 = .ok (.multianewarray 9 2, 4) := by decide +kernel
theorem dX4_init_12 : decode cX4_init 12 = .ok (.putfield 11, 3) := by decide +kernel
theorem dX4_init_15 : decode cX4_init 15 = .ok (.return_, 1) := by decide +kernel
theorem dX4_before_0 : decode cX4_before 0 = .ok (.aload_n 0, 1) := by decide +kernel
theorem dX4_before_1 : decode cX4_before 1 = .ok (.iconst 0, 1) := by decide +kernel
theorem dX4_before_2 : decode cX4_before 2 = .ok (.iload_n 1, 1) := by decide +kernel
theorem dX4_before_3 : decode cX4_before 3 = .ok (.iload_n 2, 1) := by decide +kernel
theorem dX4_before_4 : decode cX4_before 4 = .ok (.invokevirtual 16, 3) := by decide +kernel
theorem dX4_before_7 : decode cX4_before 7 = .ok (.ireturn, 1) := by decide +kernel
theorem dX4_endBefore_0 : decode cX4_endBefore 0 = .ok (.aload_n 0, 1) := by decide +kernel
theorem dX4_endBefore_1 : decode cX4_endBefore 1 = .ok (.getfield 11, 3) := by decide +kernel
theorem dX4_endBefore_4 : decode cX4_endBefore 4 = .ok (.iconst 0, 1) := by decide +kernel
theorem dX4_endBefore_5 : decode cX4_endBefore 5 = .ok (.aaload, 1) := by decide +kernel
theorem dX4_endBefore_6 : decode cX4_endBefore 6 = .ok (.astore 4, 2) := by decide +kernel
theorem dX4_endBefore_8 : decode cX4_endBefore 8 = .ok (.iload_n 1, 1) := by decide +kernel
theorem dX4_endBefore_9 : decode cX4_endBefore 9 = .ok (.istore 5, 2) := by decide +kernel
theorem dX4_endBefore_11 : decode cX4_endBefore 11 = .ok (.iload 5, 2) := by decide +kernel
theorem dX4_endBefore_13 : decode cX4_endBefore 13 = .ok (.aload_n 0, 1) := by decide +kernel
theorem dX4_endBefore_14 : decode cX4_endBefore 14 = .ok (.getfield 20, 3) := by decide +kernel
theorem dX4_endBefore_17 : decode cX4_endBefore 17 = .ok (.if_icmp .ge 40, 3) := by decide +kernel
theorem dX4_endBefore_20 : decode cX4_endBefore 20 = .ok (.aload 4, 2) := by decide +kernel
theorem dX4_endBefore_22 : decode cX4_endBefore 22 = .ok (.iload 5, 2) := by decide +kernel
theorem dX4_endBefore_24 : decode cX4_endBefore 24 = .ok (.iaload, 1) := by decide +kernel
theorem dX4_endBefore_25 : decode cX4_endBefore 25 = .ok (.iload_n 2, 1) := by decide +kernel
theorem dX4_endBefore_26 : decode cX4_endBefore 26 = .ok (.if_icmp .lt 25, 3) := by decide +kernel
theorem dX4_endBefore_29 : decode cX4_endBefore 29 = .ok (.aload 4, 2) := by decide +kernel
theorem dX4_endBefore_31 : decode cX4_endBefore 31 = .ok (.iload 5, 2) := by decide +kernel
theorem dX4_endBefore_33 : decode cX4_endBefore 33 = .ok (.iaload, 1) := by decide +kernel
theorem dX4_endBefore_34 : decode cX4_endBefore 34 = .ok (.iload_n 2, 1) := by decide +kernel
theorem dX4_endBefore_35 : decode cX4_endBefore 35 = .ok (.if_icmp .ne 22, 3) := by decide +kernel
theorem dX4_endBefore_38 : decode cX4_endBefore 38 = .ok (.aload_n 0, 1) := by decide +kernel
theorem dX4_endBefore_39 : decode cX4_endBefore 39 = .ok (.getfield 11, 3) := by decide +kernel
theorem dX4_endBefore_42 : decode cX4_endBefore 42 = .ok (.iconst 1, 1) := by decide +kernel
theorem dX4_endBefore_43 : decode cX4_endBefore 43 = .ok (.aaload, 1) := by decide +kernel
theorem dX4_endBefore_44 : decode cX4_endBefore 44 = .ok (.iload 5, 2) := by decide +kernel
theorem dX4_endBefore_46 : decode cX4_endBefore 46 = .ok (.iaload, 1) := by decide +kernel
theorem dX4_endBefore_47 : decode cX4_endBefore 47 = .ok (.iload_n 3, 1) := by decide +kernel
theorem dX4_endBefore_48 : decode cX4_endBefore 48 = .ok (.if_icmp .ge 9, 3) := by decide +kernel
theorem dX4_endBefore_51 : decode cX4_endBefore 51 = .ok (.iinc 5 1, 3) := by decide +kernel
theorem dX4_endBefore_54 : decode cX4_endBefore 54 = .ok (.goto (-43), 3) := by decide +kernel
theorem dX4_endBefore_57 : decode cX4_endBefore 57 = .ok (.iload 5, 2) := by decide +kernel
theorem dX4_endBefore_59 : decode cX4_endBefore 59 = .ok (.ireturn, 1) := by decide +kernel
theorem dX4_standFrom_0 : decode cX4_standFrom 0 = .ok (.aload_n 0, 1) := by decide +kernel
theorem dX4_standFrom_1 : decode cX4_standFrom 1 = .ok (.iload_n 1, 1) := by decide +kernel
theorem dX4_standFrom_2 : decode cX4_standFrom 2 = .ok (.iload_n 2, 1) := by decide +kernel
theorem dX4_standFrom_3 : decode cX4_standFrom 3 = .ok (.invokevirtual 24, 3) := by decide +kernel
theorem dX4_standFrom_6 : decode cX4_standFrom 6 = .ok (.aload_n 0, 1) := by decide +kernel
theorem dX4_standFrom_7 : decode cX4_standFrom 7 = .ok (.iload_n 1, 1) := by decide +kernel
theorem dX4_standFrom_8 : decode cX4_standFrom 8 = .ok (.iconst 1, 1) := by decide +kernel
theorem dX4_standFrom_9 : decode cX4_standFrom 9 = .ok (.iadd, 1) := by decide +kernel
theorem dX4_standFrom_10 : decode cX4_standFrom 10 = .ok (.iconst 0, 1) := by decide +kernel
theorem dX4_standFrom_11 : decode cX4_standFrom 11 = .ok (.invokevirtual 24, 3) := by decide +kernel
theorem dX4_standFrom_14 : decode cX4_standFrom 14 = .ok (.if_icmp .ge 7, 3) := by decide +kernel
theorem dX4_standFrom_17 : decode cX4_standFrom 17 = .ok (.iconst 1, 1) := by decide +kernel
theorem dX4_standFrom_18 : decode cX4_standFrom 18 = .ok (.goto 4, 3) := by decide +kernel
theorem dX4_standFrom_21 : decode cX4_standFrom 21 = .ok (.iconst 0, 1) := by decide +kernel
theorem dX4_standFrom_22 : decode cX4_standFrom 22 = .ok (.ireturn, 1) := by decide +kernel
theorem dX4_place_0 : decode cX4_place 0 = .ok (.aload_n 0, 1) := by decide +kernel
theorem dX4_place_1 : decode cX4_place 1 = .ok (.iload_n 1, 1) := by decide +kernel
theorem dX4_place_2 : decode cX4_place 2 = .ok (.iload_n 2, 1) := by decide +kernel
theorem dX4_place_3 : decode cX4_place 3 = .ok (.iconst 1, 1) := by decide +kernel
theorem dX4_place_4 : decode cX4_place 4 = .ok (.iadd, 1) := by decide +kernel
theorem dX4_place_5 : decode cX4_place 5 = .ok (.invokevirtual 24, 3) := by decide +kernel
theorem dX4_place_8 : decode cX4_place 8 = .ok (.istore 4, 2) := by decide +kernel
theorem dX4_place_10 : decode cX4_place 10 = .ok (.aload_n 0, 1) := by decide +kernel
theorem dX4_place_11 : decode cX4_place 11 = .ok (.getfield 20, 3) := by decide +kernel
theorem dX4_place_14 : decode cX4_place 14 = .ok (.bipush 40, 2) := by decide +kernel
theorem dX4_place_16 : decode cX4_place 16 = .ok (.if_icmp .lt 6, 3) := by decide +kernel
theorem dX4_place_19 : decode cX4_place 19 = .ok (.iload 4, 2) := by decide +kernel
theorem dX4_place_21 : decode cX4_place 21 = .ok (.ireturn, 1) := by decide +kernel
theorem dX4_place_22 : decode cX4_place 22 = .ok (.iconst 0, 1) := by decide +kernel
theorem dX4_place_23 : decode cX4_place 23 = .ok (.istore 5, 2) := by decide +kernel
theorem dX4_place_25 : decode cX4_place 25 = .ok (.iload 5, 2) := by decide +kernel
theorem dX4_place_27 : decode cX4_place 27 = .ok (.iconst 3, 1) := by decide +kernel
theorem dX4_place_28 : decode cX4_place 28 = .ok (.if_icmp .ge 25, 3) := by decide +kernel
theorem dX4_place_31 : decode cX4_place 31 = .ok (.aload_n 0, 1) := by decide +kernel
theorem dX4_place_32 : decode cX4_place 32 = .ok (.getfield 11, 3) := by decide +kernel
theorem dX4_place_35 : decode cX4_place 35 = .ok (.iload 5, 2) := by decide +kernel
theorem dX4_place_37 : decode cX4_place 37 = .ok (.aaload, 1) := by decide +kernel
theorem dX4_place_38 : decode cX4_place 38 = .ok (.iload 4, 2) := by decide +kernel
theorem dX4_place_40 : decode cX4_place 40 = .ok (.aload_n 0, 1) := by decide +kernel
theorem dX4_place_41 : decode cX4_place 41 = .ok (.getfield 20, 3) := by decide +kernel
theorem dX4_place_44 : decode cX4_place 44 = .ok (.invokestatic 28, 3) := by decide +kernel
theorem dX4_place_47 : decode cX4_place 47 = .ok (.iinc 5 1, 3) := by decide +kernel
theorem dX4_place_50 : decode cX4_place 50 = .ok (.goto (-25), 3) := by decide +kernel
theorem dX4_place_53 : decode cX4_place 53 = .ok (.aload_n 0, 1) := by decide +kernel
theorem dX4_place_54 : decode cX4_place 54 = .ok (.getfield 11, 3) := by decide +kernel
theorem dX4_place_57 : decode cX4_place 57 = .ok (.iconst 0, 1) := by decide +kernel
theorem dX4_place_58 : decode cX4_place 58 = .ok (.aaload, 1) := by decide +kernel
theorem dX4_place_59 : decode cX4_place 59 = .ok (.iload 4, 2) := by decide +kernel
theorem dX4_place_61 : decode cX4_place 61 = .ok (.iload_n 1, 1) := by decide +kernel
theorem dX4_place_62 : decode cX4_place 62 = .ok (.iastore, 1) := by decide +kernel
theorem dX4_place_63 : decode cX4_place 63 = .ok (.aload_n 0, 1) := by decide +kernel
theorem dX4_place_64 : decode cX4_place 64 = .ok (.getfield 11, 3) := by decide +kernel
theorem dX4_place_67 : decode cX4_place 67 = .ok (.iconst 1, 1) := by decide +kernel
theorem dX4_place_68 : decode cX4_place 68 = .ok (.aaload, 1) := by decide +kernel
theorem dX4_place_69 : decode cX4_place 69 = .ok (.iload 4, 2) := by decide +kernel
theorem dX4_place_71 : decode cX4_place 71 = .ok (.iload_n 2, 1) := by decide +kernel
theorem dX4_place_72 : decode cX4_place 72 = .ok (.iastore, 1) := by decide +kernel
theorem dX4_place_73 : decode cX4_place 73 = .ok (.aload_n 0, 1) := by decide +kernel
theorem dX4_place_74 : decode cX4_place 74 = .ok (.getfield 11, 3) := by decide +kernel
theorem dX4_place_77 : decode cX4_place 77 = .ok (.iconst 2, 1) := by decide +kernel
theorem dX4_place_78 : decode cX4_place 78 = .ok (.aaload, 1) := by decide +kernel
theorem dX4_place_79 : decode cX4_place 79 = .ok (.iload 4, 2) := by decide +kernel
theorem dX4_place_81 : decode cX4_place 81 = .ok (.iload_n 3, 1) := by decide +kernel
theorem dX4_place_82 : decode cX4_place 82 = .ok (.iastore, 1) := by decide +kernel
theorem dX4_place_83 : decode cX4_place 83 = .ok (.aload_n 0, 1) := by decide +kernel
theorem dX4_place_84 : decode cX4_place 84 = .ok (.dup, 1) := by decide +kernel
theorem dX4_place_85 : decode cX4_place 85 = .ok (.getfield 20, 3) := by decide +kernel
theorem dX4_place_88 : decode cX4_place 88 = .ok (.iconst 1, 1) := by decide +kernel
theorem dX4_place_89 : decode cX4_place 89 = .ok (.iadd, 1) := by decide +kernel
theorem dX4_place_90 : decode cX4_place 90 = .ok (.putfield 20, 3) := by decide +kernel
theorem dX4_place_93 : decode cX4_place 93 = .ok (.iload 4, 2) := by decide +kernel
theorem dX4_place_95 : decode cX4_place 95 = .ok (.ireturn, 1) := by decide +kernel
theorem dX4_drop_0 : decode cX4_drop 0 = .ok (.iconst 0, 1) := by decide +kernel
theorem dX4_drop_1 : decode cX4_drop 1 = .ok (.istore_n 2, 1) := by decide +kernel
theorem dX4_drop_2 : decode cX4_drop 2 = .ok (.iload_n 2, 1) := by decide +kernel
theorem dX4_drop_3 : decode cX4_drop 3 = .ok (.iconst 3, 1) := by decide +kernel
theorem dX4_drop_4 : decode cX4_drop 4 = .ok (.if_icmp .ge 23, 3) := by decide +kernel
theorem dX4_drop_7 : decode cX4_drop 7 = .ok (.aload_n 0, 1) := by decide +kernel
theorem dX4_drop_8 : decode cX4_drop 8 = .ok (.getfield 11, 3) := by decide +kernel
theorem dX4_drop_11 : decode cX4_drop 11 = .ok (.iload_n 2, 1) := by decide +kernel
theorem dX4_drop_12 : decode cX4_drop 12 = .ok (.aaload, 1) := by decide +kernel
theorem dX4_drop_13 : decode cX4_drop 13 = .ok (.iload_n 1, 1) := by decide +kernel
theorem dX4_drop_14 : decode cX4_drop 14 = .ok (.aload_n 0, 1) := by decide +kernel
theorem dX4_drop_15 : decode cX4_drop 15 = .ok (.getfield 20, 3) := by decide +kernel
theorem dX4_drop_18 : decode cX4_drop 18 = .ok (.invokestatic 32, 3) := by decide +kernel
theorem dX4_drop_21 : decode cX4_drop 21 = .ok (.iinc 2 1, 3) := by decide +kernel
theorem dX4_drop_24 : decode cX4_drop 24 = .ok (.goto (-22), 3) := by decide +kernel
theorem dX4_drop_27 : decode cX4_drop 27 = .ok (.aload_n 0, 1) := by decide +kernel
theorem dX4_drop_28 : decode cX4_drop 28 = .ok (.dup, 1) := by decide +kernel
theorem dX4_drop_29 : decode cX4_drop 29 = .ok (.getfield 20, 3) := by decide +kernel
theorem dX4_drop_32 : decode cX4_drop 32 = .ok (.iconst 1, 1) := by decide +kernel
theorem dX4_drop_33 : decode cX4_drop 33 = .ok (.isub, 1) := by decide +kernel
theorem dX4_drop_34 : decode cX4_drop 34 = .ok (.putfield 20, 3) := by decide +kernel
theorem dX4_drop_37 : decode cX4_drop 37 = .ok (.return_, 1) := by decide +kernel
theorem dX4_dropPair_0 : decode cX4_dropPair 0 = .ok (.aload_n 0, 1) := by decide +kernel
theorem dX4_dropPair_1 : decode cX4_dropPair 1 = .ok (.iload_n 1, 1) := by decide +kernel
theorem dX4_dropPair_2 : decode cX4_dropPair 2 = .ok (.iconst 0, 1) := by decide +kernel
theorem dX4_dropPair_3 : decode cX4_dropPair 3 = .ok (.invokevirtual 24, 3) := by decide +kernel
theorem dX4_dropPair_6 : decode cX4_dropPair 6 = .ok (.istore_n 2, 1) := by decide +kernel
theorem dX4_dropPair_7 : decode cX4_dropPair 7 = .ok (.aload_n 0, 1) := by decide +kernel
theorem dX4_dropPair_8 : decode cX4_dropPair 8 = .ok (.iload_n 1, 1) := by decide +kernel
theorem dX4_dropPair_9 : decode cX4_dropPair 9 = .ok (.iconst 1, 1) := by decide +kernel
theorem dX4_dropPair_10 : decode cX4_dropPair 10 = .ok (.iadd, 1) := by decide +kernel
theorem dX4_dropPair_11 : decode cX4_dropPair 11 = .ok (.iconst 0, 1) := by decide +kernel
theorem dX4_dropPair_12 : decode cX4_dropPair 12 = .ok (.invokevirtual 24, 3) := by decide +kernel
theorem dX4_dropPair_15 : decode cX4_dropPair 15 = .ok (.iconst 1, 1) := by decide +kernel
theorem dX4_dropPair_16 : decode cX4_dropPair 16 = .ok (.isub, 1) := by decide +kernel
theorem dX4_dropPair_17 : decode cX4_dropPair 17 = .ok (.istore_n 3, 1) := by decide +kernel
theorem dX4_dropPair_18 : decode cX4_dropPair 18 = .ok (.iload_n 3, 1) := by decide +kernel
theorem dX4_dropPair_19 : decode cX4_dropPair 19 = .ok (.iload_n 2, 1) := by decide +kernel
theorem dX4_dropPair_20 : decode cX4_dropPair 20 = .ok (.if_icmp .lt 14, 3) := by decide +kernel
theorem dX4_dropPair_23 : decode cX4_dropPair 23 = .ok (.aload_n 0, 1) := by decide +kernel
theorem dX4_dropPair_24 : decode cX4_dropPair 24 = .ok (.iload_n 3, 1) := by decide +kernel
theorem dX4_dropPair_25 : decode cX4_dropPair 25 = .ok (.invokevirtual 35, 3) := by decide +kernel
theorem dX4_dropPair_28 : decode cX4_dropPair 28 = .ok (.iinc 3 (-1), 3) := by decide +kernel
theorem dX4_dropPair_31 : decode cX4_dropPair 31 = .ok (.goto (-13), 3) := by decide +kernel
theorem dX4_dropPair_34 : decode cX4_dropPair 34 = .ok (.aload_n 0, 1) := by decide +kernel
theorem dX4_dropPair_35 : decode cX4_dropPair 35 = .ok (.iload_n 1, 1) := by decide +kernel
theorem dX4_dropPair_36 : decode cX4_dropPair 36 = .ok (.iconst (-1), 1) := by decide +kernel
theorem dX4_dropPair_37 : decode cX4_dropPair 37 = .ok (.invokevirtual 39, 3) := by decide +kernel
theorem dX4_dropPair_40 : decode cX4_dropPair 40 = .ok (.return_, 1) := by decide +kernel
theorem dX4_movePairs_0 : decode cX4_movePairs 0 = .ok (.aload_n 0, 1) := by decide +kernel
theorem dX4_movePairs_1 : decode cX4_movePairs 1 = .ok (.iload_n 1, 1) := by decide +kernel
theorem dX4_movePairs_2 : decode cX4_movePairs 2 = .ok (.iconst 0, 1) := by decide +kernel
theorem dX4_movePairs_3 : decode cX4_movePairs 3 = .ok (.invokevirtual 24, 3) := by decide +kernel
theorem dX4_movePairs_6 : decode cX4_movePairs 6 = .ok (.istore_n 3, 1) := by decide +kernel
theorem dX4_movePairs_7 : decode cX4_movePairs 7 = .ok (.iload_n 3, 1) := by decide +kernel
theorem dX4_movePairs_8 : decode cX4_movePairs 8 = .ok (.aload_n 0, 1) := by decide +kernel
theorem dX4_movePairs_9 : decode cX4_movePairs 9 = .ok (.getfield 20, 3) := by decide +kernel
theorem dX4_movePairs_12 : decode cX4_movePairs 12 = .ok (.if_icmp .ge 21, 3) := by decide +kernel
theorem dX4_movePairs_15 : decode cX4_movePairs 15 = .ok (.aload_n 0, 1) := by decide +kernel
theorem dX4_movePairs_16 : decode cX4_movePairs 16 = .ok (.getfield 11, 3) := by decide +kernel
theorem dX4_movePairs_19 : decode cX4_movePairs 19 = .ok (.iconst 0, 1) := by decide +kernel
theorem dX4_movePairs_20 : decode cX4_movePairs 20 = .ok (.aaload, 1) := by decide +kernel
theorem dX4_movePairs_21 : decode cX4_movePairs 21 = .ok (.iload_n 3, 1) := by decide +kernel
theorem dX4_movePairs_22 : decode cX4_movePairs 22 = .ok (.dup2, 1) := by decide +kernel
theorem dX4_movePairs_23 : decode cX4_movePairs 23 = .ok (.iaload, 1) := by decide +kernel
theorem dX4_movePairs_24 : decode cX4_movePairs 24 = .ok (.iload_n 2, 1) := by decide +kernel
theorem dX4_movePairs_25 : decode cX4_movePairs 25 = .ok (.iadd, 1) := by decide +kernel
theorem dX4_movePairs_26 : decode cX4_movePairs 26 = .ok (.iastore, 1) := by decide +kernel
theorem dX4_movePairs_27 : decode cX4_movePairs 27 = .ok (.iinc 3 1, 3) := by decide +kernel
theorem dX4_movePairs_30 : decode cX4_movePairs 30 = .ok (.goto (-23), 3) := by decide +kernel
theorem dX4_movePairs_33 : decode cX4_movePairs 33 = .ok (.return_, 1) := by decide +kernel
theorem dX4_copyFrom_0 : decode cX4_copyFrom 0 = .ok (.aload_n 0, 1) := by decide +kernel
theorem dX4_copyFrom_1 : decode cX4_copyFrom 1 = .ok (.aload_n 1, 1) := by decide +kernel
theorem dX4_copyFrom_2 : decode cX4_copyFrom 2 = .ok (.getfield 20, 3) := by decide +kernel
theorem dX4_copyFrom_5 : decode cX4_copyFrom 5 = .ok (.putfield 20, 3) := by decide +kernel
theorem dX4_copyFrom_8 : decode cX4_copyFrom 8 = .ok (.aload_n 1, 1) := by decide +kernel
theorem dX4_copyFrom_9 : decode cX4_copyFrom 9 = .ok (.getfield 11, 3) := by decide +kernel
theorem dX4_copyFrom_12 : decode cX4_copyFrom 12 = .ok (.aload_n 0, 1) := by decide +kernel
theorem dX4_copyFrom_13 : decode cX4_copyFrom 13 = .ok (.getfield 11, 3) := by decide +kernel
theorem dX4_copyFrom_16 : decode cX4_copyFrom 16 = .ok (.invokestatic 43, 3) := by decide +kernel
theorem dX4_copyFrom_19 : decode cX4_copyFrom 19 = .ok (.return_, 1) := by decide +kernel
theorem dX5_init_0 : decode cX5_init 0 = .ok (.aload_n 0, 1) := by decide +kernel
theorem dX5_init_1 : decode cX5_init 1 = .ok (.invokespecial 3, 3) := by decide +kernel
theorem dX5_init_4 : decode cX5_init 4 = .ok (.aload_n 0, 1) := by decide +kernel
theorem dX5_init_5 : decode cX5_init 5 = .ok (.iconst 2, 1) := by decide +kernel
theorem dX5_init_6 : decode cX5_init 6 = .ok (.newarray .int, 2) := by decide +kernel
theorem dX5_init_8 : decode cX5_init 8 = .ok (.putfield 9, 3) := by decide +kernel
theorem dX5_init_11 : decode cX5_init 11 = .ok (.aload_n 0, 1) := by decide +kernel
theorem dX5_init_12 : decode cX5_init 12 = .ok (.iconst 2, 1) := by decide +kernel
theorem dX5_init_13 : decode cX5_init 13 = .ok (.newarray .int, 2) := by decide +kernel
theorem dX5_init_15 : decode cX5_init 15 = .ok (.putfield 15, 3) := by decide +kernel
theorem dX5_init_18 : decode cX5_init 18 = .ok (.return_, 1) := by decide +kernel
theorem dX5_takePair_0 : decode cX5_takePair 0 = .ok (.aload_n 0, 1) := by decide +kernel
theorem dX5_takePair_1 : decode cX5_takePair 1 = .ok (.iload_n 2, 1) := by decide +kernel
theorem dX5_takePair_2 : decode cX5_takePair 2 = .ok (.putfield 18, 3) := by decide +kernel
theorem dX5_takePair_5 : decode cX5_takePair 5 = .ok (.iconst 0, 1) := by decide +kernel
theorem dX5_takePair_6 : decode cX5_takePair 6 = .ok (.istore_n 3, 1) := by decide +kernel
theorem dX5_takePair_7 : decode cX5_takePair 7 = .ok (.iload_n 3, 1) := by decide +kernel
theorem dX5_takePair_8 : decode cX5_takePair 8 = .ok (.iconst 2, 1) := by decide +kernel
theorem dX5_takePair_9 : decode cX5_takePair 9 = .ok (.if_icmp .ge 42, 3) := by decide +kernel
theorem dX5_takePair_12 : decode cX5_takePair 12 = .ok (.aload_n 0, 1) := by decide +kernel
theorem dX5_takePair_13 : decode cX5_takePair 13 = .ok (.getfield 9, 3) := by decide +kernel
theorem dX5_takePair_16 : decode cX5_takePair 16 = .ok (.iload_n 3, 1) := by decide +kernel
theorem dX5_takePair_17 : decode cX5_takePair 17 = .ok (.iconst 0, 1) := by decide +kernel
theorem dX5_takePair_18 : decode cX5_takePair 18 = .ok (.iastore, 1) := by decide +kernel
theorem dX5_takePair_19 : decode cX5_takePair 19 = .ok (.aload_n 0, 1) := by decide +kernel
theorem dX5_takePair_20 : decode cX5_takePair 20 = .ok (.getfield 15, 3) := by decide +kernel
theorem dX5_takePair_23 : decode cX5_takePair 23 = .ok (.iload_n 3, 1) := by decide +kernel
theorem dX5_takePair_24 : decode cX5_takePair 24 = .ok (.aload_n 1, 1) := by decide +kernel
theorem dX5_takePair_25 : decode cX5_takePair 25 = .ok (.iload_n 2, 1) := by decide +kernel
theorem dX5_takePair_26 : decode cX5_takePair 26 = .ok (.invokevirtual 22, 3) := by decide +kernel
theorem dX5_takePair_29 : decode cX5_takePair 29 = .ok (.ifCond .eq 14, 3) := by decide +kernel
theorem dX5_takePair_32 : decode cX5_takePair 32 = .ok (.aload_n 1, 1) := by decide +kernel
theorem dX5_takePair_33 : decode cX5_takePair 33 = .ok (.getfield 28, 3) := by decide +kernel
theorem dX5_takePair_36 : decode cX5_takePair 36 = .ok (.iload_n 3, 1) := by decide +kernel
theorem dX5_takePair_37 : decode cX5_takePair 37 = .ok (.aaload, 1) := by decide +kernel
theorem dX5_takePair_38 : decode cX5_takePair 38 = .ok (.iload_n 2, 1) := by decide +kernel
theorem dX5_takePair_39 : decode cX5_takePair 39 = .ok (.iaload, 1) := by decide +kernel
theorem dX5_takePair_40 : decode cX5_takePair 40 = .ok (.goto 4, 3) := by decide +kernel
theorem dX5_takePair_43 : decode cX5_takePair 43 = .ok (.iconst 0, 1) := by decide +kernel
theorem dX5_takePair_44 : decode cX5_takePair 44 = .ok (.iastore, 1) := by decide +kernel
theorem dX5_takePair_45 : decode cX5_takePair 45 = .ok (.iinc 3 1, 3) := by decide +kernel
theorem dX5_takePair_48 : decode cX5_takePair 48 = .ok (.goto (-41), 3) := by decide +kernel
theorem dX5_takePair_51 : decode cX5_takePair 51 = .ok (.return_, 1) := by decide +kernel
theorem dX5_takeStart_0 : decode cX5_takeStart 0 = .ok (.aload_n 0, 1) := by decide +kernel
theorem dX5_takeStart_1 : decode cX5_takeStart 1 = .ok (.aload_n 1, 1) := by decide +kernel
theorem dX5_takeStart_2 : decode cX5_takeStart 2 = .ok (.getfield 18, 3) := by decide +kernel
theorem dX5_takeStart_5 : decode cX5_takeStart 5 = .ok (.putfield 18, 3) := by decide +kernel
theorem dX5_takeStart_8 : decode cX5_takeStart 8 = .ok (.aload_n 1, 1) := by decide +kernel
theorem dX5_takeStart_9 : decode cX5_takeStart 9 = .ok (.getfield 9, 3) := by decide +kernel
theorem dX5_takeStart_12 : decode cX5_takeStart 12 = .ok (.iconst 0, 1) := by decide +kernel
theorem dX5_takeStart_13 : decode cX5_takeStart 13 = .ok (.aload_n 0, 1) := by decide +kernel
theorem dX5_takeStart_14 : decode cX5_takeStart 14 = .ok (.getfield 9, 3) := by decide +kernel
theorem dX5_takeStart_17 : decode cX5_takeStart 17 = .ok (.iconst 0, 1) := by decide +kernel
theorem dX5_takeStart_18 : decode cX5_takeStart 18 = .ok (.iconst 2, 1) := by decide +kernel
theorem dX5_takeStart_19 : decode cX5_takeStart 19 = .ok (.invokestatic 32, 3) := by decide +kernel
theorem dX5_takeStart_22 : decode cX5_takeStart 22 = .ok (.aload_n 0, 1) := by decide +kernel
theorem dX5_takeStart_23 : decode cX5_takeStart 23 = .ok (.getfield 15, 3) := by decide +kernel
theorem dX5_takeStart_26 : decode cX5_takeStart 26 = .ok (.iconst 0, 1) := by decide +kernel
theorem dX5_takeStart_27 : decode cX5_takeStart 27 = .ok (.iload_n 2, 1) := by decide +kernel
theorem dX5_takeStart_28 : decode cX5_takeStart 28 = .ok (.iastore, 1) := by decide +kernel
theorem dX5_takeStart_29 : decode cX5_takeStart 29 = .ok (.aload_n 0, 1) := by decide +kernel
theorem dX5_takeStart_30 : decode cX5_takeStart 30 = .ok (.getfield 15, 3) := by decide +kernel
theorem dX5_takeStart_33 : decode cX5_takeStart 33 = .ok (.iconst 1, 1) := by decide +kernel
theorem dX5_takeStart_34 : decode cX5_takeStart 34 = .ok (.iload_n 3, 1) := by decide +kernel
theorem dX5_takeStart_35 : decode cX5_takeStart 35 = .ok (.iastore, 1) := by decide +kernel
theorem dX5_takeStart_36 : decode cX5_takeStart 36 = .ok (.return_, 1) := by decide +kernel
theorem dX5_dropStart_0 : decode cX5_dropStart 0 = .ok (.iconst 0, 1) := by decide +kernel
theorem dX5_dropStart_1 : decode cX5_dropStart 1 = .ok (.istore_n 2, 1) := by decide +kernel
theorem dX5_dropStart_2 : decode cX5_dropStart 2 = .ok (.iload_n 2, 1) := by decide +kernel
theorem dX5_dropStart_3 : decode cX5_dropStart 3 = .ok (.iconst 2, 1) := by decide +kernel
theorem dX5_dropStart_4 : decode cX5_dropStart 4 = .ok (.if_icmp .ge 39, 3) := by decide +kernel
theorem dX5_dropStart_7 : decode cX5_dropStart 7 = .ok (.aload_n 0, 1) := by decide +kernel
theorem dX5_dropStart_8 : decode cX5_dropStart 8 = .ok (.getfield 9, 3) := by decide +kernel
theorem dX5_dropStart_11 : decode cX5_dropStart 11 = .ok (.iload_n 2, 1) := by decide +kernel
theorem dX5_dropStart_12 : decode cX5_dropStart 12 = .ok (.dup2, 1) := by decide +kernel
theorem dX5_dropStart_13 : decode cX5_dropStart 13 = .ok (.iaload, 1) := by decide +kernel
theorem dX5_dropStart_14 : decode cX5_dropStart 14 = .ok (.aload_n 1, 1) := by decide +kernel
theorem dX5_dropStart_15 : decode cX5_dropStart 15 = .ok (.getfield 15, 3) := by decide +kernel
theorem dX5_dropStart_18 : decode cX5_dropStart 18 = .ok (.iload_n 2, 1) := by decide +kernel
theorem dX5_dropStart_19 : decode cX5_dropStart 19 = .ok (.iaload, 1) := by decide +kernel
theorem dX5_dropStart_20 : decode cX5_dropStart 20 = .ok (.iadd, 1) := by decide +kernel
theorem dX5_dropStart_21 : decode cX5_dropStart 21 = .ok (.iastore, 1) := by decide +kernel
theorem dX5_dropStart_22 : decode cX5_dropStart 22 = .ok (.aload_n 0, 1) := by decide +kernel
theorem dX5_dropStart_23 : decode cX5_dropStart 23 = .ok (.getfield 15, 3) := by decide +kernel
theorem dX5_dropStart_26 : decode cX5_dropStart 26 = .ok (.iload_n 2, 1) := by decide +kernel
theorem dX5_dropStart_27 : decode cX5_dropStart 27 = .ok (.dup2, 1) := by decide +kernel
theorem dX5_dropStart_28 : decode cX5_dropStart 28 = .ok (.iaload, 1) := by decide +kernel
theorem dX5_dropStart_29 : decode cX5_dropStart 29 = .ok (.aload_n 1, 1) := by decide +kernel
theorem dX5_dropStart_30 : decode cX5_dropStart 30 = .ok (.getfield 15, 3) := by decide +kernel
theorem dX5_dropStart_33 : decode cX5_dropStart 33 = .ok (.iload_n 2, 1) := by decide +kernel
theorem dX5_dropStart_34 : decode cX5_dropStart 34 = .ok (.iaload, 1) := by decide +kernel
theorem dX5_dropStart_35 : decode cX5_dropStart 35 = .ok (.isub, 1) := by decide +kernel
theorem dX5_dropStart_36 : decode cX5_dropStart 36 = .ok (.iastore, 1) := by decide +kernel
theorem dX5_dropStart_37 : decode cX5_dropStart 37 = .ok (.iinc 2 1, 3) := by decide +kernel
theorem dX5_dropStart_40 : decode cX5_dropStart 40 = .ok (.goto (-38), 3) := by decide +kernel
theorem dX5_dropStart_43 : decode cX5_dropStart 43 = .ok (.return_, 1) := by decide +kernel
theorem dX5_isBegun_0 : decode cX5_isBegun 0 = .ok (.aload_n 0, 1) := by decide +kernel
theorem dX5_isBegun_1 : decode cX5_isBegun 1 = .ok (.getfield 9, 3) := by decide +kernel
theorem dX5_isBegun_4 : decode cX5_isBegun 4 = .ok (.iconst 0, 1) := by decide +kernel
theorem dX5_isBegun_5 : decode cX5_isBegun 5 = .ok (.iaload, 1) := by decide +kernel
theorem dX5_isBegun_6 : decode cX5_isBegun 6 = .ok (.ifCond .le 7, 3) := by decide +kernel
theorem dX5_isBegun_9 : decode cX5_isBegun 9 = .ok (.iconst 1, 1) := by decide +kernel
theorem dX5_isBegun_10 : decode cX5_isBegun 10 = .ok (.goto 4, 3) := by decide +kernel
theorem dX5_isBegun_13 : decode cX5_isBegun 13 = .ok (.iconst 0, 1) := by decide +kernel
theorem dX5_isBegun_14 : decode cX5_isBegun 14 = .ok (.ireturn, 1) := by decide +kernel
theorem dX6_init_0 : decode cX6_init 0 = .ok (.aload_n 0, 1) := by decide +kernel
theorem dX6_init_1 : decode cX6_init 1 = .ok (.invokespecial 3, 3) := by decide +kernel
theorem dX6_init_4 : decode cX6_init 4 = .ok (.aload_n 0, 1) := by decide +kernel
theorem dX6_init_5 : decode cX6_init 5 = .ok (.iconst 0, 1) := by decide +kernel
theorem dX6_init_6 : decode cX6_init 6 = .ok (.putfield 11, 3) := by decide +kernel
theorem dX6_init_9 : decode cX6_init 9 = .ok (.aload_n 0, 1) := by decide +kernel
theorem dX6_init_10 : decode cX6_init 10 = .ok (.sipush 602, 3) := by decide +kernel
theorem dX6_init_13 : decode cX6_init 13 = .ok (.newarray .int, 2) := by decide +kernel
theorem dX6_init_15 : decode cX6_init 15 = .ok (.putfield 15, 3) := by decide +kernel
theorem dX6_init_18 : decode cX6_init 18 = .ok (.aload_n 0, 1) := by decide +kernel
theorem dX6_init_19 : decode cX6_init 19 = .ok (.sipush 601, 3) := by decide +kernel
theorem dX6_init_22 : decode cX6_init 22 = .ok (.newarray .int, 2) := by decide +kernel
theorem dX6_init_24 : decode cX6_init 24 = .ok (.putfield 19, 3) := by decide +kernel
theorem dX6_init_27 : decode cX6_init 27 = .ok (.aload_n 0, 1) := by decide +kernel
theorem dX6_init_28 : decode cX6_init 28 = .ok (.bipush 8, 2) := by decide +kernel
theorem dX6_init_30 : decode cX6_init 30 = .ok (.sipush 600, 3) := by decide +kernel
theorem dX6_init_33 : decode cX6_init 33 = .ok (.multianewarray 22 2, 4) := by decide +kernel
theorem dX6_init_37 : decode cX6_init 37 = .ok (.putfield 24, 3) := by decide +kernel
theorem dX6_init_40 : decode cX6_init 40 = .ok (.aload_n 0, 1) := by decide +kernel
theorem dX6_init_41 : decode cX6_init 41 = .ok (.bipush 7, 2) := by decide +kernel
theorem dX6_init_43 : decode cX6_init 43 = .ok (.sipush 1202, 3) := by decide +kernel
theorem dX6_init_46 : decode cX6_init 46 = .ok (.multianewarray 22 2, 4) := by decide +kernel
theorem dX6_init_50 : decode cX6_init 50 = .ok (.putfield 27, 3) := by decide +kernel
theorem dX6_init_53 : decode cX6_init 53 = .ok (.aload_n 0, 1) := by decide +kernel
theorem dX6_init_54 : decode cX6_init 54 = .ok (.new 30, 3) := by decide +kernel
theorem dX6_init_57 : decode cX6_init 57 = .ok (.dup, 1) := by decide +kernel
theorem dX6_init_58 : decode cX6_init 58 = .ok (.invokespecial 32, 3) := by decide +kernel
theorem dX6_init_61 : decode cX6_init 61 = .ok (.putfield 33, 3) := by decide +kernel
theorem dX6_init_64 : decode cX6_init 64 = .ok (.aload_n 0, 1) := by decide +kernel
theorem dX6_init_65 : decode cX6_init 65 = .ok (.new 30, 3) := by decide +kernel
theorem dX6_init_68 : decode cX6_init 68 = .ok (.dup, 1) := by decide +kernel
theorem dX6_init_69 : decode cX6_init 69 = .ok (.invokespecial 32, 3) := by decide +kernel
theorem dX6_init_72 : decode cX6_init 72 = .ok (.putfield 37, 3) := by decide +kernel
theorem dX6_init_75 : decode cX6_init 75 = .ok (.aload_n 0, 1) := by decide +kernel
theorem dX6_init_76 : decode cX6_init 76 = .ok (.new 40, 3) := by decide +kernel
theorem dX6_init_79 : decode cX6_init 79 = .ok (.dup, 1) := by decide +kernel
theorem dX6_init_80 : decode cX6_init 80 = .ok (.invokespecial 42, 3) := by decide +kernel
theorem dX6_init_83 : decode cX6_init 83 = .ok (.putfield 43, 3) := by decide +kernel
theorem dX6_init_86 : decode cX6_init 86 = .ok (.aload_n 0, 1) := by decide +kernel
theorem dX6_init_87 : decode cX6_init 87 = .ok (.new 40, 3) := by decide +kernel
theorem dX6_init_90 : decode cX6_init 90 = .ok (.dup, 1) := by decide +kernel
theorem dX6_init_91 : decode cX6_init 91 = .ok (.invokespecial 42, 3) := by decide +kernel
theorem dX6_init_94 : decode cX6_init 94 = .ok (.putfield 47, 3) := by decide +kernel
theorem dX6_init_97 : decode cX6_init 97 = .ok (.return_, 1) := by decide +kernel
theorem dX6_arrange_0 : decode cX6_arrange 0 = .ok (.aload_n 0, 1) := by decide +kernel
theorem dX6_arrange_1 : decode cX6_arrange 1 = .ok (.getfield 11, 3) := by decide +kernel
theorem dX6_arrange_4 : decode cX6_arrange 4 = .ok (.iload_n 2, 1) := by decide +kernel
theorem dX6_arrange_5 : decode cX6_arrange 5 = .ok (.if_icmp .ne 4, 3) := by decide +kernel
theorem dX6_arrange_8 : decode cX6_arrange 8 = .ok (.return_, 1) := by decide +kernel
theorem dX6_arrange_9 : decode cX6_arrange 9 = .ok (.aload_n 0, 1) := by decide +kernel
theorem dX6_arrange_10 : decode cX6_arrange 10 = .ok (.iload_n 2, 1) := by decide +kernel
theorem dX6_arrange_11 : decode cX6_arrange 11 = .ok (.putfield 11, 3) := by decide +kernel
theorem dX6_arrange_14 : decode cX6_arrange 14 = .ok (.aload_n 0, 1) := by decide +kernel
theorem dX6_arrange_15 : decode cX6_arrange 15 = .ok (.iconst 0, 1) := by decide +kernel
theorem dX6_arrange_16 : decode cX6_arrange 16 = .ok (.putfield 50, 3) := by decide +kernel
theorem dX6_arrange_19 : decode cX6_arrange 19 = .ok (.aload_n 0, 1) := by decide +kernel
theorem dX6_arrange_20 : decode cX6_arrange 20 = .ok (.iconst 0, 1) := by decide +kernel
theorem dX6_arrange_21 : decode cX6_arrange 21 = .ok (.putfield 53, 3) := by decide +kernel
theorem dX6_arrange_24 : decode cX6_arrange 24 = .ok (.aload_n 0, 1) := by decide +kernel
theorem dX6_arrange_25 : decode cX6_arrange 25 = .ok (.getfield 43, 3) := by decide +kernel
theorem dX6_arrange_28 : decode cX6_arrange 28 = .ok (.aload_n 1, 1) := by decide +kernel
theorem dX6_arrange_29 : decode cX6_arrange 29 = .ok (.iconst 0, 1) := by decide +kernel
theorem dX6_arrange_30 : decode cX6_arrange 30 = .ok (.invokevirtual 56, 3) := by decide +kernel
theorem dX6_arrange_33 : decode cX6_arrange 33 = .ok (.aload_n 0, 1) := by decide +kernel
theorem dX6_arrange_34 : decode cX6_arrange 34 = .ok (.getfield 33, 3) := by decide +kernel
theorem dX6_arrange_37 : decode cX6_arrange 37 = .ok (.iconst 0, 1) := by decide +kernel
theorem dX6_arrange_38 : decode cX6_arrange 38 = .ok (.iconst 0, 1) := by decide +kernel
theorem dX6_arrange_39 : decode cX6_arrange 39 = .ok (.iconst 0, 1) := by decide +kernel
theorem dX6_arrange_40 : decode cX6_arrange 40 = .ok (.invokevirtual 60, 3) := by decide +kernel
theorem dX6_arrange_43 : decode cX6_arrange 43 = .ok (.aload_n 0, 1) := by decide +kernel
theorem dX6_arrange_44 : decode cX6_arrange 44 = .ok (.getfield 33, 3) := by decide +kernel
theorem dX6_arrange_47 : decode cX6_arrange 47 = .ok (.iconst 1, 1) := by decide +kernel
theorem dX6_arrange_48 : decode cX6_arrange 48 = .ok (.iconst 0, 1) := by decide +kernel
theorem dX6_arrange_49 : decode cX6_arrange 49 = .ok (.iconst 0, 1) := by decide +kernel
theorem dX6_arrange_50 : decode cX6_arrange 50 = .ok (.invokevirtual 60, 3) := by decide +kernel
theorem dX6_arrange_53 : decode cX6_arrange 53 = .ok (.iconst 0, 1) := by decide +kernel
theorem dX6_arrange_54 : decode cX6_arrange 54 = .ok (.istore_n 3, 1) := by decide +kernel
theorem dX6_arrange_55 : decode cX6_arrange 55 = .ok (.iload_n 3, 1) := by decide +kernel
theorem dX6_arrange_56 : decode cX6_arrange 56 = .ok (.sipush 601, 3) := by decide +kernel
theorem dX6_arrange_59 : decode cX6_arrange 59 = .ok (.if_icmp .ge 76, 3) := by decide +kernel
theorem dX6_arrange_62 : decode cX6_arrange 62 = .ok (.aload_n 1, 1) := by decide +kernel
theorem dX6_arrange_63 : decode cX6_arrange 63 = .ok (.aload_n 0, 1) := by decide +kernel
theorem dX6_arrange_64 : decode cX6_arrange 64 = .ok (.getfield 43, 3) := by decide +kernel
theorem dX6_arrange_67 : decode cX6_arrange 67 = .ok (.getfield 64, 3) := by decide +kernel
theorem dX6_arrange_70 : decode cX6_arrange 70 = .ok (.invokevirtual 67, 3) := by decide +kernel
theorem dX6_arrange_73 : decode cX6_arrange 73 = .ok (.ifCond .ne 10, 3) := by decide +kernel
theorem dX6_arrange_76 : decode cX6_arrange 76 = .ok (.aload_n 0, 1) := by decide +kernel
theorem dX6_arrange_77 : decode cX6_arrange 77 = .ok (.invokevirtual 73, 3) := by decide +kernel
theorem dX6_arrange_80 : decode cX6_arrange 80 = .ok (.ifCond .eq 55, 3) := by decide +kernel
theorem dX6_arrange_83 : decode cX6_arrange 83 = .ok (.aload_n 0, 1) := by decide +kernel
theorem dX6_arrange_84 : decode cX6_arrange 84 = .ok (.getfield 19, 3) := by decide +kernel
theorem dX6_arrange_87 : decode cX6_arrange 87 = .ok (.aload_n 0, 1) := by decide +kernel
theorem dX6_arrange_88 : decode cX6_arrange 88 = .ok (.getfield 50, 3) := by decide +kernel
theorem dX6_arrange_91 : decode cX6_arrange 91 = .ok (.iconst 0, 1) := by decide +kernel
theorem dX6_arrange_92 : decode cX6_arrange 92 = .ok (.iastore, 1) := by decide +kernel
theorem dX6_arrange_93 : decode cX6_arrange 93 = .ok (.iconst 1, 1) := by decide +kernel
theorem dX6_arrange_94 : decode cX6_arrange 94 = .ok (.istore 4, 2) := by decide +kernel
theorem dX6_arrange_96 : decode cX6_arrange 96 = .ok (.iconst 0, 1) := by decide +kernel
theorem dX6_arrange_97 : decode cX6_arrange 97 = .ok (.istore 5, 2) := by decide +kernel
theorem dX6_arrange_99 : decode cX6_arrange 99 = .ok (.iload 4, 2) := by decide +kernel
theorem dX6_arrange_101 : decode cX6_arrange 101 = .ok (.ifCond .eq 23, 3) := by decide +kernel
theorem dX6_arrange_104 : decode cX6_arrange 104 = .ok (.iload 5, 2) := by decide +kernel
theorem dX6_arrange_106 : decode cX6_arrange 106 = .ok (.bipush 20, 2) := by decide +kernel
theorem dX6_arrange_108 : decode cX6_arrange 108 = .ok (.if_icmp .ge 16, 3) := by decide +kernel
theorem dX6_arrange_111 : decode cX6_arrange 111 = .ok (.aload_n 0, 1) := by decide +kernel
theorem dX6_arrange_112 : decode cX6_arrange 112 = .ok (.aload_n 1, 1) := by decide +kernel
theorem dX6_arrange_113 : decode cX6_arrange 113 = .ok (.invokevirtual 77, 3) := by decide +kernel
theorem dX6_arrange_116 : decode cX6_arrange 116 = .ok (.istore 4, 2) := by decide +kernel
theorem dX6_arrange_118 : decode cX6_arrange 118 = .ok (.iinc 5 1, 3) := by decide +kernel
theorem dX6_arrange_121 : decode cX6_arrange 121 = .ok (.goto (-22), 3) := by decide +kernel
theorem dX6_arrange_124 : decode cX6_arrange 124 = .ok (.aload_n 0, 1) := by decide +kernel
theorem dX6_arrange_125 : decode cX6_arrange 125 = .ok (.aload_n 1, 1) := by decide +kernel
theorem dX6_arrange_126 : decode cX6_arrange 126 = .ok (.invokevirtual 81, 3) := by decide +kernel
theorem dX6_arrange_129 : decode cX6_arrange 129 = .ok (.iinc 3 1, 3) := by decide +kernel
theorem dX6_arrange_132 : decode cX6_arrange 132 = .ok (.goto (-77), 3) := by decide +kernel
theorem dX6_arrange_135 : decode cX6_arrange 135 = .ok (.return_, 1) := by decide +kernel
theorem dX6_isCarried_0 : decode cX6_isCarried 0 = .ok (.aload_n 0, 1) := by decide +kernel
theorem dX6_isCarried_1 : decode cX6_isCarried 1 = .ok (.getfield 33, 3) := by decide +kernel
theorem dX6_isCarried_4 : decode cX6_isCarried 4 = .ok (.getfield 85, 3) := by decide +kernel
theorem dX6_isCarried_7 : decode cX6_isCarried 7 = .ok (.iconst 0, 1) := by decide +kernel
theorem dX6_isCarried_8 : decode cX6_isCarried 8 = .ok (.iaload, 1) := by decide +kernel
theorem dX6_isCarried_9 : decode cX6_isCarried 9 = .ok (.aload_n 0, 1) := by decide +kernel
theorem dX6_isCarried_10 : decode cX6_isCarried 10 = .ok (.getfield 33, 3) := by decide +kernel
theorem dX6_isCarried_13 : decode cX6_isCarried 13 = .ok (.getfield 85, 3) := by decide +kernel
theorem dX6_isCarried_16 : decode cX6_isCarried 16 = .ok (.iconst 1, 1) := by decide +kernel
theorem dX6_isCarried_17 : decode cX6_isCarried 17 = .ok (.iaload, 1) := by decide +kernel
theorem dX6_isCarried_18 : decode cX6_isCarried 18 = .ok (.iadd, 1) := by decide +kernel
theorem dX6_isCarried_19 : decode cX6_isCarried 19 = .ok (.ifCond .le 7, 3) := by decide +kernel
theorem dX6_isCarried_22 : decode cX6_isCarried 22 = .ok (.iconst 1, 1) := by decide +kernel
theorem dX6_isCarried_23 : decode cX6_isCarried 23 = .ok (.goto 4, 3) := by decide +kernel
theorem dX6_isCarried_26 : decode cX6_isCarried 26 = .ok (.iconst 0, 1) := by decide +kernel
theorem dX6_isCarried_27 : decode cX6_isCarried 27 = .ok (.ireturn, 1) := by decide +kernel
theorem dX6_putNext_0 : decode cX6_putNext 0 = .ok (.aload_n 1, 1) := by decide +kernel
theorem dX6_putNext_1 : decode cX6_putNext 1 = .ok (.aload_n 0, 1) := by decide +kernel
theorem dX6_putNext_2 : decode cX6_putNext 2 = .ok (.getfield 43, 3) := by decide +kernel
theorem dX6_putNext_5 : decode cX6_putNext 5 = .ok (.getfield 64, 3) := by decide +kernel
theorem dX6_putNext_8 : decode cX6_putNext 8 = .ok (.invokevirtual 67, 3) := by decide +kernel
theorem dX6_putNext_11 : decode cX6_putNext 11 = .ok (.ifCond .ne 5, 3) := by decide +kernel
theorem dX6_putNext_14 : decode cX6_putNext 14 = .ok (.iconst 0, 1) := by decide +kernel
theorem dX6_putNext_15 : decode cX6_putNext 15 = .ok (.ireturn, 1) := by decide +kernel
theorem dX6_putNext_16 : decode cX6_putNext 16 = .ok (.aload_n 0, 1) := by decide +kernel
theorem dX6_putNext_17 : decode cX6_putNext 17 = .ok (.getfield 53, 3) := by decide +kernel
theorem dX6_putNext_20 : decode cX6_putNext 20 = .ok (.aload_n 0, 1) := by decide +kernel
theorem dX6_putNext_21 : decode cX6_putNext 21 = .ok (.getfield 15, 3) := by decide +kernel
theorem dX6_putNext_24 : decode cX6_putNext 24 = .ok (.aload_n 0, 1) := by decide +kernel
theorem dX6_putNext_25 : decode cX6_putNext 25 = .ok (.getfield 50, 3) := by decide +kernel
theorem dX6_putNext_28 : decode cX6_putNext 28 = .ok (.iaload, 1) := by decide +kernel
theorem dX6_putNext_29 : decode cX6_putNext 29 = .ok (.if_icmp .ne 7, 3) := by decide +kernel
theorem dX6_putNext_32 : decode cX6_putNext 32 = .ok (.iconst 1, 1) := by decide +kernel
theorem dX6_putNext_33 : decode cX6_putNext 33 = .ok (.goto 4, 3) := by decide +kernel
theorem dX6_putNext_36 : decode cX6_putNext 36 = .ok (.iconst 0, 1) := by decide +kernel
theorem dX6_putNext_37 : decode cX6_putNext 37 = .ok (.istore_n 2, 1) := by decide +kernel
theorem dX6_putNext_38 : decode cX6_putNext 38 = .ok (.iload_n 2, 1) := by decide +kernel
theorem dX6_putNext_39 : decode cX6_putNext 39 = .ok (.ifCond .ne 33, 3) := by decide +kernel
theorem dX6_putNext_42 : decode cX6_putNext 42 = .ok (.aload_n 0, 1) := by decide +kernel
theorem dX6_putNext_43 : decode cX6_putNext 43 = .ok (.getfield 43, 3) := by decide +kernel
theorem dX6_putNext_46 : decode cX6_putNext 46 = .ok (.invokevirtual 88, 3) := by decide +kernel
theorem dX6_putNext_49 : decode cX6_putNext 49 = .ok (.ifCond .ne 23, 3) := by decide +kernel
theorem dX6_putNext_52 : decode cX6_putNext 52 = .ok (.aload_n 1, 1) := by decide +kernel
theorem dX6_putNext_53 : decode cX6_putNext 53 = .ok (.getfield 91, 3) := by decide +kernel
theorem dX6_putNext_56 : decode cX6_putNext 56 = .ok (.iconst 3, 1) := by decide +kernel
theorem dX6_putNext_57 : decode cX6_putNext 57 = .ok (.aaload, 1) := by decide +kernel
theorem dX6_putNext_58 : decode cX6_putNext 58 = .ok (.aload_n 0, 1) := by decide +kernel
theorem dX6_putNext_59 : decode cX6_putNext 59 = .ok (.getfield 43, 3) := by decide +kernel
theorem dX6_putNext_62 : decode cX6_putNext 62 = .ok (.getfield 64, 3) := by decide +kernel
theorem dX6_putNext_65 : decode cX6_putNext 65 = .ok (.iaload, 1) := by decide +kernel
theorem dX6_putNext_66 : decode cX6_putNext 66 = .ok (.iconst 1, 1) := by decide +kernel
theorem dX6_putNext_67 : decode cX6_putNext 67 = .ok (.if_icmp .ne 5, 3) := by decide +kernel
theorem dX6_putNext_70 : decode cX6_putNext 70 = .ok (.iconst 0, 1) := by decide +kernel
theorem dX6_putNext_71 : decode cX6_putNext 71 = .ok (.ireturn, 1) := by decide +kernel
theorem dX6_putNext_72 : decode cX6_putNext 72 = .ok (.aload_n 0, 1) := by decide +kernel
theorem dX6_putNext_73 : decode cX6_putNext 73 = .ok (.aload_n 1, 1) := by decide +kernel
theorem dX6_putNext_74 : decode cX6_putNext 74 = .ok (.aload_n 0, 1) := by decide +kernel
theorem dX6_putNext_75 : decode cX6_putNext 75 = .ok (.getfield 43, 3) := by decide +kernel
theorem dX6_putNext_78 : decode cX6_putNext 78 = .ok (.invokevirtual 94, 3) := by decide +kernel
theorem dX6_putNext_81 : decode cX6_putNext 81 = .ok (.ifCond .eq 10, 3) := by decide +kernel
theorem dX6_putNext_84 : decode cX6_putNext 84 = .ok (.aload_n 0, 1) := by decide +kernel
theorem dX6_putNext_85 : decode cX6_putNext 85 = .ok (.aload_n 1, 1) := by decide +kernel
theorem dX6_putNext_86 : decode cX6_putNext 86 = .ok (.invokevirtual 98, 3) := by decide +kernel
theorem dX6_putNext_89 : decode cX6_putNext 89 = .ok (.iconst 1, 1) := by decide +kernel
theorem dX6_putNext_90 : decode cX6_putNext 90 = .ok (.ireturn, 1) := by decide +kernel
theorem dX6_putNext_91 : decode cX6_putNext 91 = .ok (.aload_n 1, 1) := by decide +kernel
theorem dX6_putNext_92 : decode cX6_putNext 92 = .ok (.getfield 91, 3) := by decide +kernel
theorem dX6_putNext_95 : decode cX6_putNext 95 = .ok (.iconst 2, 1) := by decide +kernel
theorem dX6_putNext_96 : decode cX6_putNext 96 = .ok (.aaload, 1) := by decide +kernel
theorem dX6_putNext_97 : decode cX6_putNext 97 = .ok (.aload_n 0, 1) := by decide +kernel
theorem dX6_putNext_98 : decode cX6_putNext 98 = .ok (.getfield 43, 3) := by decide +kernel
theorem dX6_putNext_101 : decode cX6_putNext 101 = .ok (.getfield 64, 3) := by decide +kernel
theorem dX6_putNext_104 : decode cX6_putNext 104 = .ok (.iaload, 1) := by decide +kernel
theorem dX6_putNext_105 : decode cX6_putNext 105 = .ok (.ifCond .ne 35, 3) := by decide +kernel
theorem dX6_putNext_108 : decode cX6_putNext 108 = .ok (.aload_n 0, 1) := by decide +kernel
theorem dX6_putNext_109 : decode cX6_putNext 109 = .ok (.aload_n 1, 1) := by decide +kernel
theorem dX6_putNext_110 : decode cX6_putNext 110 = .ok (.invokevirtual 101, 3) := by decide +kernel
theorem dX6_putNext_113 : decode cX6_putNext 113 = .ok (.ifCond .eq 27, 3) := by decide +kernel
theorem dX6_putNext_116 : decode cX6_putNext 116 = .ok (.aload_n 0, 1) := by decide +kernel
theorem dX6_putNext_117 : decode cX6_putNext 117 = .ok (.aload_n 1, 1) := by decide +kernel
theorem dX6_putNext_118 : decode cX6_putNext 118 = .ok (.aload_n 0, 1) := by decide +kernel
theorem dX6_putNext_119 : decode cX6_putNext 119 = .ok (.getfield 47, 3) := by decide +kernel
theorem dX6_putNext_122 : decode cX6_putNext 122 = .ok (.iconst 1, 1) := by decide +kernel
theorem dX6_putNext_123 : decode cX6_putNext 123 = .ok (.invokevirtual 104, 3) := by decide +kernel
theorem dX6_putNext_126 : decode cX6_putNext 126 = .ok (.aload_n 0, 1) := by decide +kernel
theorem dX6_putNext_127 : decode cX6_putNext 127 = .ok (.getfield 43, 3) := by decide +kernel
theorem dX6_putNext_130 : decode cX6_putNext 130 = .ok (.aload_n 0, 1) := by decide +kernel
theorem dX6_putNext_131 : decode cX6_putNext 131 = .ok (.getfield 47, 3) := by decide +kernel
theorem dX6_putNext_134 : decode cX6_putNext 134 = .ok (.invokevirtual 108, 3) := by decide +kernel
theorem dX6_putNext_137 : decode cX6_putNext 137 = .ok (.goto 22, 3) := by decide +kernel
theorem dX6_putNext_140 : decode cX6_putNext 140 = .ok (.iload_n 2, 1) := by decide +kernel
theorem dX6_putNext_141 : decode cX6_putNext 141 = .ok (.ifCond .eq 18, 3) := by decide +kernel
theorem dX6_putNext_144 : decode cX6_putNext 144 = .ok (.aload_n 0, 1) := by decide +kernel
theorem dX6_putNext_145 : decode cX6_putNext 145 = .ok (.getfield 19, 3) := by decide +kernel
theorem dX6_putNext_148 : decode cX6_putNext 148 = .ok (.aload_n 0, 1) := by decide +kernel
theorem dX6_putNext_149 : decode cX6_putNext 149 = .ok (.getfield 50, 3) := by decide +kernel
theorem dX6_putNext_152 : decode cX6_putNext 152 = .ok (.iconst 1, 1) := by decide +kernel
theorem dX6_putNext_153 : decode cX6_putNext 153 = .ok (.iastore, 1) := by decide +kernel
theorem dX6_putNext_154 : decode cX6_putNext 154 = .ok (.aload_n 0, 1) := by decide +kernel
theorem dX6_putNext_155 : decode cX6_putNext 155 = .ok (.aload_n 1, 1) := by decide +kernel
theorem dX6_putNext_156 : decode cX6_putNext 156 = .ok (.invokevirtual 98, 3) := by decide +kernel
theorem dX6_putNext_159 : decode cX6_putNext 159 = .ok (.iconst 0, 1) := by decide +kernel
theorem dX6_putNext_160 : decode cX6_putNext 160 = .ok (.ireturn, 1) := by decide +kernel
theorem dX6_putRest_0 : decode cX6_putRest 0 = .ok (.aload_n 0, 1) := by decide +kernel
theorem dX6_putRest_1 : decode cX6_putRest 1 = .ok (.aload_n 1, 1) := by decide +kernel
theorem dX6_putRest_2 : decode cX6_putRest 2 = .ok (.aload_n 0, 1) := by decide +kernel
theorem dX6_putRest_3 : decode cX6_putRest 3 = .ok (.getfield 43, 3) := by decide +kernel
theorem dX6_putRest_6 : decode cX6_putRest 6 = .ok (.iconst 0, 1) := by decide +kernel
theorem dX6_putRest_7 : decode cX6_putRest 7 = .ok (.invokevirtual 104, 3) := by decide +kernel
theorem dX6_putRest_10 : decode cX6_putRest 10 = .ok (.aload_n 0, 1) := by decide +kernel
theorem dX6_putRest_11 : decode cX6_putRest 11 = .ok (.getfield 43, 3) := by decide +kernel
theorem dX6_putRest_14 : decode cX6_putRest 14 = .ok (.aload_n 1, 1) := by decide +kernel
theorem dX6_putRest_15 : decode cX6_putRest 15 = .ok (.aload_n 0, 1) := by decide +kernel
theorem dX6_putRest_16 : decode cX6_putRest 16 = .ok (.getfield 43, 3) := by decide +kernel
theorem dX6_putRest_19 : decode cX6_putRest 19 = .ok (.getfield 64, 3) := by decide +kernel
theorem dX6_putRest_22 : decode cX6_putRest 22 = .ok (.iconst 1, 1) := by decide +kernel
theorem dX6_putRest_23 : decode cX6_putRest 23 = .ok (.iadd, 1) := by decide +kernel
theorem dX6_putRest_24 : decode cX6_putRest 24 = .ok (.invokevirtual 56, 3) := by decide +kernel
theorem dX6_putRest_27 : decode cX6_putRest 27 = .ok (.return_, 1) := by decide +kernel
theorem dX6_fits_0 : decode cX6_fits 0 = .ok (.aload_n 0, 1) := by decide +kernel
theorem dX6_fits_1 : decode cX6_fits 1 = .ok (.getfield 37, 3) := by decide +kernel
theorem dX6_fits_4 : decode cX6_fits 4 = .ok (.aload_n 0, 1) := by decide +kernel
theorem dX6_fits_5 : decode cX6_fits 5 = .ok (.getfield 33, 3) := by decide +kernel
theorem dX6_fits_8 : decode cX6_fits 8 = .ok (.invokevirtual 112, 3) := by decide +kernel
theorem dX6_fits_11 : decode cX6_fits 11 = .ok (.aload_n 0, 1) := by decide +kernel
theorem dX6_fits_12 : decode cX6_fits 12 = .ok (.getfield 37, 3) := by decide +kernel
theorem dX6_fits_15 : decode cX6_fits 15 = .ok (.aload_n 1, 1) := by decide +kernel
theorem dX6_fits_16 : decode cX6_fits 16 = .ok (.aload_n 2, 1) := by decide +kernel
theorem dX6_fits_17 : decode cX6_fits 17 = .ok (.invokevirtual 116, 3) := by decide +kernel
theorem dX6_fits_20 : decode cX6_fits 20 = .ok (.aload_n 0, 1) := by decide +kernel
theorem dX6_fits_21 : decode cX6_fits 21 = .ok (.getfield 37, 3) := by decide +kernel
theorem dX6_fits_24 : decode cX6_fits 24 = .ok (.aload_n 0, 1) := by decide +kernel
theorem dX6_fits_25 : decode cX6_fits 25 = .ok (.getfield 11, 3) := by decide +kernel
theorem dX6_fits_28 : decode cX6_fits 28 = .ok (.aload_n 1, 1) := by decide +kernel
theorem dX6_fits_29 : decode cX6_fits 29 = .ok (.getfield 120, 3) := by decide +kernel
theorem dX6_fits_32 : decode cX6_fits 32 = .ok (.iconst 2, 1) := by decide +kernel
theorem dX6_fits_33 : decode cX6_fits 33 = .ok (.iaload, 1) := by decide +kernel
theorem dX6_fits_34 : decode cX6_fits 34 = .ok (.aload_n 1, 1) := by decide +kernel
theorem dX6_fits_35 : decode cX6_fits 35 = .ok (.getfield 120, 3) := by decide +kernel
theorem dX6_fits_38 : decode cX6_fits 38 = .ok (.iconst 4, 1) := by decide +kernel
theorem dX6_fits_39 : decode cX6_fits 39 = .ok (.iaload, 1) := by decide +kernel
theorem dX6_fits_40 : decode cX6_fits 40 = .ok (.invokevirtual 123, 3) := by decide +kernel
theorem dX6_fits_43 : decode cX6_fits 43 = .ok (.ireturn, 1) := by decide +kernel
theorem dX6_findStart_0 : decode cX6_findStart 0 = .ok (.aload_n 1, 1) := by decide +kernel
theorem dX6_findStart_1 : decode cX6_findStart 1 = .ok (.getfield 120, 3) := by decide +kernel
theorem dX6_findStart_4 : decode cX6_findStart 4 = .ok (.iconst 3, 1) := by decide +kernel
theorem dX6_findStart_5 : decode cX6_findStart 5 = .ok (.iaload, 1) := by decide +kernel
theorem dX6_findStart_6 : decode cX6_findStart 6 = .ok (.istore_n 2, 1) := by decide +kernel
theorem dX6_findStart_7 : decode cX6_findStart 7 = .ok (.aload_n 0, 1) := by decide +kernel
theorem dX6_findStart_8 : decode cX6_findStart 8 = .ok (.getfield 43, 3) := by decide +kernel
theorem dX6_findStart_11 : decode cX6_findStart 11 = .ok (.getfield 126, 3) := by decide +kernel
theorem dX6_findStart_14 : decode cX6_findStart 14 = .ok (.iconst 0, 1) := by decide +kernel
theorem dX6_findStart_15 : decode cX6_findStart 15 = .ok (.iaload, 1) := by decide +kernel
theorem dX6_findStart_16 : decode cX6_findStart 16 = .ok (.istore_n 3, 1) := by decide +kernel
theorem dX6_findStart_17 : decode cX6_findStart 17 = .ok (.aload_n 0, 1) := by decide +kernel
theorem dX6_findStart_18 : decode cX6_findStart 18 = .ok (.getfield 43, 3) := by decide +kernel
theorem dX6_findStart_21 : decode cX6_findStart 21 = .ok (.getfield 126, 3) := by decide +kernel
theorem dX6_findStart_24 : decode cX6_findStart 24 = .ok (.iconst 1, 1) := by decide +kernel
theorem dX6_findStart_25 : decode cX6_findStart 25 = .ok (.iaload, 1) := by decide +kernel
theorem dX6_findStart_26 : decode cX6_findStart 26 = .ok (.istore 4, 2) := by decide +kernel
theorem dX6_findStart_28 : decode cX6_findStart 28 = .ok (.iload_n 3, 1) := by decide +kernel
theorem dX6_findStart_29 : decode cX6_findStart 29 = .ok (.ifCond .gt 5, 3) := by decide +kernel
theorem dX6_findStart_32 : decode cX6_findStart 32 = .ok (.iconst 0, 1) := by decide +kernel
theorem dX6_findStart_33 : decode cX6_findStart 33 = .ok (.ireturn, 1) := by decide +kernel
theorem dX6_findStart_34 : decode cX6_findStart 34 = .ok (.iload_n 3, 1) := by decide +kernel
theorem dX6_findStart_35 : decode cX6_findStart 35 = .ok (.iload_n 2, 1) := by decide +kernel
theorem dX6_findStart_36 : decode cX6_findStart 36 = .ok (.isub, 1) := by decide +kernel
theorem dX6_findStart_37 : decode cX6_findStart 37 = .ok (.aload_n 0, 1) := by decide +kernel
theorem dX6_findStart_38 : decode cX6_findStart 38 = .ok (.getfield 11, 3) := by decide +kernel
theorem dX6_findStart_41 : decode cX6_findStart 41 = .ok (.aload_n 0, 1) := by decide +kernel
theorem dX6_findStart_42 : decode cX6_findStart 42 = .ok (.getfield 33, 3) := by decide +kernel
theorem dX6_findStart_45 : decode cX6_findStart 45 = .ok (.getfield 129, 3) := by decide +kernel
theorem dX6_findStart_48 : decode cX6_findStart 48 = .ok (.iconst 0, 1) := by decide +kernel
theorem dX6_findStart_49 : decode cX6_findStart 49 = .ok (.iaload, 1) := by decide +kernel
theorem dX6_findStart_50 : decode cX6_findStart 50 = .ok (.isub, 1) := by decide +kernel
theorem dX6_findStart_51 : decode cX6_findStart 51 = .ok (.invokestatic 132, 3) := by decide +kernel
theorem dX6_findStart_54 : decode cX6_findStart 54 = .ok (.istore 5, 2) := by decide +kernel
theorem dX6_findStart_56 : decode cX6_findStart 56 = .ok (.iload 5, 2) := by decide +kernel
theorem dX6_findStart_58 : decode cX6_findStart 58 = .ok (.istore 6, 2) := by decide +kernel
theorem dX6_findStart_60 : decode cX6_findStart 60 = .ok (.iload 6, 2) := by decide +kernel
theorem dX6_findStart_62 : decode cX6_findStart 62 = .ok (.iload_n 2, 1) := by decide +kernel
theorem dX6_findStart_63 : decode cX6_findStart 63 = .ok (.if_icmp .lt 68, 3) := by decide +kernel
theorem dX6_findStart_66 : decode cX6_findStart 66 = .ok (.iconst 2, 1) := by decide +kernel
theorem dX6_findStart_67 : decode cX6_findStart 67 = .ok (.iload 6, 2) := by decide +kernel
theorem dX6_findStart_69 : decode cX6_findStart 69 = .ok (.imul, 1) := by decide +kernel
theorem dX6_findStart_70 : decode cX6_findStart 70 = .ok (.iload 4, 2) := by decide +kernel
theorem dX6_findStart_72 : decode cX6_findStart 72 = .ok (.imul, 1) := by decide +kernel
theorem dX6_findStart_73 : decode cX6_findStart 73 = .ok (.iload_n 3, 1) := by decide +kernel
theorem dX6_findStart_74 : decode cX6_findStart 74 = .ok (.iadd, 1) := by decide +kernel
theorem dX6_findStart_75 : decode cX6_findStart 75 = .ok (.iconst 2, 1) := by decide +kernel
theorem dX6_findStart_76 : decode cX6_findStart 76 = .ok (.iload_n 3, 1) := by decide +kernel
theorem dX6_findStart_77 : decode cX6_findStart 77 = .ok (.imul, 1) := by decide +kernel
theorem dX6_findStart_78 : decode cX6_findStart 78 = .ok (.idiv, 1) := by decide +kernel
theorem dX6_findStart_79 : decode cX6_findStart 79 = .ok (.istore 7, 2) := by decide +kernel
theorem dX6_findStart_81 : decode cX6_findStart 81 = .ok (.iload 7, 2) := by decide +kernel
theorem dX6_findStart_83 : decode cX6_findStart 83 = .ok (.iload_n 2, 1) := by decide +kernel
theorem dX6_findStart_84 : decode cX6_findStart 84 = .ok (.if_icmp .lt 41, 3) := by decide +kernel
theorem dX6_findStart_87 : decode cX6_findStart 87 = .ok (.iload 4, 2) := by decide +kernel
theorem dX6_findStart_89 : decode cX6_findStart 89 = .ok (.iload 7, 2) := by decide +kernel
theorem dX6_findStart_91 : decode cX6_findStart 91 = .ok (.isub, 1) := by decide +kernel
theorem dX6_findStart_92 : decode cX6_findStart 92 = .ok (.iload_n 2, 1) := by decide +kernel
theorem dX6_findStart_93 : decode cX6_findStart 93 = .ok (.if_icmp .lt 32, 3) := by decide +kernel
theorem dX6_findStart_96 : decode cX6_findStart 96 = .ok (.aload_n 0, 1) := by decide +kernel
theorem dX6_findStart_97 : decode cX6_findStart 97 = .ok (.getfield 47, 3) := by decide +kernel
theorem dX6_findStart_100 : decode cX6_findStart 100 = .ok (.aload_n 0, 1) := by decide +kernel
theorem dX6_findStart_101 : decode cX6_findStart 101 = .ok (.getfield 43, 3) := by decide +kernel
theorem dX6_findStart_104 : decode cX6_findStart 104 = .ok (.iload 6, 2) := by decide +kernel
theorem dX6_findStart_106 : decode cX6_findStart 106 = .ok (.iload 7, 2) := by decide +kernel
theorem dX6_findStart_108 : decode cX6_findStart 108 = .ok (.invokevirtual 138, 3) := by decide +kernel
theorem dX6_findStart_111 : decode cX6_findStart 111 = .ok (.aload_n 0, 1) := by decide +kernel
theorem dX6_findStart_112 : decode cX6_findStart 112 = .ok (.aload_n 1, 1) := by decide +kernel
theorem dX6_findStart_113 : decode cX6_findStart 113 = .ok (.aload_n 0, 1) := by decide +kernel
theorem dX6_findStart_114 : decode cX6_findStart 114 = .ok (.getfield 47, 3) := by decide +kernel
theorem dX6_findStart_117 : decode cX6_findStart 117 = .ok (.invokevirtual 94, 3) := by decide +kernel
theorem dX6_findStart_120 : decode cX6_findStart 120 = .ok (.ifCond .eq 5, 3) := by decide +kernel
theorem dX6_findStart_123 : decode cX6_findStart 123 = .ok (.iconst 1, 1) := by decide +kernel
theorem dX6_findStart_124 : decode cX6_findStart 124 = .ok (.ireturn, 1) := by decide +kernel
theorem dX6_findStart_125 : decode cX6_findStart 125 = .ok (.iinc 6 (-1), 3) := by decide +kernel
theorem dX6_findStart_128 : decode cX6_findStart 128 = .ok (.goto (-68), 3) := by decide +kernel
theorem dX6_findStart_131 : decode cX6_findStart 131 = .ok (.iconst 0, 1) := by decide +kernel
theorem dX6_findStart_132 : decode cX6_findStart 132 = .ok (.ireturn, 1) := by decide +kernel
theorem dX6_addSegment_0 : decode cX6_addSegment 0 = .ok (.aload_n 0, 1) := by decide +kernel
theorem dX6_addSegment_1 : decode cX6_addSegment 1 = .ok (.getfield 53, 3) := by decide +kernel
theorem dX6_addSegment_4 : decode cX6_addSegment 4 = .ok (.sipush 600, 3) := by decide +kernel
theorem dX6_addSegment_7 : decode cX6_addSegment 7 = .ok (.if_icmp .lt 4, 3) := by decide +kernel
theorem dX6_addSegment_10 : decode cX6_addSegment 10 = .ok (.return_, 1) := by decide +kernel
theorem dX6_addSegment_11 : decode cX6_addSegment 11 = .ok (.aload_n 0, 1) := by decide +kernel
theorem dX6_addSegment_12 : decode cX6_addSegment 12 = .ok (.getfield 24, 3) := by decide +kernel
theorem dX6_addSegment_15 : decode cX6_addSegment 15 = .ok (.iconst 0, 1) := by decide +kernel
theorem dX6_addSegment_16 : decode cX6_addSegment 16 = .ok (.aaload, 1) := by decide +kernel
theorem dX6_addSegment_17 : decode cX6_addSegment 17 = .ok (.aload_n 0, 1) := by decide +kernel
theorem dX6_addSegment_18 : decode cX6_addSegment 18 = .ok (.getfield 53, 3) := by decide +kernel
theorem dX6_addSegment_21 : decode cX6_addSegment 21 = .ok (.aload_n 2, 1) := by decide +kernel
theorem dX6_addSegment_22 : decode cX6_addSegment 22 = .ok (.getfield 64, 3) := by decide +kernel
theorem dX6_addSegment_25 : decode cX6_addSegment 25 = .ok (.iastore, 1) := by decide +kernel
theorem dX6_addSegment_26 : decode cX6_addSegment 26 = .ok (.aload_n 0, 1) := by decide +kernel
theorem dX6_addSegment_27 : decode cX6_addSegment 27 = .ok (.getfield 24, 3) := by decide +kernel
theorem dX6_addSegment_30 : decode cX6_addSegment 30 = .ok (.bipush 7, 2) := by decide +kernel
theorem dX6_addSegment_32 : decode cX6_addSegment 32 = .ok (.aaload, 1) := by decide +kernel
theorem dX6_addSegment_33 : decode cX6_addSegment 33 = .ok (.aload_n 0, 1) := by decide +kernel
theorem dX6_addSegment_34 : decode cX6_addSegment 34 = .ok (.getfield 53, 3) := by decide +kernel
theorem dX6_addSegment_37 : decode cX6_addSegment 37 = .ok (.iload_n 3, 1) := by decide +kernel
theorem dX6_addSegment_38 : decode cX6_addSegment 38 = .ok (.iastore, 1) := by decide +kernel
theorem dX6_addSegment_39 : decode cX6_addSegment 39 = .ok (.iconst 0, 1) := by decide +kernel
theorem dX6_addSegment_40 : decode cX6_addSegment 40 = .ok (.istore 4, 2) := by decide +kernel
theorem dX6_addSegment_42 : decode cX6_addSegment 42 = .ok (.iload 4, 2) := by decide +kernel
theorem dX6_addSegment_44 : decode cX6_addSegment 44 = .ok (.iconst 2, 1) := by decide +kernel
theorem dX6_addSegment_45 : decode cX6_addSegment 45 = .ok (.if_icmp .ge 81, 3) := by decide +kernel
theorem dX6_addSegment_48 : decode cX6_addSegment 48 = .ok (.aload_n 0, 1) := by decide +kernel
theorem dX6_addSegment_49 : decode cX6_addSegment 49 = .ok (.getfield 24, 3) := by decide +kernel
theorem dX6_addSegment_52 : decode cX6_addSegment 52 = .ok (.getstatic 142, 3) := by decide +kernel
theorem dX6_addSegment_55 : decode cX6_addSegment 55 = .ok (.iload 4, 2) := by decide +kernel
theorem dX6_addSegment_57 : decode cX6_addSegment 57 = .ok (.iaload, 1) := by decide +kernel
theorem dX6_addSegment_58 : decode cX6_addSegment 58 = .ok (.aaload, 1) := by decide +kernel
theorem dX6_addSegment_59 : decode cX6_addSegment 59 = .ok (.aload_n 0, 1) := by decide +kernel
theorem dX6_addSegment_60 : decode cX6_addSegment 60 = .ok (.getfield 53, 3) := by decide +kernel
theorem dX6_addSegment_63 : decode cX6_addSegment 63 = .ok (.aload_n 2, 1) := by decide +kernel
theorem dX6_addSegment_64 : decode cX6_addSegment 64 = .ok (.getfield 145, 3) := by decide +kernel
theorem dX6_addSegment_67 : decode cX6_addSegment 67 = .ok (.iload 4, 2) := by decide +kernel
theorem dX6_addSegment_69 : decode cX6_addSegment 69 = .ok (.iaload, 1) := by decide +kernel
theorem dX6_addSegment_70 : decode cX6_addSegment 70 = .ok (.iastore, 1) := by decide +kernel
theorem dX6_addSegment_71 : decode cX6_addSegment 71 = .ok (.aload_n 0, 1) := by decide +kernel
theorem dX6_addSegment_72 : decode cX6_addSegment 72 = .ok (.getfield 24, 3) := by decide +kernel
theorem dX6_addSegment_75 : decode cX6_addSegment 75 = .ok (.getstatic 148, 3) := by decide +kernel
theorem dX6_addSegment_78 : decode cX6_addSegment 78 = .ok (.iload 4, 2) := by decide +kernel
theorem dX6_addSegment_80 : decode cX6_addSegment 80 = .ok (.iaload, 1) := by decide +kernel
theorem dX6_addSegment_81 : decode cX6_addSegment 81 = .ok (.aaload, 1) := by decide +kernel
theorem dX6_addSegment_82 : decode cX6_addSegment 82 = .ok (.aload_n 0, 1) := by decide +kernel
theorem dX6_addSegment_83 : decode cX6_addSegment 83 = .ok (.getfield 53, 3) := by decide +kernel
theorem dX6_addSegment_86 : decode cX6_addSegment 86 = .ok (.aload_n 2, 1) := by decide +kernel
theorem dX6_addSegment_87 : decode cX6_addSegment 87 = .ok (.getfield 126, 3) := by decide +kernel
theorem dX6_addSegment_90 : decode cX6_addSegment 90 = .ok (.iload 4, 2) := by decide +kernel
theorem dX6_addSegment_92 : decode cX6_addSegment 92 = .ok (.iaload, 1) := by decide +kernel
theorem dX6_addSegment_93 : decode cX6_addSegment 93 = .ok (.iastore, 1) := by decide +kernel
theorem dX6_addSegment_94 : decode cX6_addSegment 94 = .ok (.aload_n 0, 1) := by decide +kernel
theorem dX6_addSegment_95 : decode cX6_addSegment 95 = .ok (.getfield 24, 3) := by decide +kernel
theorem dX6_addSegment_98 : decode cX6_addSegment 98 = .ok (.getstatic 151, 3) := by decide +kernel
theorem dX6_addSegment_101 : decode cX6_addSegment 101 = .ok (.iload 4, 2) := by decide +kernel
theorem dX6_addSegment_103 : decode cX6_addSegment 103 = .ok (.iaload, 1) := by decide +kernel
theorem dX6_addSegment_104 : decode cX6_addSegment 104 = .ok (.aaload, 1) := by decide +kernel
theorem dX6_addSegment_105 : decode cX6_addSegment 105 = .ok (.aload_n 0, 1) := by decide +kernel
theorem dX6_addSegment_106 : decode cX6_addSegment 106 = .ok (.getfield 53, 3) := by decide +kernel
theorem dX6_addSegment_109 : decode cX6_addSegment 109 = .ok (.aload_n 0, 1) := by decide +kernel
theorem dX6_addSegment_110 : decode cX6_addSegment 110 = .ok (.getfield 33, 3) := by decide +kernel
theorem dX6_addSegment_113 : decode cX6_addSegment 113 = .ok (.getfield 129, 3) := by decide +kernel
theorem dX6_addSegment_116 : decode cX6_addSegment 116 = .ok (.iload 4, 2) := by decide +kernel
theorem dX6_addSegment_118 : decode cX6_addSegment 118 = .ok (.iaload, 1) := by decide +kernel
theorem dX6_addSegment_119 : decode cX6_addSegment 119 = .ok (.iastore, 1) := by decide +kernel
theorem dX6_addSegment_120 : decode cX6_addSegment 120 = .ok (.iinc 4 1, 3) := by decide +kernel
theorem dX6_addSegment_123 : decode cX6_addSegment 123 = .ok (.goto (-81), 3) := by decide +kernel
theorem dX6_addSegment_126 : decode cX6_addSegment 126 = .ok (.aload_n 0, 1) := by decide +kernel
theorem dX6_addSegment_127 : decode cX6_addSegment 127 = .ok (.dup, 1) := by decide +kernel
theorem dX6_addSegment_128 : decode cX6_addSegment 128 = .ok (.getfield 53, 3) := by decide +kernel
theorem dX6_addSegment_131 : decode cX6_addSegment 131 = .ok (.iconst 1, 1) := by decide +kernel
theorem dX6_addSegment_132 : decode cX6_addSegment 132 = .ok (.iadd, 1) := by decide +kernel
theorem dX6_addSegment_133 : decode cX6_addSegment 133 = .ok (.putfield 53, 3) := by decide +kernel
theorem dX6_addSegment_136 : decode cX6_addSegment 136 = .ok (.aload_n 0, 1) := by decide +kernel
theorem dX6_addSegment_137 : decode cX6_addSegment 137 = .ok (.getfield 33, 3) := by decide +kernel
theorem dX6_addSegment_140 : decode cX6_addSegment 140 = .ok (.aload_n 1, 1) := by decide +kernel
theorem dX6_addSegment_141 : decode cX6_addSegment 141 = .ok (.aload_n 2, 1) := by decide +kernel
theorem dX6_addSegment_142 : decode cX6_addSegment 142 = .ok (.invokevirtual 116, 3) := by decide +kernel
theorem dX6_addSegment_145 : decode cX6_addSegment 145 = .ok (.return_, 1) := by decide +kernel
theorem dX6_endSpread_0 : decode cX6_endSpread 0 = .ok (.iconst 0, 1) := by decide +kernel
theorem dX6_endSpread_1 : decode cX6_endSpread 1 = .ok (.istore_n 2, 1) := by decide +kernel
theorem dX6_endSpread_2 : decode cX6_endSpread 2 = .ok (.iload_n 2, 1) := by decide +kernel
theorem dX6_endSpread_3 : decode cX6_endSpread 3 = .ok (.iconst 2, 1) := by decide +kernel
theorem dX6_endSpread_4 : decode cX6_endSpread 4 = .ok (.if_icmp .ge 198, 3) := by decide +kernel
theorem dX6_endSpread_7 : decode cX6_endSpread 7 = .ok (.iconst 2, 1) := by decide +kernel
theorem dX6_endSpread_8 : decode cX6_endSpread 8 = .ok (.aload_n 0, 1) := by decide +kernel
theorem dX6_endSpread_9 : decode cX6_endSpread 9 = .ok (.getfield 50, 3) := by decide +kernel
theorem dX6_endSpread_12 : decode cX6_endSpread 12 = .ok (.imul, 1) := by decide +kernel
theorem dX6_endSpread_13 : decode cX6_endSpread 13 = .ok (.iload_n 2, 1) := by decide +kernel
theorem dX6_endSpread_14 : decode cX6_endSpread 14 = .ok (.iadd, 1) := by decide +kernel
theorem dX6_endSpread_15 : decode cX6_endSpread 15 = .ok (.istore_n 3, 1) := by decide +kernel
theorem dX6_endSpread_16 : decode cX6_endSpread 16 = .ok (.aload_n 0, 1) := by decide +kernel
theorem dX6_endSpread_17 : decode cX6_endSpread 17 = .ok (.getfield 33, 3) := by decide +kernel
theorem dX6_endSpread_20 : decode cX6_endSpread 20 = .ok (.iload_n 2, 1) := by decide +kernel
theorem dX6_endSpread_21 : decode cX6_endSpread 21 = .ok (.aload_n 1, 1) := by decide +kernel
theorem dX6_endSpread_22 : decode cX6_endSpread 22 = .ok (.aload_n 0, 1) := by decide +kernel
theorem dX6_endSpread_23 : decode cX6_endSpread 23 = .ok (.getfield 11, 3) := by decide +kernel
theorem dX6_endSpread_26 : decode cX6_endSpread 26 = .ok (.invokevirtual 154, 3) := by decide +kernel
theorem dX6_endSpread_29 : decode cX6_endSpread 29 = .ok (.istore 4, 2) := by decide +kernel
theorem dX6_endSpread_31 : decode cX6_endSpread 31 = .ok (.aload_n 0, 1) := by decide +kernel
theorem dX6_endSpread_32 : decode cX6_endSpread 32 = .ok (.getfield 33, 3) := by decide +kernel
theorem dX6_endSpread_35 : decode cX6_endSpread 35 = .ok (.iload_n 2, 1) := by decide +kernel
theorem dX6_endSpread_36 : decode cX6_endSpread 36 = .ok (.aload_n 1, 1) := by decide +kernel
theorem dX6_endSpread_37 : decode cX6_endSpread 37 = .ok (.getfield 120, 3) := by decide +kernel
theorem dX6_endSpread_40 : decode cX6_endSpread 40 = .ok (.iconst 2, 1) := by decide +kernel
theorem dX6_endSpread_41 : decode cX6_endSpread 41 = .ok (.iaload, 1) := by decide +kernel
theorem dX6_endSpread_42 : decode cX6_endSpread 42 = .ok (.iload 4, 2) := by decide +kernel
theorem dX6_endSpread_44 : decode cX6_endSpread 44 = .ok (.invokevirtual 158, 3) := by decide +kernel
theorem dX6_endSpread_47 : decode cX6_endSpread 47 = .ok (.istore 5, 2) := by decide +kernel
theorem dX6_endSpread_49 : decode cX6_endSpread 49 = .ok (.aload_n 0, 1) := by decide +kernel
theorem dX6_endSpread_50 : decode cX6_endSpread 50 = .ok (.getfield 27, 3) := by decide +kernel
theorem dX6_endSpread_53 : decode cX6_endSpread 53 = .ok (.iconst 0, 1) := by decide +kernel
theorem dX6_endSpread_54 : decode cX6_endSpread 54 = .ok (.aaload, 1) := by decide +kernel
theorem dX6_endSpread_55 : decode cX6_endSpread 55 = .ok (.iload_n 3, 1) := by decide +kernel
theorem dX6_endSpread_56 : decode cX6_endSpread 56 = .ok (.aload_n 0, 1) := by decide +kernel
theorem dX6_endSpread_57 : decode cX6_endSpread 57 = .ok (.getfield 33, 3) := by decide +kernel
theorem dX6_endSpread_60 : decode cX6_endSpread 60 = .ok (.getfield 162, 3) := by decide +kernel
theorem dX6_endSpread_63 : decode cX6_endSpread 63 = .ok (.iload_n 2, 1) := by decide +kernel
theorem dX6_endSpread_64 : decode cX6_endSpread 64 = .ok (.iaload, 1) := by decide +kernel
theorem dX6_endSpread_65 : decode cX6_endSpread 65 = .ok (.iastore, 1) := by decide +kernel
theorem dX6_endSpread_66 : decode cX6_endSpread 66 = .ok (.aload_n 0, 1) := by decide +kernel
theorem dX6_endSpread_67 : decode cX6_endSpread 67 = .ok (.getfield 27, 3) := by decide +kernel
theorem dX6_endSpread_70 : decode cX6_endSpread 70 = .ok (.iconst 1, 1) := by decide +kernel
theorem dX6_endSpread_71 : decode cX6_endSpread 71 = .ok (.aaload, 1) := by decide +kernel
theorem dX6_endSpread_72 : decode cX6_endSpread 72 = .ok (.iload_n 3, 1) := by decide +kernel
theorem dX6_endSpread_73 : decode cX6_endSpread 73 = .ok (.iload 5, 2) := by decide +kernel
theorem dX6_endSpread_75 : decode cX6_endSpread 75 = .ok (.iastore, 1) := by decide +kernel
theorem dX6_endSpread_76 : decode cX6_endSpread 76 = .ok (.aload_n 0, 1) := by decide +kernel
theorem dX6_endSpread_77 : decode cX6_endSpread 77 = .ok (.getfield 27, 3) := by decide +kernel
theorem dX6_endSpread_80 : decode cX6_endSpread 80 = .ok (.iconst 2, 1) := by decide +kernel
theorem dX6_endSpread_81 : decode cX6_endSpread 81 = .ok (.aaload, 1) := by decide +kernel
theorem dX6_endSpread_82 : decode cX6_endSpread 82 = .ok (.iload_n 3, 1) := by decide +kernel
theorem dX6_endSpread_83 : decode cX6_endSpread 83 = .ok (.iconst 0, 1) := by decide +kernel
theorem dX6_endSpread_84 : decode cX6_endSpread 84 = .ok (.aload_n 0, 1) := by decide +kernel
theorem dX6_endSpread_85 : decode cX6_endSpread 85 = .ok (.getfield 11, 3) := by decide +kernel
theorem dX6_endSpread_88 : decode cX6_endSpread 88 = .ok (.aload_n 0, 1) := by decide +kernel
theorem dX6_endSpread_89 : decode cX6_endSpread 89 = .ok (.getfield 33, 3) := by decide +kernel
theorem dX6_endSpread_92 : decode cX6_endSpread 92 = .ok (.getfield 162, 3) := by decide +kernel
theorem dX6_endSpread_95 : decode cX6_endSpread 95 = .ok (.iload_n 2, 1) := by decide +kernel
theorem dX6_endSpread_96 : decode cX6_endSpread 96 = .ok (.iaload, 1) := by decide +kernel
theorem dX6_endSpread_97 : decode cX6_endSpread 97 = .ok (.isub, 1) := by decide +kernel
theorem dX6_endSpread_98 : decode cX6_endSpread 98 = .ok (.iload 5, 2) := by decide +kernel
theorem dX6_endSpread_100 : decode cX6_endSpread 100 = .ok (.isub, 1) := by decide +kernel
theorem dX6_endSpread_101 : decode cX6_endSpread 101 = .ok (.invokestatic 165, 3) := by decide +kernel
theorem dX6_endSpread_104 : decode cX6_endSpread 104 = .ok (.iastore, 1) := by decide +kernel
theorem dX6_endSpread_105 : decode cX6_endSpread 105 = .ok (.aload_n 0, 1) := by decide +kernel
theorem dX6_endSpread_106 : decode cX6_endSpread 106 = .ok (.getfield 27, 3) := by decide +kernel
theorem dX6_endSpread_109 : decode cX6_endSpread 109 = .ok (.iconst 3, 1) := by decide +kernel
theorem dX6_endSpread_110 : decode cX6_endSpread 110 = .ok (.aaload, 1) := by decide +kernel
theorem dX6_endSpread_111 : decode cX6_endSpread 111 = .ok (.iload_n 3, 1) := by decide +kernel
theorem dX6_endSpread_112 : decode cX6_endSpread 112 = .ok (.aload_n 0, 1) := by decide +kernel
theorem dX6_endSpread_113 : decode cX6_endSpread 113 = .ok (.getfield 33, 3) := by decide +kernel
theorem dX6_endSpread_116 : decode cX6_endSpread 116 = .ok (.getfield 85, 3) := by decide +kernel
theorem dX6_endSpread_119 : decode cX6_endSpread 119 = .ok (.iload_n 2, 1) := by decide +kernel
theorem dX6_endSpread_120 : decode cX6_endSpread 120 = .ok (.iaload, 1) := by decide +kernel
theorem dX6_endSpread_121 : decode cX6_endSpread 121 = .ok (.iastore, 1) := by decide +kernel
theorem dX6_endSpread_122 : decode cX6_endSpread 122 = .ok (.aload_n 0, 1) := by decide +kernel
theorem dX6_endSpread_123 : decode cX6_endSpread 123 = .ok (.getfield 27, 3) := by decide +kernel
theorem dX6_endSpread_126 : decode cX6_endSpread 126 = .ok (.iconst 4, 1) := by decide +kernel
theorem dX6_endSpread_127 : decode cX6_endSpread 127 = .ok (.aaload, 1) := by decide +kernel
theorem dX6_endSpread_128 : decode cX6_endSpread 128 = .ok (.iload_n 3, 1) := by decide +kernel
theorem dX6_endSpread_129 : decode cX6_endSpread 129 = .ok (.iload 4, 2) := by decide +kernel
theorem dX6_endSpread_131 : decode cX6_endSpread 131 = .ok (.iastore, 1) := by decide +kernel
theorem dX6_endSpread_132 : decode cX6_endSpread 132 = .ok (.aload_n 0, 1) := by decide +kernel
theorem dX6_endSpread_133 : decode cX6_endSpread 133 = .ok (.getfield 27, 3) := by decide +kernel
theorem dX6_endSpread_136 : decode cX6_endSpread 136 = .ok (.iconst 5, 1) := by decide +kernel
theorem dX6_endSpread_137 : decode cX6_endSpread 137 = .ok (.aaload, 1) := by decide +kernel
theorem dX6_endSpread_138 : decode cX6_endSpread 138 = .ok (.iload_n 3, 1) := by decide +kernel
theorem dX6_endSpread_139 : decode cX6_endSpread 139 = .ok (.aload_n 0, 1) := by decide +kernel
theorem dX6_endSpread_140 : decode cX6_endSpread 140 = .ok (.getfield 33, 3) := by decide +kernel
theorem dX6_endSpread_143 : decode cX6_endSpread 143 = .ok (.getfield 168, 3) := by decide +kernel
theorem dX6_endSpread_146 : decode cX6_endSpread 146 = .ok (.iload_n 2, 1) := by decide +kernel
theorem dX6_endSpread_147 : decode cX6_endSpread 147 = .ok (.iaload, 1) := by decide +kernel
theorem dX6_endSpread_148 : decode cX6_endSpread 148 = .ok (.iastore, 1) := by decide +kernel
theorem dX6_endSpread_149 : decode cX6_endSpread 149 = .ok (.aload_n 0, 1) := by decide +kernel
theorem dX6_endSpread_150 : decode cX6_endSpread 150 = .ok (.getfield 27, 3) := by decide +kernel
theorem dX6_endSpread_153 : decode cX6_endSpread 153 = .ok (.bipush 6, 2) := by decide +kernel
theorem dX6_endSpread_155 : decode cX6_endSpread 155 = .ok (.aaload, 1) := by decide +kernel
theorem dX6_endSpread_156 : decode cX6_endSpread 156 = .ok (.iload_n 3, 1) := by decide +kernel
theorem dX6_endSpread_157 : decode cX6_endSpread 157 = .ok (.aload_n 0, 1) := by decide +kernel
theorem dX6_endSpread_158 : decode cX6_endSpread 158 = .ok (.getfield 33, 3) := by decide +kernel
theorem dX6_endSpread_161 : decode cX6_endSpread 161 = .ok (.getfield 171, 3) := by decide +kernel
theorem dX6_endSpread_164 : decode cX6_endSpread 164 = .ok (.iload_n 2, 1) := by decide +kernel
theorem dX6_endSpread_165 : decode cX6_endSpread 165 = .ok (.iaload, 1) := by decide +kernel
theorem dX6_endSpread_166 : decode cX6_endSpread 166 = .ok (.iastore, 1) := by decide +kernel
theorem dX6_endSpread_167 : decode cX6_endSpread 167 = .ok (.aload_n 0, 1) := by decide +kernel
theorem dX6_endSpread_168 : decode cX6_endSpread 168 = .ok (.getfield 33, 3) := by decide +kernel
theorem dX6_endSpread_171 : decode cX6_endSpread 171 = .ok (.iload_n 2, 1) := by decide +kernel
theorem dX6_endSpread_172 : decode cX6_endSpread 172 = .ok (.iload 4, 2) := by decide +kernel
theorem dX6_endSpread_174 : decode cX6_endSpread 174 = .ok (.aload_n 0, 1) := by decide +kernel
theorem dX6_endSpread_175 : decode cX6_endSpread 175 = .ok (.getfield 33, 3) := by decide +kernel
theorem dX6_endSpread_178 : decode cX6_endSpread 178 = .ok (.getfield 171, 3) := by decide +kernel
theorem dX6_endSpread_181 : decode cX6_endSpread 181 = .ok (.iload_n 2, 1) := by decide +kernel
theorem dX6_endSpread_182 : decode cX6_endSpread 182 = .ok (.iaload, 1) := by decide +kernel
theorem dX6_endSpread_183 : decode cX6_endSpread 183 = .ok (.aload_n 0, 1) := by decide +kernel
theorem dX6_endSpread_184 : decode cX6_endSpread 184 = .ok (.getfield 33, 3) := by decide +kernel
theorem dX6_endSpread_187 : decode cX6_endSpread 187 = .ok (.getfield 168, 3) := by decide +kernel
theorem dX6_endSpread_190 : decode cX6_endSpread 190 = .ok (.iload_n 2, 1) := by decide +kernel
theorem dX6_endSpread_191 : decode cX6_endSpread 191 = .ok (.iaload, 1) := by decide +kernel
theorem dX6_endSpread_192 : decode cX6_endSpread 192 = .ok (.iadd, 1) := by decide +kernel
theorem dX6_endSpread_193 : decode cX6_endSpread 193 = .ok (.invokevirtual 60, 3) := by decide +kernel
theorem dX6_endSpread_196 : decode cX6_endSpread 196 = .ok (.iinc 2 1, 3) := by decide +kernel
theorem dX6_endSpread_199 : decode cX6_endSpread 199 = .ok (.goto (-197), 3) := by decide +kernel
theorem dX6_endSpread_202 : decode cX6_endSpread 202 = .ok (.aload_n 0, 1) := by decide +kernel
theorem dX6_endSpread_203 : decode cX6_endSpread 203 = .ok (.dup, 1) := by decide +kernel
theorem dX6_endSpread_204 : decode cX6_endSpread 204 = .ok (.getfield 50, 3) := by decide +kernel
theorem dX6_endSpread_207 : decode cX6_endSpread 207 = .ok (.iconst 1, 1) := by decide +kernel
theorem dX6_endSpread_208 : decode cX6_endSpread 208 = .ok (.iadd, 1) := by decide +kernel
theorem dX6_endSpread_209 : decode cX6_endSpread 209 = .ok (.putfield 50, 3) := by decide +kernel
theorem dX6_endSpread_212 : decode cX6_endSpread 212 = .ok (.aload_n 0, 1) := by decide +kernel
theorem dX6_endSpread_213 : decode cX6_endSpread 213 = .ok (.getfield 15, 3) := by decide +kernel
theorem dX6_endSpread_216 : decode cX6_endSpread 216 = .ok (.aload_n 0, 1) := by decide +kernel
theorem dX6_endSpread_217 : decode cX6_endSpread 217 = .ok (.getfield 50, 3) := by decide +kernel
theorem dX6_endSpread_220 : decode cX6_endSpread 220 = .ok (.aload_n 0, 1) := by decide +kernel
theorem dX6_endSpread_221 : decode cX6_endSpread 221 = .ok (.getfield 53, 3) := by decide +kernel
theorem dX6_endSpread_224 : decode cX6_endSpread 224 = .ok (.iastore, 1) := by decide +kernel
theorem dX6_endSpread_225 : decode cX6_endSpread 225 = .ok (.return_, 1) := by decide +kernel
theorem dX6_has_0 : decode cX6_has 0 = .ok (.iload_n 1, 1) := by decide +kernel
theorem dX6_has_1 : decode cX6_has 1 = .ok (.iconst 0, 1) := by decide +kernel
theorem dX6_has_2 : decode cX6_has 2 = .ok (.aload_n 0, 1) := by decide +kernel
theorem dX6_has_3 : decode cX6_has 3 = .ok (.getfield 50, 3) := by decide +kernel
theorem dX6_has_6 : decode cX6_has 6 = .ok (.iconst 1, 1) := by decide +kernel
theorem dX6_has_7 : decode cX6_has 7 = .ok (.isub, 1) := by decide +kernel
theorem dX6_has_8 : decode cX6_has 8 = .ok (.invokestatic 174, 3) := by decide +kernel
theorem dX6_has_11 : decode cX6_has 11 = .ok (.ireturn, 1) := by decide +kernel
theorem dX6_segmentsOf_0 : decode cX6_segmentsOf 0 = .ok (.aload_n 0, 1) := by decide +kernel
theorem dX6_segmentsOf_1 : decode cX6_segmentsOf 1 = .ok (.getfield 15, 3) := by decide +kernel
theorem dX6_segmentsOf_4 : decode cX6_segmentsOf 4 = .ok (.iload_n 1, 1) := by decide +kernel
theorem dX6_segmentsOf_5 : decode cX6_segmentsOf 5 = .ok (.iconst 1, 1) := by decide +kernel
theorem dX6_segmentsOf_6 : decode cX6_segmentsOf 6 = .ok (.iadd, 1) := by decide +kernel
theorem dX6_segmentsOf_7 : decode cX6_segmentsOf 7 = .ok (.iaload, 1) := by decide +kernel
theorem dX6_segmentsOf_8 : decode cX6_segmentsOf 8 = .ok (.aload_n 0, 1) := by decide +kernel
theorem dX6_segmentsOf_9 : decode cX6_segmentsOf 9 = .ok (.getfield 15, 3) := by decide +kernel
theorem dX6_segmentsOf_12 : decode cX6_segmentsOf 12 = .ok (.iload_n 1, 1) := by decide +kernel
theorem dX6_segmentsOf_13 : decode cX6_segmentsOf 13 = .ok (.iaload, 1) := by decide +kernel
theorem dX6_segmentsOf_14 : decode cX6_segmentsOf 14 = .ok (.isub, 1) := by decide +kernel
theorem dX6_segmentsOf_15 : decode cX6_segmentsOf 15 = .ok (.ireturn, 1) := by decide +kernel
theorem dX6_segmentWith_0 : decode cX6_segmentWith 0 = .ok (.iconst 0, 1) := by decide +kernel
theorem dX6_segmentWith_1 : decode cX6_segmentWith 1 = .ok (.istore 4, 2) := by decide +kernel
theorem dX6_segmentWith_3 : decode cX6_segmentWith 3 = .ok (.iload 4, 2) := by decide +kernel
theorem dX6_segmentWith_5 : decode cX6_segmentWith 5 = .ok (.aload_n 0, 1) := by decide +kernel
theorem dX6_segmentWith_6 : decode cX6_segmentWith 6 = .ok (.getfield 53, 3) := by decide +kernel
theorem dX6_segmentWith_9 : decode cX6_segmentWith 9 = .ok (.iconst 1, 1) := by decide +kernel
theorem dX6_segmentWith_10 : decode cX6_segmentWith 10 = .ok (.isub, 1) := by decide +kernel
theorem dX6_segmentWith_11 : decode cX6_segmentWith 11 = .ok (.if_icmp .ge 21, 3) := by decide +kernel
theorem dX6_segmentWith_14 : decode cX6_segmentWith 14 = .ok (.aload_n 0, 1) := by decide +kernel
theorem dX6_segmentWith_15 : decode cX6_segmentWith 15 = .ok (.iload 4, 2) := by decide +kernel
theorem dX6_segmentWith_17 : decode cX6_segmentWith 17 = .ok (.iload_n 1, 1) := by decide +kernel
theorem dX6_segmentWith_18 : decode cX6_segmentWith 18 = .ok (.iload_n 2, 1) := by decide +kernel
theorem dX6_segmentWith_19 : decode cX6_segmentWith 19 = .ok (.iload_n 3, 1) := by decide +kernel
theorem dX6_segmentWith_20 : decode cX6_segmentWith 20 = .ok (.invokevirtual 177, 3) := by decide +kernel
theorem dX6_segmentWith_23 : decode cX6_segmentWith 23 = .ok (.ifCond .ne 9, 3) := by decide +kernel
theorem dX6_segmentWith_26 : decode cX6_segmentWith 26 = .ok (.iinc 4 1, 3) := by decide +kernel
theorem dX6_segmentWith_29 : decode cX6_segmentWith 29 = .ok (.goto (-26), 3) := by decide +kernel
theorem dX6_segmentWith_32 : decode cX6_segmentWith 32 = .ok (.iload 4, 2) := by decide +kernel
theorem dX6_segmentWith_34 : decode cX6_segmentWith 34 = .ok (.ireturn, 1) := by decide +kernel
theorem dX6_contains_0 : decode cX6_contains 0 = .ok (.iload 4, 2) := by decide +kernel
theorem dX6_contains_2 : decode cX6_contains 2 = .ok (.aload_n 0, 1) := by decide +kernel
theorem dX6_contains_3 : decode cX6_contains 3 = .ok (.getfield 24, 3) := by decide +kernel
theorem dX6_contains_6 : decode cX6_contains 6 = .ok (.getstatic 142, 3) := by decide +kernel
theorem dX6_contains_9 : decode cX6_contains 9 = .ok (.iload_n 3, 1) := by decide +kernel
theorem dX6_contains_10 : decode cX6_contains 10 = .ok (.iaload, 1) := by decide +kernel
theorem dX6_contains_11 : decode cX6_contains 11 = .ok (.aaload, 1) := by decide +kernel
theorem dX6_contains_12 : decode cX6_contains 12 = .ok (.iload_n 1, 1) := by decide +kernel
theorem dX6_contains_13 : decode cX6_contains 13 = .ok (.iaload, 1) := by decide +kernel
theorem dX6_contains_14 : decode cX6_contains 14 = .ok (.isub, 1) := by decide +kernel
theorem dX6_contains_15 : decode cX6_contains 15 = .ok (.istore 5, 2) := by decide +kernel
theorem dX6_contains_17 : decode cX6_contains 17 = .ok (.aload_n 0, 1) := by decide +kernel
theorem dX6_contains_18 : decode cX6_contains 18 = .ok (.getfield 24, 3) := by decide +kernel
theorem dX6_contains_21 : decode cX6_contains 21 = .ok (.iconst 0, 1) := by decide +kernel
theorem dX6_contains_22 : decode cX6_contains 22 = .ok (.aaload, 1) := by decide +kernel
theorem dX6_contains_23 : decode cX6_contains 23 = .ok (.iload_n 1, 1) := by decide +kernel
theorem dX6_contains_24 : decode cX6_contains 24 = .ok (.iaload, 1) := by decide +kernel
theorem dX6_contains_25 : decode cX6_contains 25 = .ok (.iload_n 2, 1) := by decide +kernel
theorem dX6_contains_26 : decode cX6_contains 26 = .ok (.if_icmp .ne 30, 3) := by decide +kernel
theorem dX6_contains_29 : decode cX6_contains 29 = .ok (.iload 5, 2) := by decide +kernel
theorem dX6_contains_31 : decode cX6_contains 31 = .ok (.iconst 0, 1) := by decide +kernel
theorem dX6_contains_32 : decode cX6_contains 32 = .ok (.aload_n 0, 1) := by decide +kernel
theorem dX6_contains_33 : decode cX6_contains 33 = .ok (.getfield 24, 3) := by decide +kernel
theorem dX6_contains_36 : decode cX6_contains 36 = .ok (.getstatic 148, 3) := by decide +kernel
theorem dX6_contains_39 : decode cX6_contains 39 = .ok (.iload_n 3, 1) := by decide +kernel
theorem dX6_contains_40 : decode cX6_contains 40 = .ok (.iaload, 1) := by decide +kernel
theorem dX6_contains_41 : decode cX6_contains 41 = .ok (.aaload, 1) := by decide +kernel
theorem dX6_contains_42 : decode cX6_contains 42 = .ok (.iload_n 1, 1) := by decide +kernel
theorem dX6_contains_43 : decode cX6_contains 43 = .ok (.iaload, 1) := by decide +kernel
theorem dX6_contains_44 : decode cX6_contains 44 = .ok (.iconst 1, 1) := by decide +kernel
theorem dX6_contains_45 : decode cX6_contains 45 = .ok (.isub, 1) := by decide +kernel
theorem dX6_contains_46 : decode cX6_contains 46 = .ok (.invokestatic 174, 3) := by decide +kernel
theorem dX6_contains_49 : decode cX6_contains 49 = .ok (.ifCond .eq 7, 3) := by decide +kernel
theorem dX6_contains_52 : decode cX6_contains 52 = .ok (.iconst 1, 1) := by decide +kernel
theorem dX6_contains_53 : decode cX6_contains 53 = .ok (.goto 4, 3) := by decide +kernel
theorem dX6_contains_56 : decode cX6_contains 56 = .ok (.iconst 0, 1) := by decide +kernel
theorem dX6_contains_57 : decode cX6_contains 57 = .ok (.ireturn, 1) := by decide +kernel
theorem dX6_spreadWith_0 : decode cX6_spreadWith 0 = .ok (.iconst 0, 1) := by decide +kernel
theorem dX6_spreadWith_1 : decode cX6_spreadWith 1 = .ok (.istore_n 2, 1) := by decide +kernel
theorem dX6_spreadWith_2 : decode cX6_spreadWith 2 = .ok (.iload_n 2, 1) := by decide +kernel
theorem dX6_spreadWith_3 : decode cX6_spreadWith 3 = .ok (.aload_n 0, 1) := by decide +kernel
theorem dX6_spreadWith_4 : decode cX6_spreadWith 4 = .ok (.getfield 50, 3) := by decide +kernel
theorem dX6_spreadWith_7 : decode cX6_spreadWith 7 = .ok (.iconst 1, 1) := by decide +kernel
theorem dX6_spreadWith_8 : decode cX6_spreadWith 8 = .ok (.isub, 1) := by decide +kernel
theorem dX6_spreadWith_9 : decode cX6_spreadWith 9 = .ok (.if_icmp .ge 21, 3) := by decide +kernel
theorem dX6_spreadWith_12 : decode cX6_spreadWith 12 = .ok (.aload_n 0, 1) := by decide +kernel
theorem dX6_spreadWith_13 : decode cX6_spreadWith 13 = .ok (.getfield 15, 3) := by decide +kernel
theorem dX6_spreadWith_16 : decode cX6_spreadWith 16 = .ok (.iload_n 2, 1) := by decide +kernel
theorem dX6_spreadWith_17 : decode cX6_spreadWith 17 = .ok (.iconst 1, 1) := by decide +kernel
theorem dX6_spreadWith_18 : decode cX6_spreadWith 18 = .ok (.iadd, 1) := by decide +kernel
theorem dX6_spreadWith_19 : decode cX6_spreadWith 19 = .ok (.iaload, 1) := by decide +kernel
theorem dX6_spreadWith_20 : decode cX6_spreadWith 20 = .ok (.iload_n 1, 1) := by decide +kernel
theorem dX6_spreadWith_21 : decode cX6_spreadWith 21 = .ok (.if_icmp .gt 9, 3) := by decide +kernel
theorem dX6_spreadWith_24 : decode cX6_spreadWith 24 = .ok (.iinc 2 1, 3) := by decide +kernel
theorem dX6_spreadWith_27 : decode cX6_spreadWith 27 = .ok (.goto (-25), 3) := by decide +kernel
theorem dX6_spreadWith_30 : decode cX6_spreadWith 30 = .ok (.iload_n 2, 1) := by decide +kernel
theorem dX6_spreadWith_31 : decode cX6_spreadWith 31 = .ok (.ireturn, 1) := by decide +kernel
theorem dX6_rowIn_0 : decode cX6_rowIn 0 = .ok (.aload_n 0, 1) := by decide +kernel
theorem dX6_rowIn_1 : decode cX6_rowIn 1 = .ok (.getfield 24, 3) := by decide +kernel
theorem dX6_rowIn_4 : decode cX6_rowIn 4 = .ok (.getstatic 151, 3) := by decide +kernel
theorem dX6_rowIn_7 : decode cX6_rowIn 7 = .ok (.iload_n 2, 1) := by decide +kernel
theorem dX6_rowIn_8 : decode cX6_rowIn 8 = .ok (.iaload, 1) := by decide +kernel
theorem dX6_rowIn_9 : decode cX6_rowIn 9 = .ok (.aaload, 1) := by decide +kernel
theorem dX6_rowIn_10 : decode cX6_rowIn 10 = .ok (.iload_n 1, 1) := by decide +kernel
theorem dX6_rowIn_11 : decode cX6_rowIn 11 = .ok (.iaload, 1) := by decide +kernel
theorem dX6_rowIn_12 : decode cX6_rowIn 12 = .ok (.iload_n 3, 1) := by decide +kernel
theorem dX6_rowIn_13 : decode cX6_rowIn 13 = .ok (.iadd, 1) := by decide +kernel
theorem dX6_rowIn_14 : decode cX6_rowIn 14 = .ok (.aload_n 0, 1) := by decide +kernel
theorem dX6_rowIn_15 : decode cX6_rowIn 15 = .ok (.getfield 24, 3) := by decide +kernel
theorem dX6_rowIn_18 : decode cX6_rowIn 18 = .ok (.getstatic 142, 3) := by decide +kernel
theorem dX6_rowIn_21 : decode cX6_rowIn 21 = .ok (.iload_n 2, 1) := by decide +kernel
theorem dX6_rowIn_22 : decode cX6_rowIn 22 = .ok (.iaload, 1) := by decide +kernel
theorem dX6_rowIn_23 : decode cX6_rowIn 23 = .ok (.aaload, 1) := by decide +kernel
theorem dX6_rowIn_24 : decode cX6_rowIn 24 = .ok (.iload_n 1, 1) := by decide +kernel
theorem dX6_rowIn_25 : decode cX6_rowIn 25 = .ok (.iaload, 1) := by decide +kernel
theorem dX6_rowIn_26 : decode cX6_rowIn 26 = .ok (.isub, 1) := by decide +kernel
theorem dX6_rowIn_27 : decode cX6_rowIn 27 = .ok (.ireturn, 1) := by decide +kernel
theorem dX6_textAt_0 : decode cX6_textAt 0 = .ok (.aload_n 0, 1) := by decide +kernel
theorem dX6_textAt_1 : decode cX6_textAt 1 = .ok (.getfield 15, 3) := by decide +kernel
theorem dX6_textAt_4 : decode cX6_textAt 4 = .ok (.iload_n 1, 1) := by decide +kernel
theorem dX6_textAt_5 : decode cX6_textAt 5 = .ok (.iaload, 1) := by decide +kernel
theorem dX6_textAt_6 : decode cX6_textAt 6 = .ok (.istore 4, 2) := by decide +kernel
theorem dX6_textAt_8 : decode cX6_textAt 8 = .ok (.iload 4, 2) := by decide +kernel
theorem dX6_textAt_10 : decode cX6_textAt 10 = .ok (.aload_n 0, 1) := by decide +kernel
theorem dX6_textAt_11 : decode cX6_textAt 11 = .ok (.getfield 15, 3) := by decide +kernel
theorem dX6_textAt_14 : decode cX6_textAt 14 = .ok (.iload_n 1, 1) := by decide +kernel
theorem dX6_textAt_15 : decode cX6_textAt 15 = .ok (.iconst 1, 1) := by decide +kernel
theorem dX6_textAt_16 : decode cX6_textAt 16 = .ok (.iadd, 1) := by decide +kernel
theorem dX6_textAt_17 : decode cX6_textAt 17 = .ok (.iaload, 1) := by decide +kernel
theorem dX6_textAt_18 : decode cX6_textAt 18 = .ok (.if_icmp .ge 88, 3) := by decide +kernel
theorem dX6_textAt_21 : decode cX6_textAt 21 = .ok (.iload_n 3, 1) := by decide +kernel
theorem dX6_textAt_22 : decode cX6_textAt 22 = .ok (.aload_n 0, 1) := by decide +kernel
theorem dX6_textAt_23 : decode cX6_textAt 23 = .ok (.getfield 24, 3) := by decide +kernel
theorem dX6_textAt_26 : decode cX6_textAt 26 = .ok (.getstatic 151, 3) := by decide +kernel
theorem dX6_textAt_29 : decode cX6_textAt 29 = .ok (.iload_n 2, 1) := by decide +kernel
theorem dX6_textAt_30 : decode cX6_textAt 30 = .ok (.iaload, 1) := by decide +kernel
theorem dX6_textAt_31 : decode cX6_textAt 31 = .ok (.aaload, 1) := by decide +kernel
theorem dX6_textAt_32 : decode cX6_textAt 32 = .ok (.iload 4, 2) := by decide +kernel
theorem dX6_textAt_34 : decode cX6_textAt 34 = .ok (.iaload, 1) := by decide +kernel
theorem dX6_textAt_35 : decode cX6_textAt 35 = .ok (.isub, 1) := by decide +kernel
theorem dX6_textAt_36 : decode cX6_textAt 36 = .ok (.istore 5, 2) := by decide +kernel
theorem dX6_textAt_38 : decode cX6_textAt 38 = .ok (.iload 5, 2) := by decide +kernel
theorem dX6_textAt_40 : decode cX6_textAt 40 = .ok (.iconst 0, 1) := by decide +kernel
theorem dX6_textAt_41 : decode cX6_textAt 41 = .ok (.aload_n 0, 1) := by decide +kernel
theorem dX6_textAt_42 : decode cX6_textAt 42 = .ok (.getfield 24, 3) := by decide +kernel
theorem dX6_textAt_45 : decode cX6_textAt 45 = .ok (.getstatic 148, 3) := by decide +kernel
theorem dX6_textAt_48 : decode cX6_textAt 48 = .ok (.iload_n 2, 1) := by decide +kernel
theorem dX6_textAt_49 : decode cX6_textAt 49 = .ok (.iaload, 1) := by decide +kernel
theorem dX6_textAt_50 : decode cX6_textAt 50 = .ok (.aaload, 1) := by decide +kernel
theorem dX6_textAt_51 : decode cX6_textAt 51 = .ok (.iload 4, 2) := by decide +kernel
theorem dX6_textAt_53 : decode cX6_textAt 53 = .ok (.iaload, 1) := by decide +kernel
theorem dX6_textAt_54 : decode cX6_textAt 54 = .ok (.iconst 1, 1) := by decide +kernel
theorem dX6_textAt_55 : decode cX6_textAt 55 = .ok (.isub, 1) := by decide +kernel
theorem dX6_textAt_56 : decode cX6_textAt 56 = .ok (.invokestatic 174, 3) := by decide +kernel
theorem dX6_textAt_59 : decode cX6_textAt 59 = .ok (.ifCond .eq 41, 3) := by decide +kernel
theorem dX6_textAt_62 : decode cX6_textAt 62 = .ok (.aload_n 0, 1) := by decide +kernel
theorem dX6_textAt_63 : decode cX6_textAt 63 = .ok (.getfield 24, 3) := by decide +kernel
theorem dX6_textAt_66 : decode cX6_textAt 66 = .ok (.getstatic 142, 3) := by decide +kernel
theorem dX6_textAt_69 : decode cX6_textAt 69 = .ok (.iload_n 2, 1) := by decide +kernel
theorem dX6_textAt_70 : decode cX6_textAt 70 = .ok (.iaload, 1) := by decide +kernel
theorem dX6_textAt_71 : decode cX6_textAt 71 = .ok (.aaload, 1) := by decide +kernel
theorem dX6_textAt_72 : decode cX6_textAt 72 = .ok (.iload 4, 2) := by decide +kernel
theorem dX6_textAt_74 : decode cX6_textAt 74 = .ok (.iaload, 1) := by decide +kernel
theorem dX6_textAt_75 : decode cX6_textAt 75 = .ok (.iload 5, 2) := by decide +kernel
theorem dX6_textAt_77 : decode cX6_textAt 77 = .ok (.iadd, 1) := by decide +kernel
theorem dX6_textAt_78 : decode cX6_textAt 78 = .ok (.istore 6, 2) := by decide +kernel
theorem dX6_textAt_80 : decode cX6_textAt 80 = .ok (.sipush 10000, 3) := by decide +kernel
theorem dX6_textAt_83 : decode cX6_textAt 83 = .ok (.bipush 100, 2) := by decide +kernel
theorem dX6_textAt_85 : decode cX6_textAt 85 = .ok (.aload_n 0, 1) := by decide +kernel
theorem dX6_textAt_86 : decode cX6_textAt 86 = .ok (.getfield 24, 3) := by decide +kernel
theorem dX6_textAt_89 : decode cX6_textAt 89 = .ok (.iconst 0, 1) := by decide +kernel
theorem dX6_textAt_90 : decode cX6_textAt 90 = .ok (.aaload, 1) := by decide +kernel
theorem dX6_textAt_91 : decode cX6_textAt 91 = .ok (.iload 4, 2) := by decide +kernel
theorem dX6_textAt_93 : decode cX6_textAt 93 = .ok (.iaload, 1) := by decide +kernel
theorem dX6_textAt_94 : decode cX6_textAt 94 = .ok (.imul, 1) := by decide +kernel
theorem dX6_textAt_95 : decode cX6_textAt 95 = .ok (.iadd, 1) := by decide +kernel
theorem dX6_textAt_96 : decode cX6_textAt 96 = .ok (.iload 6, 2) := by decide +kernel
theorem dX6_textAt_98 : decode cX6_textAt 98 = .ok (.iadd, 1) := by decide +kernel
theorem dX6_textAt_99 : decode cX6_textAt 99 = .ok (.ireturn, 1) := by decide +kernel
theorem dX6_textAt_100 : decode cX6_textAt 100 = .ok (.iinc 4 1, 3) := by decide +kernel
theorem dX6_textAt_103 : decode cX6_textAt 103 = .ok (.goto (-95), 3) := by decide +kernel
theorem dX6_textAt_106 : decode cX6_textAt 106 = .ok (.iconst 0, 1) := by decide +kernel
theorem dX6_textAt_107 : decode cX6_textAt 107 = .ok (.ireturn, 1) := by decide +kernel
theorem dX6_noteAt_0 : decode cX6_noteAt 0 = .ok (.iconst 2, 1) := by decide +kernel
theorem dX6_noteAt_1 : decode cX6_noteAt 1 = .ok (.iload_n 2, 1) := by decide +kernel
theorem dX6_noteAt_2 : decode cX6_noteAt 2 = .ok (.imul, 1) := by decide +kernel
theorem dX6_noteAt_3 : decode cX6_noteAt 3 = .ok (.iload_n 3, 1) := by decide +kernel
theorem dX6_noteAt_4 : decode cX6_noteAt 4 = .ok (.iadd, 1) := by decide +kernel
theorem dX6_noteAt_5 : decode cX6_noteAt 5 = .ok (.istore 5, 2) := by decide +kernel
theorem dX6_noteAt_7 : decode cX6_noteAt 7 = .ok (.aload_n 0, 1) := by decide +kernel
theorem dX6_noteAt_8 : decode cX6_noteAt 8 = .ok (.getfield 27, 3) := by decide +kernel
theorem dX6_noteAt_11 : decode cX6_noteAt 11 = .ok (.iconst 1, 1) := by decide +kernel
theorem dX6_noteAt_12 : decode cX6_noteAt 12 = .ok (.aaload, 1) := by decide +kernel
theorem dX6_noteAt_13 : decode cX6_noteAt 13 = .ok (.iload 5, 2) := by decide +kernel
theorem dX6_noteAt_15 : decode cX6_noteAt 15 = .ok (.iaload, 1) := by decide +kernel
theorem dX6_noteAt_16 : decode cX6_noteAt 16 = .ok (.istore 6, 2) := by decide +kernel
theorem dX6_noteAt_18 : decode cX6_noteAt 18 = .ok (.aload_n 0, 1) := by decide +kernel
theorem dX6_noteAt_19 : decode cX6_noteAt 19 = .ok (.getfield 11, 3) := by decide +kernel
theorem dX6_noteAt_22 : decode cX6_noteAt 22 = .ok (.iload 6, 2) := by decide +kernel
theorem dX6_noteAt_24 : decode cX6_noteAt 24 = .ok (.isub, 1) := by decide +kernel
theorem dX6_noteAt_25 : decode cX6_noteAt 25 = .ok (.aload_n 0, 1) := by decide +kernel
theorem dX6_noteAt_26 : decode cX6_noteAt 26 = .ok (.getfield 27, 3) := by decide +kernel
theorem dX6_noteAt_29 : decode cX6_noteAt 29 = .ok (.iconst 0, 1) := by decide +kernel
theorem dX6_noteAt_30 : decode cX6_noteAt 30 = .ok (.aaload, 1) := by decide +kernel
theorem dX6_noteAt_31 : decode cX6_noteAt 31 = .ok (.iload 5, 2) := by decide +kernel
theorem dX6_noteAt_33 : decode cX6_noteAt 33 = .ok (.iaload, 1) := by decide +kernel
theorem dX6_noteAt_34 : decode cX6_noteAt 34 = .ok (.invokestatic 165, 3) := by decide +kernel
theorem dX6_noteAt_37 : decode cX6_noteAt 37 = .ok (.istore 7, 2) := by decide +kernel
theorem dX6_noteAt_39 : decode cX6_noteAt 39 = .ok (.iload 4, 2) := by decide +kernel
theorem dX6_noteAt_41 : decode cX6_noteAt 41 = .ok (.iload 7, 2) := by decide +kernel
theorem dX6_noteAt_43 : decode cX6_noteAt 43 = .ok (.iload 7, 2) := by decide +kernel
theorem dX6_noteAt_45 : decode cX6_noteAt 45 = .ok (.iload 6, 2) := by decide +kernel
theorem dX6_noteAt_47 : decode cX6_noteAt 47 = .ok (.iadd, 1) := by decide +kernel
theorem dX6_noteAt_48 : decode cX6_noteAt 48 = .ok (.iconst 1, 1) := by decide +kernel
theorem dX6_noteAt_49 : decode cX6_noteAt 49 = .ok (.isub, 1) := by decide +kernel
theorem dX6_noteAt_50 : decode cX6_noteAt 50 = .ok (.invokestatic 174, 3) := by decide +kernel
theorem dX6_noteAt_53 : decode cX6_noteAt 53 = .ok (.ifCond .ne 5, 3) := by decide +kernel
theorem dX6_noteAt_56 : decode cX6_noteAt 56 = .ok (.iconst 0, 1) := by decide +kernel
theorem dX6_noteAt_57 : decode cX6_noteAt 57 = .ok (.ireturn, 1) := by decide +kernel
theorem dX6_noteAt_58 : decode cX6_noteAt 58 = .ok (.iload 4, 2) := by decide +kernel
theorem dX6_noteAt_60 : decode cX6_noteAt 60 = .ok (.iload 7, 2) := by decide +kernel
theorem dX6_noteAt_62 : decode cX6_noteAt 62 = .ok (.isub, 1) := by decide +kernel
theorem dX6_noteAt_63 : decode cX6_noteAt 63 = .ok (.aload_n 1, 1) := by decide +kernel
theorem dX6_noteAt_64 : decode cX6_noteAt 64 = .ok (.getfield 120, 3) := by decide +kernel
theorem dX6_noteAt_67 : decode cX6_noteAt 67 = .ok (.iconst 2, 1) := by decide +kernel
theorem dX6_noteAt_68 : decode cX6_noteAt 68 = .ok (.iaload, 1) := by decide +kernel
theorem dX6_noteAt_69 : decode cX6_noteAt 69 = .ok (.isub, 1) := by decide +kernel
theorem dX6_noteAt_70 : decode cX6_noteAt 70 = .ok (.istore 8, 2) := by decide +kernel
theorem dX6_noteAt_72 : decode cX6_noteAt 72 = .ok (.iload 8, 2) := by decide +kernel
theorem dX6_noteAt_74 : decode cX6_noteAt 74 = .ok (.ifCond .ge 9, 3) := by decide +kernel
theorem dX6_noteAt_77 : decode cX6_noteAt 77 = .ok (.sipush 30000, 3) := by decide +kernel
theorem dX6_noteAt_80 : decode cX6_noteAt 80 = .ok (.goto 16, 3) := by decide +kernel
theorem dX6_noteAt_83 : decode cX6_noteAt 83 = .ok (.aload_n 0, 1) := by decide +kernel
theorem dX6_noteAt_84 : decode cX6_noteAt 84 = .ok (.aload_n 1, 1) := by decide +kernel
theorem dX6_noteAt_85 : decode cX6_noteAt 85 = .ok (.iload_n 3, 1) := by decide +kernel
theorem dX6_noteAt_86 : decode cX6_noteAt 86 = .ok (.invokevirtual 181, 3) := by decide +kernel
theorem dX6_noteAt_89 : decode cX6_noteAt 89 = .ok (.iload 5, 2) := by decide +kernel
theorem dX6_noteAt_91 : decode cX6_noteAt 91 = .ok (.iload 8, 2) := by decide +kernel
theorem dX6_noteAt_93 : decode cX6_noteAt 93 = .ok (.invokevirtual 184, 3) := by decide +kernel
theorem dX6_noteAt_96 : decode cX6_noteAt 96 = .ok (.ireturn, 1) := by decide +kernel
theorem dX6_noteLine_0 : decode cX6_noteLine 0 = .ok (.aload_n 0, 1) := by decide +kernel
theorem dX6_noteLine_1 : decode cX6_noteLine 1 = .ok (.getfield 27, 3) := by decide +kernel
theorem dX6_noteLine_4 : decode cX6_noteLine 4 = .ok (.iconst 3, 1) := by decide +kernel
theorem dX6_noteLine_5 : decode cX6_noteLine 5 = .ok (.aaload, 1) := by decide +kernel
theorem dX6_noteLine_6 : decode cX6_noteLine 6 = .ok (.iload_n 2, 1) := by decide +kernel
theorem dX6_noteLine_7 : decode cX6_noteLine 7 = .ok (.iaload, 1) := by decide +kernel
theorem dX6_noteLine_8 : decode cX6_noteLine 8 = .ok (.istore 4, 2) := by decide +kernel
theorem dX6_noteLine_10 : decode cX6_noteLine 10 = .ok (.aload_n 0, 1) := by decide +kernel
theorem dX6_noteLine_11 : decode cX6_noteLine 11 = .ok (.getfield 27, 3) := by decide +kernel
theorem dX6_noteLine_14 : decode cX6_noteLine 14 = .ok (.bipush 6, 2) := by decide +kernel
theorem dX6_noteLine_16 : decode cX6_noteLine 16 = .ok (.aaload, 1) := by decide +kernel
theorem dX6_noteLine_17 : decode cX6_noteLine 17 = .ok (.iload_n 2, 1) := by decide +kernel
theorem dX6_noteLine_18 : decode cX6_noteLine 18 = .ok (.iaload, 1) := by decide +kernel
theorem dX6_noteLine_19 : decode cX6_noteLine 19 = .ok (.istore 5, 2) := by decide +kernel
theorem dX6_noteLine_21 : decode cX6_noteLine 21 = .ok (.iload_n 3, 1) := by decide +kernel
theorem dX6_noteLine_22 : decode cX6_noteLine 22 = .ok (.iload 4, 2) := by decide +kernel
theorem dX6_noteLine_24 : decode cX6_noteLine 24 = .ok (.if_icmp .ge 41, 3) := by decide +kernel
theorem dX6_noteLine_27 : decode cX6_noteLine 27 = .ok (.iload 5, 2) := by decide +kernel
theorem dX6_noteLine_29 : decode cX6_noteLine 29 = .ok (.ifCond .le 36, 3) := by decide +kernel
theorem dX6_noteLine_32 : decode cX6_noteLine 32 = .ok (.aload_n 1, 1) := by decide +kernel
theorem dX6_noteLine_33 : decode cX6_noteLine 33 = .ok (.getfield 188, 3) := by decide +kernel
theorem dX6_noteLine_36 : decode cX6_noteLine 36 = .ok (.iconst 2, 1) := by decide +kernel
theorem dX6_noteLine_37 : decode cX6_noteLine 37 = .ok (.aaload, 1) := by decide +kernel
theorem dX6_noteLine_38 : decode cX6_noteLine 38 = .ok (.iload 5, 2) := by decide +kernel
theorem dX6_noteLine_40 : decode cX6_noteLine 40 = .ok (.iconst 1, 1) := by decide +kernel
theorem dX6_noteLine_41 : decode cX6_noteLine 41 = .ok (.isub, 1) := by decide +kernel
theorem dX6_noteLine_42 : decode cX6_noteLine 42 = .ok (.iaload, 1) := by decide +kernel
theorem dX6_noteLine_43 : decode cX6_noteLine 43 = .ok (.iload 4, 2) := by decide +kernel
theorem dX6_noteLine_45 : decode cX6_noteLine 45 = .ok (.isub, 1) := by decide +kernel
theorem dX6_noteLine_46 : decode cX6_noteLine 46 = .ok (.istore 6, 2) := by decide +kernel
theorem dX6_noteLine_48 : decode cX6_noteLine 48 = .ok (.sipush 20000, 3) := by decide +kernel
theorem dX6_noteLine_51 : decode cX6_noteLine 51 = .ok (.bipush 100, 2) := by decide +kernel
theorem dX6_noteLine_53 : decode cX6_noteLine 53 = .ok (.iload 5, 2) := by decide +kernel
theorem dX6_noteLine_55 : decode cX6_noteLine 55 = .ok (.iconst 1, 1) := by decide +kernel
theorem dX6_noteLine_56 : decode cX6_noteLine 56 = .ok (.isub, 1) := by decide +kernel
theorem dX6_noteLine_57 : decode cX6_noteLine 57 = .ok (.imul, 1) := by decide +kernel
theorem dX6_noteLine_58 : decode cX6_noteLine 58 = .ok (.iadd, 1) := by decide +kernel
theorem dX6_noteLine_59 : decode cX6_noteLine 59 = .ok (.iload 6, 2) := by decide +kernel
theorem dX6_noteLine_61 : decode cX6_noteLine 61 = .ok (.iadd, 1) := by decide +kernel
theorem dX6_noteLine_62 : decode cX6_noteLine 62 = .ok (.iload_n 3, 1) := by decide +kernel
theorem dX6_noteLine_63 : decode cX6_noteLine 63 = .ok (.iadd, 1) := by decide +kernel
theorem dX6_noteLine_64 : decode cX6_noteLine 64 = .ok (.ireturn, 1) := by decide +kernel
theorem dX6_noteLine_65 : decode cX6_noteLine 65 = .ok (.iload_n 3, 1) := by decide +kernel
theorem dX6_noteLine_66 : decode cX6_noteLine 66 = .ok (.iload 4, 2) := by decide +kernel
theorem dX6_noteLine_68 : decode cX6_noteLine 68 = .ok (.isub, 1) := by decide +kernel
theorem dX6_noteLine_69 : decode cX6_noteLine 69 = .ok (.istore 6, 2) := by decide +kernel
theorem dX6_noteLine_71 : decode cX6_noteLine 71 = .ok (.iload 5, 2) := by decide +kernel
theorem dX6_noteLine_73 : decode cX6_noteLine 73 = .ok (.istore 7, 2) := by decide +kernel
theorem dX6_noteLine_75 : decode cX6_noteLine 75 = .ok (.iload 7, 2) := by decide +kernel
theorem dX6_noteLine_77 : decode cX6_noteLine 77 = .ok (.aload_n 1, 1) := by decide +kernel
theorem dX6_noteLine_78 : decode cX6_noteLine 78 = .ok (.getfield 193, 3) := by decide +kernel
theorem dX6_noteLine_81 : decode cX6_noteLine 81 = .ok (.if_icmp .ge 47, 3) := by decide +kernel
theorem dX6_noteLine_84 : decode cX6_noteLine 84 = .ok (.aload_n 1, 1) := by decide +kernel
theorem dX6_noteLine_85 : decode cX6_noteLine 85 = .ok (.getfield 188, 3) := by decide +kernel
theorem dX6_noteLine_88 : decode cX6_noteLine 88 = .ok (.iconst 2, 1) := by decide +kernel
theorem dX6_noteLine_89 : decode cX6_noteLine 89 = .ok (.aaload, 1) := by decide +kernel
theorem dX6_noteLine_90 : decode cX6_noteLine 90 = .ok (.iload 7, 2) := by decide +kernel
theorem dX6_noteLine_92 : decode cX6_noteLine 92 = .ok (.iaload, 1) := by decide +kernel
theorem dX6_noteLine_93 : decode cX6_noteLine 93 = .ok (.istore 8, 2) := by decide +kernel
theorem dX6_noteLine_95 : decode cX6_noteLine 95 = .ok (.iload 6, 2) := by decide +kernel
theorem dX6_noteLine_97 : decode cX6_noteLine 97 = .ok (.iload 8, 2) := by decide +kernel
theorem dX6_noteLine_99 : decode cX6_noteLine 99 = .ok (.if_icmp .ge 16, 3) := by decide +kernel
theorem dX6_noteLine_102 : decode cX6_noteLine 102 = .ok (.sipush 20000, 3) := by decide +kernel
theorem dX6_noteLine_105 : decode cX6_noteLine 105 = .ok (.bipush 100, 2) := by decide +kernel
theorem dX6_noteLine_107 : decode cX6_noteLine 107 = .ok (.iload 7, 2) := by decide +kernel
theorem dX6_noteLine_109 : decode cX6_noteLine 109 = .ok (.imul, 1) := by decide +kernel
theorem dX6_noteLine_110 : decode cX6_noteLine 110 = .ok (.iadd, 1) := by decide +kernel
theorem dX6_noteLine_111 : decode cX6_noteLine 111 = .ok (.iload 6, 2) := by decide +kernel
theorem dX6_noteLine_113 : decode cX6_noteLine 113 = .ok (.iadd, 1) := by decide +kernel
theorem dX6_noteLine_114 : decode cX6_noteLine 114 = .ok (.ireturn, 1) := by decide +kernel
theorem dX6_noteLine_115 : decode cX6_noteLine 115 = .ok (.iload 6, 2) := by decide +kernel
theorem dX6_noteLine_117 : decode cX6_noteLine 117 = .ok (.iload 8, 2) := by decide +kernel
theorem dX6_noteLine_119 : decode cX6_noteLine 119 = .ok (.isub, 1) := by decide +kernel
theorem dX6_noteLine_120 : decode cX6_noteLine 120 = .ok (.istore 6, 2) := by decide +kernel
theorem dX6_noteLine_122 : decode cX6_noteLine 122 = .ok (.iinc 7 1, 3) := by decide +kernel
theorem dX6_noteLine_125 : decode cX6_noteLine 125 = .ok (.goto (-50), 3) := by decide +kernel
theorem dX6_noteLine_128 : decode cX6_noteLine 128 = .ok (.iconst 0, 1) := by decide +kernel
theorem dX6_noteLine_129 : decode cX6_noteLine 129 = .ok (.ireturn, 1) := by decide +kernel
theorem dX6_blankSquares_0 : decode cX6_blankSquares 0 = .ok (.iconst 0, 1) := by decide +kernel
theorem dX6_blankSquares_1 : decode cX6_blankSquares 1 = .ok (.istore_n 1, 1) := by decide +kernel
theorem dX6_blankSquares_2 : decode cX6_blankSquares 2 = .ok (.iconst 0, 1) := by decide +kernel
theorem dX6_blankSquares_3 : decode cX6_blankSquares 3 = .ok (.istore_n 2, 1) := by decide +kernel
theorem dX6_blankSquares_4 : decode cX6_blankSquares 4 = .ok (.iload_n 2, 1) := by decide +kernel
theorem dX6_blankSquares_5 : decode cX6_blankSquares 5 = .ok (.iconst 2, 1) := by decide +kernel
theorem dX6_blankSquares_6 : decode cX6_blankSquares 6 = .ok (.aload_n 0, 1) := by decide +kernel
theorem dX6_blankSquares_7 : decode cX6_blankSquares 7 = .ok (.getfield 50, 3) := by decide +kernel
theorem dX6_blankSquares_10 : decode cX6_blankSquares 10 = .ok (.iconst 1, 1) := by decide +kernel
theorem dX6_blankSquares_11 : decode cX6_blankSquares 11 = .ok (.isub, 1) := by decide +kernel
theorem dX6_blankSquares_12 : decode cX6_blankSquares 12 = .ok (.imul, 1) := by decide +kernel
theorem dX6_blankSquares_13 : decode cX6_blankSquares 13 = .ok (.if_icmp .ge 29, 3) := by decide +kernel
theorem dX6_blankSquares_16 : decode cX6_blankSquares 16 = .ok (.iload_n 1, 1) := by decide +kernel
theorem dX6_blankSquares_17 : decode cX6_blankSquares 17 = .ok (.aload_n 0, 1) := by decide +kernel
theorem dX6_blankSquares_18 : decode cX6_blankSquares 18 = .ok (.getfield 27, 3) := by decide +kernel
theorem dX6_blankSquares_21 : decode cX6_blankSquares 21 = .ok (.iconst 2, 1) := by decide +kernel
theorem dX6_blankSquares_22 : decode cX6_blankSquares 22 = .ok (.aaload, 1) := by decide +kernel
theorem dX6_blankSquares_23 : decode cX6_blankSquares 23 = .ok (.iload_n 2, 1) := by decide +kernel
theorem dX6_blankSquares_24 : decode cX6_blankSquares 24 = .ok (.iaload, 1) := by decide +kernel
theorem dX6_blankSquares_25 : decode cX6_blankSquares 25 = .ok (.aload_n 0, 1) := by decide +kernel
theorem dX6_blankSquares_26 : decode cX6_blankSquares 26 = .ok (.getfield 27, 3) := by decide +kernel
theorem dX6_blankSquares_29 : decode cX6_blankSquares 29 = .ok (.iconst 2, 1) := by decide +kernel
theorem dX6_blankSquares_30 : decode cX6_blankSquares 30 = .ok (.aaload, 1) := by decide +kernel
theorem dX6_blankSquares_31 : decode cX6_blankSquares 31 = .ok (.iload_n 2, 1) := by decide +kernel
theorem dX6_blankSquares_32 : decode cX6_blankSquares 32 = .ok (.iaload, 1) := by decide +kernel
theorem dX6_blankSquares_33 : decode cX6_blankSquares 33 = .ok (.imul, 1) := by decide +kernel
theorem dX6_blankSquares_34 : decode cX6_blankSquares 34 = .ok (.iadd, 1) := by decide +kernel
theorem dX6_blankSquares_35 : decode cX6_blankSquares 35 = .ok (.istore_n 1, 1) := by decide +kernel
theorem dX6_blankSquares_36 : decode cX6_blankSquares 36 = .ok (.iinc 2 1, 3) := by decide +kernel
theorem dX6_blankSquares_39 : decode cX6_blankSquares 39 = .ok (.goto (-35), 3) := by decide +kernel
theorem dX6_blankSquares_42 : decode cX6_blankSquares 42 = .ok (.iload_n 1, 1) := by decide +kernel
theorem dX6_blankSquares_43 : decode cX6_blankSquares 43 = .ok (.ireturn, 1) := by decide +kernel
theorem dX6_overfullSpreads_0 : decode cX6_overfullSpreads 0 = .ok (.iconst 0, 1) := by decide +kernel
theorem dX6_overfullSpreads_1 : decode cX6_overfullSpreads 1 = .ok (.istore_n 1, 1) := by decide +kernel
theorem dX6_overfullSpreads_2 : decode cX6_overfullSpreads 2 = .ok (.iconst 0, 1) := by decide +kernel
theorem dX6_overfullSpreads_3 : decode cX6_overfullSpreads 3 = .ok (.istore_n 2, 1) := by decide +kernel
theorem dX6_overfullSpreads_4 : decode cX6_overfullSpreads 4 = .ok (.iload_n 2, 1) := by decide +kernel
theorem dX6_overfullSpreads_5 : decode cX6_overfullSpreads 5 = .ok (.aload_n 0, 1) := by decide +kernel
theorem dX6_overfullSpreads_6 : decode cX6_overfullSpreads 6 = .ok (.getfield 50, 3) := by decide +kernel
theorem dX6_overfullSpreads_9 : decode cX6_overfullSpreads 9 = .ok (.if_icmp .ge 18, 3) := by decide +kernel
theorem dX6_overfullSpreads_12 : decode cX6_overfullSpreads 12 = .ok (.iload_n 1, 1) := by decide +kernel
theorem dX6_overfullSpreads_13 : decode cX6_overfullSpreads 13 = .ok (.aload_n 0, 1) := by decide +kernel
theorem dX6_overfullSpreads_14 : decode cX6_overfullSpreads 14 = .ok (.getfield 19, 3) := by decide +kernel
theorem dX6_overfullSpreads_17 : decode cX6_overfullSpreads 17 = .ok (.iload_n 2, 1) := by decide +kernel
theorem dX6_overfullSpreads_18 : decode cX6_overfullSpreads 18 = .ok (.iaload, 1) := by decide +kernel
theorem dX6_overfullSpreads_19 : decode cX6_overfullSpreads 19 = .ok (.iadd, 1) := by decide +kernel
theorem dX6_overfullSpreads_20 : decode cX6_overfullSpreads 20 = .ok (.istore_n 1, 1) := by decide +kernel
theorem dX6_overfullSpreads_21 : decode cX6_overfullSpreads 21 = .ok (.iinc 2 1, 3) := by decide +kernel
theorem dX6_overfullSpreads_24 : decode cX6_overfullSpreads 24 = .ok (.goto (-20), 3) := by decide +kernel
theorem dX6_overfullSpreads_27 : decode cX6_overfullSpreads 27 = .ok (.iload_n 1, 1) := by decide +kernel
theorem dX6_overfullSpreads_28 : decode cX6_overfullSpreads 28 = .ok (.ireturn, 1) := by decide +kernel
theorem dX6_splitSegments_0 : decode cX6_splitSegments 0 = .ok (.iconst 0, 1) := by decide +kernel
theorem dX6_splitSegments_1 : decode cX6_splitSegments 1 = .ok (.istore_n 1, 1) := by decide +kernel
theorem dX6_splitSegments_2 : decode cX6_splitSegments 2 = .ok (.iconst 0, 1) := by decide +kernel
theorem dX6_splitSegments_3 : decode cX6_splitSegments 3 = .ok (.istore_n 2, 1) := by decide +kernel
theorem dX6_splitSegments_4 : decode cX6_splitSegments 4 = .ok (.iload_n 2, 1) := by decide +kernel
theorem dX6_splitSegments_5 : decode cX6_splitSegments 5 = .ok (.aload_n 0, 1) := by decide +kernel
theorem dX6_splitSegments_6 : decode cX6_splitSegments 6 = .ok (.getfield 53, 3) := by decide +kernel
theorem dX6_splitSegments_9 : decode cX6_splitSegments 9 = .ok (.if_icmp .ge 40, 3) := by decide +kernel
theorem dX6_splitSegments_12 : decode cX6_splitSegments 12 = .ok (.iload_n 1, 1) := by decide +kernel
theorem dX6_splitSegments_13 : decode cX6_splitSegments 13 = .ok (.aload_n 0, 1) := by decide +kernel
theorem dX6_splitSegments_14 : decode cX6_splitSegments 14 = .ok (.getfield 24, 3) := by decide +kernel
theorem dX6_splitSegments_17 : decode cX6_splitSegments 17 = .ok (.getstatic 142, 3) := by decide +kernel
theorem dX6_splitSegments_20 : decode cX6_splitSegments 20 = .ok (.iconst 0, 1) := by decide +kernel
theorem dX6_splitSegments_21 : decode cX6_splitSegments 21 = .ok (.iaload, 1) := by decide +kernel
theorem dX6_splitSegments_22 : decode cX6_splitSegments 22 = .ok (.aaload, 1) := by decide +kernel
theorem dX6_splitSegments_23 : decode cX6_splitSegments 23 = .ok (.iload_n 2, 1) := by decide +kernel
theorem dX6_splitSegments_24 : decode cX6_splitSegments 24 = .ok (.iaload, 1) := by decide +kernel
theorem dX6_splitSegments_25 : decode cX6_splitSegments 25 = .ok (.ifCond .ne 15, 3) := by decide +kernel
theorem dX6_splitSegments_28 : decode cX6_splitSegments 28 = .ok (.aload_n 0, 1) := by decide +kernel
theorem dX6_splitSegments_29 : decode cX6_splitSegments 29 = .ok (.getfield 24, 3) := by decide +kernel
theorem dX6_splitSegments_32 : decode cX6_splitSegments 32 = .ok (.bipush 7, 2) := by decide +kernel
theorem dX6_splitSegments_34 : decode cX6_splitSegments 34 = .ok (.aaload, 1) := by decide +kernel
theorem dX6_splitSegments_35 : decode cX6_splitSegments 35 = .ok (.iload_n 2, 1) := by decide +kernel
theorem dX6_splitSegments_36 : decode cX6_splitSegments 36 = .ok (.iaload, 1) := by decide +kernel
theorem dX6_splitSegments_37 : decode cX6_splitSegments 37 = .ok (.goto 4, 3) := by decide +kernel
theorem dX6_splitSegments_40 : decode cX6_splitSegments 40 = .ok (.iconst 0, 1) := by decide +kernel
theorem dX6_splitSegments_41 : decode cX6_splitSegments 41 = .ok (.iadd, 1) := by decide +kernel
theorem dX6_splitSegments_42 : decode cX6_splitSegments 42 = .ok (.istore_n 1, 1) := by decide +kernel
theorem dX6_splitSegments_43 : decode cX6_splitSegments 43 = .ok (.iinc 2 1, 3) := by decide +kernel
theorem dX6_splitSegments_46 : decode cX6_splitSegments 46 = .ok (.goto (-42), 3) := by decide +kernel
theorem dX6_splitSegments_49 : decode cX6_splitSegments 49 = .ok (.iload_n 1, 1) := by decide +kernel
theorem dX6_splitSegments_50 : decode cX6_splitSegments 50 = .ok (.ireturn, 1) := by decide +kernel
theorem dX7_init_0 : decode cX7_init 0 = .ok (.aload_n 0, 1) := by decide +kernel
theorem dX7_init_1 : decode cX7_init 1 = .ok (.invokespecial 1, 3) := by decide +kernel
theorem dX7_init_4 : decode cX7_init 4 = .ok (.aload_n 0, 1) := by decide +kernel
theorem dX7_init_5 : decode cX7_init 5 = .ok (.new 7, 3) := by decide +kernel
theorem dX7_init_8 : decode cX7_init 8 = .ok (.dup, 1) := by decide +kernel
theorem dX7_init_9 : decode cX7_init 9 = .ok (.invokespecial 9, 3) := by decide +kernel
theorem dX7_init_12 : decode cX7_init 12 = .ok (.putfield 10, 3) := by decide +kernel
theorem dX7_init_15 : decode cX7_init 15 = .ok (.aload_n 0, 1) := by decide +kernel
theorem dX7_init_16 : decode cX7_init 16 = .ok (.new 16, 3) := by decide +kernel
theorem dX7_init_19 : decode cX7_init 19 = .ok (.dup, 1) := by decide +kernel
theorem dX7_init_20 : decode cX7_init 20 = .ok (.invokespecial 18, 3) := by decide +kernel
theorem dX7_init_23 : decode cX7_init 23 = .ok (.putfield 19, 3) := by decide +kernel
theorem dX7_init_26 : decode cX7_init 26 = .ok (.aload_n 0, 1) := by decide +kernel
theorem dX7_init_27 : decode cX7_init 27 = .ok (.new 23, 3) := by decide +kernel
theorem dX7_init_30 : decode cX7_init 30 = .ok (.dup, 1) := by decide +kernel
theorem dX7_init_31 : decode cX7_init 31 = .ok (.invokespecial 25, 3) := by decide +kernel
theorem dX7_init_34 : decode cX7_init 34 = .ok (.putfield 26, 3) := by decide +kernel
theorem dX7_init_37 : decode cX7_init 37 = .ok (.aload_n 0, 1) := by decide +kernel
theorem dX7_init_38 : decode cX7_init 38 = .ok (.new 30, 3) := by decide +kernel
theorem dX7_init_41 : decode cX7_init 41 = .ok (.dup, 1) := by decide +kernel
theorem dX7_init_42 : decode cX7_init 42 = .ok (.invokespecial 32, 3) := by decide +kernel
theorem dX7_init_45 : decode cX7_init 45 = .ok (.putfield 33, 3) := by decide +kernel
theorem dX7_init_48 : decode cX7_init 48 = .ok (.return_, 1) := by decide +kernel
theorem dX7_insert_0 : decode cX7_insert 0 = .ok (.iload_n 1, 1) := by decide +kernel
theorem dX7_insert_1 : decode cX7_insert 1 = .ok (.iconst 0, 1) := by decide +kernel
theorem dX7_insert_2 : decode cX7_insert 2 = .ok (.aload_n 0, 1) := by decide +kernel
theorem dX7_insert_3 : decode cX7_insert 3 = .ok (.getfield 10, 3) := by decide +kernel
theorem dX7_insert_6 : decode cX7_insert 6 = .ok (.getfield 37, 3) := by decide +kernel
theorem dX7_insert_9 : decode cX7_insert 9 = .ok (.invokestatic 41, 3) := by decide +kernel
theorem dX7_insert_12 : decode cX7_insert 12 = .ok (.ifCond .eq 23, 3) := by decide +kernel
theorem dX7_insert_15 : decode cX7_insert 15 = .ok (.iload_n 2, 1) := by decide +kernel
theorem dX7_insert_16 : decode cX7_insert 16 = .ok (.iconst 1, 1) := by decide +kernel
theorem dX7_insert_17 : decode cX7_insert 17 = .ok (.bipush 30, 2) := by decide +kernel
theorem dX7_insert_19 : decode cX7_insert 19 = .ok (.invokestatic 41, 3) := by decide +kernel
theorem dX7_insert_22 : decode cX7_insert 22 = .ok (.ifCond .eq 13, 3) := by decide +kernel
theorem dX7_insert_25 : decode cX7_insert 25 = .ok (.iload_n 3, 1) := by decide +kernel
theorem dX7_insert_26 : decode cX7_insert 26 = .ok (.iconst 1, 1) := by decide +kernel
theorem dX7_insert_27 : decode cX7_insert 27 = .ok (.bipush 30, 2) := by decide +kernel
theorem dX7_insert_29 : decode cX7_insert 29 = .ok (.invokestatic 41, 3) := by decide +kernel
theorem dX7_insert_32 : decode cX7_insert 32 = .ok (.ifCond .ne 5, 3) := by decide +kernel
theorem dX7_insert_35 : decode cX7_insert 35 = .ok (.iconst (-1), 1) := by decide +kernel
theorem dX7_insert_36 : decode cX7_insert 36 = .ok (.ireturn, 1) := by decide +kernel
theorem dX7_insert_37 : decode cX7_insert 37 = .ok (.aload_n 0, 1) := by decide +kernel
theorem dX7_insert_38 : decode cX7_insert 38 = .ok (.getfield 10, 3) := by decide +kernel
theorem dX7_insert_41 : decode cX7_insert 41 = .ok (.getfield 37, 3) := by decide +kernel
theorem dX7_insert_44 : decode cX7_insert 44 = .ok (.bipush 20, 2) := by decide +kernel
theorem dX7_insert_46 : decode cX7_insert 46 = .ok (.if_icmp .lt 6, 3) := by decide +kernel
theorem dX7_insert_49 : decode cX7_insert 49 = .ok (.bipush (-3), 2) := by decide +kernel
theorem dX7_insert_51 : decode cX7_insert 51 = .ok (.ireturn, 1) := by decide +kernel
theorem dX7_insert_52 : decode cX7_insert 52 = .ok (.aload_n 0, 1) := by decide +kernel
theorem dX7_insert_53 : decode cX7_insert 53 = .ok (.invokevirtual 45, 3) := by decide +kernel
theorem dX7_insert_56 : decode cX7_insert 56 = .ok (.aload_n 0, 1) := by decide +kernel
theorem dX7_insert_57 : decode cX7_insert 57 = .ok (.getfield 10, 3) := by decide +kernel
theorem dX7_insert_60 : decode cX7_insert 60 = .ok (.iload_n 1, 1) := by decide +kernel
theorem dX7_insert_61 : decode cX7_insert 61 = .ok (.iload_n 2, 1) := by decide +kernel
theorem dX7_insert_62 : decode cX7_insert 62 = .ok (.iload_n 3, 1) := by decide +kernel
theorem dX7_insert_63 : decode cX7_insert 63 = .ok (.invokevirtual 48, 3) := by decide +kernel
theorem dX7_insert_66 : decode cX7_insert 66 = .ok (.aload_n 0, 1) := by decide +kernel
theorem dX7_insert_67 : decode cX7_insert 67 = .ok (.getfield 10, 3) := by decide +kernel
theorem dX7_insert_70 : decode cX7_insert 70 = .ok (.getfield 37, 3) := by decide +kernel
theorem dX7_insert_73 : decode cX7_insert 73 = .ok (.ireturn, 1) := by decide +kernel
theorem dX7_remove_0 : decode cX7_remove 0 = .ok (.aload_n 0, 1) := by decide +kernel
theorem dX7_remove_1 : decode cX7_remove 1 = .ok (.getfield 10, 3) := by decide +kernel
theorem dX7_remove_4 : decode cX7_remove 4 = .ok (.iload_n 1, 1) := by decide +kernel
theorem dX7_remove_5 : decode cX7_remove 5 = .ok (.invokevirtual 52, 3) := by decide +kernel
theorem dX7_remove_8 : decode cX7_remove 8 = .ok (.ifCond .ne 5, 3) := by decide +kernel
theorem dX7_remove_11 : decode cX7_remove 11 = .ok (.iconst (-1), 1) := by decide +kernel
theorem dX7_remove_12 : decode cX7_remove 12 = .ok (.ireturn, 1) := by decide +kernel
theorem dX7_remove_13 : decode cX7_remove 13 = .ok (.aload_n 0, 1) := by decide +kernel
theorem dX7_remove_14 : decode cX7_remove 14 = .ok (.invokevirtual 45, 3) := by decide +kernel
theorem dX7_remove_17 : decode cX7_remove 17 = .ok (.aload_n 0, 1) := by decide +kernel
theorem dX7_remove_18 : decode cX7_remove 18 = .ok (.getfield 10, 3) := by decide +kernel
theorem dX7_remove_21 : decode cX7_remove 21 = .ok (.iload_n 1, 1) := by decide +kernel
theorem dX7_remove_22 : decode cX7_remove 22 = .ok (.invokevirtual 56, 3) := by decide +kernel
theorem dX7_remove_25 : decode cX7_remove 25 = .ok (.aload_n 0, 1) := by decide +kernel
theorem dX7_remove_26 : decode cX7_remove 26 = .ok (.getfield 10, 3) := by decide +kernel
theorem dX7_remove_29 : decode cX7_remove 29 = .ok (.getfield 37, 3) := by decide +kernel
theorem dX7_remove_32 : decode cX7_remove 32 = .ok (.ireturn, 1) := by decide +kernel
theorem dX7_setLines_0 : decode cX7_setLines 0 = .ok (.aload_n 0, 1) := by decide +kernel
theorem dX7_setLines_1 : decode cX7_setLines 1 = .ok (.getfield 10, 3) := by decide +kernel
theorem dX7_setLines_4 : decode cX7_setLines 4 = .ok (.iload_n 1, 1) := by decide +kernel
theorem dX7_setLines_5 : decode cX7_setLines 5 = .ok (.invokevirtual 52, 3) := by decide +kernel
theorem dX7_setLines_8 : decode cX7_setLines 8 = .ok (.ifCond .eq 20, 3) := by decide +kernel
theorem dX7_setLines_11 : decode cX7_setLines 11 = .ok (.iload_n 2, 1) := by decide +kernel
theorem dX7_setLines_12 : decode cX7_setLines 12 = .ok (.invokestatic 60, 3) := by decide +kernel
theorem dX7_setLines_15 : decode cX7_setLines 15 = .ok (.ifCond .eq 13, 3) := by decide +kernel
theorem dX7_setLines_18 : decode cX7_setLines 18 = .ok (.iload_n 3, 1) := by decide +kernel
theorem dX7_setLines_19 : decode cX7_setLines 19 = .ok (.iconst 1, 1) := by decide +kernel
theorem dX7_setLines_20 : decode cX7_setLines 20 = .ok (.bipush 30, 2) := by decide +kernel
theorem dX7_setLines_22 : decode cX7_setLines 22 = .ok (.invokestatic 41, 3) := by decide +kernel
theorem dX7_setLines_25 : decode cX7_setLines 25 = .ok (.ifCond .ne 5, 3) := by decide +kernel
theorem dX7_setLines_28 : decode cX7_setLines 28 = .ok (.iconst (-1), 1) := by decide +kernel
theorem dX7_setLines_29 : decode cX7_setLines 29 = .ok (.ireturn, 1) := by decide +kernel
theorem dX7_setLines_30 : decode cX7_setLines 30 = .ok (.aload_n 0, 1) := by decide +kernel
theorem dX7_setLines_31 : decode cX7_setLines 31 = .ok (.getfield 10, 3) := by decide +kernel
theorem dX7_setLines_34 : decode cX7_setLines 34 = .ok (.iload_n 2, 1) := by decide +kernel
theorem dX7_setLines_35 : decode cX7_setLines 35 = .ok (.invokevirtual 63, 3) := by decide +kernel
theorem dX7_setLines_38 : decode cX7_setLines 38 = .ok (.iload_n 1, 1) := by decide +kernel
theorem dX7_setLines_39 : decode cX7_setLines 39 = .ok (.iload_n 3, 1) := by decide +kernel
theorem dX7_setLines_40 : decode cX7_setLines 40 = .ok (.invokevirtual 67, 3) := by decide +kernel
theorem dX7_setLines_43 : decode cX7_setLines 43 = .ok (.ifCond .eq 6, 3) := by decide +kernel
theorem dX7_setLines_46 : decode cX7_setLines 46 = .ok (.bipush (-2), 2) := by decide +kernel
theorem dX7_setLines_48 : decode cX7_setLines 48 = .ok (.ireturn, 1) := by decide +kernel
theorem dX7_setLines_49 : decode cX7_setLines 49 = .ok (.aload_n 0, 1) := by decide +kernel
theorem dX7_setLines_50 : decode cX7_setLines 50 = .ok (.iload_n 1, 1) := by decide +kernel
theorem dX7_setLines_51 : decode cX7_setLines 51 = .ok (.iload_n 2, 1) := by decide +kernel
theorem dX7_setLines_52 : decode cX7_setLines 52 = .ok (.iload_n 3, 1) := by decide +kernel
theorem dX7_setLines_53 : decode cX7_setLines 53 = .ok (.invokevirtual 73, 3) := by decide +kernel
theorem dX7_setLines_56 : decode cX7_setLines 56 = .ok (.ireturn, 1) := by decide +kernel
theorem dX7_setFlag_0 : decode cX7_setFlag 0 = .ok (.aload_n 0, 1) := by decide +kernel
theorem dX7_setFlag_1 : decode cX7_setFlag 1 = .ok (.getfield 10, 3) := by decide +kernel
theorem dX7_setFlag_4 : decode cX7_setFlag 4 = .ok (.iload_n 1, 1) := by decide +kernel
theorem dX7_setFlag_5 : decode cX7_setFlag 5 = .ok (.invokevirtual 52, 3) := by decide +kernel
theorem dX7_setFlag_8 : decode cX7_setFlag 8 = .ok (.ifCond .eq 21, 3) := by decide +kernel
theorem dX7_setFlag_11 : decode cX7_setFlag 11 = .ok (.iload_n 2, 1) := by decide +kernel
theorem dX7_setFlag_12 : decode cX7_setFlag 12 = .ok (.iconst 0, 1) := by decide +kernel
theorem dX7_setFlag_13 : decode cX7_setFlag 13 = .ok (.iconst 1, 1) := by decide +kernel
theorem dX7_setFlag_14 : decode cX7_setFlag 14 = .ok (.invokestatic 41, 3) := by decide +kernel
theorem dX7_setFlag_17 : decode cX7_setFlag 17 = .ok (.ifCond .eq 12, 3) := by decide +kernel
theorem dX7_setFlag_20 : decode cX7_setFlag 20 = .ok (.iload_n 3, 1) := by decide +kernel
theorem dX7_setFlag_21 : decode cX7_setFlag 21 = .ok (.iconst 0, 1) := by decide +kernel
theorem dX7_setFlag_22 : decode cX7_setFlag 22 = .ok (.iconst 1, 1) := by decide +kernel
theorem dX7_setFlag_23 : decode cX7_setFlag 23 = .ok (.invokestatic 41, 3) := by decide +kernel
theorem dX7_setFlag_26 : decode cX7_setFlag 26 = .ok (.ifCond .ne 5, 3) := by decide +kernel
theorem dX7_setFlag_29 : decode cX7_setFlag 29 = .ok (.iconst (-1), 1) := by decide +kernel
theorem dX7_setFlag_30 : decode cX7_setFlag 30 = .ok (.ireturn, 1) := by decide +kernel
theorem dX7_setFlag_31 : decode cX7_setFlag 31 = .ok (.aload_n 0, 1) := by decide +kernel
theorem dX7_setFlag_32 : decode cX7_setFlag 32 = .ok (.iload_n 1, 1) := by decide +kernel
theorem dX7_setFlag_33 : decode cX7_setFlag 33 = .ok (.iconst 2, 1) := by decide +kernel
theorem dX7_setFlag_34 : decode cX7_setFlag 34 = .ok (.iload_n 2, 1) := by decide +kernel
theorem dX7_setFlag_35 : decode cX7_setFlag 35 = .ok (.iadd, 1) := by decide +kernel
theorem dX7_setFlag_36 : decode cX7_setFlag 36 = .ok (.iload_n 3, 1) := by decide +kernel
theorem dX7_setFlag_37 : decode cX7_setFlag 37 = .ok (.invokevirtual 73, 3) := by decide +kernel
theorem dX7_setFlag_40 : decode cX7_setFlag 40 = .ok (.ireturn, 1) := by decide +kernel
theorem dX7_addNote_0 : decode cX7_addNote 0 = .ok (.aload_n 0, 1) := by decide +kernel
theorem dX7_addNote_1 : decode cX7_addNote 1 = .ok (.getfield 10, 3) := by decide +kernel
theorem dX7_addNote_4 : decode cX7_addNote 4 = .ok (.iload_n 1, 1) := by decide +kernel
theorem dX7_addNote_5 : decode cX7_addNote 5 = .ok (.iload_n 2, 1) := by decide +kernel
theorem dX7_addNote_6 : decode cX7_addNote 6 = .ok (.iload_n 3, 1) := by decide +kernel
theorem dX7_addNote_7 : decode cX7_addNote 7 = .ok (.invokevirtual 77, 3) := by decide +kernel
theorem dX7_addNote_10 : decode cX7_addNote 10 = .ok (.ifCond .eq 14, 3) := by decide +kernel
theorem dX7_addNote_13 : decode cX7_addNote 13 = .ok (.iload 4, 2) := by decide +kernel
theorem dX7_addNote_15 : decode cX7_addNote 15 = .ok (.iconst 1, 1) := by decide +kernel
theorem dX7_addNote_16 : decode cX7_addNote 16 = .ok (.bipush 10, 2) := by decide +kernel
theorem dX7_addNote_18 : decode cX7_addNote 18 = .ok (.invokestatic 41, 3) := by decide +kernel
theorem dX7_addNote_21 : decode cX7_addNote 21 = .ok (.ifCond .ne 5, 3) := by decide +kernel
theorem dX7_addNote_24 : decode cX7_addNote 24 = .ok (.iconst (-1), 1) := by decide +kernel
theorem dX7_addNote_25 : decode cX7_addNote 25 = .ok (.ireturn, 1) := by decide +kernel
theorem dX7_addNote_26 : decode cX7_addNote 26 = .ok (.aload_n 0, 1) := by decide +kernel
theorem dX7_addNote_27 : decode cX7_addNote 27 = .ok (.getfield 10, 3) := by decide +kernel
theorem dX7_addNote_30 : decode cX7_addNote 30 = .ok (.getfield 80, 3) := by decide +kernel
theorem dX7_addNote_33 : decode cX7_addNote 33 = .ok (.getfield 84, 3) := by decide +kernel
theorem dX7_addNote_36 : decode cX7_addNote 36 = .ok (.aload_n 0, 1) := by decide +kernel
theorem dX7_addNote_37 : decode cX7_addNote 37 = .ok (.getfield 10, 3) := by decide +kernel
theorem dX7_addNote_40 : decode cX7_addNote 40 = .ok (.getfield 85, 3) := by decide +kernel
theorem dX7_addNote_43 : decode cX7_addNote 43 = .ok (.getfield 84, 3) := by decide +kernel
theorem dX7_addNote_46 : decode cX7_addNote 46 = .ok (.iadd, 1) := by decide +kernel
theorem dX7_addNote_47 : decode cX7_addNote 47 = .ok (.bipush 40, 2) := by decide +kernel
theorem dX7_addNote_49 : decode cX7_addNote 49 = .ok (.if_icmp .lt 6, 3) := by decide +kernel
theorem dX7_addNote_52 : decode cX7_addNote 52 = .ok (.bipush (-3), 2) := by decide +kernel
theorem dX7_addNote_54 : decode cX7_addNote 54 = .ok (.ireturn, 1) := by decide +kernel
theorem dX7_addNote_55 : decode cX7_addNote 55 = .ok (.aload_n 0, 1) := by decide +kernel
theorem dX7_addNote_56 : decode cX7_addNote 56 = .ok (.invokevirtual 45, 3) := by decide +kernel
theorem dX7_addNote_59 : decode cX7_addNote 59 = .ok (.aload_n 0, 1) := by decide +kernel
theorem dX7_addNote_60 : decode cX7_addNote 60 = .ok (.getfield 10, 3) := by decide +kernel
theorem dX7_addNote_63 : decode cX7_addNote 63 = .ok (.iload_n 2, 1) := by decide +kernel
theorem dX7_addNote_64 : decode cX7_addNote 64 = .ok (.invokevirtual 63, 3) := by decide +kernel
theorem dX7_addNote_67 : decode cX7_addNote 67 = .ok (.iload_n 1, 1) := by decide +kernel
theorem dX7_addNote_68 : decode cX7_addNote 68 = .ok (.iload_n 3, 1) := by decide +kernel
theorem dX7_addNote_69 : decode cX7_addNote 69 = .ok (.iload 4, 2) := by decide +kernel
theorem dX7_addNote_71 : decode cX7_addNote 71 = .ok (.invokevirtual 88, 3) := by decide +kernel
theorem dX7_addNote_74 : decode cX7_addNote 74 = .ok (.ireturn, 1) := by decide +kernel
theorem dX7_removeNote_0 : decode cX7_removeNote 0 = .ok (.iload_n 1, 1) := by decide +kernel
theorem dX7_removeNote_1 : decode cX7_removeNote 1 = .ok (.invokestatic 60, 3) := by decide +kernel
theorem dX7_removeNote_4 : decode cX7_removeNote 4 = .ok (.ifCond .eq 7, 3) := by decide +kernel
theorem dX7_removeNote_7 : decode cX7_removeNote 7 = .ok (.iload_n 2, 1) := by decide +kernel
theorem dX7_removeNote_8 : decode cX7_removeNote 8 = .ok (.ifCond .ge 5, 3) := by decide +kernel
theorem dX7_removeNote_11 : decode cX7_removeNote 11 = .ok (.iconst (-1), 1) := by decide +kernel
theorem dX7_removeNote_12 : decode cX7_removeNote 12 = .ok (.ireturn, 1) := by decide +kernel
theorem dX7_removeNote_13 : decode cX7_removeNote 13 = .ok (.aload_n 0, 1) := by decide +kernel
theorem dX7_removeNote_14 : decode cX7_removeNote 14 = .ok (.getfield 10, 3) := by decide +kernel
theorem dX7_removeNote_17 : decode cX7_removeNote 17 = .ok (.iload_n 1, 1) := by decide +kernel
theorem dX7_removeNote_18 : decode cX7_removeNote 18 = .ok (.invokevirtual 63, 3) := by decide +kernel
theorem dX7_removeNote_21 : decode cX7_removeNote 21 = .ok (.astore_n 3, 1) := by decide +kernel
theorem dX7_removeNote_22 : decode cX7_removeNote 22 = .ok (.iload_n 2, 1) := by decide +kernel
theorem dX7_removeNote_23 : decode cX7_removeNote 23 = .ok (.aload_n 3, 1) := by decide +kernel
theorem dX7_removeNote_24 : decode cX7_removeNote 24 = .ok (.getfield 84, 3) := by decide +kernel
theorem dX7_removeNote_27 : decode cX7_removeNote 27 = .ok (.if_icmp .lt 6, 3) := by decide +kernel
theorem dX7_removeNote_30 : decode cX7_removeNote 30 = .ok (.bipush (-4), 2) := by decide +kernel
theorem dX7_removeNote_32 : decode cX7_removeNote 32 = .ok (.ireturn, 1) := by decide +kernel
theorem dX7_removeNote_33 : decode cX7_removeNote 33 = .ok (.aload_n 0, 1) := by decide +kernel
theorem dX7_removeNote_34 : decode cX7_removeNote 34 = .ok (.invokevirtual 45, 3) := by decide +kernel
theorem dX7_removeNote_37 : decode cX7_removeNote 37 = .ok (.aload_n 3, 1) := by decide +kernel
theorem dX7_removeNote_38 : decode cX7_removeNote 38 = .ok (.iload_n 2, 1) := by decide +kernel
theorem dX7_removeNote_39 : decode cX7_removeNote 39 = .ok (.invokevirtual 91, 3) := by decide +kernel
theorem dX7_removeNote_42 : decode cX7_removeNote 42 = .ok (.aload_n 3, 1) := by decide +kernel
theorem dX7_removeNote_43 : decode cX7_removeNote 43 = .ok (.getfield 84, 3) := by decide +kernel
theorem dX7_removeNote_46 : decode cX7_removeNote 46 = .ok (.ireturn, 1) := by decide +kernel
theorem dX7_set_0 : decode cX7_set 0 = .ok (.iload_n 1, 1) := by decide +kernel
theorem dX7_set_1 : decode cX7_set 1 = .ok (.iconst 0, 1) := by decide +kernel
theorem dX7_set_2 : decode cX7_set 2 = .ok (.iconst 5, 1) := by decide +kernel
theorem dX7_set_3 : decode cX7_set 3 = .ok (.invokestatic 41, 3) := by decide +kernel
theorem dX7_set_6 : decode cX7_set 6 = .ok (.ifCond .eq 20, 3) := by decide +kernel
theorem dX7_set_9 : decode cX7_set 9 = .ok (.iload_n 2, 1) := by decide +kernel
theorem dX7_set_10 : decode cX7_set 10 = .ok (.getstatic 94, 3) := by decide +kernel
theorem dX7_set_13 : decode cX7_set 13 = .ok (.iload_n 1, 1) := by decide +kernel
theorem dX7_set_14 : decode cX7_set 14 = .ok (.iaload, 1) := by decide +kernel
theorem dX7_set_15 : decode cX7_set 15 = .ok (.getstatic 98, 3) := by decide +kernel
theorem dX7_set_18 : decode cX7_set 18 = .ok (.iload_n 1, 1) := by decide +kernel
theorem dX7_set_19 : decode cX7_set 19 = .ok (.iaload, 1) := by decide +kernel
theorem dX7_set_20 : decode cX7_set 20 = .ok (.invokestatic 41, 3) := by decide +kernel
theorem dX7_set_23 : decode cX7_set 23 = .ok (.ifCond .ne 5, 3) := by decide +kernel
theorem dX7_set_26 : decode cX7_set 26 = .ok (.iconst (-1), 1) := by decide +kernel
theorem dX7_set_27 : decode cX7_set 27 = .ok (.ireturn, 1) := by decide +kernel
theorem dX7_set_28 : decode cX7_set 28 = .ok (.aload_n 0, 1) := by decide +kernel
theorem dX7_set_29 : decode cX7_set 29 = .ok (.invokevirtual 45, 3) := by decide +kernel
theorem dX7_set_32 : decode cX7_set 32 = .ok (.aload_n 0, 1) := by decide +kernel
theorem dX7_set_33 : decode cX7_set 33 = .ok (.getfield 10, 3) := by decide +kernel
theorem dX7_set_36 : decode cX7_set 36 = .ok (.getfield 101, 3) := by decide +kernel
theorem dX7_set_39 : decode cX7_set 39 = .ok (.iload_n 1, 1) := by decide +kernel
theorem dX7_set_40 : decode cX7_set 40 = .ok (.iaload, 1) := by decide +kernel
theorem dX7_set_41 : decode cX7_set 41 = .ok (.istore_n 3, 1) := by decide +kernel
theorem dX7_set_42 : decode cX7_set 42 = .ok (.aload_n 0, 1) := by decide +kernel
theorem dX7_set_43 : decode cX7_set 43 = .ok (.getfield 10, 3) := by decide +kernel
theorem dX7_set_46 : decode cX7_set 46 = .ok (.getfield 101, 3) := by decide +kernel
theorem dX7_set_49 : decode cX7_set 49 = .ok (.iload_n 1, 1) := by decide +kernel
theorem dX7_set_50 : decode cX7_set 50 = .ok (.iload_n 2, 1) := by decide +kernel
theorem dX7_set_51 : decode cX7_set 51 = .ok (.iastore, 1) := by decide +kernel
theorem dX7_set_52 : decode cX7_set 52 = .ok (.iload_n 3, 1) := by decide +kernel
theorem dX7_set_53 : decode cX7_set 53 = .ok (.ireturn, 1) := by decide +kernel
theorem dX7_undo_0 : decode cX7_undo 0 = .ok (.aload_n 0, 1) := by decide +kernel
theorem dX7_undo_1 : decode cX7_undo 1 = .ok (.getfield 19, 3) := by decide +kernel
theorem dX7_undo_4 : decode cX7_undo 4 = .ok (.getfield 104, 3) := by decide +kernel
theorem dX7_undo_7 : decode cX7_undo 7 = .ok (.ifCond .gt 6, 3) := by decide +kernel
theorem dX7_undo_10 : decode cX7_undo 10 = .ok (.bipush (-2), 2) := by decide +kernel
theorem dX7_undo_12 : decode cX7_undo 12 = .ok (.ireturn, 1) := by decide +kernel
theorem dX7_undo_13 : decode cX7_undo 13 = .ok (.aload_n 0, 1) := by decide +kernel
theorem dX7_undo_14 : decode cX7_undo 14 = .ok (.getfield 19, 3) := by decide +kernel
theorem dX7_undo_17 : decode cX7_undo 17 = .ok (.aload_n 0, 1) := by decide +kernel
theorem dX7_undo_18 : decode cX7_undo 18 = .ok (.getfield 10, 3) := by decide +kernel
theorem dX7_undo_21 : decode cX7_undo 21 = .ok (.invokevirtual 105, 3) := by decide +kernel
theorem dX7_undo_24 : decode cX7_undo 24 = .ok (.aload_n 0, 1) := by decide +kernel
theorem dX7_undo_25 : decode cX7_undo 25 = .ok (.invokevirtual 109, 3) := by decide +kernel
theorem dX7_undo_28 : decode cX7_undo 28 = .ok (.aload_n 0, 1) := by decide +kernel
theorem dX7_undo_29 : decode cX7_undo 29 = .ok (.getfield 19, 3) := by decide +kernel
theorem dX7_undo_32 : decode cX7_undo 32 = .ok (.getfield 104, 3) := by decide +kernel
theorem dX7_undo_35 : decode cX7_undo 35 = .ok (.ireturn, 1) := by decide +kernel
theorem dX7_pairCount_0 : decode cX7_pairCount 0 = .ok (.aload_n 0, 1) := by decide +kernel
theorem dX7_pairCount_1 : decode cX7_pairCount 1 = .ok (.getfield 10, 3) := by decide +kernel
theorem dX7_pairCount_4 : decode cX7_pairCount 4 = .ok (.getfield 37, 3) := by decide +kernel
theorem dX7_pairCount_7 : decode cX7_pairCount 7 = .ok (.ireturn, 1) := by decide +kernel
theorem dX7_pairInfo_0 : decode cX7_pairInfo 0 = .ok (.aload_n 0, 1) := by decide +kernel
theorem dX7_pairInfo_1 : decode cX7_pairInfo 1 = .ok (.getfield 10, 3) := by decide +kernel
theorem dX7_pairInfo_4 : decode cX7_pairInfo 4 = .ok (.iload_n 1, 1) := by decide +kernel
theorem dX7_pairInfo_5 : decode cX7_pairInfo 5 = .ok (.invokevirtual 52, 3) := by decide +kernel
theorem dX7_pairInfo_8 : decode cX7_pairInfo 8 = .ok (.ifCond .eq 12, 3) := by decide +kernel
theorem dX7_pairInfo_11 : decode cX7_pairInfo 11 = .ok (.iload_n 2, 1) := by decide +kernel
theorem dX7_pairInfo_12 : decode cX7_pairInfo 12 = .ok (.iconst 0, 1) := by decide +kernel
theorem dX7_pairInfo_13 : decode cX7_pairInfo 13 = .ok (.iconst 3, 1) := by decide +kernel
theorem dX7_pairInfo_14 : decode cX7_pairInfo 14 = .ok (.invokestatic 41, 3) := by decide +kernel
theorem dX7_pairInfo_17 : decode cX7_pairInfo 17 = .ok (.ifCond .ne 5, 3) := by decide +kernel
theorem dX7_pairInfo_20 : decode cX7_pairInfo 20 = .ok (.iconst (-1), 1) := by decide +kernel
theorem dX7_pairInfo_21 : decode cX7_pairInfo 21 = .ok (.ireturn, 1) := by decide +kernel
theorem dX7_pairInfo_22 : decode cX7_pairInfo 22 = .ok (.aload_n 0, 1) := by decide +kernel
theorem dX7_pairInfo_23 : decode cX7_pairInfo 23 = .ok (.getfield 10, 3) := by decide +kernel
theorem dX7_pairInfo_26 : decode cX7_pairInfo 26 = .ok (.getfield 112, 3) := by decide +kernel
theorem dX7_pairInfo_29 : decode cX7_pairInfo 29 = .ok (.iload_n 2, 1) := by decide +kernel
theorem dX7_pairInfo_30 : decode cX7_pairInfo 30 = .ok (.aaload, 1) := by decide +kernel
theorem dX7_pairInfo_31 : decode cX7_pairInfo 31 = .ok (.iload_n 1, 1) := by decide +kernel
theorem dX7_pairInfo_32 : decode cX7_pairInfo 32 = .ok (.iaload, 1) := by decide +kernel
theorem dX7_pairInfo_33 : decode cX7_pairInfo 33 = .ok (.ireturn, 1) := by decide +kernel
theorem dX7_noteCount_0 : decode cX7_noteCount 0 = .ok (.iload_n 1, 1) := by decide +kernel
theorem dX7_noteCount_1 : decode cX7_noteCount 1 = .ok (.invokestatic 60, 3) := by decide +kernel
theorem dX7_noteCount_4 : decode cX7_noteCount 4 = .ok (.ifCond .eq 17, 3) := by decide +kernel
theorem dX7_noteCount_7 : decode cX7_noteCount 7 = .ok (.aload_n 0, 1) := by decide +kernel
theorem dX7_noteCount_8 : decode cX7_noteCount 8 = .ok (.getfield 10, 3) := by decide +kernel
theorem dX7_noteCount_11 : decode cX7_noteCount 11 = .ok (.iload_n 1, 1) := by decide +kernel
theorem dX7_noteCount_12 : decode cX7_noteCount 12 = .ok (.invokevirtual 63, 3) := by decide +kernel
theorem dX7_noteCount_15 : decode cX7_noteCount 15 = .ok (.getfield 84, 3) := by decide +kernel
theorem dX7_noteCount_18 : decode cX7_noteCount 18 = .ok (.goto 4, 3) := by decide +kernel
theorem dX7_noteCount_21 : decode cX7_noteCount 21 = .ok (.iconst (-1), 1) := by decide +kernel
theorem dX7_noteCount_22 : decode cX7_noteCount 22 = .ok (.ireturn, 1) := by decide +kernel
theorem dX7_noteInfo_0 : decode cX7_noteInfo 0 = .ok (.iload_n 1, 1) := by decide +kernel
theorem dX7_noteInfo_1 : decode cX7_noteInfo 1 = .ok (.invokestatic 60, 3) := by decide +kernel
theorem dX7_noteInfo_4 : decode cX7_noteInfo 4 = .ok (.ifCond .eq 16, 3) := by decide +kernel
theorem dX7_noteInfo_7 : decode cX7_noteInfo 7 = .ok (.iload_n 2, 1) := by decide +kernel
theorem dX7_noteInfo_8 : decode cX7_noteInfo 8 = .ok (.ifCond .lt 12, 3) := by decide +kernel
theorem dX7_noteInfo_11 : decode cX7_noteInfo 11 = .ok (.iload_n 3, 1) := by decide +kernel
theorem dX7_noteInfo_12 : decode cX7_noteInfo 12 = .ok (.iconst 0, 1) := by decide +kernel
theorem dX7_noteInfo_13 : decode cX7_noteInfo 13 = .ok (.iconst 2, 1) := by decide +kernel
theorem dX7_noteInfo_14 : decode cX7_noteInfo 14 = .ok (.invokestatic 41, 3) := by decide +kernel
theorem dX7_noteInfo_17 : decode cX7_noteInfo 17 = .ok (.ifCond .ne 5, 3) := by decide +kernel
theorem dX7_noteInfo_20 : decode cX7_noteInfo 20 = .ok (.iconst (-1), 1) := by decide +kernel
theorem dX7_noteInfo_21 : decode cX7_noteInfo 21 = .ok (.ireturn, 1) := by decide +kernel
theorem dX7_noteInfo_22 : decode cX7_noteInfo 22 = .ok (.aload_n 0, 1) := by decide +kernel
theorem dX7_noteInfo_23 : decode cX7_noteInfo 23 = .ok (.getfield 10, 3) := by decide +kernel
theorem dX7_noteInfo_26 : decode cX7_noteInfo 26 = .ok (.iload_n 1, 1) := by decide +kernel
theorem dX7_noteInfo_27 : decode cX7_noteInfo 27 = .ok (.invokevirtual 63, 3) := by decide +kernel
theorem dX7_noteInfo_30 : decode cX7_noteInfo 30 = .ok (.astore 4, 2) := by decide +kernel
theorem dX7_noteInfo_32 : decode cX7_noteInfo 32 = .ok (.iload_n 2, 1) := by decide +kernel
theorem dX7_noteInfo_33 : decode cX7_noteInfo 33 = .ok (.aload 4, 2) := by decide +kernel
theorem dX7_noteInfo_35 : decode cX7_noteInfo 35 = .ok (.getfield 84, 3) := by decide +kernel
theorem dX7_noteInfo_38 : decode cX7_noteInfo 38 = .ok (.if_icmp .ge 15, 3) := by decide +kernel
theorem dX7_noteInfo_41 : decode cX7_noteInfo 41 = .ok (.aload 4, 2) := by decide +kernel
theorem dX7_noteInfo_43 : decode cX7_noteInfo 43 = .ok (.getfield 116, 3) := by decide +kernel
theorem dX7_noteInfo_46 : decode cX7_noteInfo 46 = .ok (.iload_n 3, 1) := by decide +kernel
theorem dX7_noteInfo_47 : decode cX7_noteInfo 47 = .ok (.aaload, 1) := by decide +kernel
theorem dX7_noteInfo_48 : decode cX7_noteInfo 48 = .ok (.iload_n 2, 1) := by decide +kernel
theorem dX7_noteInfo_49 : decode cX7_noteInfo 49 = .ok (.iaload, 1) := by decide +kernel
theorem dX7_noteInfo_50 : decode cX7_noteInfo 50 = .ok (.goto 5, 3) := by decide +kernel
theorem dX7_noteInfo_53 : decode cX7_noteInfo 53 = .ok (.bipush (-4), 2) := by decide +kernel
theorem dX7_noteInfo_55 : decode cX7_noteInfo 55 = .ok (.ireturn, 1) := by decide +kernel
theorem dX7_spreadCount_0 : decode cX7_spreadCount 0 = .ok (.aload_n 0, 1) := by decide +kernel
theorem dX7_spreadCount_1 : decode cX7_spreadCount 1 = .ok (.getfield 26, 3) := by decide +kernel
theorem dX7_spreadCount_4 : decode cX7_spreadCount 4 = .ok (.aload_n 0, 1) := by decide +kernel
theorem dX7_spreadCount_5 : decode cX7_spreadCount 5 = .ok (.getfield 10, 3) := by decide +kernel
theorem dX7_spreadCount_8 : decode cX7_spreadCount 8 = .ok (.aload_n 0, 1) := by decide +kernel
theorem dX7_spreadCount_9 : decode cX7_spreadCount 9 = .ok (.getfield 10, 3) := by decide +kernel
theorem dX7_spreadCount_12 : decode cX7_spreadCount 12 = .ok (.getfield 101, 3) := by decide +kernel
theorem dX7_spreadCount_15 : decode cX7_spreadCount 15 = .ok (.iconst 0, 1) := by decide +kernel
theorem dX7_spreadCount_16 : decode cX7_spreadCount 16 = .ok (.iaload, 1) := by decide +kernel
theorem dX7_spreadCount_17 : decode cX7_spreadCount 17 = .ok (.invokevirtual 119, 3) := by decide +kernel
theorem dX7_spreadCount_20 : decode cX7_spreadCount 20 = .ok (.aload_n 0, 1) := by decide +kernel
theorem dX7_spreadCount_21 : decode cX7_spreadCount 21 = .ok (.getfield 26, 3) := by decide +kernel
theorem dX7_spreadCount_24 : decode cX7_spreadCount 24 = .ok (.getfield 123, 3) := by decide +kernel
theorem dX7_spreadCount_27 : decode cX7_spreadCount 27 = .ok (.ireturn, 1) := by decide +kernel
theorem dX7_segmentCount_0 : decode cX7_segmentCount 0 = .ok (.aload_n 0, 1) := by decide +kernel
theorem dX7_segmentCount_1 : decode cX7_segmentCount 1 = .ok (.getfield 26, 3) := by decide +kernel
theorem dX7_segmentCount_4 : decode cX7_segmentCount 4 = .ok (.aload_n 0, 1) := by decide +kernel
theorem dX7_segmentCount_5 : decode cX7_segmentCount 5 = .ok (.getfield 10, 3) := by decide +kernel
theorem dX7_segmentCount_8 : decode cX7_segmentCount 8 = .ok (.aload_n 0, 1) := by decide +kernel
theorem dX7_segmentCount_9 : decode cX7_segmentCount 9 = .ok (.getfield 10, 3) := by decide +kernel
theorem dX7_segmentCount_12 : decode cX7_segmentCount 12 = .ok (.getfield 101, 3) := by decide +kernel
theorem dX7_segmentCount_15 : decode cX7_segmentCount 15 = .ok (.iconst 0, 1) := by decide +kernel
theorem dX7_segmentCount_16 : decode cX7_segmentCount 16 = .ok (.iaload, 1) := by decide +kernel
theorem dX7_segmentCount_17 : decode cX7_segmentCount 17 = .ok (.invokevirtual 119, 3) := by decide +kernel
theorem dX7_segmentCount_20 : decode cX7_segmentCount 20 = .ok (.aload_n 0, 1) := by decide +kernel
theorem dX7_segmentCount_21 : decode cX7_segmentCount 21 = .ok (.getfield 26, 3) := by decide +kernel
theorem dX7_segmentCount_24 : decode cX7_segmentCount 24 = .ok (.iload_n 1, 1) := by decide +kernel
theorem dX7_segmentCount_25 : decode cX7_segmentCount 25 = .ok (.invokevirtual 124, 3) := by decide +kernel
theorem dX7_segmentCount_28 : decode cX7_segmentCount 28 = .ok (.ifCond .eq 14, 3) := by decide +kernel
theorem dX7_segmentCount_31 : decode cX7_segmentCount 31 = .ok (.aload_n 0, 1) := by decide +kernel
theorem dX7_segmentCount_32 : decode cX7_segmentCount 32 = .ok (.getfield 26, 3) := by decide +kernel
theorem dX7_segmentCount_35 : decode cX7_segmentCount 35 = .ok (.iload_n 1, 1) := by decide +kernel
theorem dX7_segmentCount_36 : decode cX7_segmentCount 36 = .ok (.invokevirtual 127, 3) := by decide +kernel
theorem dX7_segmentCount_39 : decode cX7_segmentCount 39 = .ok (.goto 4, 3) := by decide +kernel
theorem dX7_segmentCount_42 : decode cX7_segmentCount 42 = .ok (.iconst (-1), 1) := by decide +kernel
theorem dX7_segmentCount_43 : decode cX7_segmentCount 43 = .ok (.ireturn, 1) := by decide +kernel
theorem dX7_segmentInfo_0 : decode cX7_segmentInfo 0 = .ok (.aload_n 0, 1) := by decide +kernel
theorem dX7_segmentInfo_1 : decode cX7_segmentInfo 1 = .ok (.getfield 26, 3) := by decide +kernel
theorem dX7_segmentInfo_4 : decode cX7_segmentInfo 4 = .ok (.aload_n 0, 1) := by decide +kernel
theorem dX7_segmentInfo_5 : decode cX7_segmentInfo 5 = .ok (.getfield 10, 3) := by decide +kernel
theorem dX7_segmentInfo_8 : decode cX7_segmentInfo 8 = .ok (.aload_n 0, 1) := by decide +kernel
theorem dX7_segmentInfo_9 : decode cX7_segmentInfo 9 = .ok (.getfield 10, 3) := by decide +kernel
theorem dX7_segmentInfo_12 : decode cX7_segmentInfo 12 = .ok (.getfield 101, 3) := by decide +kernel
theorem dX7_segmentInfo_15 : decode cX7_segmentInfo 15 = .ok (.iconst 0, 1) := by decide +kernel
theorem dX7_segmentInfo_16 : decode cX7_segmentInfo 16 = .ok (.iaload, 1) := by decide +kernel
theorem dX7_segmentInfo_17 : decode cX7_segmentInfo 17 = .ok (.invokevirtual 119, 3) := by decide +kernel
theorem dX7_segmentInfo_20 : decode cX7_segmentInfo 20 = .ok (.aload_n 0, 1) := by decide +kernel
theorem dX7_segmentInfo_21 : decode cX7_segmentInfo 21 = .ok (.getfield 26, 3) := by decide +kernel
theorem dX7_segmentInfo_24 : decode cX7_segmentInfo 24 = .ok (.iload_n 1, 1) := by decide +kernel
theorem dX7_segmentInfo_25 : decode cX7_segmentInfo 25 = .ok (.invokevirtual 124, 3) := by decide +kernel
theorem dX7_segmentInfo_28 : decode cX7_segmentInfo 28 = .ok (.ifCond .eq 17, 3) := by decide +kernel
theorem dX7_segmentInfo_31 : decode cX7_segmentInfo 31 = .ok (.iload_n 2, 1) := by decide +kernel
theorem dX7_segmentInfo_32 : decode cX7_segmentInfo 32 = .ok (.ifCond .lt 13, 3) := by decide +kernel
theorem dX7_segmentInfo_35 : decode cX7_segmentInfo 35 = .ok (.iload_n 3, 1) := by decide +kernel
theorem dX7_segmentInfo_36 : decode cX7_segmentInfo 36 = .ok (.iconst 0, 1) := by decide +kernel
theorem dX7_segmentInfo_37 : decode cX7_segmentInfo 37 = .ok (.bipush 7, 2) := by decide +kernel
theorem dX7_segmentInfo_39 : decode cX7_segmentInfo 39 = .ok (.invokestatic 41, 3) := by decide +kernel
theorem dX7_segmentInfo_42 : decode cX7_segmentInfo 42 = .ok (.ifCond .ne 5, 3) := by decide +kernel
theorem dX7_segmentInfo_45 : decode cX7_segmentInfo 45 = .ok (.iconst (-1), 1) := by decide +kernel
theorem dX7_segmentInfo_46 : decode cX7_segmentInfo 46 = .ok (.ireturn, 1) := by decide +kernel
theorem dX7_segmentInfo_47 : decode cX7_segmentInfo 47 = .ok (.iload_n 2, 1) := by decide +kernel
theorem dX7_segmentInfo_48 : decode cX7_segmentInfo 48 = .ok (.aload_n 0, 1) := by decide +kernel
theorem dX7_segmentInfo_49 : decode cX7_segmentInfo 49 = .ok (.getfield 26, 3) := by decide +kernel
theorem dX7_segmentInfo_52 : decode cX7_segmentInfo 52 = .ok (.iload_n 1, 1) := by decide +kernel
theorem dX7_segmentInfo_53 : decode cX7_segmentInfo 53 = .ok (.invokevirtual 127, 3) := by decide +kernel
theorem dX7_segmentInfo_56 : decode cX7_segmentInfo 56 = .ok (.if_icmp .lt 6, 3) := by decide +kernel
theorem dX7_segmentInfo_59 : decode cX7_segmentInfo 59 = .ok (.bipush (-4), 2) := by decide +kernel
theorem dX7_segmentInfo_61 : decode cX7_segmentInfo 61 = .ok (.ireturn, 1) := by decide +kernel
theorem dX7_segmentInfo_62 : decode cX7_segmentInfo 62 = .ok (.aload_n 0, 1) := by decide +kernel
theorem dX7_segmentInfo_63 : decode cX7_segmentInfo 63 = .ok (.getfield 26, 3) := by decide +kernel
theorem dX7_segmentInfo_66 : decode cX7_segmentInfo 66 = .ok (.getfield 131, 3) := by decide +kernel
theorem dX7_segmentInfo_69 : decode cX7_segmentInfo 69 = .ok (.iload_n 3, 1) := by decide +kernel
theorem dX7_segmentInfo_70 : decode cX7_segmentInfo 70 = .ok (.aaload, 1) := by decide +kernel
theorem dX7_segmentInfo_71 : decode cX7_segmentInfo 71 = .ok (.aload_n 0, 1) := by decide +kernel
theorem dX7_segmentInfo_72 : decode cX7_segmentInfo 72 = .ok (.getfield 26, 3) := by decide +kernel
theorem dX7_segmentInfo_75 : decode cX7_segmentInfo 75 = .ok (.getfield 134, 3) := by decide +kernel
theorem dX7_segmentInfo_78 : decode cX7_segmentInfo 78 = .ok (.iload_n 1, 1) := by decide +kernel
theorem dX7_segmentInfo_79 : decode cX7_segmentInfo 79 = .ok (.iaload, 1) := by decide +kernel
theorem dX7_segmentInfo_80 : decode cX7_segmentInfo 80 = .ok (.iload_n 2, 1) := by decide +kernel
theorem dX7_segmentInfo_81 : decode cX7_segmentInfo 81 = .ok (.iadd, 1) := by decide +kernel
theorem dX7_segmentInfo_82 : decode cX7_segmentInfo 82 = .ok (.iaload, 1) := by decide +kernel
theorem dX7_segmentInfo_83 : decode cX7_segmentInfo 83 = .ok (.ireturn, 1) := by decide +kernel
theorem dX7_pageInfo_0 : decode cX7_pageInfo 0 = .ok (.aload_n 0, 1) := by decide +kernel
theorem dX7_pageInfo_1 : decode cX7_pageInfo 1 = .ok (.getfield 26, 3) := by decide +kernel
theorem dX7_pageInfo_4 : decode cX7_pageInfo 4 = .ok (.aload_n 0, 1) := by decide +kernel
theorem dX7_pageInfo_5 : decode cX7_pageInfo 5 = .ok (.getfield 10, 3) := by decide +kernel
theorem dX7_pageInfo_8 : decode cX7_pageInfo 8 = .ok (.aload_n 0, 1) := by decide +kernel
theorem dX7_pageInfo_9 : decode cX7_pageInfo 9 = .ok (.getfield 10, 3) := by decide +kernel
theorem dX7_pageInfo_12 : decode cX7_pageInfo 12 = .ok (.getfield 101, 3) := by decide +kernel
theorem dX7_pageInfo_15 : decode cX7_pageInfo 15 = .ok (.iconst 0, 1) := by decide +kernel
theorem dX7_pageInfo_16 : decode cX7_pageInfo 16 = .ok (.iaload, 1) := by decide +kernel
theorem dX7_pageInfo_17 : decode cX7_pageInfo 17 = .ok (.invokevirtual 119, 3) := by decide +kernel
theorem dX7_pageInfo_20 : decode cX7_pageInfo 20 = .ok (.aload_n 0, 1) := by decide +kernel
theorem dX7_pageInfo_21 : decode cX7_pageInfo 21 = .ok (.getfield 26, 3) := by decide +kernel
theorem dX7_pageInfo_24 : decode cX7_pageInfo 24 = .ok (.iload_n 1, 1) := by decide +kernel
theorem dX7_pageInfo_25 : decode cX7_pageInfo 25 = .ok (.invokevirtual 124, 3) := by decide +kernel
theorem dX7_pageInfo_28 : decode cX7_pageInfo 28 = .ok (.ifCond .eq 19, 3) := by decide +kernel
theorem dX7_pageInfo_31 : decode cX7_pageInfo 31 = .ok (.iload_n 2, 1) := by decide +kernel
theorem dX7_pageInfo_32 : decode cX7_pageInfo 32 = .ok (.invokestatic 60, 3) := by decide +kernel
theorem dX7_pageInfo_35 : decode cX7_pageInfo 35 = .ok (.ifCond .eq 12, 3) := by decide +kernel
theorem dX7_pageInfo_38 : decode cX7_pageInfo 38 = .ok (.iload_n 3, 1) := by decide +kernel
theorem dX7_pageInfo_39 : decode cX7_pageInfo 39 = .ok (.iconst 0, 1) := by decide +kernel
theorem dX7_pageInfo_40 : decode cX7_pageInfo 40 = .ok (.iconst 5, 1) := by decide +kernel
theorem dX7_pageInfo_41 : decode cX7_pageInfo 41 = .ok (.invokestatic 41, 3) := by decide +kernel
theorem dX7_pageInfo_44 : decode cX7_pageInfo 44 = .ok (.ifCond .ne 5, 3) := by decide +kernel
theorem dX7_pageInfo_47 : decode cX7_pageInfo 47 = .ok (.iconst (-1), 1) := by decide +kernel
theorem dX7_pageInfo_48 : decode cX7_pageInfo 48 = .ok (.ireturn, 1) := by decide +kernel
theorem dX7_pageInfo_49 : decode cX7_pageInfo 49 = .ok (.aload_n 0, 1) := by decide +kernel
theorem dX7_pageInfo_50 : decode cX7_pageInfo 50 = .ok (.getfield 26, 3) := by decide +kernel
theorem dX7_pageInfo_53 : decode cX7_pageInfo 53 = .ok (.getfield 137, 3) := by decide +kernel
theorem dX7_pageInfo_56 : decode cX7_pageInfo 56 = .ok (.iload_n 3, 1) := by decide +kernel
theorem dX7_pageInfo_57 : decode cX7_pageInfo 57 = .ok (.aaload, 1) := by decide +kernel
theorem dX7_pageInfo_58 : decode cX7_pageInfo 58 = .ok (.iconst 2, 1) := by decide +kernel
theorem dX7_pageInfo_59 : decode cX7_pageInfo 59 = .ok (.iload_n 1, 1) := by decide +kernel
theorem dX7_pageInfo_60 : decode cX7_pageInfo 60 = .ok (.imul, 1) := by decide +kernel
theorem dX7_pageInfo_61 : decode cX7_pageInfo 61 = .ok (.iload_n 2, 1) := by decide +kernel
theorem dX7_pageInfo_62 : decode cX7_pageInfo 62 = .ok (.iadd, 1) := by decide +kernel
theorem dX7_pageInfo_63 : decode cX7_pageInfo 63 = .ok (.iaload, 1) := by decide +kernel
theorem dX7_pageInfo_64 : decode cX7_pageInfo 64 = .ok (.ireturn, 1) := by decide +kernel
theorem dX7_isOverfull_0 : decode cX7_isOverfull 0 = .ok (.aload_n 0, 1) := by decide +kernel
theorem dX7_isOverfull_1 : decode cX7_isOverfull 1 = .ok (.getfield 26, 3) := by decide +kernel
theorem dX7_isOverfull_4 : decode cX7_isOverfull 4 = .ok (.aload_n 0, 1) := by decide +kernel
theorem dX7_isOverfull_5 : decode cX7_isOverfull 5 = .ok (.getfield 10, 3) := by decide +kernel
theorem dX7_isOverfull_8 : decode cX7_isOverfull 8 = .ok (.aload_n 0, 1) := by decide +kernel
theorem dX7_isOverfull_9 : decode cX7_isOverfull 9 = .ok (.getfield 10, 3) := by decide +kernel
theorem dX7_isOverfull_12 : decode cX7_isOverfull 12 = .ok (.getfield 101, 3) := by decide +kernel
theorem dX7_isOverfull_15 : decode cX7_isOverfull 15 = .ok (.iconst 0, 1) := by decide +kernel
theorem dX7_isOverfull_16 : decode cX7_isOverfull 16 = .ok (.iaload, 1) := by decide +kernel
theorem dX7_isOverfull_17 : decode cX7_isOverfull 17 = .ok (.invokevirtual 119, 3) := by decide +kernel
theorem dX7_isOverfull_20 : decode cX7_isOverfull 20 = .ok (.aload_n 0, 1) := by decide +kernel
theorem dX7_isOverfull_21 : decode cX7_isOverfull 21 = .ok (.getfield 26, 3) := by decide +kernel
theorem dX7_isOverfull_24 : decode cX7_isOverfull 24 = .ok (.iload_n 1, 1) := by decide +kernel
theorem dX7_isOverfull_25 : decode cX7_isOverfull 25 = .ok (.invokevirtual 124, 3) := by decide +kernel
theorem dX7_isOverfull_28 : decode cX7_isOverfull 28 = .ok (.ifCond .eq 15, 3) := by decide +kernel
theorem dX7_isOverfull_31 : decode cX7_isOverfull 31 = .ok (.aload_n 0, 1) := by decide +kernel
theorem dX7_isOverfull_32 : decode cX7_isOverfull 32 = .ok (.getfield 26, 3) := by decide +kernel
theorem dX7_isOverfull_35 : decode cX7_isOverfull 35 = .ok (.getfield 140, 3) := by decide +kernel
theorem dX7_isOverfull_38 : decode cX7_isOverfull 38 = .ok (.iload_n 1, 1) := by decide +kernel
theorem dX7_isOverfull_39 : decode cX7_isOverfull 39 = .ok (.iaload, 1) := by decide +kernel
theorem dX7_isOverfull_40 : decode cX7_isOverfull 40 = .ok (.goto 4, 3) := by decide +kernel
theorem dX7_isOverfull_43 : decode cX7_isOverfull 43 = .ok (.iconst (-1), 1) := by decide +kernel
theorem dX7_isOverfull_44 : decode cX7_isOverfull 44 = .ok (.ireturn, 1) := by decide +kernel
theorem dX7_spreadOf_0 : decode cX7_spreadOf 0 = .ok (.aload_n 0, 1) := by decide +kernel
theorem dX7_spreadOf_1 : decode cX7_spreadOf 1 = .ok (.getfield 10, 3) := by decide +kernel
theorem dX7_spreadOf_4 : decode cX7_spreadOf 4 = .ok (.iload_n 1, 1) := by decide +kernel
theorem dX7_spreadOf_5 : decode cX7_spreadOf 5 = .ok (.iload_n 2, 1) := by decide +kernel
theorem dX7_spreadOf_6 : decode cX7_spreadOf 6 = .ok (.iload_n 3, 1) := by decide +kernel
theorem dX7_spreadOf_7 : decode cX7_spreadOf 7 = .ok (.invokevirtual 77, 3) := by decide +kernel
theorem dX7_spreadOf_10 : decode cX7_spreadOf 10 = .ok (.ifCond .ne 5, 3) := by decide +kernel
theorem dX7_spreadOf_13 : decode cX7_spreadOf 13 = .ok (.iconst (-1), 1) := by decide +kernel
theorem dX7_spreadOf_14 : decode cX7_spreadOf 14 = .ok (.ireturn, 1) := by decide +kernel
theorem dX7_spreadOf_15 : decode cX7_spreadOf 15 = .ok (.aload_n 0, 1) := by decide +kernel
theorem dX7_spreadOf_16 : decode cX7_spreadOf 16 = .ok (.getfield 26, 3) := by decide +kernel
theorem dX7_spreadOf_19 : decode cX7_spreadOf 19 = .ok (.aload_n 0, 1) := by decide +kernel
theorem dX7_spreadOf_20 : decode cX7_spreadOf 20 = .ok (.getfield 10, 3) := by decide +kernel
theorem dX7_spreadOf_23 : decode cX7_spreadOf 23 = .ok (.aload_n 0, 1) := by decide +kernel
theorem dX7_spreadOf_24 : decode cX7_spreadOf 24 = .ok (.getfield 10, 3) := by decide +kernel
theorem dX7_spreadOf_27 : decode cX7_spreadOf 27 = .ok (.getfield 101, 3) := by decide +kernel
theorem dX7_spreadOf_30 : decode cX7_spreadOf 30 = .ok (.iconst 0, 1) := by decide +kernel
theorem dX7_spreadOf_31 : decode cX7_spreadOf 31 = .ok (.iaload, 1) := by decide +kernel
theorem dX7_spreadOf_32 : decode cX7_spreadOf 32 = .ok (.invokevirtual 119, 3) := by decide +kernel
theorem dX7_spreadOf_35 : decode cX7_spreadOf 35 = .ok (.aload_n 0, 1) := by decide +kernel
theorem dX7_spreadOf_36 : decode cX7_spreadOf 36 = .ok (.getfield 26, 3) := by decide +kernel
theorem dX7_spreadOf_39 : decode cX7_spreadOf 39 = .ok (.aload_n 0, 1) := by decide +kernel
theorem dX7_spreadOf_40 : decode cX7_spreadOf 40 = .ok (.getfield 26, 3) := by decide +kernel
theorem dX7_spreadOf_43 : decode cX7_spreadOf 43 = .ok (.iload_n 1, 1) := by decide +kernel
theorem dX7_spreadOf_44 : decode cX7_spreadOf 44 = .ok (.iload_n 2, 1) := by decide +kernel
theorem dX7_spreadOf_45 : decode cX7_spreadOf 45 = .ok (.iload_n 3, 1) := by decide +kernel
theorem dX7_spreadOf_46 : decode cX7_spreadOf 46 = .ok (.invokevirtual 143, 3) := by decide +kernel
theorem dX7_spreadOf_49 : decode cX7_spreadOf 49 = .ok (.invokevirtual 146, 3) := by decide +kernel
theorem dX7_spreadOf_52 : decode cX7_spreadOf 52 = .ok (.ireturn, 1) := by decide +kernel
theorem dX7_rowOf_0 : decode cX7_rowOf 0 = .ok (.aload_n 0, 1) := by decide +kernel
theorem dX7_rowOf_1 : decode cX7_rowOf 1 = .ok (.getfield 10, 3) := by decide +kernel
theorem dX7_rowOf_4 : decode cX7_rowOf 4 = .ok (.iload_n 1, 1) := by decide +kernel
theorem dX7_rowOf_5 : decode cX7_rowOf 5 = .ok (.iload_n 2, 1) := by decide +kernel
theorem dX7_rowOf_6 : decode cX7_rowOf 6 = .ok (.iload_n 3, 1) := by decide +kernel
theorem dX7_rowOf_7 : decode cX7_rowOf 7 = .ok (.invokevirtual 77, 3) := by decide +kernel
theorem dX7_rowOf_10 : decode cX7_rowOf 10 = .ok (.ifCond .ne 5, 3) := by decide +kernel
theorem dX7_rowOf_13 : decode cX7_rowOf 13 = .ok (.iconst (-1), 1) := by decide +kernel
theorem dX7_rowOf_14 : decode cX7_rowOf 14 = .ok (.ireturn, 1) := by decide +kernel
theorem dX7_rowOf_15 : decode cX7_rowOf 15 = .ok (.aload_n 0, 1) := by decide +kernel
theorem dX7_rowOf_16 : decode cX7_rowOf 16 = .ok (.getfield 26, 3) := by decide +kernel
theorem dX7_rowOf_19 : decode cX7_rowOf 19 = .ok (.aload_n 0, 1) := by decide +kernel
theorem dX7_rowOf_20 : decode cX7_rowOf 20 = .ok (.getfield 10, 3) := by decide +kernel
theorem dX7_rowOf_23 : decode cX7_rowOf 23 = .ok (.aload_n 0, 1) := by decide +kernel
theorem dX7_rowOf_24 : decode cX7_rowOf 24 = .ok (.getfield 10, 3) := by decide +kernel
theorem dX7_rowOf_27 : decode cX7_rowOf 27 = .ok (.getfield 101, 3) := by decide +kernel
theorem dX7_rowOf_30 : decode cX7_rowOf 30 = .ok (.iconst 0, 1) := by decide +kernel
theorem dX7_rowOf_31 : decode cX7_rowOf 31 = .ok (.iaload, 1) := by decide +kernel
theorem dX7_rowOf_32 : decode cX7_rowOf 32 = .ok (.invokevirtual 119, 3) := by decide +kernel
theorem dX7_rowOf_35 : decode cX7_rowOf 35 = .ok (.aload_n 0, 1) := by decide +kernel
theorem dX7_rowOf_36 : decode cX7_rowOf 36 = .ok (.getfield 26, 3) := by decide +kernel
theorem dX7_rowOf_39 : decode cX7_rowOf 39 = .ok (.aload_n 0, 1) := by decide +kernel
theorem dX7_rowOf_40 : decode cX7_rowOf 40 = .ok (.getfield 26, 3) := by decide +kernel
theorem dX7_rowOf_43 : decode cX7_rowOf 43 = .ok (.iload_n 1, 1) := by decide +kernel
theorem dX7_rowOf_44 : decode cX7_rowOf 44 = .ok (.iload_n 2, 1) := by decide +kernel
theorem dX7_rowOf_45 : decode cX7_rowOf 45 = .ok (.iload_n 3, 1) := by decide +kernel
theorem dX7_rowOf_46 : decode cX7_rowOf 46 = .ok (.invokevirtual 143, 3) := by decide +kernel
theorem dX7_rowOf_49 : decode cX7_rowOf 49 = .ok (.iload_n 2, 1) := by decide +kernel
theorem dX7_rowOf_50 : decode cX7_rowOf 50 = .ok (.iload_n 3, 1) := by decide +kernel
theorem dX7_rowOf_51 : decode cX7_rowOf 51 = .ok (.invokevirtual 149, 3) := by decide +kernel
theorem dX7_rowOf_54 : decode cX7_rowOf 54 = .ok (.ireturn, 1) := by decide +kernel
theorem dX7_shown_0 : decode cX7_shown 0 = .ok (.aload_n 0, 1) := by decide +kernel
theorem dX7_shown_1 : decode cX7_shown 1 = .ok (.getfield 26, 3) := by decide +kernel
theorem dX7_shown_4 : decode cX7_shown 4 = .ok (.aload_n 0, 1) := by decide +kernel
theorem dX7_shown_5 : decode cX7_shown 5 = .ok (.getfield 10, 3) := by decide +kernel
theorem dX7_shown_8 : decode cX7_shown 8 = .ok (.aload_n 0, 1) := by decide +kernel
theorem dX7_shown_9 : decode cX7_shown 9 = .ok (.getfield 10, 3) := by decide +kernel
theorem dX7_shown_12 : decode cX7_shown 12 = .ok (.getfield 101, 3) := by decide +kernel
theorem dX7_shown_15 : decode cX7_shown 15 = .ok (.iconst 0, 1) := by decide +kernel
theorem dX7_shown_16 : decode cX7_shown 16 = .ok (.iaload, 1) := by decide +kernel
theorem dX7_shown_17 : decode cX7_shown 17 = .ok (.invokevirtual 119, 3) := by decide +kernel
theorem dX7_shown_20 : decode cX7_shown 20 = .ok (.aload_n 0, 1) := by decide +kernel
theorem dX7_shown_21 : decode cX7_shown 21 = .ok (.getfield 26, 3) := by decide +kernel
theorem dX7_shown_24 : decode cX7_shown 24 = .ok (.iload_n 1, 1) := by decide +kernel
theorem dX7_shown_25 : decode cX7_shown 25 = .ok (.invokevirtual 124, 3) := by decide +kernel
theorem dX7_shown_28 : decode cX7_shown 28 = .ok (.ifCond .eq 20, 3) := by decide +kernel
theorem dX7_shown_31 : decode cX7_shown 31 = .ok (.iload_n 2, 1) := by decide +kernel
theorem dX7_shown_32 : decode cX7_shown 32 = .ok (.invokestatic 60, 3) := by decide +kernel
theorem dX7_shown_35 : decode cX7_shown 35 = .ok (.ifCond .eq 13, 3) := by decide +kernel
theorem dX7_shown_38 : decode cX7_shown 38 = .ok (.iload_n 3, 1) := by decide +kernel
theorem dX7_shown_39 : decode cX7_shown 39 = .ok (.iconst 0, 1) := by decide +kernel
theorem dX7_shown_40 : decode cX7_shown 40 = .ok (.bipush 99, 2) := by decide +kernel
theorem dX7_shown_42 : decode cX7_shown 42 = .ok (.invokestatic 41, 3) := by decide +kernel
theorem dX7_shown_45 : decode cX7_shown 45 = .ok (.ifCond .ne 5, 3) := by decide +kernel
theorem dX7_shown_48 : decode cX7_shown 48 = .ok (.iconst (-1), 1) := by decide +kernel
theorem dX7_shown_49 : decode cX7_shown 49 = .ok (.ireturn, 1) := by decide +kernel
theorem dX7_shown_50 : decode cX7_shown 50 = .ok (.aload_n 0, 1) := by decide +kernel
theorem dX7_shown_51 : decode cX7_shown 51 = .ok (.getfield 26, 3) := by decide +kernel
theorem dX7_shown_54 : decode cX7_shown 54 = .ok (.iload_n 1, 1) := by decide +kernel
theorem dX7_shown_55 : decode cX7_shown 55 = .ok (.iload_n 2, 1) := by decide +kernel
theorem dX7_shown_56 : decode cX7_shown 56 = .ok (.iload_n 3, 1) := by decide +kernel
theorem dX7_shown_57 : decode cX7_shown 57 = .ok (.invokevirtual 152, 3) := by decide +kernel
theorem dX7_shown_60 : decode cX7_shown 60 = .ok (.istore 4, 2) := by decide +kernel
theorem dX7_shown_62 : decode cX7_shown 62 = .ok (.iload 4, 2) := by decide +kernel
theorem dX7_shown_64 : decode cX7_shown 64 = .ok (.ifCond .eq 8, 3) := by decide +kernel
theorem dX7_shown_67 : decode cX7_shown 67 = .ok (.iload 4, 2) := by decide +kernel
theorem dX7_shown_69 : decode cX7_shown 69 = .ok (.goto 17, 3) := by decide +kernel
theorem dX7_shown_72 : decode cX7_shown 72 = .ok (.aload_n 0, 1) := by decide +kernel
theorem dX7_shown_73 : decode cX7_shown 73 = .ok (.getfield 26, 3) := by decide +kernel
theorem dX7_shown_76 : decode cX7_shown 76 = .ok (.aload_n 0, 1) := by decide +kernel
theorem dX7_shown_77 : decode cX7_shown 77 = .ok (.getfield 10, 3) := by decide +kernel
theorem dX7_shown_80 : decode cX7_shown 80 = .ok (.iload_n 1, 1) := by decide +kernel
theorem dX7_shown_81 : decode cX7_shown 81 = .ok (.iload_n 2, 1) := by decide +kernel
theorem dX7_shown_82 : decode cX7_shown 82 = .ok (.iload_n 3, 1) := by decide +kernel
theorem dX7_shown_83 : decode cX7_shown 83 = .ok (.invokevirtual 155, 3) := by decide +kernel
theorem dX7_shown_86 : decode cX7_shown 86 = .ok (.ireturn, 1) := by decide +kernel
theorem dX7_cost_0 : decode cX7_cost 0 = .ok (.aload_n 0, 1) := by decide +kernel
theorem dX7_cost_1 : decode cX7_cost 1 = .ok (.getfield 26, 3) := by decide +kernel
theorem dX7_cost_4 : decode cX7_cost 4 = .ok (.aload_n 0, 1) := by decide +kernel
theorem dX7_cost_5 : decode cX7_cost 5 = .ok (.getfield 10, 3) := by decide +kernel
theorem dX7_cost_8 : decode cX7_cost 8 = .ok (.aload_n 0, 1) := by decide +kernel
theorem dX7_cost_9 : decode cX7_cost 9 = .ok (.getfield 10, 3) := by decide +kernel
theorem dX7_cost_12 : decode cX7_cost 12 = .ok (.getfield 101, 3) := by decide +kernel
theorem dX7_cost_15 : decode cX7_cost 15 = .ok (.iconst 0, 1) := by decide +kernel
theorem dX7_cost_16 : decode cX7_cost 16 = .ok (.iaload, 1) := by decide +kernel
theorem dX7_cost_17 : decode cX7_cost 17 = .ok (.invokevirtual 119, 3) := by decide +kernel
theorem dX7_cost_20 : decode cX7_cost 20 = .ok (.aload_n 0, 1) := by decide +kernel
theorem dX7_cost_21 : decode cX7_cost 21 = .ok (.getfield 26, 3) := by decide +kernel
theorem dX7_cost_24 : decode cX7_cost 24 = .ok (.invokevirtual 159, 3) := by decide +kernel
theorem dX7_cost_27 : decode cX7_cost 27 = .ok (.ireturn, 1) := by decide +kernel
theorem dX7_bestCost_0 : decode cX7_bestCost 0 = .ok (.aload_n 0, 1) := by decide +kernel
theorem dX7_bestCost_1 : decode cX7_bestCost 1 = .ok (.getfield 33, 3) := by decide +kernel
theorem dX7_bestCost_4 : decode cX7_bestCost 4 = .ok (.aload_n 0, 1) := by decide +kernel
theorem dX7_bestCost_5 : decode cX7_bestCost 5 = .ok (.getfield 10, 3) := by decide +kernel
theorem dX7_bestCost_8 : decode cX7_bestCost 8 = .ok (.invokevirtual 163, 3) := by decide +kernel
theorem dX7_bestCost_11 : decode cX7_bestCost 11 = .ok (.aload_n 0, 1) := by decide +kernel
theorem dX7_bestCost_12 : decode cX7_bestCost 12 = .ok (.getfield 33, 3) := by decide +kernel
theorem dX7_bestCost_15 : decode cX7_bestCost 15 = .ok (.invokevirtual 166, 3) := by decide +kernel
theorem dX7_bestCost_18 : decode cX7_bestCost 18 = .ok (.ifCond .eq 15, 3) := by decide +kernel
theorem dX7_bestCost_21 : decode cX7_bestCost 21 = .ok (.aload_n 0, 1) := by decide +kernel
theorem dX7_bestCost_22 : decode cX7_bestCost 22 = .ok (.getfield 33, 3) := by decide +kernel
theorem dX7_bestCost_25 : decode cX7_bestCost 25 = .ok (.getfield 170, 3) := by decide +kernel
theorem dX7_bestCost_28 : decode cX7_bestCost 28 = .ok (.iconst 0, 1) := by decide +kernel
theorem dX7_bestCost_29 : decode cX7_bestCost 29 = .ok (.iaload, 1) := by decide +kernel
theorem dX7_bestCost_30 : decode cX7_bestCost 30 = .ok (.goto 5, 3) := by decide +kernel
theorem dX7_bestCost_33 : decode cX7_bestCost 33 = .ok (.bipush (-4), 2) := by decide +kernel
theorem dX7_bestCost_35 : decode cX7_bestCost 35 = .ok (.ireturn, 1) := by decide +kernel
theorem dX7_bestBreak_0 : decode cX7_bestBreak 0 = .ok (.iload_n 1, 1) := by decide +kernel
theorem dX7_bestBreak_1 : decode cX7_bestBreak 1 = .ok (.ifCond .ge 5, 3) := by decide +kernel
theorem dX7_bestBreak_4 : decode cX7_bestBreak 4 = .ok (.iconst (-1), 1) := by decide +kernel
theorem dX7_bestBreak_5 : decode cX7_bestBreak 5 = .ok (.ireturn, 1) := by decide +kernel
theorem dX7_bestBreak_6 : decode cX7_bestBreak 6 = .ok (.aload_n 0, 1) := by decide +kernel
theorem dX7_bestBreak_7 : decode cX7_bestBreak 7 = .ok (.getfield 33, 3) := by decide +kernel
theorem dX7_bestBreak_10 : decode cX7_bestBreak 10 = .ok (.aload_n 0, 1) := by decide +kernel
theorem dX7_bestBreak_11 : decode cX7_bestBreak 11 = .ok (.getfield 10, 3) := by decide +kernel
theorem dX7_bestBreak_14 : decode cX7_bestBreak 14 = .ok (.invokevirtual 163, 3) := by decide +kernel
theorem dX7_bestBreak_17 : decode cX7_bestBreak 17 = .ok (.iload_n 1, 1) := by decide +kernel
theorem dX7_bestBreak_18 : decode cX7_bestBreak 18 = .ok (.aload_n 0, 1) := by decide +kernel
theorem dX7_bestBreak_19 : decode cX7_bestBreak 19 = .ok (.getfield 33, 3) := by decide +kernel
theorem dX7_bestBreak_22 : decode cX7_bestBreak 22 = .ok (.getfield 173, 3) := by decide +kernel
theorem dX7_bestBreak_25 : decode cX7_bestBreak 25 = .ok (.if_icmp .ge 15, 3) := by decide +kernel
theorem dX7_bestBreak_28 : decode cX7_bestBreak 28 = .ok (.aload_n 0, 1) := by decide +kernel
theorem dX7_bestBreak_29 : decode cX7_bestBreak 29 = .ok (.getfield 33, 3) := by decide +kernel
theorem dX7_bestBreak_32 : decode cX7_bestBreak 32 = .ok (.getfield 176, 3) := by decide +kernel
theorem dX7_bestBreak_35 : decode cX7_bestBreak 35 = .ok (.iload_n 1, 1) := by decide +kernel
theorem dX7_bestBreak_36 : decode cX7_bestBreak 36 = .ok (.iaload, 1) := by decide +kernel
theorem dX7_bestBreak_37 : decode cX7_bestBreak 37 = .ok (.goto 5, 3) := by decide +kernel
theorem dX7_bestBreak_40 : decode cX7_bestBreak 40 = .ok (.bipush (-4), 2) := by decide +kernel
theorem dX7_bestBreak_42 : decode cX7_bestBreak 42 = .ok (.ireturn, 1) := by decide +kernel
theorem dX7_leastHeight_0 : decode cX7_leastHeight 0 = .ok (.iload_n 1, 1) := by decide +kernel
theorem dX7_leastHeight_1 : decode cX7_leastHeight 1 = .ok (.iconst 1, 1) := by decide +kernel
theorem dX7_leastHeight_2 : decode cX7_leastHeight 2 = .ok (.bipush 40, 2) := by decide +kernel
theorem dX7_leastHeight_4 : decode cX7_leastHeight 4 = .ok (.invokestatic 41, 3) := by decide +kernel
theorem dX7_leastHeight_7 : decode cX7_leastHeight 7 = .ok (.ifCond .ne 5, 3) := by decide +kernel
theorem dX7_leastHeight_10 : decode cX7_leastHeight 10 = .ok (.iconst (-1), 1) := by decide +kernel
theorem dX7_leastHeight_11 : decode cX7_leastHeight 11 = .ok (.ireturn, 1) := by decide +kernel
theorem dX7_leastHeight_12 : decode cX7_leastHeight 12 = .ok (.getstatic 94, 3) := by decide +kernel
theorem dX7_leastHeight_15 : decode cX7_leastHeight 15 = .ok (.iconst 0, 1) := by decide +kernel
theorem dX7_leastHeight_16 : decode cX7_leastHeight 16 = .ok (.iaload, 1) := by decide +kernel
theorem dX7_leastHeight_17 : decode cX7_leastHeight 17 = .ok (.istore_n 2, 1) := by decide +kernel
theorem dX7_leastHeight_18 : decode cX7_leastHeight 18 = .ok (.iload_n 2, 1) := by decide +kernel
theorem dX7_leastHeight_19 : decode cX7_leastHeight 19 = .ok (.getstatic 98, 3) := by decide +kernel
theorem dX7_leastHeight_22 : decode cX7_leastHeight 22 = .ok (.iconst 0, 1) := by decide +kernel
theorem dX7_leastHeight_23 : decode cX7_leastHeight 23 = .ok (.iaload, 1) := by decide +kernel
theorem dX7_leastHeight_24 : decode cX7_leastHeight 24 = .ok (.if_icmp .gt 34, 3) := by decide +kernel
theorem dX7_leastHeight_27 : decode cX7_leastHeight 27 = .ok (.aload_n 0, 1) := by decide +kernel
theorem dX7_leastHeight_28 : decode cX7_leastHeight 28 = .ok (.getfield 26, 3) := by decide +kernel
theorem dX7_leastHeight_31 : decode cX7_leastHeight 31 = .ok (.aload_n 0, 1) := by decide +kernel
theorem dX7_leastHeight_32 : decode cX7_leastHeight 32 = .ok (.getfield 10, 3) := by decide +kernel
theorem dX7_leastHeight_35 : decode cX7_leastHeight 35 = .ok (.iload_n 2, 1) := by decide +kernel
theorem dX7_leastHeight_36 : decode cX7_leastHeight 36 = .ok (.invokevirtual 119, 3) := by decide +kernel
theorem dX7_leastHeight_39 : decode cX7_leastHeight 39 = .ok (.aload_n 0, 1) := by decide +kernel
theorem dX7_leastHeight_40 : decode cX7_leastHeight 40 = .ok (.getfield 26, 3) := by decide +kernel
theorem dX7_leastHeight_43 : decode cX7_leastHeight 43 = .ok (.getfield 123, 3) := by decide +kernel
theorem dX7_leastHeight_46 : decode cX7_leastHeight 46 = .ok (.iload_n 1, 1) := by decide +kernel
theorem dX7_leastHeight_47 : decode cX7_leastHeight 47 = .ok (.if_icmp .gt 5, 3) := by decide +kernel
theorem dX7_leastHeight_50 : decode cX7_leastHeight 50 = .ok (.iload_n 2, 1) := by decide +kernel
theorem dX7_leastHeight_51 : decode cX7_leastHeight 51 = .ok (.ireturn, 1) := by decide +kernel
theorem dX7_leastHeight_52 : decode cX7_leastHeight 52 = .ok (.iinc 2 1, 3) := by decide +kernel
theorem dX7_leastHeight_55 : decode cX7_leastHeight 55 = .ok (.goto (-37), 3) := by decide +kernel
theorem dX7_leastHeight_58 : decode cX7_leastHeight 58 = .ok (.bipush (-4), 2) := by decide +kernel
theorem dX7_leastHeight_60 : decode cX7_leastHeight 60 = .ok (.ireturn, 1) := by decide +kernel
theorem dX7_overfullWith_0 : decode cX7_overfullWith 0 = .ok (.iload_n 1, 1) := by decide +kernel
theorem dX7_overfullWith_1 : decode cX7_overfullWith 1 = .ok (.getstatic 94, 3) := by decide +kernel
theorem dX7_overfullWith_4 : decode cX7_overfullWith 4 = .ok (.iconst 0, 1) := by decide +kernel
theorem dX7_overfullWith_5 : decode cX7_overfullWith 5 = .ok (.iaload, 1) := by decide +kernel
theorem dX7_overfullWith_6 : decode cX7_overfullWith 6 = .ok (.getstatic 98, 3) := by decide +kernel
theorem dX7_overfullWith_9 : decode cX7_overfullWith 9 = .ok (.iconst 0, 1) := by decide +kernel
theorem dX7_overfullWith_10 : decode cX7_overfullWith 10 = .ok (.iaload, 1) := by decide +kernel
theorem dX7_overfullWith_11 : decode cX7_overfullWith 11 = .ok (.invokestatic 41, 3) := by decide +kernel
theorem dX7_overfullWith_14 : decode cX7_overfullWith 14 = .ok (.ifCond .ne 5, 3) := by decide +kernel
theorem dX7_overfullWith_17 : decode cX7_overfullWith 17 = .ok (.iconst (-1), 1) := by decide +kernel
theorem dX7_overfullWith_18 : decode cX7_overfullWith 18 = .ok (.ireturn, 1) := by decide +kernel
theorem dX7_overfullWith_19 : decode cX7_overfullWith 19 = .ok (.aload_n 0, 1) := by decide +kernel
theorem dX7_overfullWith_20 : decode cX7_overfullWith 20 = .ok (.getfield 26, 3) := by decide +kernel
theorem dX7_overfullWith_23 : decode cX7_overfullWith 23 = .ok (.aload_n 0, 1) := by decide +kernel
theorem dX7_overfullWith_24 : decode cX7_overfullWith 24 = .ok (.getfield 10, 3) := by decide +kernel
theorem dX7_overfullWith_27 : decode cX7_overfullWith 27 = .ok (.iload_n 1, 1) := by decide +kernel
theorem dX7_overfullWith_28 : decode cX7_overfullWith 28 = .ok (.invokevirtual 119, 3) := by decide +kernel
theorem dX7_overfullWith_31 : decode cX7_overfullWith 31 = .ok (.aload_n 0, 1) := by decide +kernel
theorem dX7_overfullWith_32 : decode cX7_overfullWith 32 = .ok (.getfield 26, 3) := by decide +kernel
theorem dX7_overfullWith_35 : decode cX7_overfullWith 35 = .ok (.invokevirtual 179, 3) := by decide +kernel
theorem dX7_overfullWith_38 : decode cX7_overfullWith 38 = .ok (.ireturn, 1) := by decide +kernel
theorem dX7_splitPairs_0 : decode cX7_splitPairs 0 = .ok (.aload_n 0, 1) := by decide +kernel
theorem dX7_splitPairs_1 : decode cX7_splitPairs 1 = .ok (.getfield 26, 3) := by decide +kernel
theorem dX7_splitPairs_4 : decode cX7_splitPairs 4 = .ok (.aload_n 0, 1) := by decide +kernel
theorem dX7_splitPairs_5 : decode cX7_splitPairs 5 = .ok (.getfield 10, 3) := by decide +kernel
theorem dX7_splitPairs_8 : decode cX7_splitPairs 8 = .ok (.aload_n 0, 1) := by decide +kernel
theorem dX7_splitPairs_9 : decode cX7_splitPairs 9 = .ok (.getfield 10, 3) := by decide +kernel
theorem dX7_splitPairs_12 : decode cX7_splitPairs 12 = .ok (.getfield 101, 3) := by decide +kernel
theorem dX7_splitPairs_15 : decode cX7_splitPairs 15 = .ok (.iconst 0, 1) := by decide +kernel
theorem dX7_splitPairs_16 : decode cX7_splitPairs 16 = .ok (.iaload, 1) := by decide +kernel
theorem dX7_splitPairs_17 : decode cX7_splitPairs 17 = .ok (.invokevirtual 119, 3) := by decide +kernel
theorem dX7_splitPairs_20 : decode cX7_splitPairs 20 = .ok (.aload_n 0, 1) := by decide +kernel
theorem dX7_splitPairs_21 : decode cX7_splitPairs 21 = .ok (.getfield 26, 3) := by decide +kernel
theorem dX7_splitPairs_24 : decode cX7_splitPairs 24 = .ok (.invokevirtual 182, 3) := by decide +kernel
theorem dX7_splitPairs_27 : decode cX7_splitPairs 27 = .ok (.ireturn, 1) := by decide +kernel
theorem dX7_changePair_0 : decode cX7_changePair 0 = .ok (.aload_n 0, 1) := by decide +kernel
theorem dX7_changePair_1 : decode cX7_changePair 1 = .ok (.invokevirtual 45, 3) := by decide +kernel
theorem dX7_changePair_4 : decode cX7_changePair 4 = .ok (.aload_n 0, 1) := by decide +kernel
theorem dX7_changePair_5 : decode cX7_changePair 5 = .ok (.getfield 10, 3) := by decide +kernel
theorem dX7_changePair_8 : decode cX7_changePair 8 = .ok (.getfield 112, 3) := by decide +kernel
theorem dX7_changePair_11 : decode cX7_changePair 11 = .ok (.iload_n 2, 1) := by decide +kernel
theorem dX7_changePair_12 : decode cX7_changePair 12 = .ok (.aaload, 1) := by decide +kernel
theorem dX7_changePair_13 : decode cX7_changePair 13 = .ok (.iload_n 1, 1) := by decide +kernel
theorem dX7_changePair_14 : decode cX7_changePair 14 = .ok (.iaload, 1) := by decide +kernel
theorem dX7_changePair_15 : decode cX7_changePair 15 = .ok (.istore 4, 2) := by decide +kernel
theorem dX7_changePair_17 : decode cX7_changePair 17 = .ok (.aload_n 0, 1) := by decide +kernel
theorem dX7_changePair_18 : decode cX7_changePair 18 = .ok (.getfield 10, 3) := by decide +kernel
theorem dX7_changePair_21 : decode cX7_changePair 21 = .ok (.getfield 112, 3) := by decide +kernel
theorem dX7_changePair_24 : decode cX7_changePair 24 = .ok (.iload_n 2, 1) := by decide +kernel
theorem dX7_changePair_25 : decode cX7_changePair 25 = .ok (.aaload, 1) := by decide +kernel
theorem dX7_changePair_26 : decode cX7_changePair 26 = .ok (.iload_n 1, 1) := by decide +kernel
theorem dX7_changePair_27 : decode cX7_changePair 27 = .ok (.iload_n 3, 1) := by decide +kernel
theorem dX7_changePair_28 : decode cX7_changePair 28 = .ok (.iastore, 1) := by decide +kernel
theorem dX7_changePair_29 : decode cX7_changePair 29 = .ok (.iload 4, 2) := by decide +kernel
theorem dX7_changePair_31 : decode cX7_changePair 31 = .ok (.ireturn, 1) := by decide +kernel
theorem dX7_beginChange_0 : decode cX7_beginChange 0 = .ok (.aload_n 0, 1) := by decide +kernel
theorem dX7_beginChange_1 : decode cX7_beginChange 1 = .ok (.getfield 19, 3) := by decide +kernel
theorem dX7_beginChange_4 : decode cX7_beginChange 4 = .ok (.aload_n 0, 1) := by decide +kernel
theorem dX7_beginChange_5 : decode cX7_beginChange 5 = .ok (.getfield 10, 3) := by decide +kernel
theorem dX7_beginChange_8 : decode cX7_beginChange 8 = .ok (.invokevirtual 185, 3) := by decide +kernel
theorem dX7_beginChange_11 : decode cX7_beginChange 11 = .ok (.aload_n 0, 1) := by decide +kernel
theorem dX7_beginChange_12 : decode cX7_beginChange 12 = .ok (.invokevirtual 109, 3) := by decide +kernel
theorem dX7_beginChange_15 : decode cX7_beginChange 15 = .ok (.return_, 1) := by decide +kernel
theorem dX7_forgetResults_0 : decode cX7_forgetResults 0 = .ok (.aload_n 0, 1) := by decide +kernel
theorem dX7_forgetResults_1 : decode cX7_forgetResults 1 = .ok (.getfield 26, 3) := by decide +kernel
theorem dX7_forgetResults_4 : decode cX7_forgetResults 4 = .ok (.iconst 0, 1) := by decide +kernel
theorem dX7_forgetResults_5 : decode cX7_forgetResults 5 = .ok (.putfield 188, 3) := by decide +kernel
theorem dX7_forgetResults_8 : decode cX7_forgetResults 8 = .ok (.aload_n 0, 1) := by decide +kernel
theorem dX7_forgetResults_9 : decode cX7_forgetResults 9 = .ok (.getfield 33, 3) := by decide +kernel
theorem dX7_forgetResults_12 : decode cX7_forgetResults 12 = .ok (.iconst 0, 1) := by decide +kernel
theorem dX7_forgetResults_13 : decode cX7_forgetResults 13 = .ok (.putfield 191, 3) := by decide +kernel
theorem dX7_forgetResults_16 : decode cX7_forgetResults 16 = .ok (.return_, 1) := by decide +kernel
theorem dX7_isIn_0 : decode cX7_isIn 0 = .ok (.iload_n 0, 1) := by decide +kernel
theorem dX7_isIn_1 : decode cX7_isIn 1 = .ok (.iload_n 1, 1) := by decide +kernel
theorem dX7_isIn_2 : decode cX7_isIn 2 = .ok (.if_icmp .lt 12, 3) := by decide +kernel
theorem dX7_isIn_5 : decode cX7_isIn 5 = .ok (.iload_n 0, 1) := by decide +kernel
theorem dX7_isIn_6 : decode cX7_isIn 6 = .ok (.iload_n 2, 1) := by decide +kernel
theorem dX7_isIn_7 : decode cX7_isIn 7 = .ok (.if_icmp .gt 7, 3) := by decide +kernel
theorem dX7_isIn_10 : decode cX7_isIn 10 = .ok (.iconst 1, 1) := by decide +kernel
theorem dX7_isIn_11 : decode cX7_isIn 11 = .ok (.goto 4, 3) := by decide +kernel
theorem dX7_isIn_14 : decode cX7_isIn 14 = .ok (.iconst 0, 1) := by decide +kernel
theorem dX7_isIn_15 : decode cX7_isIn 15 = .ok (.ireturn, 1) := by decide +kernel
theorem dX7_isSide_0 : decode cX7_isSide 0 = .ok (.iload_n 0, 1) := by decide +kernel
theorem dX7_isSide_1 : decode cX7_isSide 1 = .ok (.iconst 0, 1) := by decide +kernel
theorem dX7_isSide_2 : decode cX7_isSide 2 = .ok (.iconst 1, 1) := by decide +kernel
theorem dX7_isSide_3 : decode cX7_isSide 3 = .ok (.invokestatic 41, 3) := by decide +kernel
theorem dX7_isSide_6 : decode cX7_isSide 6 = .ok (.ireturn, 1) := by decide +kernel
theorem dX7_openPlace_0 : decode cX7_openPlace 0 = .ok (.iload_n 1, 1) := by decide +kernel
theorem dX7_openPlace_1 : decode cX7_openPlace 1 = .ok (.iconst 0, 1) := by decide +kernel
theorem dX7_openPlace_2 : decode cX7_openPlace 2 = .ok (.iload_n 2, 1) := by decide +kernel
theorem dX7_openPlace_3 : decode cX7_openPlace 3 = .ok (.invokestatic 41, 3) := by decide +kernel
theorem dX7_openPlace_6 : decode cX7_openPlace 6 = .ok (.ifCond .eq 21, 3) := by decide +kernel
theorem dX7_openPlace_9 : decode cX7_openPlace 9 = .ok (.iload_n 2, 1) := by decide +kernel
theorem dX7_openPlace_10 : decode cX7_openPlace 10 = .ok (.aload_n 0, 1) := by decide +kernel
theorem dX7_openPlace_11 : decode cX7_openPlace 11 = .ok (.arraylength, 1) := by decide +kernel
theorem dX7_openPlace_12 : decode cX7_openPlace 12 = .ok (.if_icmp .ge 15, 3) := by decide +kernel
theorem dX7_openPlace_15 : decode cX7_openPlace 15 = .ok (.aload_n 0, 1) := by decide +kernel
theorem dX7_openPlace_16 : decode cX7_openPlace 16 = .ok (.iload_n 1, 1) := by decide +kernel
theorem dX7_openPlace_17 : decode cX7_openPlace 17 = .ok (.aload_n 0, 1) := by decide +kernel
theorem dX7_openPlace_18 : decode cX7_openPlace 18 = .ok (.iload_n 1, 1) := by decide +kernel
theorem dX7_openPlace_19 : decode cX7_openPlace 19 = .ok (.iconst 1, 1) := by decide +kernel
theorem dX7_openPlace_20 : decode cX7_openPlace 20 = .ok (.iadd, 1) := by decide +kernel
theorem dX7_openPlace_21 : decode cX7_openPlace 21 = .ok (.iload_n 2, 1) := by decide +kernel
theorem dX7_openPlace_22 : decode cX7_openPlace 22 = .ok (.iload_n 1, 1) := by decide +kernel
theorem dX7_openPlace_23 : decode cX7_openPlace 23 = .ok (.isub, 1) := by decide +kernel
theorem dX7_openPlace_24 : decode cX7_openPlace 24 = .ok (.invokestatic 195, 3) := by decide +kernel
theorem dX7_openPlace_27 : decode cX7_openPlace 27 = .ok (.return_, 1) := by decide +kernel
theorem dX7_closePlace_0 : decode cX7_closePlace 0 = .ok (.iload_n 1, 1) := by decide +kernel
theorem dX7_closePlace_1 : decode cX7_closePlace 1 = .ok (.iconst 0, 1) := by decide +kernel
theorem dX7_closePlace_2 : decode cX7_closePlace 2 = .ok (.iload_n 2, 1) := by decide +kernel
theorem dX7_closePlace_3 : decode cX7_closePlace 3 = .ok (.iconst 1, 1) := by decide +kernel
theorem dX7_closePlace_4 : decode cX7_closePlace 4 = .ok (.isub, 1) := by decide +kernel
theorem dX7_closePlace_5 : decode cX7_closePlace 5 = .ok (.invokestatic 41, 3) := by decide +kernel
theorem dX7_closePlace_8 : decode cX7_closePlace 8 = .ok (.ifCond .eq 23, 3) := by decide +kernel
theorem dX7_closePlace_11 : decode cX7_closePlace 11 = .ok (.iload_n 2, 1) := by decide +kernel
theorem dX7_closePlace_12 : decode cX7_closePlace 12 = .ok (.aload_n 0, 1) := by decide +kernel
theorem dX7_closePlace_13 : decode cX7_closePlace 13 = .ok (.arraylength, 1) := by decide +kernel
theorem dX7_closePlace_14 : decode cX7_closePlace 14 = .ok (.if_icmp .gt 17, 3) := by decide +kernel
theorem dX7_closePlace_17 : decode cX7_closePlace 17 = .ok (.aload_n 0, 1) := by decide +kernel
theorem dX7_closePlace_18 : decode cX7_closePlace 18 = .ok (.iload_n 1, 1) := by decide +kernel
theorem dX7_closePlace_19 : decode cX7_closePlace 19 = .ok (.iconst 1, 1) := by decide +kernel
theorem dX7_closePlace_20 : decode cX7_closePlace 20 = .ok (.iadd, 1) := by decide +kernel
theorem dX7_closePlace_21 : decode cX7_closePlace 21 = .ok (.aload_n 0, 1) := by decide +kernel
theorem dX7_closePlace_22 : decode cX7_closePlace 22 = .ok (.iload_n 1, 1) := by decide +kernel
theorem dX7_closePlace_23 : decode cX7_closePlace 23 = .ok (.iload_n 2, 1) := by decide +kernel
theorem dX7_closePlace_24 : decode cX7_closePlace 24 = .ok (.iload_n 1, 1) := by decide +kernel
theorem dX7_closePlace_25 : decode cX7_closePlace 25 = .ok (.isub, 1) := by decide +kernel
theorem dX7_closePlace_26 : decode cX7_closePlace 26 = .ok (.iconst 1, 1) := by decide +kernel
theorem dX7_closePlace_27 : decode cX7_closePlace 27 = .ok (.isub, 1) := by decide +kernel
theorem dX7_closePlace_28 : decode cX7_closePlace 28 = .ok (.invokestatic 195, 3) := by decide +kernel
theorem dX7_closePlace_31 : decode cX7_closePlace 31 = .ok (.return_, 1) := by decide +kernel
theorem dX7_copyTable_0 : decode cX7_copyTable 0 = .ok (.iconst 0, 1) := by decide +kernel
theorem dX7_copyTable_1 : decode cX7_copyTable 1 = .ok (.istore_n 2, 1) := by decide +kernel
theorem dX7_copyTable_2 : decode cX7_copyTable 2 = .ok (.iload_n 2, 1) := by decide +kernel
theorem dX7_copyTable_3 : decode cX7_copyTable 3 = .ok (.aload_n 0, 1) := by decide +kernel
theorem dX7_copyTable_4 : decode cX7_copyTable 4 = .ok (.arraylength, 1) := by decide +kernel
theorem dX7_copyTable_5 : decode cX7_copyTable 5 = .ok (.if_icmp .ge 37, 3) := by decide +kernel
theorem dX7_copyTable_8 : decode cX7_copyTable 8 = .ok (.iload_n 2, 1) := by decide +kernel
theorem dX7_copyTable_9 : decode cX7_copyTable 9 = .ok (.aload_n 1, 1) := by decide +kernel
theorem dX7_copyTable_10 : decode cX7_copyTable 10 = .ok (.arraylength, 1) := by decide +kernel
theorem dX7_copyTable_11 : decode cX7_copyTable 11 = .ok (.if_icmp .ge 31, 3) := by decide +kernel
theorem dX7_copyTable_14 : decode cX7_copyTable 14 = .ok (.aload_n 0, 1) := by decide +kernel
theorem dX7_copyTable_15 : decode cX7_copyTable 15 = .ok (.iload_n 2, 1) := by decide +kernel
theorem dX7_copyTable_16 : decode cX7_copyTable 16 = .ok (.aaload, 1) := by decide +kernel
theorem dX7_copyTable_17 : decode cX7_copyTable 17 = .ok (.iconst 0, 1) := by decide +kernel
theorem dX7_copyTable_18 : decode cX7_copyTable 18 = .ok (.aload_n 1, 1) := by decide +kernel
theorem dX7_copyTable_19 : decode cX7_copyTable 19 = .ok (.iload_n 2, 1) := by decide +kernel
theorem dX7_copyTable_20 : decode cX7_copyTable 20 = .ok (.aaload, 1) := by decide +kernel
theorem dX7_copyTable_21 : decode cX7_copyTable 21 = .ok (.iconst 0, 1) := by decide +kernel
theorem dX7_copyTable_22 : decode cX7_copyTable 22 = .ok (.aload_n 0, 1) := by decide +kernel
theorem dX7_copyTable_23 : decode cX7_copyTable 23 = .ok (.iload_n 2, 1) := by decide +kernel
theorem dX7_copyTable_24 : decode cX7_copyTable 24 = .ok (.aaload, 1) := by decide +kernel
theorem dX7_copyTable_25 : decode cX7_copyTable 25 = .ok (.arraylength, 1) := by decide +kernel
theorem dX7_copyTable_26 : decode cX7_copyTable 26 = .ok (.aload_n 1, 1) := by decide +kernel
theorem dX7_copyTable_27 : decode cX7_copyTable 27 = .ok (.iload_n 2, 1) := by decide +kernel
theorem dX7_copyTable_28 : decode cX7_copyTable 28 = .ok (.aaload, 1) := by decide +kernel
theorem dX7_copyTable_29 : decode cX7_copyTable 29 = .ok (.arraylength, 1) := by decide +kernel
theorem dX7_copyTable_30 : decode cX7_copyTable 30 = .ok (.invokestatic 201, 3) := by decide +kernel
theorem dX7_copyTable_33 : decode cX7_copyTable 33 = .ok (.invokestatic 195, 3) := by decide +kernel
theorem dX7_copyTable_36 : decode cX7_copyTable 36 = .ok (.iinc 2 1, 3) := by decide +kernel
theorem dX7_copyTable_39 : decode cX7_copyTable 39 = .ok (.goto (-37), 3) := by decide +kernel
theorem dX7_copyTable_42 : decode cX7_copyTable 42 = .ok (.return_, 1) := by decide +kernel
theorem dX8_init_0 : decode cX8_init 0 = .ok (.aload_n 0, 1) := by decide +kernel
theorem dX8_init_1 : decode cX8_init 1 = .ok (.invokespecial 1, 3) := by decide +kernel
theorem dX8_init_4 : decode cX8_init 4 = .ok (.aload_n 0, 1) := by decide +kernel
theorem dX8_init_5 : decode cX8_init 5 = .ok (.sipush 329, 3) := by decide +kernel
theorem dX8_init_8 : decode cX8_init 8 = .ok (.newarray .int, 2) := by decide +kernel
theorem dX8_init_10 : decode cX8_init 10 = .ok (.putfield 7, 3) := by decide +kernel
theorem dX8_init_13 : decode cX8_init 13 = .ok (.aload_n 0, 1) := by decide +kernel
theorem dX8_init_14 : decode cX8_init 14 = .ok (.sipush 1974, 3) := by decide +kernel
theorem dX8_init_17 : decode cX8_init 17 = .ok (.newarray .int, 2) := by decide +kernel
theorem dX8_init_19 : decode cX8_init 19 = .ok (.putfield 13, 3) := by decide +kernel
theorem dX8_init_22 : decode cX8_init 22 = .ok (.aload_n 0, 1) := by decide +kernel
theorem dX8_init_23 : decode cX8_init 23 = .ok (.bipush 6, 2) := by decide +kernel
theorem dX8_init_25 : decode cX8_init 25 = .ok (.newarray .int, 2) := by decide +kernel
theorem dX8_init_27 : decode cX8_init 27 = .ok (.dup, 1) := by decide +kernel
theorem dX8_init_28 : decode cX8_init 28 = .ok (.iconst 0, 1) := by decide +kernel
theorem dX8_init_29 : decode cX8_init 29 = .ok (.bipush 8, 2) := by decide +kernel
theorem dX8_init_31 : decode cX8_init 31 = .ok (.iastore, 1) := by decide +kernel
theorem dX8_init_32 : decode cX8_init 32 = .ok (.dup, 1) := by decide +kernel
theorem dX8_init_33 : decode cX8_init 33 = .ok (.iconst 1, 1) := by decide +kernel
theorem dX8_init_34 : decode cX8_init 34 = .ok (.iconst 0, 1) := by decide +kernel
theorem dX8_init_35 : decode cX8_init 35 = .ok (.iastore, 1) := by decide +kernel
theorem dX8_init_36 : decode cX8_init 36 = .ok (.dup, 1) := by decide +kernel
theorem dX8_init_37 : decode cX8_init 37 = .ok (.iconst 2, 1) := by decide +kernel
theorem dX8_init_38 : decode cX8_init 38 = .ok (.iconst 0, 1) := by decide +kernel
theorem dX8_init_39 : decode cX8_init 39 = .ok (.iastore, 1) := by decide +kernel
theorem dX8_init_40 : decode cX8_init 40 = .ok (.dup, 1) := by decide +kernel
theorem dX8_init_41 : decode cX8_init 41 = .ok (.iconst 3, 1) := by decide +kernel
theorem dX8_init_42 : decode cX8_init 42 = .ok (.iconst 1, 1) := by decide +kernel
theorem dX8_init_43 : decode cX8_init 43 = .ok (.iastore, 1) := by decide +kernel
theorem dX8_init_44 : decode cX8_init 44 = .ok (.dup, 1) := by decide +kernel
theorem dX8_init_45 : decode cX8_init 45 = .ok (.iconst 4, 1) := by decide +kernel
theorem dX8_init_46 : decode cX8_init 46 = .ok (.iconst 0, 1) := by decide +kernel
theorem dX8_init_47 : decode cX8_init 47 = .ok (.iastore, 1) := by decide +kernel
theorem dX8_init_48 : decode cX8_init 48 = .ok (.dup, 1) := by decide +kernel
theorem dX8_init_49 : decode cX8_init 49 = .ok (.iconst 5, 1) := by decide +kernel
theorem dX8_init_50 : decode cX8_init 50 = .ok (.iconst 0, 1) := by decide +kernel
theorem dX8_init_51 : decode cX8_init 51 = .ok (.iastore, 1) := by decide +kernel
theorem dX8_init_52 : decode cX8_init 52 = .ok (.putfield 16, 3) := by decide +kernel
theorem dX8_init_55 : decode cX8_init 55 = .ok (.aload_n 0, 1) := by decide +kernel
theorem dX8_init_56 : decode cX8_init 56 = .ok (.bipush 6, 2) := by decide +kernel
theorem dX8_init_58 : decode cX8_init 58 = .ok (.newarray .int, 2) := by decide +kernel
theorem dX8_init_60 : decode cX8_init 60 = .ok (.dup, 1) := by decide +kernel
theorem dX8_init_61 : decode cX8_init 61 = .ok (.iconst 0, 1) := by decide +kernel
theorem dX8_init_62 : decode cX8_init 62 = .ok (.bipush 60, 2) := by decide +kernel
theorem dX8_init_64 : decode cX8_init 64 = .ok (.iastore, 1) := by decide +kernel
theorem dX8_init_65 : decode cX8_init 65 = .ok (.dup, 1) := by decide +kernel
theorem dX8_init_66 : decode cX8_init 66 = .ok (.iconst 1, 1) := by decide +kernel
theorem dX8_init_67 : decode cX8_init 67 = .ok (.iconst 3, 1) := by decide +kernel
theorem dX8_init_68 : decode cX8_init 68 = .ok (.iastore, 1) := by decide +kernel
theorem dX8_init_69 : decode cX8_init 69 = .ok (.dup, 1) := by decide +kernel
theorem dX8_init_70 : decode cX8_init 70 = .ok (.iconst 2, 1) := by decide +kernel
theorem dX8_init_71 : decode cX8_init 71 = .ok (.iconst 2, 1) := by decide +kernel
theorem dX8_init_72 : decode cX8_init 72 = .ok (.iastore, 1) := by decide +kernel
theorem dX8_init_73 : decode cX8_init 73 = .ok (.dup, 1) := by decide +kernel
theorem dX8_init_74 : decode cX8_init 74 = .ok (.iconst 3, 1) := by decide +kernel
theorem dX8_init_75 : decode cX8_init 75 = .ok (.iconst 4, 1) := by decide +kernel
theorem dX8_init_76 : decode cX8_init 76 = .ok (.iastore, 1) := by decide +kernel
theorem dX8_init_77 : decode cX8_init 77 = .ok (.dup, 1) := by decide +kernel
theorem dX8_init_78 : decode cX8_init 78 = .ok (.iconst 4, 1) := by decide +kernel
theorem dX8_init_79 : decode cX8_init 79 = .ok (.iconst 5, 1) := by decide +kernel
theorem dX8_init_80 : decode cX8_init 80 = .ok (.iastore, 1) := by decide +kernel
theorem dX8_init_81 : decode cX8_init 81 = .ok (.dup, 1) := by decide +kernel
theorem dX8_init_82 : decode cX8_init 82 = .ok (.iconst 5, 1) := by decide +kernel
theorem dX8_init_83 : decode cX8_init 83 = .ok (.iconst 1, 1) := by decide +kernel
theorem dX8_init_84 : decode cX8_init 84 = .ok (.iastore, 1) := by decide +kernel
theorem dX8_init_85 : decode cX8_init 85 = .ok (.putfield 19, 3) := by decide +kernel
theorem dX8_init_88 : decode cX8_init 88 = .ok (.aload_n 0, 1) := by decide +kernel
theorem dX8_init_89 : decode cX8_init 89 = .ok (.sipush 640, 3) := by decide +kernel
theorem dX8_init_92 : decode cX8_init 92 = .ok (.newarray .int, 2) := by decide +kernel
theorem dX8_init_94 : decode cX8_init 94 = .ok (.putfield 22, 3) := by decide +kernel
theorem dX8_init_97 : decode cX8_init 97 = .ok (.aload_n 0, 1) := by decide +kernel
theorem dX8_init_98 : decode cX8_init 98 = .ok (.sipush 1280, 3) := by decide +kernel
theorem dX8_init_101 : decode cX8_init 101 = .ok (.newarray .int, 2) := by decide +kernel
theorem dX8_init_103 : decode cX8_init 103 = .ok (.putfield 25, 3) := by decide +kernel
theorem dX8_init_106 : decode cX8_init 106 = .ok (.aload_n 0, 1) := by decide +kernel
theorem dX8_init_107 : decode cX8_init 107 = .ok (.sipush 1280, 3) := by decide +kernel
theorem dX8_init_110 : decode cX8_init 110 = .ok (.newarray .int, 2) := by decide +kernel
theorem dX8_init_112 : decode cX8_init 112 = .ok (.putfield 28, 3) := by decide +kernel
theorem dX8_init_115 : decode cX8_init 115 = .ok (.aload_n 0, 1) := by decide +kernel
theorem dX8_init_116 : decode cX8_init 116 = .ok (.sipush 1280, 3) := by decide +kernel
theorem dX8_init_119 : decode cX8_init 119 = .ok (.newarray .int, 2) := by decide +kernel
theorem dX8_init_121 : decode cX8_init 121 = .ok (.putfield 31, 3) := by decide +kernel
theorem dX8_init_124 : decode cX8_init 124 = .ok (.aload_n 0, 1) := by decide +kernel
theorem dX8_init_125 : decode cX8_init 125 = .ok (.sipush 640, 3) := by decide +kernel
theorem dX8_init_128 : decode cX8_init 128 = .ok (.newarray .int, 2) := by decide +kernel
theorem dX8_init_130 : decode cX8_init 130 = .ok (.putfield 34, 3) := by decide +kernel
theorem dX8_init_133 : decode cX8_init 133 = .ok (.aload_n 0, 1) := by decide +kernel
theorem dX8_init_134 : decode cX8_init 134 = .ok (.sipush 640, 3) := by decide +kernel
theorem dX8_init_137 : decode cX8_init 137 = .ok (.newarray .boolean, 2) := by decide +kernel
theorem dX8_init_139 : decode cX8_init 139 = .ok (.putfield 37, 3) := by decide +kernel
theorem dX8_init_142 : decode cX8_init 142 = .ok (.aload_n 0, 1) := by decide +kernel
theorem dX8_init_143 : decode cX8_init 143 = .ok (.sipush 1280, 3) := by decide +kernel
theorem dX8_init_146 : decode cX8_init 146 = .ok (.newarray .int, 2) := by decide +kernel
theorem dX8_init_148 : decode cX8_init 148 = .ok (.putfield 41, 3) := by decide +kernel
theorem dX8_init_151 : decode cX8_init 151 = .ok (.aload_n 0, 1) := by decide +kernel
theorem dX8_init_152 : decode cX8_init 152 = .ok (.sipush 1280, 3) := by decide +kernel
theorem dX8_init_155 : decode cX8_init 155 = .ok (.newarray .int, 2) := by decide +kernel
theorem dX8_init_157 : decode cX8_init 157 = .ok (.putfield 44, 3) := by decide +kernel
theorem dX8_init_160 : decode cX8_init 160 = .ok (.aload_n 0, 1) := by decide +kernel
theorem dX8_init_161 : decode cX8_init 161 = .ok (.sipush 1280, 3) := by decide +kernel
theorem dX8_init_164 : decode cX8_init 164 = .ok (.newarray .int, 2) := by decide +kernel
theorem dX8_init_166 : decode cX8_init 166 = .ok (.putfield 47, 3) := by decide +kernel
theorem dX8_init_169 : decode cX8_init 169 = .ok (.aload_n 0, 1) := by decide +kernel
theorem dX8_init_170 : decode cX8_init 170 = .ok (.sipush 1280, 3) := by decide +kernel
theorem dX8_init_173 : decode cX8_init 173 = .ok (.newarray .int, 2) := by decide +kernel
theorem dX8_init_175 : decode cX8_init 175 = .ok (.putfield 50, 3) := by decide +kernel
theorem dX8_init_178 : decode cX8_init 178 = .ok (.aload_n 0, 1) := by decide +kernel
theorem dX8_init_179 : decode cX8_init 179 = .ok (.iconst 2, 1) := by decide +kernel
theorem dX8_init_180 : decode cX8_init 180 = .ok (.newarray .int, 2) := by decide +kernel
theorem dX8_init_182 : decode cX8_init 182 = .ok (.putfield 53, 3) := by decide +kernel
theorem dX8_init_185 : decode cX8_init 185 = .ok (.aload_n 0, 1) := by decide +kernel
theorem dX8_init_186 : decode cX8_init 186 = .ok (.bipush 21, 2) := by decide +kernel
theorem dX8_init_188 : decode cX8_init 188 = .ok (.newarray .int, 2) := by decide +kernel
theorem dX8_init_190 : decode cX8_init 190 = .ok (.putfield 56, 3) := by decide +kernel
theorem dX8_init_193 : decode cX8_init 193 = .ok (.aload_n 0, 1) := by decide +kernel
theorem dX8_init_194 : decode cX8_init 194 = .ok (.bipush 21, 2) := by decide +kernel
theorem dX8_init_196 : decode cX8_init 196 = .ok (.newarray .int, 2) := by decide +kernel
theorem dX8_init_198 : decode cX8_init 198 = .ok (.putfield 59, 3) := by decide +kernel
theorem dX8_init_201 : decode cX8_init 201 = .ok (.aload_n 0, 1) := by decide +kernel
theorem dX8_init_202 : decode cX8_init 202 = .ok (.getfield 7, 3) := by decide +kernel
theorem dX8_init_205 : decode cX8_init 205 = .ok (.bipush 81, 2) := by decide +kernel
theorem dX8_init_207 : decode cX8_init 207 = .ok (.bipush 20, 2) := by decide +kernel
theorem dX8_init_209 : decode cX8_init 209 = .ok (.iastore, 1) := by decide +kernel
theorem dX8_init_210 : decode cX8_init 210 = .ok (.aload_n 0, 1) := by decide +kernel
theorem dX8_init_211 : decode cX8_init 211 = .ok (.getfield 7, 3) := by decide +kernel
theorem dX8_init_214 : decode cX8_init 214 = .ok (.bipush 82, 2) := by decide +kernel
theorem dX8_init_216 : decode cX8_init 216 = .ok (.iconst 1, 1) := by decide +kernel
theorem dX8_init_217 : decode cX8_init 217 = .ok (.iastore, 1) := by decide +kernel
theorem dX8_init_218 : decode cX8_init 218 = .ok (.aload_n 0, 1) := by decide +kernel
theorem dX8_init_219 : decode cX8_init 219 = .ok (.getfield 7, 3) := by decide +kernel
theorem dX8_init_222 : decode cX8_init 222 = .ok (.bipush 83, 2) := by decide +kernel
theorem dX8_init_224 : decode cX8_init 224 = .ok (.iconst 1, 1) := by decide +kernel
theorem dX8_init_225 : decode cX8_init 225 = .ok (.iastore, 1) := by decide +kernel
theorem dX8_init_226 : decode cX8_init 226 = .ok (.aload_n 0, 1) := by decide +kernel
theorem dX8_init_227 : decode cX8_init 227 = .ok (.getfield 7, 3) := by decide +kernel
theorem dX8_init_230 : decode cX8_init 230 = .ok (.bipush 84, 2) := by decide +kernel
theorem dX8_init_232 : decode cX8_init 232 = .ok (.iconst 2, 1) := by decide +kernel
theorem dX8_init_233 : decode cX8_init 233 = .ok (.iastore, 1) := by decide +kernel
theorem dX8_init_234 : decode cX8_init 234 = .ok (.aload_n 0, 1) := by decide +kernel
theorem dX8_init_235 : decode cX8_init 235 = .ok (.getfield 7, 3) := by decide +kernel
theorem dX8_init_238 : decode cX8_init 238 = .ok (.bipush 85, 2) := by decide +kernel
theorem dX8_init_240 : decode cX8_init 240 = .ok (.iconst 3, 1) := by decide +kernel
theorem dX8_init_241 : decode cX8_init 241 = .ok (.iastore, 1) := by decide +kernel
theorem dX8_init_242 : decode cX8_init 242 = .ok (.return_, 1) := by decide +kernel
theorem dX8_in_0 : decode cX8_in 0 = .ok (.iload_n 0, 1) := by decide +kernel
theorem dX8_in_1 : decode cX8_in 1 = .ok (.iload_n 1, 1) := by decide +kernel
theorem dX8_in_2 : decode cX8_in 2 = .ok (.if_icmp .lt 12, 3) := by decide +kernel
theorem dX8_in_5 : decode cX8_in 5 = .ok (.iload_n 0, 1) := by decide +kernel
theorem dX8_in_6 : decode cX8_in 6 = .ok (.iload_n 2, 1) := by decide +kernel
theorem dX8_in_7 : decode cX8_in 7 = .ok (.if_icmp .gt 7, 3) := by decide +kernel
theorem dX8_in_10 : decode cX8_in 10 = .ok (.iconst 1, 1) := by decide +kernel
theorem dX8_in_11 : decode cX8_in 11 = .ok (.goto 4, 3) := by decide +kernel
theorem dX8_in_14 : decode cX8_in 14 = .ok (.iconst 0, 1) := by decide +kernel
theorem dX8_in_15 : decode cX8_in 15 = .ok (.ireturn, 1) := by decide +kernel
theorem dX8_isPair_0 : decode cX8_isPair 0 = .ok (.iload_n 1, 1) := by decide +kernel
theorem dX8_isPair_1 : decode cX8_isPair 1 = .ok (.iconst 0, 1) := by decide +kernel
theorem dX8_isPair_2 : decode cX8_isPair 2 = .ok (.aload_n 0, 1) := by decide +kernel
theorem dX8_isPair_3 : decode cX8_isPair 3 = .ok (.getfield 7, 3) := by decide +kernel
theorem dX8_isPair_6 : decode cX8_isPair 6 = .ok (.iconst 0, 1) := by decide +kernel
theorem dX8_isPair_7 : decode cX8_isPair 7 = .ok (.iaload, 1) := by decide +kernel
theorem dX8_isPair_8 : decode cX8_isPair 8 = .ok (.iconst 1, 1) := by decide +kernel
theorem dX8_isPair_9 : decode cX8_isPair 9 = .ok (.isub, 1) := by decide +kernel
theorem dX8_isPair_10 : decode cX8_isPair 10 = .ok (.invokestatic 62, 3) := by decide +kernel
theorem dX8_isPair_13 : decode cX8_isPair 13 = .ok (.ireturn, 1) := by decide +kernel
theorem dX8_isSide_0 : decode cX8_isSide 0 = .ok (.iload_n 0, 1) := by decide +kernel
theorem dX8_isSide_1 : decode cX8_isSide 1 = .ok (.iconst 0, 1) := by decide +kernel
theorem dX8_isSide_2 : decode cX8_isSide 2 = .ok (.iconst 1, 1) := by decide +kernel
theorem dX8_isSide_3 : decode cX8_isSide 3 = .ok (.invokestatic 62, 3) := by decide +kernel
theorem dX8_isSide_6 : decode cX8_isSide 6 = .ok (.ireturn, 1) := by decide +kernel
theorem dX8_lines_0 : decode cX8_lines 0 = .ok (.aload_n 0, 1) := by decide +kernel
theorem dX8_lines_1 : decode cX8_lines 1 = .ok (.getfield 7, 3) := by decide +kernel
theorem dX8_lines_4 : decode cX8_lines 4 = .ok (.iconst 1, 1) := by decide +kernel
theorem dX8_lines_5 : decode cX8_lines 5 = .ok (.bipush 20, 2) := by decide +kernel
theorem dX8_lines_7 : decode cX8_lines 7 = .ok (.iload_n 2, 1) := by decide +kernel
theorem dX8_lines_8 : decode cX8_lines 8 = .ok (.imul, 1) := by decide +kernel
theorem dX8_lines_9 : decode cX8_lines 9 = .ok (.iadd, 1) := by decide +kernel
theorem dX8_lines_10 : decode cX8_lines 10 = .ok (.iload_n 1, 1) := by decide +kernel
theorem dX8_lines_11 : decode cX8_lines 11 = .ok (.iadd, 1) := by decide +kernel
theorem dX8_lines_12 : decode cX8_lines 12 = .ok (.iaload, 1) := by decide +kernel
theorem dX8_lines_13 : decode cX8_lines 13 = .ok (.ireturn, 1) := by decide +kernel
theorem dX8_isLine_0 : decode cX8_isLine 0 = .ok (.aload_n 0, 1) := by decide +kernel
theorem dX8_isLine_1 : decode cX8_isLine 1 = .ok (.iload_n 1, 1) := by decide +kernel
theorem dX8_isLine_2 : decode cX8_isLine 2 = .ok (.invokevirtual 66, 3) := by decide +kernel
theorem dX8_isLine_5 : decode cX8_isLine 5 = .ok (.ifCond .eq 30, 3) := by decide +kernel
theorem dX8_isLine_8 : decode cX8_isLine 8 = .ok (.iload_n 2, 1) := by decide +kernel
theorem dX8_isLine_9 : decode cX8_isLine 9 = .ok (.invokestatic 70, 3) := by decide +kernel
theorem dX8_isLine_12 : decode cX8_isLine 12 = .ok (.ifCond .eq 23, 3) := by decide +kernel
theorem dX8_isLine_15 : decode cX8_isLine 15 = .ok (.iload_n 3, 1) := by decide +kernel
theorem dX8_isLine_16 : decode cX8_isLine 16 = .ok (.iconst 0, 1) := by decide +kernel
theorem dX8_isLine_17 : decode cX8_isLine 17 = .ok (.aload_n 0, 1) := by decide +kernel
theorem dX8_isLine_18 : decode cX8_isLine 18 = .ok (.iload_n 1, 1) := by decide +kernel
theorem dX8_isLine_19 : decode cX8_isLine 19 = .ok (.iload_n 2, 1) := by decide +kernel
theorem dX8_isLine_20 : decode cX8_isLine 20 = .ok (.invokevirtual 73, 3) := by decide +kernel
theorem dX8_isLine_23 : decode cX8_isLine 23 = .ok (.iconst 1, 1) := by decide +kernel
theorem dX8_isLine_24 : decode cX8_isLine 24 = .ok (.isub, 1) := by decide +kernel
theorem dX8_isLine_25 : decode cX8_isLine 25 = .ok (.invokestatic 62, 3) := by decide +kernel
theorem dX8_isLine_28 : decode cX8_isLine 28 = .ok (.ifCond .eq 7, 3) := by decide +kernel
theorem dX8_isLine_31 : decode cX8_isLine 31 = .ok (.iconst 1, 1) := by decide +kernel
theorem dX8_isLine_32 : decode cX8_isLine 32 = .ok (.goto 4, 3) := by decide +kernel
theorem dX8_isLine_35 : decode cX8_isLine 35 = .ok (.iconst 0, 1) := by decide +kernel
theorem dX8_isLine_36 : decode cX8_isLine 36 = .ok (.ireturn, 1) := by decide +kernel
theorem dX8_noteLong_0 : decode cX8_noteLong 0 = .ok (.aload_n 0, 1) := by decide +kernel
theorem dX8_noteLong_1 : decode cX8_noteLong 1 = .ok (.getfield 7, 3) := by decide +kernel
theorem dX8_noteLong_4 : decode cX8_noteLong 4 = .ok (.sipush 249, 3) := by decide +kernel
theorem dX8_noteLong_7 : decode cX8_noteLong 7 = .ok (.bipush 40, 2) := by decide +kernel
theorem dX8_noteLong_9 : decode cX8_noteLong 9 = .ok (.iload_n 1, 1) := by decide +kernel
theorem dX8_noteLong_10 : decode cX8_noteLong 10 = .ok (.imul, 1) := by decide +kernel
theorem dX8_noteLong_11 : decode cX8_noteLong 11 = .ok (.iadd, 1) := by decide +kernel
theorem dX8_noteLong_12 : decode cX8_noteLong 12 = .ok (.iload_n 2, 1) := by decide +kernel
theorem dX8_noteLong_13 : decode cX8_noteLong 13 = .ok (.iadd, 1) := by decide +kernel
theorem dX8_noteLong_14 : decode cX8_noteLong 14 = .ok (.iaload, 1) := by decide +kernel
theorem dX8_noteLong_15 : decode cX8_noteLong 15 = .ok (.ireturn, 1) := by decide +kernel
theorem dX8_records_0 : decode cX8_records 0 = .ok (.aload_n 0, 1) := by decide +kernel
theorem dX8_records_1 : decode cX8_records 1 = .ok (.getfield 77, 3) := by decide +kernel
theorem dX8_records_4 : decode cX8_records 4 = .ok (.bipush 6, 2) := by decide +kernel
theorem dX8_records_6 : decode cX8_records 6 = .ok (.if_icmp .ne 44, 3) := by decide +kernel
theorem dX8_records_9 : decode cX8_records 9 = .ok (.iconst 0, 1) := by decide +kernel
theorem dX8_records_10 : decode cX8_records 10 = .ok (.istore_n 1, 1) := by decide +kernel
theorem dX8_records_11 : decode cX8_records 11 = .ok (.iload_n 1, 1) := by decide +kernel
theorem dX8_records_12 : decode cX8_records 12 = .ok (.sipush 1645, 3) := by decide +kernel
theorem dX8_records_15 : decode cX8_records 15 = .ok (.if_icmp .ge 25, 3) := by decide +kernel
theorem dX8_records_18 : decode cX8_records 18 = .ok (.aload_n 0, 1) := by decide +kernel
theorem dX8_records_19 : decode cX8_records 19 = .ok (.getfield 13, 3) := by decide +kernel
theorem dX8_records_22 : decode cX8_records 22 = .ok (.iload_n 1, 1) := by decide +kernel
theorem dX8_records_23 : decode cX8_records 23 = .ok (.aload_n 0, 1) := by decide +kernel
theorem dX8_records_24 : decode cX8_records 24 = .ok (.getfield 13, 3) := by decide +kernel
theorem dX8_records_27 : decode cX8_records 27 = .ok (.iload_n 1, 1) := by decide +kernel
theorem dX8_records_28 : decode cX8_records 28 = .ok (.sipush 329, 3) := by decide +kernel
theorem dX8_records_31 : decode cX8_records 31 = .ok (.iadd, 1) := by decide +kernel
theorem dX8_records_32 : decode cX8_records 32 = .ok (.iaload, 1) := by decide +kernel
theorem dX8_records_33 : decode cX8_records 33 = .ok (.iastore, 1) := by decide +kernel
theorem dX8_records_34 : decode cX8_records 34 = .ok (.iinc 1 1, 3) := by decide +kernel
theorem dX8_records_37 : decode cX8_records 37 = .ok (.goto (-26), 3) := by decide +kernel
theorem dX8_records_40 : decode cX8_records 40 = .ok (.aload_n 0, 1) := by decide +kernel
theorem dX8_records_41 : decode cX8_records 41 = .ok (.dup, 1) := by decide +kernel
theorem dX8_records_42 : decode cX8_records 42 = .ok (.getfield 77, 3) := by decide +kernel
theorem dX8_records_45 : decode cX8_records 45 = .ok (.iconst 1, 1) := by decide +kernel
theorem dX8_records_46 : decode cX8_records 46 = .ok (.isub, 1) := by decide +kernel
theorem dX8_records_47 : decode cX8_records 47 = .ok (.putfield 77, 3) := by decide +kernel
theorem dX8_records_50 : decode cX8_records 50 = .ok (.iconst 0, 1) := by decide +kernel
theorem dX8_records_51 : decode cX8_records 51 = .ok (.istore_n 1, 1) := by decide +kernel
theorem dX8_records_52 : decode cX8_records 52 = .ok (.iload_n 1, 1) := by decide +kernel
theorem dX8_records_53 : decode cX8_records 53 = .ok (.sipush 329, 3) := by decide +kernel
theorem dX8_records_56 : decode cX8_records 56 = .ok (.if_icmp .ge 30, 3) := by decide +kernel
theorem dX8_records_59 : decode cX8_records 59 = .ok (.aload_n 0, 1) := by decide +kernel
theorem dX8_records_60 : decode cX8_records 60 = .ok (.getfield 13, 3) := by decide +kernel
theorem dX8_records_63 : decode cX8_records 63 = .ok (.sipush 329, 3) := by decide +kernel
theorem dX8_records_66 : decode cX8_records 66 = .ok (.aload_n 0, 1) := by decide +kernel
theorem dX8_records_67 : decode cX8_records 67 = .ok (.getfield 77, 3) := by decide +kernel
theorem dX8_records_70 : decode cX8_records 70 = .ok (.imul, 1) := by decide +kernel
theorem dX8_records_71 : decode cX8_records 71 = .ok (.iload_n 1, 1) := by decide +kernel
theorem dX8_records_72 : decode cX8_records 72 = .ok (.iadd, 1) := by decide +kernel
theorem dX8_records_73 : decode cX8_records 73 = .ok (.aload_n 0, 1) := by decide +kernel
theorem dX8_records_74 : decode cX8_records 74 = .ok (.getfield 7, 3) := by decide +kernel
theorem dX8_records_77 : decode cX8_records 77 = .ok (.iload_n 1, 1) := by decide +kernel
theorem dX8_records_78 : decode cX8_records 78 = .ok (.iaload, 1) := by decide +kernel
theorem dX8_records_79 : decode cX8_records 79 = .ok (.iastore, 1) := by decide +kernel
theorem dX8_records_80 : decode cX8_records 80 = .ok (.iinc 1 1, 3) := by decide +kernel
theorem dX8_records_83 : decode cX8_records 83 = .ok (.goto (-31), 3) := by decide +kernel
theorem dX8_records_86 : decode cX8_records 86 = .ok (.aload_n 0, 1) := by decide +kernel
theorem dX8_records_87 : decode cX8_records 87 = .ok (.dup, 1) := by decide +kernel
theorem dX8_records_88 : decode cX8_records 88 = .ok (.getfield 77, 3) := by decide +kernel
theorem dX8_records_91 : decode cX8_records 91 = .ok (.iconst 1, 1) := by decide +kernel
theorem dX8_records_92 : decode cX8_records 92 = .ok (.iadd, 1) := by decide +kernel
theorem dX8_records_93 : decode cX8_records 93 = .ok (.putfield 77, 3) := by decide +kernel
theorem dX8_records_96 : decode cX8_records 96 = .ok (.return_, 1) := by decide +kernel
theorem dX8_insert_0 : decode cX8_insert 0 = .ok (.iload_n 1, 1) := by decide +kernel
theorem dX8_insert_1 : decode cX8_insert 1 = .ok (.iconst 0, 1) := by decide +kernel
theorem dX8_insert_2 : decode cX8_insert 2 = .ok (.aload_n 0, 1) := by decide +kernel
theorem dX8_insert_3 : decode cX8_insert 3 = .ok (.getfield 7, 3) := by decide +kernel
theorem dX8_insert_6 : decode cX8_insert 6 = .ok (.iconst 0, 1) := by decide +kernel
theorem dX8_insert_7 : decode cX8_insert 7 = .ok (.iaload, 1) := by decide +kernel
theorem dX8_insert_8 : decode cX8_insert 8 = .ok (.invokestatic 62, 3) := by decide +kernel
theorem dX8_insert_11 : decode cX8_insert 11 = .ok (.ifCond .eq 23, 3) := by decide +kernel
theorem dX8_insert_14 : decode cX8_insert 14 = .ok (.iload_n 2, 1) := by decide +kernel
theorem dX8_insert_15 : decode cX8_insert 15 = .ok (.iconst 1, 1) := by decide +kernel
theorem dX8_insert_16 : decode cX8_insert 16 = .ok (.bipush 30, 2) := by decide +kernel
theorem dX8_insert_18 : decode cX8_insert 18 = .ok (.invokestatic 62, 3) := by decide +kernel
theorem dX8_insert_21 : decode cX8_insert 21 = .ok (.ifCond .eq 13, 3) := by decide +kernel
theorem dX8_insert_24 : decode cX8_insert 24 = .ok (.iload_n 3, 1) := by decide +kernel
theorem dX8_insert_25 : decode cX8_insert 25 = .ok (.iconst 1, 1) := by decide +kernel
theorem dX8_insert_26 : decode cX8_insert 26 = .ok (.bipush 30, 2) := by decide +kernel
theorem dX8_insert_28 : decode cX8_insert 28 = .ok (.invokestatic 62, 3) := by decide +kernel
theorem dX8_insert_31 : decode cX8_insert 31 = .ok (.ifCond .ne 5, 3) := by decide +kernel
theorem dX8_insert_34 : decode cX8_insert 34 = .ok (.iconst (-1), 1) := by decide +kernel
theorem dX8_insert_35 : decode cX8_insert 35 = .ok (.ireturn, 1) := by decide +kernel
theorem dX8_insert_36 : decode cX8_insert 36 = .ok (.aload_n 0, 1) := by decide +kernel
theorem dX8_insert_37 : decode cX8_insert 37 = .ok (.getfield 7, 3) := by decide +kernel
theorem dX8_insert_40 : decode cX8_insert 40 = .ok (.iconst 0, 1) := by decide +kernel
theorem dX8_insert_41 : decode cX8_insert 41 = .ok (.iaload, 1) := by decide +kernel
theorem dX8_insert_42 : decode cX8_insert 42 = .ok (.bipush 20, 2) := by decide +kernel
theorem dX8_insert_44 : decode cX8_insert 44 = .ok (.if_icmp .ne 6, 3) := by decide +kernel
theorem dX8_insert_47 : decode cX8_insert 47 = .ok (.bipush (-3), 2) := by decide +kernel
theorem dX8_insert_49 : decode cX8_insert 49 = .ok (.ireturn, 1) := by decide +kernel
theorem dX8_insert_50 : decode cX8_insert 50 = .ok (.aload_n 0, 1) := by decide +kernel
theorem dX8_insert_51 : decode cX8_insert 51 = .ok (.invokevirtual 81, 3) := by decide +kernel
theorem dX8_insert_54 : decode cX8_insert 54 = .ok (.iconst 0, 1) := by decide +kernel
theorem dX8_insert_55 : decode cX8_insert 55 = .ok (.istore 4, 2) := by decide +kernel
theorem dX8_insert_57 : decode cX8_insert 57 = .ok (.iload 4, 2) := by decide +kernel
theorem dX8_insert_59 : decode cX8_insert 59 = .ok (.iconst 4, 1) := by decide +kernel
theorem dX8_insert_60 : decode cX8_insert 60 = .ok (.if_icmp .ge 61, 3) := by decide +kernel
theorem dX8_insert_63 : decode cX8_insert 63 = .ok (.aload_n 0, 1) := by decide +kernel
theorem dX8_insert_64 : decode cX8_insert 64 = .ok (.getfield 7, 3) := by decide +kernel
theorem dX8_insert_67 : decode cX8_insert 67 = .ok (.iconst 0, 1) := by decide +kernel
theorem dX8_insert_68 : decode cX8_insert 68 = .ok (.iaload, 1) := by decide +kernel
theorem dX8_insert_69 : decode cX8_insert 69 = .ok (.istore 5, 2) := by decide +kernel
theorem dX8_insert_71 : decode cX8_insert 71 = .ok (.iload 5, 2) := by decide +kernel
theorem dX8_insert_73 : decode cX8_insert 73 = .ok (.iload_n 1, 1) := by decide +kernel
theorem dX8_insert_74 : decode cX8_insert 74 = .ok (.if_icmp .le 41, 3) := by decide +kernel
theorem dX8_insert_77 : decode cX8_insert 77 = .ok (.aload_n 0, 1) := by decide +kernel
theorem dX8_insert_78 : decode cX8_insert 78 = .ok (.getfield 7, 3) := by decide +kernel
theorem dX8_insert_81 : decode cX8_insert 81 = .ok (.iconst 1, 1) := by decide +kernel
theorem dX8_insert_82 : decode cX8_insert 82 = .ok (.bipush 20, 2) := by decide +kernel
theorem dX8_insert_84 : decode cX8_insert 84 = .ok (.iload 4, 2) := by decide +kernel
theorem dX8_insert_86 : decode cX8_insert 86 = .ok (.imul, 1) := by decide +kernel
theorem dX8_insert_87 : decode cX8_insert 87 = .ok (.iadd, 1) := by decide +kernel
theorem dX8_insert_88 : decode cX8_insert 88 = .ok (.iload 5, 2) := by decide +kernel
theorem dX8_insert_90 : decode cX8_insert 90 = .ok (.iadd, 1) := by decide +kernel
theorem dX8_insert_91 : decode cX8_insert 91 = .ok (.aload_n 0, 1) := by decide +kernel
theorem dX8_insert_92 : decode cX8_insert 92 = .ok (.getfield 7, 3) := by decide +kernel
theorem dX8_insert_95 : decode cX8_insert 95 = .ok (.iconst 1, 1) := by decide +kernel
theorem dX8_insert_96 : decode cX8_insert 96 = .ok (.bipush 20, 2) := by decide +kernel
theorem dX8_insert_98 : decode cX8_insert 98 = .ok (.iload 4, 2) := by decide +kernel
theorem dX8_insert_100 : decode cX8_insert 100 = .ok (.imul, 1) := by decide +kernel
theorem dX8_insert_101 : decode cX8_insert 101 = .ok (.iadd, 1) := by decide +kernel
theorem dX8_insert_102 : decode cX8_insert 102 = .ok (.iload 5, 2) := by decide +kernel
theorem dX8_insert_104 : decode cX8_insert 104 = .ok (.iadd, 1) := by decide +kernel
theorem dX8_insert_105 : decode cX8_insert 105 = .ok (.iconst 1, 1) := by decide +kernel
theorem dX8_insert_106 : decode cX8_insert 106 = .ok (.isub, 1) := by decide +kernel
theorem dX8_insert_107 : decode cX8_insert 107 = .ok (.iaload, 1) := by decide +kernel
theorem dX8_insert_108 : decode cX8_insert 108 = .ok (.iastore, 1) := by decide +kernel
theorem dX8_insert_109 : decode cX8_insert 109 = .ok (.iinc 5 (-1), 3) := by decide +kernel
theorem dX8_insert_112 : decode cX8_insert 112 = .ok (.goto (-41), 3) := by decide +kernel
theorem dX8_insert_115 : decode cX8_insert 115 = .ok (.iinc 4 1, 3) := by decide +kernel
theorem dX8_insert_118 : decode cX8_insert 118 = .ok (.goto (-61), 3) := by decide +kernel
theorem dX8_insert_121 : decode cX8_insert 121 = .ok (.aload_n 0, 1) := by decide +kernel
theorem dX8_insert_122 : decode cX8_insert 122 = .ok (.getfield 7, 3) := by decide +kernel
theorem dX8_insert_125 : decode cX8_insert 125 = .ok (.iconst 1, 1) := by decide +kernel
theorem dX8_insert_126 : decode cX8_insert 126 = .ok (.iload_n 1, 1) := by decide +kernel
theorem dX8_insert_127 : decode cX8_insert 127 = .ok (.iadd, 1) := by decide +kernel
theorem dX8_insert_128 : decode cX8_insert 128 = .ok (.iload_n 2, 1) := by decide +kernel
theorem dX8_insert_129 : decode cX8_insert 129 = .ok (.iastore, 1) := by decide +kernel
theorem dX8_insert_130 : decode cX8_insert 130 = .ok (.aload_n 0, 1) := by decide +kernel
theorem dX8_insert_131 : decode cX8_insert 131 = .ok (.getfield 7, 3) := by decide +kernel
theorem dX8_insert_134 : decode cX8_insert 134 = .ok (.bipush 21, 2) := by decide +kernel
theorem dX8_insert_136 : decode cX8_insert 136 = .ok (.iload_n 1, 1) := by decide +kernel
theorem dX8_insert_137 : decode cX8_insert 137 = .ok (.iadd, 1) := by decide +kernel
theorem dX8_insert_138 : decode cX8_insert 138 = .ok (.iload_n 3, 1) := by decide +kernel
theorem dX8_insert_139 : decode cX8_insert 139 = .ok (.iastore, 1) := by decide +kernel
theorem dX8_insert_140 : decode cX8_insert 140 = .ok (.aload_n 0, 1) := by decide +kernel
theorem dX8_insert_141 : decode cX8_insert 141 = .ok (.getfield 7, 3) := by decide +kernel
theorem dX8_insert_144 : decode cX8_insert 144 = .ok (.bipush 41, 2) := by decide +kernel
theorem dX8_insert_146 : decode cX8_insert 146 = .ok (.iload_n 1, 1) := by decide +kernel
theorem dX8_insert_147 : decode cX8_insert 147 = .ok (.iadd, 1) := by decide +kernel
theorem dX8_insert_148 : decode cX8_insert 148 = .ok (.iconst 0, 1) := by decide +kernel
theorem dX8_insert_149 : decode cX8_insert 149 = .ok (.iastore, 1) := by decide +kernel
theorem dX8_insert_150 : decode cX8_insert 150 = .ok (.aload_n 0, 1) := by decide +kernel
theorem dX8_insert_151 : decode cX8_insert 151 = .ok (.getfield 7, 3) := by decide +kernel
theorem dX8_insert_154 : decode cX8_insert 154 = .ok (.bipush 61, 2) := by decide +kernel
theorem dX8_insert_156 : decode cX8_insert 156 = .ok (.iload_n 1, 1) := by decide +kernel
theorem dX8_insert_157 : decode cX8_insert 157 = .ok (.iadd, 1) := by decide +kernel
theorem dX8_insert_158 : decode cX8_insert 158 = .ok (.iconst 0, 1) := by decide +kernel
theorem dX8_insert_159 : decode cX8_insert 159 = .ok (.iastore, 1) := by decide +kernel
theorem dX8_insert_160 : decode cX8_insert 160 = .ok (.iconst 0, 1) := by decide +kernel
theorem dX8_insert_161 : decode cX8_insert 161 = .ok (.istore 4, 2) := by decide +kernel
theorem dX8_insert_163 : decode cX8_insert 163 = .ok (.iload 4, 2) := by decide +kernel
theorem dX8_insert_165 : decode cX8_insert 165 = .ok (.bipush 80, 2) := by decide +kernel
theorem dX8_insert_167 : decode cX8_insert 167 = .ok (.if_icmp .ge 62, 3) := by decide +kernel
theorem dX8_insert_170 : decode cX8_insert 170 = .ok (.aload_n 0, 1) := by decide +kernel
theorem dX8_insert_171 : decode cX8_insert 171 = .ok (.getfield 7, 3) := by decide +kernel
theorem dX8_insert_174 : decode cX8_insert 174 = .ok (.bipush 89, 2) := by decide +kernel
theorem dX8_insert_176 : decode cX8_insert 176 = .ok (.iload 4, 2) := by decide +kernel
theorem dX8_insert_178 : decode cX8_insert 178 = .ok (.iadd, 1) := by decide +kernel
theorem dX8_insert_179 : decode cX8_insert 179 = .ok (.dup2, 1) := by decide +kernel
theorem dX8_insert_180 : decode cX8_insert 180 = .ok (.iaload, 1) := by decide +kernel
theorem dX8_insert_181 : decode cX8_insert 181 = .ok (.iload 4, 2) := by decide +kernel
theorem dX8_insert_183 : decode cX8_insert 183 = .ok (.bipush 40, 2) := by decide +kernel
theorem dX8_insert_185 : decode cX8_insert 185 = .ok (.irem, 1) := by decide +kernel
theorem dX8_insert_186 : decode cX8_insert 186 = .ok (.aload_n 0, 1) := by decide +kernel
theorem dX8_insert_187 : decode cX8_insert 187 = .ok (.getfield 7, 3) := by decide +kernel
theorem dX8_insert_190 : decode cX8_insert 190 = .ok (.bipush 87, 2) := by decide +kernel
theorem dX8_insert_192 : decode cX8_insert 192 = .ok (.iload 4, 2) := by decide +kernel
theorem dX8_insert_194 : decode cX8_insert 194 = .ok (.bipush 40, 2) := by decide +kernel
theorem dX8_insert_196 : decode cX8_insert 196 = .ok (.idiv, 1) := by decide +kernel
theorem dX8_insert_197 : decode cX8_insert 197 = .ok (.iadd, 1) := by decide +kernel
theorem dX8_insert_198 : decode cX8_insert 198 = .ok (.iaload, 1) := by decide +kernel
theorem dX8_insert_199 : decode cX8_insert 199 = .ok (.if_icmp .ge 21, 3) := by decide +kernel
theorem dX8_insert_202 : decode cX8_insert 202 = .ok (.aload_n 0, 1) := by decide +kernel
theorem dX8_insert_203 : decode cX8_insert 203 = .ok (.getfield 7, 3) := by decide +kernel
theorem dX8_insert_206 : decode cX8_insert 206 = .ok (.bipush 89, 2) := by decide +kernel
theorem dX8_insert_208 : decode cX8_insert 208 = .ok (.iload 4, 2) := by decide +kernel
theorem dX8_insert_210 : decode cX8_insert 210 = .ok (.iadd, 1) := by decide +kernel
theorem dX8_insert_211 : decode cX8_insert 211 = .ok (.iaload, 1) := by decide +kernel
theorem dX8_insert_212 : decode cX8_insert 212 = .ok (.iload_n 1, 1) := by decide +kernel
theorem dX8_insert_213 : decode cX8_insert 213 = .ok (.if_icmp .lt 7, 3) := by decide +kernel
theorem dX8_insert_216 : decode cX8_insert 216 = .ok (.iconst 1, 1) := by decide +kernel
theorem dX8_insert_217 : decode cX8_insert 217 = .ok (.goto 4, 3) := by decide +kernel
theorem dX8_insert_220 : decode cX8_insert 220 = .ok (.iconst 0, 1) := by decide +kernel
theorem dX8_insert_221 : decode cX8_insert 221 = .ok (.iadd, 1) := by decide +kernel
theorem dX8_insert_222 : decode cX8_insert 222 = .ok (.iastore, 1) := by decide +kernel
theorem dX8_insert_223 : decode cX8_insert 223 = .ok (.iinc 4 1, 3) := by decide +kernel
theorem dX8_insert_226 : decode cX8_insert 226 = .ok (.goto (-63), 3) := by decide +kernel
theorem dX8_insert_229 : decode cX8_insert 229 = .ok (.aload_n 0, 1) := by decide +kernel
theorem dX8_insert_230 : decode cX8_insert 230 = .ok (.getfield 7, 3) := by decide +kernel
theorem dX8_insert_233 : decode cX8_insert 233 = .ok (.iconst 0, 1) := by decide +kernel
theorem dX8_insert_234 : decode cX8_insert 234 = .ok (.dup2, 1) := by decide +kernel
theorem dX8_insert_235 : decode cX8_insert 235 = .ok (.iaload, 1) := by decide +kernel
theorem dX8_insert_236 : decode cX8_insert 236 = .ok (.iconst 1, 1) := by decide +kernel
theorem dX8_insert_237 : decode cX8_insert 237 = .ok (.iadd, 1) := by decide +kernel
theorem dX8_insert_238 : decode cX8_insert 238 = .ok (.iastore, 1) := by decide +kernel
theorem dX8_insert_239 : decode cX8_insert 239 = .ok (.aload_n 0, 1) := by decide +kernel
theorem dX8_insert_240 : decode cX8_insert 240 = .ok (.getfield 7, 3) := by decide +kernel
theorem dX8_insert_243 : decode cX8_insert 243 = .ok (.iconst 0, 1) := by decide +kernel
theorem dX8_insert_244 : decode cX8_insert 244 = .ok (.iaload, 1) := by decide +kernel
theorem dX8_insert_245 : decode cX8_insert 245 = .ok (.ireturn, 1) := by decide +kernel
theorem dX8_dropsNote_0 : decode cX8_dropsNote 0 = .ok (.aload_n 0, 1) := by decide +kernel
theorem dX8_dropsNote_1 : decode cX8_dropsNote 1 = .ok (.getfield 7, 3) := by decide +kernel
theorem dX8_dropsNote_4 : decode cX8_dropsNote 4 = .ok (.bipush 87, 2) := by decide +kernel
theorem dX8_dropsNote_6 : decode cX8_dropsNote 6 = .ok (.iload_n 1, 1) := by decide +kernel
theorem dX8_dropsNote_7 : decode cX8_dropsNote 7 = .ok (.iadd, 1) := by decide +kernel
theorem dX8_dropsNote_8 : decode cX8_dropsNote 8 = .ok (.dup2, 1) := by decide +kernel
theorem dX8_dropsNote_9 : decode cX8_dropsNote 9 = .ok (.iaload, 1) := by decide +kernel
theorem dX8_dropsNote_10 : decode cX8_dropsNote 10 = .ok (.iconst 1, 1) := by decide +kernel
theorem dX8_dropsNote_11 : decode cX8_dropsNote 11 = .ok (.isub, 1) := by decide +kernel
theorem dX8_dropsNote_12 : decode cX8_dropsNote 12 = .ok (.iastore, 1) := by decide +kernel
theorem dX8_dropsNote_13 : decode cX8_dropsNote 13 = .ok (.bipush 40, 2) := by decide +kernel
theorem dX8_dropsNote_15 : decode cX8_dropsNote 15 = .ok (.iload_n 1, 1) := by decide +kernel
theorem dX8_dropsNote_16 : decode cX8_dropsNote 16 = .ok (.imul, 1) := by decide +kernel
theorem dX8_dropsNote_17 : decode cX8_dropsNote 17 = .ok (.iload_n 2, 1) := by decide +kernel
theorem dX8_dropsNote_18 : decode cX8_dropsNote 18 = .ok (.iadd, 1) := by decide +kernel
theorem dX8_dropsNote_19 : decode cX8_dropsNote 19 = .ok (.istore_n 3, 1) := by decide +kernel
theorem dX8_dropsNote_20 : decode cX8_dropsNote 20 = .ok (.iload_n 3, 1) := by decide +kernel
theorem dX8_dropsNote_21 : decode cX8_dropsNote 21 = .ok (.bipush 40, 2) := by decide +kernel
theorem dX8_dropsNote_23 : decode cX8_dropsNote 23 = .ok (.iload_n 1, 1) := by decide +kernel
theorem dX8_dropsNote_24 : decode cX8_dropsNote 24 = .ok (.imul, 1) := by decide +kernel
theorem dX8_dropsNote_25 : decode cX8_dropsNote 25 = .ok (.aload_n 0, 1) := by decide +kernel
theorem dX8_dropsNote_26 : decode cX8_dropsNote 26 = .ok (.getfield 7, 3) := by decide +kernel
theorem dX8_dropsNote_29 : decode cX8_dropsNote 29 = .ok (.bipush 87, 2) := by decide +kernel
theorem dX8_dropsNote_31 : decode cX8_dropsNote 31 = .ok (.iload_n 1, 1) := by decide +kernel
theorem dX8_dropsNote_32 : decode cX8_dropsNote 32 = .ok (.iadd, 1) := by decide +kernel
theorem dX8_dropsNote_33 : decode cX8_dropsNote 33 = .ok (.iaload, 1) := by decide +kernel
theorem dX8_dropsNote_34 : decode cX8_dropsNote 34 = .ok (.iadd, 1) := by decide +kernel
theorem dX8_dropsNote_35 : decode cX8_dropsNote 35 = .ok (.if_icmp .ge 73, 3) := by decide +kernel
theorem dX8_dropsNote_38 : decode cX8_dropsNote 38 = .ok (.aload_n 0, 1) := by decide +kernel
theorem dX8_dropsNote_39 : decode cX8_dropsNote 39 = .ok (.getfield 7, 3) := by decide +kernel
theorem dX8_dropsNote_42 : decode cX8_dropsNote 42 = .ok (.bipush 89, 2) := by decide +kernel
theorem dX8_dropsNote_44 : decode cX8_dropsNote 44 = .ok (.iload_n 3, 1) := by decide +kernel
theorem dX8_dropsNote_45 : decode cX8_dropsNote 45 = .ok (.iadd, 1) := by decide +kernel
theorem dX8_dropsNote_46 : decode cX8_dropsNote 46 = .ok (.aload_n 0, 1) := by decide +kernel
theorem dX8_dropsNote_47 : decode cX8_dropsNote 47 = .ok (.getfield 7, 3) := by decide +kernel
theorem dX8_dropsNote_50 : decode cX8_dropsNote 50 = .ok (.bipush 89, 2) := by decide +kernel
theorem dX8_dropsNote_52 : decode cX8_dropsNote 52 = .ok (.iload_n 3, 1) := by decide +kernel
theorem dX8_dropsNote_53 : decode cX8_dropsNote 53 = .ok (.iadd, 1) := by decide +kernel
theorem dX8_dropsNote_54 : decode cX8_dropsNote 54 = .ok (.iconst 1, 1) := by decide +kernel
theorem dX8_dropsNote_55 : decode cX8_dropsNote 55 = .ok (.iadd, 1) := by decide +kernel
theorem dX8_dropsNote_56 : decode cX8_dropsNote 56 = .ok (.iaload, 1) := by decide +kernel
theorem dX8_dropsNote_57 : decode cX8_dropsNote 57 = .ok (.iastore, 1) := by decide +kernel
theorem dX8_dropsNote_58 : decode cX8_dropsNote 58 = .ok (.aload_n 0, 1) := by decide +kernel
theorem dX8_dropsNote_59 : decode cX8_dropsNote 59 = .ok (.getfield 7, 3) := by decide +kernel
theorem dX8_dropsNote_62 : decode cX8_dropsNote 62 = .ok (.sipush 169, 3) := by decide +kernel
theorem dX8_dropsNote_65 : decode cX8_dropsNote 65 = .ok (.iload_n 3, 1) := by decide +kernel
theorem dX8_dropsNote_66 : decode cX8_dropsNote 66 = .ok (.iadd, 1) := by decide +kernel
theorem dX8_dropsNote_67 : decode cX8_dropsNote 67 = .ok (.aload_n 0, 1) := by decide +kernel
theorem dX8_dropsNote_68 : decode cX8_dropsNote 68 = .ok (.getfield 7, 3) := by decide +kernel
theorem dX8_dropsNote_71 : decode cX8_dropsNote 71 = .ok (.sipush 169, 3) := by decide +kernel
theorem dX8_dropsNote_74 : decode cX8_dropsNote 74 = .ok (.iload_n 3, 1) := by decide +kernel
theorem dX8_dropsNote_75 : decode cX8_dropsNote 75 = .ok (.iadd, 1) := by decide +kernel
theorem dX8_dropsNote_76 : decode cX8_dropsNote 76 = .ok (.iconst 1, 1) := by decide +kernel
theorem dX8_dropsNote_77 : decode cX8_dropsNote 77 = .ok (.iadd, 1) := by decide +kernel
theorem dX8_dropsNote_78 : decode cX8_dropsNote 78 = .ok (.iaload, 1) := by decide +kernel
theorem dX8_dropsNote_79 : decode cX8_dropsNote 79 = .ok (.iastore, 1) := by decide +kernel
theorem dX8_dropsNote_80 : decode cX8_dropsNote 80 = .ok (.aload_n 0, 1) := by decide +kernel
theorem dX8_dropsNote_81 : decode cX8_dropsNote 81 = .ok (.getfield 7, 3) := by decide +kernel
theorem dX8_dropsNote_84 : decode cX8_dropsNote 84 = .ok (.sipush 249, 3) := by decide +kernel
theorem dX8_dropsNote_87 : decode cX8_dropsNote 87 = .ok (.iload_n 3, 1) := by decide +kernel
theorem dX8_dropsNote_88 : decode cX8_dropsNote 88 = .ok (.iadd, 1) := by decide +kernel
theorem dX8_dropsNote_89 : decode cX8_dropsNote 89 = .ok (.aload_n 0, 1) := by decide +kernel
theorem dX8_dropsNote_90 : decode cX8_dropsNote 90 = .ok (.getfield 7, 3) := by decide +kernel
theorem dX8_dropsNote_93 : decode cX8_dropsNote 93 = .ok (.sipush 249, 3) := by decide +kernel
theorem dX8_dropsNote_96 : decode cX8_dropsNote 96 = .ok (.iload_n 3, 1) := by decide +kernel
theorem dX8_dropsNote_97 : decode cX8_dropsNote 97 = .ok (.iadd, 1) := by decide +kernel
theorem dX8_dropsNote_98 : decode cX8_dropsNote 98 = .ok (.iconst 1, 1) := by decide +kernel
theorem dX8_dropsNote_99 : decode cX8_dropsNote 99 = .ok (.iadd, 1) := by decide +kernel
theorem dX8_dropsNote_100 : decode cX8_dropsNote 100 = .ok (.iaload, 1) := by decide +kernel
theorem dX8_dropsNote_101 : decode cX8_dropsNote 101 = .ok (.iastore, 1) := by decide +kernel
theorem dX8_dropsNote_102 : decode cX8_dropsNote 102 = .ok (.iinc 3 1, 3) := by decide +kernel
theorem dX8_dropsNote_105 : decode cX8_dropsNote 105 = .ok (.goto (-85), 3) := by decide +kernel
theorem dX8_dropsNote_108 : decode cX8_dropsNote 108 = .ok (.return_, 1) := by decide +kernel
theorem dX8_remove_0 : decode cX8_remove 0 = .ok (.aload_n 0, 1) := by decide +kernel
theorem dX8_remove_1 : decode cX8_remove 1 = .ok (.iload_n 1, 1) := by decide +kernel
theorem dX8_remove_2 : decode cX8_remove 2 = .ok (.invokevirtual 66, 3) := by decide +kernel
theorem dX8_remove_5 : decode cX8_remove 5 = .ok (.ifCond .ne 5, 3) := by decide +kernel
theorem dX8_remove_8 : decode cX8_remove 8 = .ok (.iconst (-1), 1) := by decide +kernel
theorem dX8_remove_9 : decode cX8_remove 9 = .ok (.ireturn, 1) := by decide +kernel
theorem dX8_remove_10 : decode cX8_remove 10 = .ok (.aload_n 0, 1) := by decide +kernel
theorem dX8_remove_11 : decode cX8_remove 11 = .ok (.invokevirtual 81, 3) := by decide +kernel
theorem dX8_remove_14 : decode cX8_remove 14 = .ok (.iconst 0, 1) := by decide +kernel
theorem dX8_remove_15 : decode cX8_remove 15 = .ok (.istore_n 2, 1) := by decide +kernel
theorem dX8_remove_16 : decode cX8_remove 16 = .ok (.iload_n 2, 1) := by decide +kernel
theorem dX8_remove_17 : decode cX8_remove 17 = .ok (.iconst 2, 1) := by decide +kernel
theorem dX8_remove_18 : decode cX8_remove 18 = .ok (.if_icmp .ge 116, 3) := by decide +kernel
theorem dX8_remove_21 : decode cX8_remove 21 = .ok (.aload_n 0, 1) := by decide +kernel
theorem dX8_remove_22 : decode cX8_remove 22 = .ok (.getfield 7, 3) := by decide +kernel
theorem dX8_remove_25 : decode cX8_remove 25 = .ok (.bipush 87, 2) := by decide +kernel
theorem dX8_remove_27 : decode cX8_remove 27 = .ok (.iload_n 2, 1) := by decide +kernel
theorem dX8_remove_28 : decode cX8_remove 28 = .ok (.iadd, 1) := by decide +kernel
theorem dX8_remove_29 : decode cX8_remove 29 = .ok (.iaload, 1) := by decide +kernel
theorem dX8_remove_30 : decode cX8_remove 30 = .ok (.iconst 1, 1) := by decide +kernel
theorem dX8_remove_31 : decode cX8_remove 31 = .ok (.isub, 1) := by decide +kernel
theorem dX8_remove_32 : decode cX8_remove 32 = .ok (.istore_n 3, 1) := by decide +kernel
theorem dX8_remove_33 : decode cX8_remove 33 = .ok (.iload_n 3, 1) := by decide +kernel
theorem dX8_remove_34 : decode cX8_remove 34 = .ok (.ifCond .lt 33, 3) := by decide +kernel
theorem dX8_remove_37 : decode cX8_remove 37 = .ok (.aload_n 0, 1) := by decide +kernel
theorem dX8_remove_38 : decode cX8_remove 38 = .ok (.getfield 7, 3) := by decide +kernel
theorem dX8_remove_41 : decode cX8_remove 41 = .ok (.bipush 89, 2) := by decide +kernel
theorem dX8_remove_43 : decode cX8_remove 43 = .ok (.bipush 40, 2) := by decide +kernel
theorem dX8_remove_45 : decode cX8_remove 45 = .ok (.iload_n 2, 1) := by decide +kernel
theorem dX8_remove_46 : decode cX8_remove 46 = .ok (.imul, 1) := by decide +kernel
theorem dX8_remove_47 : decode cX8_remove 47 = .ok (.iadd, 1) := by decide +kernel
theorem dX8_remove_48 : decode cX8_remove 48 = .ok (.iload_n 3, 1) := by decide +kernel
theorem dX8_remove_49 : decode cX8_remove 49 = .ok (.iadd, 1) := by decide +kernel
theorem dX8_remove_50 : decode cX8_remove 50 = .ok (.iaload, 1) := by decide +kernel
theorem dX8_remove_51 : decode cX8_remove 51 = .ok (.iload_n 1, 1) := by decide +kernel
theorem dX8_remove_52 : decode cX8_remove 52 = .ok (.if_icmp .ne 9, 3) := by decide +kernel
theorem dX8_remove_55 : decode cX8_remove 55 = .ok (.aload_n 0, 1) := by decide +kernel
theorem dX8_remove_56 : decode cX8_remove 56 = .ok (.iload_n 2, 1) := by decide +kernel
theorem dX8_remove_57 : decode cX8_remove 57 = .ok (.iload_n 3, 1) := by decide +kernel
theorem dX8_remove_58 : decode cX8_remove 58 = .ok (.invokevirtual 84, 3) := by decide +kernel
theorem dX8_remove_61 : decode cX8_remove 61 = .ok (.iinc 3 (-1), 3) := by decide +kernel
theorem dX8_remove_64 : decode cX8_remove 64 = .ok (.goto (-31), 3) := by decide +kernel
theorem dX8_remove_67 : decode cX8_remove 67 = .ok (.iconst 0, 1) := by decide +kernel
theorem dX8_remove_68 : decode cX8_remove 68 = .ok (.istore_n 3, 1) := by decide +kernel
theorem dX8_remove_69 : decode cX8_remove 69 = .ok (.iload_n 3, 1) := by decide +kernel
theorem dX8_remove_70 : decode cX8_remove 70 = .ok (.aload_n 0, 1) := by decide +kernel
theorem dX8_remove_71 : decode cX8_remove 71 = .ok (.getfield 7, 3) := by decide +kernel
theorem dX8_remove_74 : decode cX8_remove 74 = .ok (.bipush 87, 2) := by decide +kernel
theorem dX8_remove_76 : decode cX8_remove 76 = .ok (.iload_n 2, 1) := by decide +kernel
theorem dX8_remove_77 : decode cX8_remove 77 = .ok (.iadd, 1) := by decide +kernel
theorem dX8_remove_78 : decode cX8_remove 78 = .ok (.iaload, 1) := by decide +kernel
theorem dX8_remove_79 : decode cX8_remove 79 = .ok (.if_icmp .ge 49, 3) := by decide +kernel
theorem dX8_remove_82 : decode cX8_remove 82 = .ok (.aload_n 0, 1) := by decide +kernel
theorem dX8_remove_83 : decode cX8_remove 83 = .ok (.getfield 7, 3) := by decide +kernel
theorem dX8_remove_86 : decode cX8_remove 86 = .ok (.bipush 89, 2) := by decide +kernel
theorem dX8_remove_88 : decode cX8_remove 88 = .ok (.bipush 40, 2) := by decide +kernel
theorem dX8_remove_90 : decode cX8_remove 90 = .ok (.iload_n 2, 1) := by decide +kernel
theorem dX8_remove_91 : decode cX8_remove 91 = .ok (.imul, 1) := by decide +kernel
theorem dX8_remove_92 : decode cX8_remove 92 = .ok (.iadd, 1) := by decide +kernel
theorem dX8_remove_93 : decode cX8_remove 93 = .ok (.iload_n 3, 1) := by decide +kernel
theorem dX8_remove_94 : decode cX8_remove 94 = .ok (.iadd, 1) := by decide +kernel
theorem dX8_remove_95 : decode cX8_remove 95 = .ok (.dup2, 1) := by decide +kernel
theorem dX8_remove_96 : decode cX8_remove 96 = .ok (.iaload, 1) := by decide +kernel
theorem dX8_remove_97 : decode cX8_remove 97 = .ok (.aload_n 0, 1) := by decide +kernel
theorem dX8_remove_98 : decode cX8_remove 98 = .ok (.getfield 7, 3) := by decide +kernel
theorem dX8_remove_101 : decode cX8_remove 101 = .ok (.bipush 89, 2) := by decide +kernel
theorem dX8_remove_103 : decode cX8_remove 103 = .ok (.bipush 40, 2) := by decide +kernel
theorem dX8_remove_105 : decode cX8_remove 105 = .ok (.iload_n 2, 1) := by decide +kernel
theorem dX8_remove_106 : decode cX8_remove 106 = .ok (.imul, 1) := by decide +kernel
theorem dX8_remove_107 : decode cX8_remove 107 = .ok (.iadd, 1) := by decide +kernel
theorem dX8_remove_108 : decode cX8_remove 108 = .ok (.iload_n 3, 1) := by decide +kernel
theorem dX8_remove_109 : decode cX8_remove 109 = .ok (.iadd, 1) := by decide +kernel
theorem dX8_remove_110 : decode cX8_remove 110 = .ok (.iaload, 1) := by decide +kernel
theorem dX8_remove_111 : decode cX8_remove 111 = .ok (.iload_n 1, 1) := by decide +kernel
theorem dX8_remove_112 : decode cX8_remove 112 = .ok (.if_icmp .le 7, 3) := by decide +kernel
theorem dX8_remove_115 : decode cX8_remove 115 = .ok (.iconst 1, 1) := by decide +kernel
theorem dX8_remove_116 : decode cX8_remove 116 = .ok (.goto 4, 3) := by decide +kernel
theorem dX8_remove_119 : decode cX8_remove 119 = .ok (.iconst 0, 1) := by decide +kernel
theorem dX8_remove_120 : decode cX8_remove 120 = .ok (.isub, 1) := by decide +kernel
theorem dX8_remove_121 : decode cX8_remove 121 = .ok (.iastore, 1) := by decide +kernel
theorem dX8_remove_122 : decode cX8_remove 122 = .ok (.iinc 3 1, 3) := by decide +kernel
theorem dX8_remove_125 : decode cX8_remove 125 = .ok (.goto (-56), 3) := by decide +kernel
theorem dX8_remove_128 : decode cX8_remove 128 = .ok (.iinc 2 1, 3) := by decide +kernel
theorem dX8_remove_131 : decode cX8_remove 131 = .ok (.goto (-115), 3) := by decide +kernel
theorem dX8_remove_134 : decode cX8_remove 134 = .ok (.aload_n 0, 1) := by decide +kernel
theorem dX8_remove_135 : decode cX8_remove 135 = .ok (.getfield 7, 3) := by decide +kernel
theorem dX8_remove_138 : decode cX8_remove 138 = .ok (.iconst 0, 1) := by decide +kernel
theorem dX8_remove_139 : decode cX8_remove 139 = .ok (.dup2, 1) := by decide +kernel
theorem dX8_remove_140 : decode cX8_remove 140 = .ok (.iaload, 1) := by decide +kernel
theorem dX8_remove_141 : decode cX8_remove 141 = .ok (.iconst 1, 1) := by decide +kernel
theorem dX8_remove_142 : decode cX8_remove 142 = .ok (.isub, 1) := by decide +kernel
theorem dX8_remove_143 : decode cX8_remove 143 = .ok (.iastore, 1) := by decide +kernel
theorem dX8_remove_144 : decode cX8_remove 144 = .ok (.iconst 0, 1) := by decide +kernel
theorem dX8_remove_145 : decode cX8_remove 145 = .ok (.istore_n 2, 1) := by decide +kernel
theorem dX8_remove_146 : decode cX8_remove 146 = .ok (.iload_n 2, 1) := by decide +kernel
theorem dX8_remove_147 : decode cX8_remove 147 = .ok (.iconst 4, 1) := by decide +kernel
theorem dX8_remove_148 : decode cX8_remove 148 = .ok (.if_icmp .ge 55, 3) := by decide +kernel
theorem dX8_remove_151 : decode cX8_remove 151 = .ok (.iload_n 1, 1) := by decide +kernel
theorem dX8_remove_152 : decode cX8_remove 152 = .ok (.istore_n 3, 1) := by decide +kernel
theorem dX8_remove_153 : decode cX8_remove 153 = .ok (.iload_n 3, 1) := by decide +kernel
theorem dX8_remove_154 : decode cX8_remove 154 = .ok (.aload_n 0, 1) := by decide +kernel
theorem dX8_remove_155 : decode cX8_remove 155 = .ok (.getfield 7, 3) := by decide +kernel
theorem dX8_remove_158 : decode cX8_remove 158 = .ok (.iconst 0, 1) := by decide +kernel
theorem dX8_remove_159 : decode cX8_remove 159 = .ok (.iaload, 1) := by decide +kernel
theorem dX8_remove_160 : decode cX8_remove 160 = .ok (.if_icmp .ge 37, 3) := by decide +kernel
theorem dX8_remove_163 : decode cX8_remove 163 = .ok (.aload_n 0, 1) := by decide +kernel
theorem dX8_remove_164 : decode cX8_remove 164 = .ok (.getfield 7, 3) := by decide +kernel
theorem dX8_remove_167 : decode cX8_remove 167 = .ok (.iconst 1, 1) := by decide +kernel
theorem dX8_remove_168 : decode cX8_remove 168 = .ok (.bipush 20, 2) := by decide +kernel
theorem dX8_remove_170 : decode cX8_remove 170 = .ok (.iload_n 2, 1) := by decide +kernel
theorem dX8_remove_171 : decode cX8_remove 171 = .ok (.imul, 1) := by decide +kernel
theorem dX8_remove_172 : decode cX8_remove 172 = .ok (.iadd, 1) := by decide +kernel
theorem dX8_remove_173 : decode cX8_remove 173 = .ok (.iload_n 3, 1) := by decide +kernel
theorem dX8_remove_174 : decode cX8_remove 174 = .ok (.iadd, 1) := by decide +kernel
theorem dX8_remove_175 : decode cX8_remove 175 = .ok (.aload_n 0, 1) := by decide +kernel
theorem dX8_remove_176 : decode cX8_remove 176 = .ok (.getfield 7, 3) := by decide +kernel
theorem dX8_remove_179 : decode cX8_remove 179 = .ok (.iconst 1, 1) := by decide +kernel
theorem dX8_remove_180 : decode cX8_remove 180 = .ok (.bipush 20, 2) := by decide +kernel
theorem dX8_remove_182 : decode cX8_remove 182 = .ok (.iload_n 2, 1) := by decide +kernel
theorem dX8_remove_183 : decode cX8_remove 183 = .ok (.imul, 1) := by decide +kernel
theorem dX8_remove_184 : decode cX8_remove 184 = .ok (.iadd, 1) := by decide +kernel
theorem dX8_remove_185 : decode cX8_remove 185 = .ok (.iload_n 3, 1) := by decide +kernel
theorem dX8_remove_186 : decode cX8_remove 186 = .ok (.iadd, 1) := by decide +kernel
theorem dX8_remove_187 : decode cX8_remove 187 = .ok (.iconst 1, 1) := by decide +kernel
theorem dX8_remove_188 : decode cX8_remove 188 = .ok (.iadd, 1) := by decide +kernel
theorem dX8_remove_189 : decode cX8_remove 189 = .ok (.iaload, 1) := by decide +kernel
theorem dX8_remove_190 : decode cX8_remove 190 = .ok (.iastore, 1) := by decide +kernel
theorem dX8_remove_191 : decode cX8_remove 191 = .ok (.iinc 3 1, 3) := by decide +kernel
theorem dX8_remove_194 : decode cX8_remove 194 = .ok (.goto (-41), 3) := by decide +kernel
theorem dX8_remove_197 : decode cX8_remove 197 = .ok (.iinc 2 1, 3) := by decide +kernel
theorem dX8_remove_200 : decode cX8_remove 200 = .ok (.goto (-54), 3) := by decide +kernel
theorem dX8_remove_203 : decode cX8_remove 203 = .ok (.aload_n 0, 1) := by decide +kernel
theorem dX8_remove_204 : decode cX8_remove 204 = .ok (.getfield 7, 3) := by decide +kernel
theorem dX8_remove_207 : decode cX8_remove 207 = .ok (.iconst 0, 1) := by decide +kernel
theorem dX8_remove_208 : decode cX8_remove 208 = .ok (.iaload, 1) := by decide +kernel
theorem dX8_remove_209 : decode cX8_remove 209 = .ok (.ireturn, 1) := by decide +kernel
theorem dX8_setLines_0 : decode cX8_setLines 0 = .ok (.aload_n 0, 1) := by decide +kernel
theorem dX8_setLines_1 : decode cX8_setLines 1 = .ok (.iload_n 1, 1) := by decide +kernel
theorem dX8_setLines_2 : decode cX8_setLines 2 = .ok (.invokevirtual 66, 3) := by decide +kernel
theorem dX8_setLines_5 : decode cX8_setLines 5 = .ok (.ifCond .eq 20, 3) := by decide +kernel
theorem dX8_setLines_8 : decode cX8_setLines 8 = .ok (.iload_n 2, 1) := by decide +kernel
theorem dX8_setLines_9 : decode cX8_setLines 9 = .ok (.invokestatic 70, 3) := by decide +kernel
theorem dX8_setLines_12 : decode cX8_setLines 12 = .ok (.ifCond .eq 13, 3) := by decide +kernel
theorem dX8_setLines_15 : decode cX8_setLines 15 = .ok (.iload_n 3, 1) := by decide +kernel
theorem dX8_setLines_16 : decode cX8_setLines 16 = .ok (.iconst 1, 1) := by decide +kernel
theorem dX8_setLines_17 : decode cX8_setLines 17 = .ok (.bipush 30, 2) := by decide +kernel
theorem dX8_setLines_19 : decode cX8_setLines 19 = .ok (.invokestatic 62, 3) := by decide +kernel
theorem dX8_setLines_22 : decode cX8_setLines 22 = .ok (.ifCond .ne 5, 3) := by decide +kernel
theorem dX8_setLines_25 : decode cX8_setLines 25 = .ok (.iconst (-1), 1) := by decide +kernel
theorem dX8_setLines_26 : decode cX8_setLines 26 = .ok (.ireturn, 1) := by decide +kernel
theorem dX8_setLines_27 : decode cX8_setLines 27 = .ok (.iconst 0, 1) := by decide +kernel
theorem dX8_setLines_28 : decode cX8_setLines 28 = .ok (.istore 4, 2) := by decide +kernel
theorem dX8_setLines_30 : decode cX8_setLines 30 = .ok (.iload 4, 2) := by decide +kernel
theorem dX8_setLines_32 : decode cX8_setLines 32 = .ok (.aload_n 0, 1) := by decide +kernel
theorem dX8_setLines_33 : decode cX8_setLines 33 = .ok (.getfield 7, 3) := by decide +kernel
theorem dX8_setLines_36 : decode cX8_setLines 36 = .ok (.bipush 87, 2) := by decide +kernel
theorem dX8_setLines_38 : decode cX8_setLines 38 = .ok (.iload_n 2, 1) := by decide +kernel
theorem dX8_setLines_39 : decode cX8_setLines 39 = .ok (.iadd, 1) := by decide +kernel
theorem dX8_setLines_40 : decode cX8_setLines 40 = .ok (.iaload, 1) := by decide +kernel
theorem dX8_setLines_41 : decode cX8_setLines 41 = .ok (.if_icmp .ge 51, 3) := by decide +kernel
theorem dX8_setLines_44 : decode cX8_setLines 44 = .ok (.aload_n 0, 1) := by decide +kernel
theorem dX8_setLines_45 : decode cX8_setLines 45 = .ok (.getfield 7, 3) := by decide +kernel
theorem dX8_setLines_48 : decode cX8_setLines 48 = .ok (.bipush 89, 2) := by decide +kernel
theorem dX8_setLines_50 : decode cX8_setLines 50 = .ok (.bipush 40, 2) := by decide +kernel
theorem dX8_setLines_52 : decode cX8_setLines 52 = .ok (.iload_n 2, 1) := by decide +kernel
theorem dX8_setLines_53 : decode cX8_setLines 53 = .ok (.imul, 1) := by decide +kernel
theorem dX8_setLines_54 : decode cX8_setLines 54 = .ok (.iadd, 1) := by decide +kernel
theorem dX8_setLines_55 : decode cX8_setLines 55 = .ok (.iload 4, 2) := by decide +kernel
theorem dX8_setLines_57 : decode cX8_setLines 57 = .ok (.iadd, 1) := by decide +kernel
theorem dX8_setLines_58 : decode cX8_setLines 58 = .ok (.iaload, 1) := by decide +kernel
theorem dX8_setLines_59 : decode cX8_setLines 59 = .ok (.iload_n 1, 1) := by decide +kernel
theorem dX8_setLines_60 : decode cX8_setLines 60 = .ok (.if_icmp .ne 26, 3) := by decide +kernel
theorem dX8_setLines_63 : decode cX8_setLines 63 = .ok (.aload_n 0, 1) := by decide +kernel
theorem dX8_setLines_64 : decode cX8_setLines 64 = .ok (.getfield 7, 3) := by decide +kernel
theorem dX8_setLines_67 : decode cX8_setLines 67 = .ok (.sipush 169, 3) := by decide +kernel
theorem dX8_setLines_70 : decode cX8_setLines 70 = .ok (.bipush 40, 2) := by decide +kernel
theorem dX8_setLines_72 : decode cX8_setLines 72 = .ok (.iload_n 2, 1) := by decide +kernel
theorem dX8_setLines_73 : decode cX8_setLines 73 = .ok (.imul, 1) := by decide +kernel
theorem dX8_setLines_74 : decode cX8_setLines 74 = .ok (.iadd, 1) := by decide +kernel
theorem dX8_setLines_75 : decode cX8_setLines 75 = .ok (.iload 4, 2) := by decide +kernel
theorem dX8_setLines_77 : decode cX8_setLines 77 = .ok (.iadd, 1) := by decide +kernel
theorem dX8_setLines_78 : decode cX8_setLines 78 = .ok (.iaload, 1) := by decide +kernel
theorem dX8_setLines_79 : decode cX8_setLines 79 = .ok (.iload_n 3, 1) := by decide +kernel
theorem dX8_setLines_80 : decode cX8_setLines 80 = .ok (.if_icmp .lt 6, 3) := by decide +kernel
theorem dX8_setLines_83 : decode cX8_setLines 83 = .ok (.bipush (-2), 2) := by decide +kernel
theorem dX8_setLines_85 : decode cX8_setLines 85 = .ok (.ireturn, 1) := by decide +kernel
theorem dX8_setLines_86 : decode cX8_setLines 86 = .ok (.iinc 4 1, 3) := by decide +kernel
theorem dX8_setLines_89 : decode cX8_setLines 89 = .ok (.goto (-59), 3) := by decide +kernel
theorem dX8_setLines_92 : decode cX8_setLines 92 = .ok (.aload_n 0, 1) := by decide +kernel
theorem dX8_setLines_93 : decode cX8_setLines 93 = .ok (.invokevirtual 81, 3) := by decide +kernel
theorem dX8_setLines_96 : decode cX8_setLines 96 = .ok (.aload_n 0, 1) := by decide +kernel
theorem dX8_setLines_97 : decode cX8_setLines 97 = .ok (.iload_n 1, 1) := by decide +kernel
theorem dX8_setLines_98 : decode cX8_setLines 98 = .ok (.iload_n 2, 1) := by decide +kernel
theorem dX8_setLines_99 : decode cX8_setLines 99 = .ok (.invokevirtual 73, 3) := by decide +kernel
theorem dX8_setLines_102 : decode cX8_setLines 102 = .ok (.istore 4, 2) := by decide +kernel
theorem dX8_setLines_104 : decode cX8_setLines 104 = .ok (.aload_n 0, 1) := by decide +kernel
theorem dX8_setLines_105 : decode cX8_setLines 105 = .ok (.getfield 7, 3) := by decide +kernel
theorem dX8_setLines_108 : decode cX8_setLines 108 = .ok (.iconst 1, 1) := by decide +kernel
theorem dX8_setLines_109 : decode cX8_setLines 109 = .ok (.bipush 20, 2) := by decide +kernel
theorem dX8_setLines_111 : decode cX8_setLines 111 = .ok (.iload_n 2, 1) := by decide +kernel
theorem dX8_setLines_112 : decode cX8_setLines 112 = .ok (.imul, 1) := by decide +kernel
theorem dX8_setLines_113 : decode cX8_setLines 113 = .ok (.iadd, 1) := by decide +kernel
theorem dX8_setLines_114 : decode cX8_setLines 114 = .ok (.iload_n 1, 1) := by decide +kernel
theorem dX8_setLines_115 : decode cX8_setLines 115 = .ok (.iadd, 1) := by decide +kernel
theorem dX8_setLines_116 : decode cX8_setLines 116 = .ok (.iload_n 3, 1) := by decide +kernel
theorem dX8_setLines_117 : decode cX8_setLines 117 = .ok (.iastore, 1) := by decide +kernel
theorem dX8_setLines_118 : decode cX8_setLines 118 = .ok (.iload 4, 2) := by decide +kernel
theorem dX8_setLines_120 : decode cX8_setLines 120 = .ok (.ireturn, 1) := by decide +kernel
theorem dX8_setFlag_0 : decode cX8_setFlag 0 = .ok (.aload_n 0, 1) := by decide +kernel
theorem dX8_setFlag_1 : decode cX8_setFlag 1 = .ok (.iload_n 1, 1) := by decide +kernel
theorem dX8_setFlag_2 : decode cX8_setFlag 2 = .ok (.invokevirtual 66, 3) := by decide +kernel
theorem dX8_setFlag_5 : decode cX8_setFlag 5 = .ok (.ifCond .eq 21, 3) := by decide +kernel
theorem dX8_setFlag_8 : decode cX8_setFlag 8 = .ok (.iload_n 2, 1) := by decide +kernel
theorem dX8_setFlag_9 : decode cX8_setFlag 9 = .ok (.iconst 0, 1) := by decide +kernel
theorem dX8_setFlag_10 : decode cX8_setFlag 10 = .ok (.iconst 1, 1) := by decide +kernel
theorem dX8_setFlag_11 : decode cX8_setFlag 11 = .ok (.invokestatic 62, 3) := by decide +kernel
theorem dX8_setFlag_14 : decode cX8_setFlag 14 = .ok (.ifCond .eq 12, 3) := by decide +kernel
theorem dX8_setFlag_17 : decode cX8_setFlag 17 = .ok (.iload_n 3, 1) := by decide +kernel
theorem dX8_setFlag_18 : decode cX8_setFlag 18 = .ok (.iconst 0, 1) := by decide +kernel
theorem dX8_setFlag_19 : decode cX8_setFlag 19 = .ok (.iconst 1, 1) := by decide +kernel
theorem dX8_setFlag_20 : decode cX8_setFlag 20 = .ok (.invokestatic 62, 3) := by decide +kernel
theorem dX8_setFlag_23 : decode cX8_setFlag 23 = .ok (.ifCond .ne 5, 3) := by decide +kernel
theorem dX8_setFlag_26 : decode cX8_setFlag 26 = .ok (.iconst (-1), 1) := by decide +kernel
theorem dX8_setFlag_27 : decode cX8_setFlag 27 = .ok (.ireturn, 1) := by decide +kernel
theorem dX8_setFlag_28 : decode cX8_setFlag 28 = .ok (.aload_n 0, 1) := by decide +kernel
theorem dX8_setFlag_29 : decode cX8_setFlag 29 = .ok (.invokevirtual 81, 3) := by decide +kernel
theorem dX8_setFlag_32 : decode cX8_setFlag 32 = .ok (.aload_n 0, 1) := by decide +kernel
theorem dX8_setFlag_33 : decode cX8_setFlag 33 = .ok (.getfield 7, 3) := by decide +kernel
theorem dX8_setFlag_36 : decode cX8_setFlag 36 = .ok (.bipush 41, 2) := by decide +kernel
theorem dX8_setFlag_38 : decode cX8_setFlag 38 = .ok (.bipush 20, 2) := by decide +kernel
theorem dX8_setFlag_40 : decode cX8_setFlag 40 = .ok (.iload_n 2, 1) := by decide +kernel
theorem dX8_setFlag_41 : decode cX8_setFlag 41 = .ok (.imul, 1) := by decide +kernel
theorem dX8_setFlag_42 : decode cX8_setFlag 42 = .ok (.iadd, 1) := by decide +kernel
theorem dX8_setFlag_43 : decode cX8_setFlag 43 = .ok (.iload_n 1, 1) := by decide +kernel
theorem dX8_setFlag_44 : decode cX8_setFlag 44 = .ok (.iadd, 1) := by decide +kernel
theorem dX8_setFlag_45 : decode cX8_setFlag 45 = .ok (.iaload, 1) := by decide +kernel
theorem dX8_setFlag_46 : decode cX8_setFlag 46 = .ok (.istore 4, 2) := by decide +kernel
theorem dX8_setFlag_48 : decode cX8_setFlag 48 = .ok (.aload_n 0, 1) := by decide +kernel
theorem dX8_setFlag_49 : decode cX8_setFlag 49 = .ok (.getfield 7, 3) := by decide +kernel
theorem dX8_setFlag_52 : decode cX8_setFlag 52 = .ok (.bipush 41, 2) := by decide +kernel
theorem dX8_setFlag_54 : decode cX8_setFlag 54 = .ok (.bipush 20, 2) := by decide +kernel
theorem dX8_setFlag_56 : decode cX8_setFlag 56 = .ok (.iload_n 2, 1) := by decide +kernel
theorem dX8_setFlag_57 : decode cX8_setFlag 57 = .ok (.imul, 1) := by decide +kernel
theorem dX8_setFlag_58 : decode cX8_setFlag 58 = .ok (.iadd, 1) := by decide +kernel
theorem dX8_setFlag_59 : decode cX8_setFlag 59 = .ok (.iload_n 1, 1) := by decide +kernel
theorem dX8_setFlag_60 : decode cX8_setFlag 60 = .ok (.iadd, 1) := by decide +kernel
theorem dX8_setFlag_61 : decode cX8_setFlag 61 = .ok (.iload_n 3, 1) := by decide +kernel
theorem dX8_setFlag_62 : decode cX8_setFlag 62 = .ok (.iastore, 1) := by decide +kernel
theorem dX8_setFlag_63 : decode cX8_setFlag 63 = .ok (.iload 4, 2) := by decide +kernel
theorem dX8_setFlag_65 : decode cX8_setFlag 65 = .ok (.ireturn, 1) := by decide +kernel
theorem dX8_notesAhead_0 : decode cX8_notesAhead 0 = .ok (.iconst 0, 1) := by decide +kernel
theorem dX8_notesAhead_1 : decode cX8_notesAhead 1 = .ok (.istore 4, 2) := by decide +kernel
theorem dX8_notesAhead_3 : decode cX8_notesAhead 3 = .ok (.iconst 0, 1) := by decide +kernel
theorem dX8_notesAhead_4 : decode cX8_notesAhead 4 = .ok (.istore 5, 2) := by decide +kernel
theorem dX8_notesAhead_6 : decode cX8_notesAhead 6 = .ok (.iload 5, 2) := by decide +kernel
theorem dX8_notesAhead_8 : decode cX8_notesAhead 8 = .ok (.aload_n 0, 1) := by decide +kernel
theorem dX8_notesAhead_9 : decode cX8_notesAhead 9 = .ok (.getfield 7, 3) := by decide +kernel
theorem dX8_notesAhead_12 : decode cX8_notesAhead 12 = .ok (.bipush 87, 2) := by decide +kernel
theorem dX8_notesAhead_14 : decode cX8_notesAhead 14 = .ok (.iload_n 1, 1) := by decide +kernel
theorem dX8_notesAhead_15 : decode cX8_notesAhead 15 = .ok (.iadd, 1) := by decide +kernel
theorem dX8_notesAhead_16 : decode cX8_notesAhead 16 = .ok (.iaload, 1) := by decide +kernel
theorem dX8_notesAhead_17 : decode cX8_notesAhead 17 = .ok (.if_icmp .ge 68, 3) := by decide +kernel
theorem dX8_notesAhead_20 : decode cX8_notesAhead 20 = .ok (.aload_n 0, 1) := by decide +kernel
theorem dX8_notesAhead_21 : decode cX8_notesAhead 21 = .ok (.getfield 7, 3) := by decide +kernel
theorem dX8_notesAhead_24 : decode cX8_notesAhead 24 = .ok (.bipush 89, 2) := by decide +kernel
theorem dX8_notesAhead_26 : decode cX8_notesAhead 26 = .ok (.bipush 40, 2) := by decide +kernel
theorem dX8_notesAhead_28 : decode cX8_notesAhead 28 = .ok (.iload_n 1, 1) := by decide +kernel
theorem dX8_notesAhead_29 : decode cX8_notesAhead 29 = .ok (.imul, 1) := by decide +kernel
theorem dX8_notesAhead_30 : decode cX8_notesAhead 30 = .ok (.iadd, 1) := by decide +kernel
theorem dX8_notesAhead_31 : decode cX8_notesAhead 31 = .ok (.iload 5, 2) := by decide +kernel
theorem dX8_notesAhead_33 : decode cX8_notesAhead 33 = .ok (.iadd, 1) := by decide +kernel
theorem dX8_notesAhead_34 : decode cX8_notesAhead 34 = .ok (.iaload, 1) := by decide +kernel
theorem dX8_notesAhead_35 : decode cX8_notesAhead 35 = .ok (.istore 6, 2) := by decide +kernel
theorem dX8_notesAhead_37 : decode cX8_notesAhead 37 = .ok (.iload 4, 2) := by decide +kernel
theorem dX8_notesAhead_39 : decode cX8_notesAhead 39 = .ok (.iload 6, 2) := by decide +kernel
theorem dX8_notesAhead_41 : decode cX8_notesAhead 41 = .ok (.iload_n 2, 1) := by decide +kernel
theorem dX8_notesAhead_42 : decode cX8_notesAhead 42 = .ok (.if_icmp .lt 29, 3) := by decide +kernel
theorem dX8_notesAhead_45 : decode cX8_notesAhead 45 = .ok (.iload 6, 2) := by decide +kernel
theorem dX8_notesAhead_47 : decode cX8_notesAhead 47 = .ok (.iload_n 2, 1) := by decide +kernel
theorem dX8_notesAhead_48 : decode cX8_notesAhead 48 = .ok (.if_icmp .ne 27, 3) := by decide +kernel
theorem dX8_notesAhead_51 : decode cX8_notesAhead 51 = .ok (.aload_n 0, 1) := by decide +kernel
theorem dX8_notesAhead_52 : decode cX8_notesAhead 52 = .ok (.getfield 7, 3) := by decide +kernel
theorem dX8_notesAhead_55 : decode cX8_notesAhead 55 = .ok (.sipush 169, 3) := by decide +kernel
theorem dX8_notesAhead_58 : decode cX8_notesAhead 58 = .ok (.bipush 40, 2) := by decide +kernel
theorem dX8_notesAhead_60 : decode cX8_notesAhead 60 = .ok (.iload_n 1, 1) := by decide +kernel
theorem dX8_notesAhead_61 : decode cX8_notesAhead 61 = .ok (.imul, 1) := by decide +kernel
theorem dX8_notesAhead_62 : decode cX8_notesAhead 62 = .ok (.iadd, 1) := by decide +kernel
theorem dX8_notesAhead_63 : decode cX8_notesAhead 63 = .ok (.iload 5, 2) := by decide +kernel
theorem dX8_notesAhead_65 : decode cX8_notesAhead 65 = .ok (.iadd, 1) := by decide +kernel
theorem dX8_notesAhead_66 : decode cX8_notesAhead 66 = .ok (.iaload, 1) := by decide +kernel
theorem dX8_notesAhead_67 : decode cX8_notesAhead 67 = .ok (.iload_n 3, 1) := by decide +kernel
theorem dX8_notesAhead_68 : decode cX8_notesAhead 68 = .ok (.if_icmp .ge 7, 3) := by decide +kernel
theorem dX8_notesAhead_71 : decode cX8_notesAhead 71 = .ok (.iconst 1, 1) := by decide +kernel
theorem dX8_notesAhead_72 : decode cX8_notesAhead 72 = .ok (.goto 4, 3) := by decide +kernel
theorem dX8_notesAhead_75 : decode cX8_notesAhead 75 = .ok (.iconst 0, 1) := by decide +kernel
theorem dX8_notesAhead_76 : decode cX8_notesAhead 76 = .ok (.iadd, 1) := by decide +kernel
theorem dX8_notesAhead_77 : decode cX8_notesAhead 77 = .ok (.istore 4, 2) := by decide +kernel
theorem dX8_notesAhead_79 : decode cX8_notesAhead 79 = .ok (.iinc 5 1, 3) := by decide +kernel
theorem dX8_notesAhead_82 : decode cX8_notesAhead 82 = .ok (.goto (-76), 3) := by decide +kernel
theorem dX8_notesAhead_85 : decode cX8_notesAhead 85 = .ok (.iload 4, 2) := by decide +kernel
theorem dX8_notesAhead_87 : decode cX8_notesAhead 87 = .ok (.ireturn, 1) := by decide +kernel
theorem dX8_addNote_0 : decode cX8_addNote 0 = .ok (.aload_n 0, 1) := by decide +kernel
theorem dX8_addNote_1 : decode cX8_addNote 1 = .ok (.iload_n 1, 1) := by decide +kernel
theorem dX8_addNote_2 : decode cX8_addNote 2 = .ok (.iload_n 2, 1) := by decide +kernel
theorem dX8_addNote_3 : decode cX8_addNote 3 = .ok (.iload_n 3, 1) := by decide +kernel
theorem dX8_addNote_4 : decode cX8_addNote 4 = .ok (.invokevirtual 88, 3) := by decide +kernel
theorem dX8_addNote_7 : decode cX8_addNote 7 = .ok (.ifCond .eq 14, 3) := by decide +kernel
theorem dX8_addNote_10 : decode cX8_addNote 10 = .ok (.iload 4, 2) := by decide +kernel
theorem dX8_addNote_12 : decode cX8_addNote 12 = .ok (.iconst 1, 1) := by decide +kernel
theorem dX8_addNote_13 : decode cX8_addNote 13 = .ok (.bipush 10, 2) := by decide +kernel
theorem dX8_addNote_15 : decode cX8_addNote 15 = .ok (.invokestatic 62, 3) := by decide +kernel
theorem dX8_addNote_18 : decode cX8_addNote 18 = .ok (.ifCond .ne 5, 3) := by decide +kernel
theorem dX8_addNote_21 : decode cX8_addNote 21 = .ok (.iconst (-1), 1) := by decide +kernel
theorem dX8_addNote_22 : decode cX8_addNote 22 = .ok (.ireturn, 1) := by decide +kernel
theorem dX8_addNote_23 : decode cX8_addNote 23 = .ok (.aload_n 0, 1) := by decide +kernel
theorem dX8_addNote_24 : decode cX8_addNote 24 = .ok (.getfield 7, 3) := by decide +kernel
theorem dX8_addNote_27 : decode cX8_addNote 27 = .ok (.bipush 87, 2) := by decide +kernel
theorem dX8_addNote_29 : decode cX8_addNote 29 = .ok (.iaload, 1) := by decide +kernel
theorem dX8_addNote_30 : decode cX8_addNote 30 = .ok (.aload_n 0, 1) := by decide +kernel
theorem dX8_addNote_31 : decode cX8_addNote 31 = .ok (.getfield 7, 3) := by decide +kernel
theorem dX8_addNote_34 : decode cX8_addNote 34 = .ok (.bipush 88, 2) := by decide +kernel
theorem dX8_addNote_36 : decode cX8_addNote 36 = .ok (.iaload, 1) := by decide +kernel
theorem dX8_addNote_37 : decode cX8_addNote 37 = .ok (.iadd, 1) := by decide +kernel
theorem dX8_addNote_38 : decode cX8_addNote 38 = .ok (.bipush 40, 2) := by decide +kernel
theorem dX8_addNote_40 : decode cX8_addNote 40 = .ok (.if_icmp .ne 6, 3) := by decide +kernel
theorem dX8_addNote_43 : decode cX8_addNote 43 = .ok (.bipush (-3), 2) := by decide +kernel
theorem dX8_addNote_45 : decode cX8_addNote 45 = .ok (.ireturn, 1) := by decide +kernel
theorem dX8_addNote_46 : decode cX8_addNote 46 = .ok (.aload_n 0, 1) := by decide +kernel
theorem dX8_addNote_47 : decode cX8_addNote 47 = .ok (.invokevirtual 81, 3) := by decide +kernel
theorem dX8_addNote_50 : decode cX8_addNote 50 = .ok (.aload_n 0, 1) := by decide +kernel
theorem dX8_addNote_51 : decode cX8_addNote 51 = .ok (.iload_n 2, 1) := by decide +kernel
theorem dX8_addNote_52 : decode cX8_addNote 52 = .ok (.iload_n 1, 1) := by decide +kernel
theorem dX8_addNote_53 : decode cX8_addNote 53 = .ok (.iload_n 3, 1) := by decide +kernel
theorem dX8_addNote_54 : decode cX8_addNote 54 = .ok (.iconst 1, 1) := by decide +kernel
theorem dX8_addNote_55 : decode cX8_addNote 55 = .ok (.iadd, 1) := by decide +kernel
theorem dX8_addNote_56 : decode cX8_addNote 56 = .ok (.invokevirtual 91, 3) := by decide +kernel
theorem dX8_addNote_59 : decode cX8_addNote 59 = .ok (.istore 5, 2) := by decide +kernel
theorem dX8_addNote_61 : decode cX8_addNote 61 = .ok (.bipush 40, 2) := by decide +kernel
theorem dX8_addNote_63 : decode cX8_addNote 63 = .ok (.iload_n 2, 1) := by decide +kernel
theorem dX8_addNote_64 : decode cX8_addNote 64 = .ok (.imul, 1) := by decide +kernel
theorem dX8_addNote_65 : decode cX8_addNote 65 = .ok (.aload_n 0, 1) := by decide +kernel
theorem dX8_addNote_66 : decode cX8_addNote 66 = .ok (.getfield 7, 3) := by decide +kernel
theorem dX8_addNote_69 : decode cX8_addNote 69 = .ok (.bipush 87, 2) := by decide +kernel
theorem dX8_addNote_71 : decode cX8_addNote 71 = .ok (.iload_n 2, 1) := by decide +kernel
theorem dX8_addNote_72 : decode cX8_addNote 72 = .ok (.iadd, 1) := by decide +kernel
theorem dX8_addNote_73 : decode cX8_addNote 73 = .ok (.iaload, 1) := by decide +kernel
theorem dX8_addNote_74 : decode cX8_addNote 74 = .ok (.iadd, 1) := by decide +kernel
theorem dX8_addNote_75 : decode cX8_addNote 75 = .ok (.istore 6, 2) := by decide +kernel
theorem dX8_addNote_77 : decode cX8_addNote 77 = .ok (.iload 6, 2) := by decide +kernel
theorem dX8_addNote_79 : decode cX8_addNote 79 = .ok (.bipush 40, 2) := by decide +kernel
theorem dX8_addNote_81 : decode cX8_addNote 81 = .ok (.iload_n 2, 1) := by decide +kernel
theorem dX8_addNote_82 : decode cX8_addNote 82 = .ok (.imul, 1) := by decide +kernel
theorem dX8_addNote_83 : decode cX8_addNote 83 = .ok (.iload 5, 2) := by decide +kernel
theorem dX8_addNote_85 : decode cX8_addNote 85 = .ok (.iadd, 1) := by decide +kernel
theorem dX8_addNote_86 : decode cX8_addNote 86 = .ok (.if_icmp .le 79, 3) := by decide +kernel
theorem dX8_addNote_89 : decode cX8_addNote 89 = .ok (.aload_n 0, 1) := by decide +kernel
theorem dX8_addNote_90 : decode cX8_addNote 90 = .ok (.getfield 7, 3) := by decide +kernel
theorem dX8_addNote_93 : decode cX8_addNote 93 = .ok (.bipush 89, 2) := by decide +kernel
theorem dX8_addNote_95 : decode cX8_addNote 95 = .ok (.iload 6, 2) := by decide +kernel
theorem dX8_addNote_97 : decode cX8_addNote 97 = .ok (.iadd, 1) := by decide +kernel
theorem dX8_addNote_98 : decode cX8_addNote 98 = .ok (.aload_n 0, 1) := by decide +kernel
theorem dX8_addNote_99 : decode cX8_addNote 99 = .ok (.getfield 7, 3) := by decide +kernel
theorem dX8_addNote_102 : decode cX8_addNote 102 = .ok (.bipush 89, 2) := by decide +kernel
theorem dX8_addNote_104 : decode cX8_addNote 104 = .ok (.iload 6, 2) := by decide +kernel
theorem dX8_addNote_106 : decode cX8_addNote 106 = .ok (.iadd, 1) := by decide +kernel
theorem dX8_addNote_107 : decode cX8_addNote 107 = .ok (.iconst 1, 1) := by decide +kernel
theorem dX8_addNote_108 : decode cX8_addNote 108 = .ok (.isub, 1) := by decide +kernel
theorem dX8_addNote_109 : decode cX8_addNote 109 = .ok (.iaload, 1) := by decide +kernel
theorem dX8_addNote_110 : decode cX8_addNote 110 = .ok (.iastore, 1) := by decide +kernel
theorem dX8_addNote_111 : decode cX8_addNote 111 = .ok (.aload_n 0, 1) := by decide +kernel
theorem dX8_addNote_112 : decode cX8_addNote 112 = .ok (.getfield 7, 3) := by decide +kernel
theorem dX8_addNote_115 : decode cX8_addNote 115 = .ok (.sipush 169, 3) := by decide +kernel
theorem dX8_addNote_118 : decode cX8_addNote 118 = .ok (.iload 6, 2) := by decide +kernel
theorem dX8_addNote_120 : decode cX8_addNote 120 = .ok (.iadd, 1) := by decide +kernel
theorem dX8_addNote_121 : decode cX8_addNote 121 = .ok (.aload_n 0, 1) := by decide +kernel
theorem dX8_addNote_122 : decode cX8_addNote 122 = .ok (.getfield 7, 3) := by decide +kernel
theorem dX8_addNote_125 : decode cX8_addNote 125 = .ok (.sipush 169, 3) := by decide +kernel
theorem dX8_addNote_128 : decode cX8_addNote 128 = .ok (.iload 6, 2) := by decide +kernel
theorem dX8_addNote_130 : decode cX8_addNote 130 = .ok (.iadd, 1) := by decide +kernel
theorem dX8_addNote_131 : decode cX8_addNote 131 = .ok (.iconst 1, 1) := by decide +kernel
theorem dX8_addNote_132 : decode cX8_addNote 132 = .ok (.isub, 1) := by decide +kernel
theorem dX8_addNote_133 : decode cX8_addNote 133 = .ok (.iaload, 1) := by decide +kernel
theorem dX8_addNote_134 : decode cX8_addNote 134 = .ok (.iastore, 1) := by decide +kernel
theorem dX8_addNote_135 : decode cX8_addNote 135 = .ok (.aload_n 0, 1) := by decide +kernel
theorem dX8_addNote_136 : decode cX8_addNote 136 = .ok (.getfield 7, 3) := by decide +kernel
theorem dX8_addNote_139 : decode cX8_addNote 139 = .ok (.sipush 249, 3) := by decide +kernel
theorem dX8_addNote_142 : decode cX8_addNote 142 = .ok (.iload 6, 2) := by decide +kernel
theorem dX8_addNote_144 : decode cX8_addNote 144 = .ok (.iadd, 1) := by decide +kernel
theorem dX8_addNote_145 : decode cX8_addNote 145 = .ok (.aload_n 0, 1) := by decide +kernel
theorem dX8_addNote_146 : decode cX8_addNote 146 = .ok (.getfield 7, 3) := by decide +kernel
theorem dX8_addNote_149 : decode cX8_addNote 149 = .ok (.sipush 249, 3) := by decide +kernel
theorem dX8_addNote_152 : decode cX8_addNote 152 = .ok (.iload 6, 2) := by decide +kernel
theorem dX8_addNote_154 : decode cX8_addNote 154 = .ok (.iadd, 1) := by decide +kernel
theorem dX8_addNote_155 : decode cX8_addNote 155 = .ok (.iconst 1, 1) := by decide +kernel
theorem dX8_addNote_156 : decode cX8_addNote 156 = .ok (.isub, 1) := by decide +kernel
theorem dX8_addNote_157 : decode cX8_addNote 157 = .ok (.iaload, 1) := by decide +kernel
theorem dX8_addNote_158 : decode cX8_addNote 158 = .ok (.iastore, 1) := by decide +kernel
theorem dX8_addNote_159 : decode cX8_addNote 159 = .ok (.iinc 6 (-1), 3) := by decide +kernel
theorem dX8_addNote_162 : decode cX8_addNote 162 = .ok (.goto (-85), 3) := by decide +kernel
theorem dX8_addNote_165 : decode cX8_addNote 165 = .ok (.aload_n 0, 1) := by decide +kernel
theorem dX8_addNote_166 : decode cX8_addNote 166 = .ok (.getfield 7, 3) := by decide +kernel
theorem dX8_addNote_169 : decode cX8_addNote 169 = .ok (.bipush 89, 2) := by decide +kernel
theorem dX8_addNote_171 : decode cX8_addNote 171 = .ok (.bipush 40, 2) := by decide +kernel
theorem dX8_addNote_173 : decode cX8_addNote 173 = .ok (.iload_n 2, 1) := by decide +kernel
theorem dX8_addNote_174 : decode cX8_addNote 174 = .ok (.imul, 1) := by decide +kernel
theorem dX8_addNote_175 : decode cX8_addNote 175 = .ok (.iadd, 1) := by decide +kernel
theorem dX8_addNote_176 : decode cX8_addNote 176 = .ok (.iload 5, 2) := by decide +kernel
theorem dX8_addNote_178 : decode cX8_addNote 178 = .ok (.iadd, 1) := by decide +kernel
theorem dX8_addNote_179 : decode cX8_addNote 179 = .ok (.iload_n 1, 1) := by decide +kernel
theorem dX8_addNote_180 : decode cX8_addNote 180 = .ok (.iastore, 1) := by decide +kernel
theorem dX8_addNote_181 : decode cX8_addNote 181 = .ok (.aload_n 0, 1) := by decide +kernel
theorem dX8_addNote_182 : decode cX8_addNote 182 = .ok (.getfield 7, 3) := by decide +kernel
theorem dX8_addNote_185 : decode cX8_addNote 185 = .ok (.sipush 169, 3) := by decide +kernel
theorem dX8_addNote_188 : decode cX8_addNote 188 = .ok (.bipush 40, 2) := by decide +kernel
theorem dX8_addNote_190 : decode cX8_addNote 190 = .ok (.iload_n 2, 1) := by decide +kernel
theorem dX8_addNote_191 : decode cX8_addNote 191 = .ok (.imul, 1) := by decide +kernel
theorem dX8_addNote_192 : decode cX8_addNote 192 = .ok (.iadd, 1) := by decide +kernel
theorem dX8_addNote_193 : decode cX8_addNote 193 = .ok (.iload 5, 2) := by decide +kernel
theorem dX8_addNote_195 : decode cX8_addNote 195 = .ok (.iadd, 1) := by decide +kernel
theorem dX8_addNote_196 : decode cX8_addNote 196 = .ok (.iload_n 3, 1) := by decide +kernel
theorem dX8_addNote_197 : decode cX8_addNote 197 = .ok (.iastore, 1) := by decide +kernel
theorem dX8_addNote_198 : decode cX8_addNote 198 = .ok (.aload_n 0, 1) := by decide +kernel
theorem dX8_addNote_199 : decode cX8_addNote 199 = .ok (.getfield 7, 3) := by decide +kernel
theorem dX8_addNote_202 : decode cX8_addNote 202 = .ok (.sipush 249, 3) := by decide +kernel
theorem dX8_addNote_205 : decode cX8_addNote 205 = .ok (.bipush 40, 2) := by decide +kernel
theorem dX8_addNote_207 : decode cX8_addNote 207 = .ok (.iload_n 2, 1) := by decide +kernel
theorem dX8_addNote_208 : decode cX8_addNote 208 = .ok (.imul, 1) := by decide +kernel
theorem dX8_addNote_209 : decode cX8_addNote 209 = .ok (.iadd, 1) := by decide +kernel
theorem dX8_addNote_210 : decode cX8_addNote 210 = .ok (.iload 5, 2) := by decide +kernel
theorem dX8_addNote_212 : decode cX8_addNote 212 = .ok (.iadd, 1) := by decide +kernel
theorem dX8_addNote_213 : decode cX8_addNote 213 = .ok (.iload 4, 2) := by decide +kernel
theorem dX8_addNote_215 : decode cX8_addNote 215 = .ok (.iastore, 1) := by decide +kernel
theorem dX8_addNote_216 : decode cX8_addNote 216 = .ok (.aload_n 0, 1) := by decide +kernel
theorem dX8_addNote_217 : decode cX8_addNote 217 = .ok (.getfield 7, 3) := by decide +kernel
theorem dX8_addNote_220 : decode cX8_addNote 220 = .ok (.bipush 87, 2) := by decide +kernel
theorem dX8_addNote_222 : decode cX8_addNote 222 = .ok (.iload_n 2, 1) := by decide +kernel
theorem dX8_addNote_223 : decode cX8_addNote 223 = .ok (.iadd, 1) := by decide +kernel
theorem dX8_addNote_224 : decode cX8_addNote 224 = .ok (.dup2, 1) := by decide +kernel
theorem dX8_addNote_225 : decode cX8_addNote 225 = .ok (.iaload, 1) := by decide +kernel
theorem dX8_addNote_226 : decode cX8_addNote 226 = .ok (.iconst 1, 1) := by decide +kernel
theorem dX8_addNote_227 : decode cX8_addNote 227 = .ok (.iadd, 1) := by decide +kernel
theorem dX8_addNote_228 : decode cX8_addNote 228 = .ok (.iastore, 1) := by decide +kernel
theorem dX8_addNote_229 : decode cX8_addNote 229 = .ok (.iload 5, 2) := by decide +kernel
theorem dX8_addNote_231 : decode cX8_addNote 231 = .ok (.ireturn, 1) := by decide +kernel
theorem dX8_removeNote_0 : decode cX8_removeNote 0 = .ok (.iload_n 1, 1) := by decide +kernel
theorem dX8_removeNote_1 : decode cX8_removeNote 1 = .ok (.invokestatic 70, 3) := by decide +kernel
theorem dX8_removeNote_4 : decode cX8_removeNote 4 = .ok (.ifCond .eq 7, 3) := by decide +kernel
theorem dX8_removeNote_7 : decode cX8_removeNote 7 = .ok (.iload_n 2, 1) := by decide +kernel
theorem dX8_removeNote_8 : decode cX8_removeNote 8 = .ok (.ifCond .ge 5, 3) := by decide +kernel
theorem dX8_removeNote_11 : decode cX8_removeNote 11 = .ok (.iconst (-1), 1) := by decide +kernel
theorem dX8_removeNote_12 : decode cX8_removeNote 12 = .ok (.ireturn, 1) := by decide +kernel
theorem dX8_removeNote_13 : decode cX8_removeNote 13 = .ok (.iload_n 2, 1) := by decide +kernel
theorem dX8_removeNote_14 : decode cX8_removeNote 14 = .ok (.aload_n 0, 1) := by decide +kernel
theorem dX8_removeNote_15 : decode cX8_removeNote 15 = .ok (.getfield 7, 3) := by decide +kernel
theorem dX8_removeNote_18 : decode cX8_removeNote 18 = .ok (.bipush 87, 2) := by decide +kernel
theorem dX8_removeNote_20 : decode cX8_removeNote 20 = .ok (.iload_n 1, 1) := by decide +kernel
theorem dX8_removeNote_21 : decode cX8_removeNote 21 = .ok (.iadd, 1) := by decide +kernel
theorem dX8_removeNote_22 : decode cX8_removeNote 22 = .ok (.iaload, 1) := by decide +kernel
theorem dX8_removeNote_23 : decode cX8_removeNote 23 = .ok (.if_icmp .lt 6, 3) := by decide +kernel
theorem dX8_removeNote_26 : decode cX8_removeNote 26 = .ok (.bipush (-4), 2) := by decide +kernel
theorem dX8_removeNote_28 : decode cX8_removeNote 28 = .ok (.ireturn, 1) := by decide +kernel
theorem dX8_removeNote_29 : decode cX8_removeNote 29 = .ok (.aload_n 0, 1) := by decide +kernel
theorem dX8_removeNote_30 : decode cX8_removeNote 30 = .ok (.invokevirtual 81, 3) := by decide +kernel
theorem dX8_removeNote_33 : decode cX8_removeNote 33 = .ok (.aload_n 0, 1) := by decide +kernel
theorem dX8_removeNote_34 : decode cX8_removeNote 34 = .ok (.iload_n 1, 1) := by decide +kernel
theorem dX8_removeNote_35 : decode cX8_removeNote 35 = .ok (.iload_n 2, 1) := by decide +kernel
theorem dX8_removeNote_36 : decode cX8_removeNote 36 = .ok (.invokevirtual 84, 3) := by decide +kernel
theorem dX8_removeNote_39 : decode cX8_removeNote 39 = .ok (.aload_n 0, 1) := by decide +kernel
theorem dX8_removeNote_40 : decode cX8_removeNote 40 = .ok (.getfield 7, 3) := by decide +kernel
theorem dX8_removeNote_43 : decode cX8_removeNote 43 = .ok (.bipush 87, 2) := by decide +kernel
theorem dX8_removeNote_45 : decode cX8_removeNote 45 = .ok (.iload_n 1, 1) := by decide +kernel
theorem dX8_removeNote_46 : decode cX8_removeNote 46 = .ok (.iadd, 1) := by decide +kernel
theorem dX8_removeNote_47 : decode cX8_removeNote 47 = .ok (.iaload, 1) := by decide +kernel
theorem dX8_removeNote_48 : decode cX8_removeNote 48 = .ok (.ireturn, 1) := by decide +kernel
theorem dX8_set_0 : decode cX8_set 0 = .ok (.iload_n 1, 1) := by decide +kernel
theorem dX8_set_1 : decode cX8_set 1 = .ok (.iconst 0, 1) := by decide +kernel
theorem dX8_set_2 : decode cX8_set 2 = .ok (.iconst 5, 1) := by decide +kernel
theorem dX8_set_3 : decode cX8_set 3 = .ok (.invokestatic 62, 3) := by decide +kernel
theorem dX8_set_6 : decode cX8_set 6 = .ok (.ifCond .eq 22, 3) := by decide +kernel
theorem dX8_set_9 : decode cX8_set 9 = .ok (.iload_n 2, 1) := by decide +kernel
theorem dX8_set_10 : decode cX8_set 10 = .ok (.aload_n 0, 1) := by decide +kernel
theorem dX8_set_11 : decode cX8_set 11 = .ok (.getfield 16, 3) := by decide +kernel
theorem dX8_set_14 : decode cX8_set 14 = .ok (.iload_n 1, 1) := by decide +kernel
theorem dX8_set_15 : decode cX8_set 15 = .ok (.iaload, 1) := by decide +kernel
theorem dX8_set_16 : decode cX8_set 16 = .ok (.aload_n 0, 1) := by decide +kernel
theorem dX8_set_17 : decode cX8_set 17 = .ok (.getfield 19, 3) := by decide +kernel
theorem dX8_set_20 : decode cX8_set 20 = .ok (.iload_n 1, 1) := by decide +kernel
theorem dX8_set_21 : decode cX8_set 21 = .ok (.iaload, 1) := by decide +kernel
theorem dX8_set_22 : decode cX8_set 22 = .ok (.invokestatic 62, 3) := by decide +kernel
theorem dX8_set_25 : decode cX8_set 25 = .ok (.ifCond .ne 5, 3) := by decide +kernel
theorem dX8_set_28 : decode cX8_set 28 = .ok (.iconst (-1), 1) := by decide +kernel
theorem dX8_set_29 : decode cX8_set 29 = .ok (.ireturn, 1) := by decide +kernel
theorem dX8_set_30 : decode cX8_set 30 = .ok (.aload_n 0, 1) := by decide +kernel
theorem dX8_set_31 : decode cX8_set 31 = .ok (.invokevirtual 81, 3) := by decide +kernel
theorem dX8_set_34 : decode cX8_set 34 = .ok (.aload_n 0, 1) := by decide +kernel
theorem dX8_set_35 : decode cX8_set 35 = .ok (.getfield 7, 3) := by decide +kernel
theorem dX8_set_38 : decode cX8_set 38 = .ok (.bipush 81, 2) := by decide +kernel
theorem dX8_set_40 : decode cX8_set 40 = .ok (.iload_n 1, 1) := by decide +kernel
theorem dX8_set_41 : decode cX8_set 41 = .ok (.iadd, 1) := by decide +kernel
theorem dX8_set_42 : decode cX8_set 42 = .ok (.iaload, 1) := by decide +kernel
theorem dX8_set_43 : decode cX8_set 43 = .ok (.istore_n 3, 1) := by decide +kernel
theorem dX8_set_44 : decode cX8_set 44 = .ok (.aload_n 0, 1) := by decide +kernel
theorem dX8_set_45 : decode cX8_set 45 = .ok (.getfield 7, 3) := by decide +kernel
theorem dX8_set_48 : decode cX8_set 48 = .ok (.bipush 81, 2) := by decide +kernel
theorem dX8_set_50 : decode cX8_set 50 = .ok (.iload_n 1, 1) := by decide +kernel
theorem dX8_set_51 : decode cX8_set 51 = .ok (.iadd, 1) := by decide +kernel
theorem dX8_set_52 : decode cX8_set 52 = .ok (.iload_n 2, 1) := by decide +kernel
theorem dX8_set_53 : decode cX8_set 53 = .ok (.iastore, 1) := by decide +kernel
theorem dX8_set_54 : decode cX8_set 54 = .ok (.iload_n 3, 1) := by decide +kernel
theorem dX8_set_55 : decode cX8_set 55 = .ok (.ireturn, 1) := by decide +kernel
theorem dX8_undo_0 : decode cX8_undo 0 = .ok (.aload_n 0, 1) := by decide +kernel
theorem dX8_undo_1 : decode cX8_undo 1 = .ok (.getfield 77, 3) := by decide +kernel
theorem dX8_undo_4 : decode cX8_undo 4 = .ok (.ifCond .ne 6, 3) := by decide +kernel
theorem dX8_undo_7 : decode cX8_undo 7 = .ok (.bipush (-2), 2) := by decide +kernel
theorem dX8_undo_9 : decode cX8_undo 9 = .ok (.ireturn, 1) := by decide +kernel
theorem dX8_undo_10 : decode cX8_undo 10 = .ok (.aload_n 0, 1) := by decide +kernel
theorem dX8_undo_11 : decode cX8_undo 11 = .ok (.dup, 1) := by decide +kernel
theorem dX8_undo_12 : decode cX8_undo 12 = .ok (.getfield 77, 3) := by decide +kernel
theorem dX8_undo_15 : decode cX8_undo 15 = .ok (.iconst 1, 1) := by decide +kernel
theorem dX8_undo_16 : decode cX8_undo 16 = .ok (.isub, 1) := by decide +kernel
theorem dX8_undo_17 : decode cX8_undo 17 = .ok (.putfield 77, 3) := by decide +kernel
theorem dX8_undo_20 : decode cX8_undo 20 = .ok (.iconst 0, 1) := by decide +kernel
theorem dX8_undo_21 : decode cX8_undo 21 = .ok (.istore_n 1, 1) := by decide +kernel
theorem dX8_undo_22 : decode cX8_undo 22 = .ok (.iload_n 1, 1) := by decide +kernel
theorem dX8_undo_23 : decode cX8_undo 23 = .ok (.sipush 329, 3) := by decide +kernel
theorem dX8_undo_26 : decode cX8_undo 26 = .ok (.if_icmp .ge 30, 3) := by decide +kernel
theorem dX8_undo_29 : decode cX8_undo 29 = .ok (.aload_n 0, 1) := by decide +kernel
theorem dX8_undo_30 : decode cX8_undo 30 = .ok (.getfield 7, 3) := by decide +kernel
theorem dX8_undo_33 : decode cX8_undo 33 = .ok (.iload_n 1, 1) := by decide +kernel
theorem dX8_undo_34 : decode cX8_undo 34 = .ok (.aload_n 0, 1) := by decide +kernel
theorem dX8_undo_35 : decode cX8_undo 35 = .ok (.getfield 13, 3) := by decide +kernel
theorem dX8_undo_38 : decode cX8_undo 38 = .ok (.sipush 329, 3) := by decide +kernel
theorem dX8_undo_41 : decode cX8_undo 41 = .ok (.aload_n 0, 1) := by decide +kernel
theorem dX8_undo_42 : decode cX8_undo 42 = .ok (.getfield 77, 3) := by decide +kernel
theorem dX8_undo_45 : decode cX8_undo 45 = .ok (.imul, 1) := by decide +kernel
theorem dX8_undo_46 : decode cX8_undo 46 = .ok (.iload_n 1, 1) := by decide +kernel
theorem dX8_undo_47 : decode cX8_undo 47 = .ok (.iadd, 1) := by decide +kernel
theorem dX8_undo_48 : decode cX8_undo 48 = .ok (.iaload, 1) := by decide +kernel
theorem dX8_undo_49 : decode cX8_undo 49 = .ok (.iastore, 1) := by decide +kernel
theorem dX8_undo_50 : decode cX8_undo 50 = .ok (.iinc 1 1, 3) := by decide +kernel
theorem dX8_undo_53 : decode cX8_undo 53 = .ok (.goto (-31), 3) := by decide +kernel
theorem dX8_undo_56 : decode cX8_undo 56 = .ok (.aload_n 0, 1) := by decide +kernel
theorem dX8_undo_57 : decode cX8_undo 57 = .ok (.getfield 77, 3) := by decide +kernel
theorem dX8_undo_60 : decode cX8_undo 60 = .ok (.ireturn, 1) := by decide +kernel
theorem dX8_pairCount_0 : decode cX8_pairCount 0 = .ok (.aload_n 0, 1) := by decide +kernel
theorem dX8_pairCount_1 : decode cX8_pairCount 1 = .ok (.getfield 7, 3) := by decide +kernel
theorem dX8_pairCount_4 : decode cX8_pairCount 4 = .ok (.iconst 0, 1) := by decide +kernel
theorem dX8_pairCount_5 : decode cX8_pairCount 5 = .ok (.iaload, 1) := by decide +kernel
theorem dX8_pairCount_6 : decode cX8_pairCount 6 = .ok (.ireturn, 1) := by decide +kernel
theorem dX8_pairInfo_0 : decode cX8_pairInfo 0 = .ok (.aload_n 0, 1) := by decide +kernel
theorem dX8_pairInfo_1 : decode cX8_pairInfo 1 = .ok (.iload_n 1, 1) := by decide +kernel
theorem dX8_pairInfo_2 : decode cX8_pairInfo 2 = .ok (.invokevirtual 66, 3) := by decide +kernel
theorem dX8_pairInfo_5 : decode cX8_pairInfo 5 = .ok (.ifCond .eq 28, 3) := by decide +kernel
theorem dX8_pairInfo_8 : decode cX8_pairInfo 8 = .ok (.iload_n 2, 1) := by decide +kernel
theorem dX8_pairInfo_9 : decode cX8_pairInfo 9 = .ok (.iconst 0, 1) := by decide +kernel
theorem dX8_pairInfo_10 : decode cX8_pairInfo 10 = .ok (.iconst 3, 1) := by decide +kernel
theorem dX8_pairInfo_11 : decode cX8_pairInfo 11 = .ok (.invokestatic 62, 3) := by decide +kernel
theorem dX8_pairInfo_14 : decode cX8_pairInfo 14 = .ok (.ifCond .eq 19, 3) := by decide +kernel
theorem dX8_pairInfo_17 : decode cX8_pairInfo 17 = .ok (.aload_n 0, 1) := by decide +kernel
theorem dX8_pairInfo_18 : decode cX8_pairInfo 18 = .ok (.getfield 7, 3) := by decide +kernel
theorem dX8_pairInfo_21 : decode cX8_pairInfo 21 = .ok (.iconst 1, 1) := by decide +kernel
theorem dX8_pairInfo_22 : decode cX8_pairInfo 22 = .ok (.bipush 20, 2) := by decide +kernel
theorem dX8_pairInfo_24 : decode cX8_pairInfo 24 = .ok (.iload_n 2, 1) := by decide +kernel
theorem dX8_pairInfo_25 : decode cX8_pairInfo 25 = .ok (.imul, 1) := by decide +kernel
theorem dX8_pairInfo_26 : decode cX8_pairInfo 26 = .ok (.iadd, 1) := by decide +kernel
theorem dX8_pairInfo_27 : decode cX8_pairInfo 27 = .ok (.iload_n 1, 1) := by decide +kernel
theorem dX8_pairInfo_28 : decode cX8_pairInfo 28 = .ok (.iadd, 1) := by decide +kernel
theorem dX8_pairInfo_29 : decode cX8_pairInfo 29 = .ok (.iaload, 1) := by decide +kernel
theorem dX8_pairInfo_30 : decode cX8_pairInfo 30 = .ok (.goto 4, 3) := by decide +kernel
theorem dX8_pairInfo_33 : decode cX8_pairInfo 33 = .ok (.iconst (-1), 1) := by decide +kernel
theorem dX8_pairInfo_34 : decode cX8_pairInfo 34 = .ok (.ireturn, 1) := by decide +kernel
theorem dX8_noteCount_0 : decode cX8_noteCount 0 = .ok (.iload_n 1, 1) := by decide +kernel
theorem dX8_noteCount_1 : decode cX8_noteCount 1 = .ok (.invokestatic 70, 3) := by decide +kernel
theorem dX8_noteCount_4 : decode cX8_noteCount 4 = .ok (.ifCond .eq 15, 3) := by decide +kernel
theorem dX8_noteCount_7 : decode cX8_noteCount 7 = .ok (.aload_n 0, 1) := by decide +kernel
theorem dX8_noteCount_8 : decode cX8_noteCount 8 = .ok (.getfield 7, 3) := by decide +kernel
theorem dX8_noteCount_11 : decode cX8_noteCount 11 = .ok (.bipush 87, 2) := by decide +kernel
theorem dX8_noteCount_13 : decode cX8_noteCount 13 = .ok (.iload_n 1, 1) := by decide +kernel
theorem dX8_noteCount_14 : decode cX8_noteCount 14 = .ok (.iadd, 1) := by decide +kernel
theorem dX8_noteCount_15 : decode cX8_noteCount 15 = .ok (.iaload, 1) := by decide +kernel
theorem dX8_noteCount_16 : decode cX8_noteCount 16 = .ok (.goto 4, 3) := by decide +kernel
theorem dX8_noteCount_19 : decode cX8_noteCount 19 = .ok (.iconst (-1), 1) := by decide +kernel
theorem dX8_noteCount_20 : decode cX8_noteCount 20 = .ok (.ireturn, 1) := by decide +kernel
theorem dX8_noteInfo_0 : decode cX8_noteInfo 0 = .ok (.iload_n 1, 1) := by decide +kernel
theorem dX8_noteInfo_1 : decode cX8_noteInfo 1 = .ok (.invokestatic 70, 3) := by decide +kernel
theorem dX8_noteInfo_4 : decode cX8_noteInfo 4 = .ok (.ifCond .eq 16, 3) := by decide +kernel
theorem dX8_noteInfo_7 : decode cX8_noteInfo 7 = .ok (.iload_n 2, 1) := by decide +kernel
theorem dX8_noteInfo_8 : decode cX8_noteInfo 8 = .ok (.ifCond .lt 12, 3) := by decide +kernel
theorem dX8_noteInfo_11 : decode cX8_noteInfo 11 = .ok (.iload_n 3, 1) := by decide +kernel
theorem dX8_noteInfo_12 : decode cX8_noteInfo 12 = .ok (.iconst 0, 1) := by decide +kernel
theorem dX8_noteInfo_13 : decode cX8_noteInfo 13 = .ok (.iconst 2, 1) := by decide +kernel
theorem dX8_noteInfo_14 : decode cX8_noteInfo 14 = .ok (.invokestatic 62, 3) := by decide +kernel
theorem dX8_noteInfo_17 : decode cX8_noteInfo 17 = .ok (.ifCond .ne 5, 3) := by decide +kernel
theorem dX8_noteInfo_20 : decode cX8_noteInfo 20 = .ok (.iconst (-1), 1) := by decide +kernel
theorem dX8_noteInfo_21 : decode cX8_noteInfo 21 = .ok (.ireturn, 1) := by decide +kernel
theorem dX8_noteInfo_22 : decode cX8_noteInfo 22 = .ok (.iload_n 2, 1) := by decide +kernel
theorem dX8_noteInfo_23 : decode cX8_noteInfo 23 = .ok (.aload_n 0, 1) := by decide +kernel
theorem dX8_noteInfo_24 : decode cX8_noteInfo 24 = .ok (.getfield 7, 3) := by decide +kernel
theorem dX8_noteInfo_27 : decode cX8_noteInfo 27 = .ok (.bipush 87, 2) := by decide +kernel
theorem dX8_noteInfo_29 : decode cX8_noteInfo 29 = .ok (.iload_n 1, 1) := by decide +kernel
theorem dX8_noteInfo_30 : decode cX8_noteInfo 30 = .ok (.iadd, 1) := by decide +kernel
theorem dX8_noteInfo_31 : decode cX8_noteInfo 31 = .ok (.iaload, 1) := by decide +kernel
theorem dX8_noteInfo_32 : decode cX8_noteInfo 32 = .ok (.if_icmp .ge 25, 3) := by decide +kernel
theorem dX8_noteInfo_35 : decode cX8_noteInfo 35 = .ok (.aload_n 0, 1) := by decide +kernel
theorem dX8_noteInfo_36 : decode cX8_noteInfo 36 = .ok (.getfield 7, 3) := by decide +kernel
theorem dX8_noteInfo_39 : decode cX8_noteInfo 39 = .ok (.bipush 89, 2) := by decide +kernel
theorem dX8_noteInfo_41 : decode cX8_noteInfo 41 = .ok (.bipush 80, 2) := by decide +kernel
theorem dX8_noteInfo_43 : decode cX8_noteInfo 43 = .ok (.iload_n 3, 1) := by decide +kernel
theorem dX8_noteInfo_44 : decode cX8_noteInfo 44 = .ok (.imul, 1) := by decide +kernel
theorem dX8_noteInfo_45 : decode cX8_noteInfo 45 = .ok (.iadd, 1) := by decide +kernel
theorem dX8_noteInfo_46 : decode cX8_noteInfo 46 = .ok (.bipush 40, 2) := by decide +kernel
theorem dX8_noteInfo_48 : decode cX8_noteInfo 48 = .ok (.iload_n 1, 1) := by decide +kernel
theorem dX8_noteInfo_49 : decode cX8_noteInfo 49 = .ok (.imul, 1) := by decide +kernel
theorem dX8_noteInfo_50 : decode cX8_noteInfo 50 = .ok (.iadd, 1) := by decide +kernel
theorem dX8_noteInfo_51 : decode cX8_noteInfo 51 = .ok (.iload_n 2, 1) := by decide +kernel
theorem dX8_noteInfo_52 : decode cX8_noteInfo 52 = .ok (.iadd, 1) := by decide +kernel
theorem dX8_noteInfo_53 : decode cX8_noteInfo 53 = .ok (.iaload, 1) := by decide +kernel
theorem dX8_noteInfo_54 : decode cX8_noteInfo 54 = .ok (.goto 5, 3) := by decide +kernel
theorem dX8_noteInfo_57 : decode cX8_noteInfo 57 = .ok (.bipush (-4), 2) := by decide +kernel
theorem dX8_noteInfo_59 : decode cX8_noteInfo 59 = .ok (.ireturn, 1) := by decide +kernel
theorem dX8_segmentsOfLast_0 : decode cX8_segmentsOfLast 0 = .ok (.aload_n 0, 1) := by decide +kernel
theorem dX8_segmentsOfLast_1 : decode cX8_segmentsOfLast 1 = .ok (.getfield 95, 3) := by decide +kernel
theorem dX8_segmentsOfLast_4 : decode cX8_segmentsOfLast 4 = .ok (.aload_n 0, 1) := by decide +kernel
theorem dX8_segmentsOfLast_5 : decode cX8_segmentsOfLast 5 = .ok (.getfield 34, 3) := by decide +kernel
theorem dX8_segmentsOfLast_8 : decode cX8_segmentsOfLast 8 = .ok (.aload_n 0, 1) := by decide +kernel
theorem dX8_segmentsOfLast_9 : decode cX8_segmentsOfLast 9 = .ok (.getfield 98, 3) := by decide +kernel
theorem dX8_segmentsOfLast_12 : decode cX8_segmentsOfLast 12 = .ok (.iaload, 1) := by decide +kernel
theorem dX8_segmentsOfLast_13 : decode cX8_segmentsOfLast 13 = .ok (.isub, 1) := by decide +kernel
theorem dX8_segmentsOfLast_14 : decode cX8_segmentsOfLast 14 = .ok (.ireturn, 1) := by decide +kernel
theorem dX8_rowsOf_0 : decode cX8_rowsOf 0 = .ok (.iload_n 1, 1) := by decide +kernel
theorem dX8_rowsOf_1 : decode cX8_rowsOf 1 = .ok (.ifCond .le 15, 3) := by decide +kernel
theorem dX8_rowsOf_4 : decode cX8_rowsOf 4 = .ok (.aload_n 0, 1) := by decide +kernel
theorem dX8_rowsOf_5 : decode cX8_rowsOf 5 = .ok (.getfield 7, 3) := by decide +kernel
theorem dX8_rowsOf_8 : decode cX8_rowsOf 8 = .ok (.bipush 83, 2) := by decide +kernel
theorem dX8_rowsOf_10 : decode cX8_rowsOf 10 = .ok (.iaload, 1) := by decide +kernel
theorem dX8_rowsOf_11 : decode cX8_rowsOf 11 = .ok (.iload_n 1, 1) := by decide +kernel
theorem dX8_rowsOf_12 : decode cX8_rowsOf 12 = .ok (.iadd, 1) := by decide +kernel
theorem dX8_rowsOf_13 : decode cX8_rowsOf 13 = .ok (.goto 4, 3) := by decide +kernel
theorem dX8_rowsOf_16 : decode cX8_rowsOf 16 = .ok (.iconst 0, 1) := by decide +kernel
theorem dX8_rowsOf_17 : decode cX8_rowsOf 17 = .ok (.ireturn, 1) := by decide +kernel
theorem dX8_beginning_0 : decode cX8_beginning 0 = .ok (.aload_n 0, 1) := by decide +kernel
theorem dX8_beginning_1 : decode cX8_beginning 1 = .ok (.invokevirtual 101, 3) := by decide +kernel
theorem dX8_beginning_4 : decode cX8_beginning 4 = .ok (.ifCond .ne 5, 3) := by decide +kernel
theorem dX8_beginning_7 : decode cX8_beginning 7 = .ok (.iconst 0, 1) := by decide +kernel
theorem dX8_beginning_8 : decode cX8_beginning 8 = .ok (.ireturn, 1) := by decide +kernel
theorem dX8_beginning_9 : decode cX8_beginning 9 = .ok (.aload_n 0, 1) := by decide +kernel
theorem dX8_beginning_10 : decode cX8_beginning 10 = .ok (.getfield 95, 3) := by decide +kernel
theorem dX8_beginning_13 : decode cX8_beginning 13 = .ok (.iconst 1, 1) := by decide +kernel
theorem dX8_beginning_14 : decode cX8_beginning 14 = .ok (.isub, 1) := by decide +kernel
theorem dX8_beginning_15 : decode cX8_beginning 15 = .ok (.istore_n 2, 1) := by decide +kernel
theorem dX8_beginning_16 : decode cX8_beginning 16 = .ok (.aload_n 0, 1) := by decide +kernel
theorem dX8_beginning_17 : decode cX8_beginning 17 = .ok (.getfield 28, 3) := by decide +kernel
theorem dX8_beginning_20 : decode cX8_beginning 20 = .ok (.iconst 2, 1) := by decide +kernel
theorem dX8_beginning_21 : decode cX8_beginning 21 = .ok (.iload_n 2, 1) := by decide +kernel
theorem dX8_beginning_22 : decode cX8_beginning 22 = .ok (.imul, 1) := by decide +kernel
theorem dX8_beginning_23 : decode cX8_beginning 23 = .ok (.iload_n 1, 1) := by decide +kernel
theorem dX8_beginning_24 : decode cX8_beginning 24 = .ok (.iadd, 1) := by decide +kernel
theorem dX8_beginning_25 : decode cX8_beginning 25 = .ok (.iaload, 1) := by decide +kernel
theorem dX8_beginning_26 : decode cX8_beginning 26 = .ok (.istore_n 3, 1) := by decide +kernel
theorem dX8_beginning_27 : decode cX8_beginning 27 = .ok (.aload_n 0, 1) := by decide +kernel
theorem dX8_beginning_28 : decode cX8_beginning 28 = .ok (.getfield 28, 3) := by decide +kernel
theorem dX8_beginning_31 : decode cX8_beginning 31 = .ok (.iconst 2, 1) := by decide +kernel
theorem dX8_beginning_32 : decode cX8_beginning 32 = .ok (.iload_n 2, 1) := by decide +kernel
theorem dX8_beginning_33 : decode cX8_beginning 33 = .ok (.imul, 1) := by decide +kernel
theorem dX8_beginning_34 : decode cX8_beginning 34 = .ok (.iconst 1, 1) := by decide +kernel
theorem dX8_beginning_35 : decode cX8_beginning 35 = .ok (.iadd, 1) := by decide +kernel
theorem dX8_beginning_36 : decode cX8_beginning 36 = .ok (.iload_n 1, 1) := by decide +kernel
theorem dX8_beginning_37 : decode cX8_beginning 37 = .ok (.isub, 1) := by decide +kernel
theorem dX8_beginning_38 : decode cX8_beginning 38 = .ok (.iaload, 1) := by decide +kernel
theorem dX8_beginning_39 : decode cX8_beginning 39 = .ok (.istore 4, 2) := by decide +kernel
theorem dX8_beginning_41 : decode cX8_beginning 41 = .ok (.aload_n 0, 1) := by decide +kernel
theorem dX8_beginning_42 : decode cX8_beginning 42 = .ok (.getfield 7, 3) := by decide +kernel
theorem dX8_beginning_45 : decode cX8_beginning 45 = .ok (.bipush 86, 2) := by decide +kernel
theorem dX8_beginning_47 : decode cX8_beginning 47 = .ok (.iaload, 1) := by decide +kernel
theorem dX8_beginning_48 : decode cX8_beginning 48 = .ok (.iconst 1, 1) := by decide +kernel
theorem dX8_beginning_49 : decode cX8_beginning 49 = .ok (.if_icmp .ne 14, 3) := by decide +kernel
theorem dX8_beginning_52 : decode cX8_beginning 52 = .ok (.iload 4, 2) := by decide +kernel
theorem dX8_beginning_54 : decode cX8_beginning 54 = .ok (.iload_n 3, 1) := by decide +kernel
theorem dX8_beginning_55 : decode cX8_beginning 55 = .ok (.if_icmp .le 8, 3) := by decide +kernel
theorem dX8_beginning_58 : decode cX8_beginning 58 = .ok (.iload 4, 2) := by decide +kernel
theorem dX8_beginning_60 : decode cX8_beginning 60 = .ok (.goto 4, 3) := by decide +kernel
theorem dX8_beginning_63 : decode cX8_beginning 63 = .ok (.iload_n 3, 1) := by decide +kernel
theorem dX8_beginning_64 : decode cX8_beginning 64 = .ok (.istore 5, 2) := by decide +kernel
theorem dX8_beginning_66 : decode cX8_beginning 66 = .ok (.aload_n 0, 1) := by decide +kernel
theorem dX8_beginning_67 : decode cX8_beginning 67 = .ok (.getfield 31, 3) := by decide +kernel
theorem dX8_beginning_70 : decode cX8_beginning 70 = .ok (.iconst 2, 1) := by decide +kernel
theorem dX8_beginning_71 : decode cX8_beginning 71 = .ok (.iload_n 2, 1) := by decide +kernel
theorem dX8_beginning_72 : decode cX8_beginning 72 = .ok (.imul, 1) := by decide +kernel
theorem dX8_beginning_73 : decode cX8_beginning 73 = .ok (.iload_n 1, 1) := by decide +kernel
theorem dX8_beginning_74 : decode cX8_beginning 74 = .ok (.iadd, 1) := by decide +kernel
theorem dX8_beginning_75 : decode cX8_beginning 75 = .ok (.iaload, 1) := by decide +kernel
theorem dX8_beginning_76 : decode cX8_beginning 76 = .ok (.iload 5, 2) := by decide +kernel
theorem dX8_beginning_78 : decode cX8_beginning 78 = .ok (.iadd, 1) := by decide +kernel
theorem dX8_beginning_79 : decode cX8_beginning 79 = .ok (.aload_n 0, 1) := by decide +kernel
theorem dX8_beginning_80 : decode cX8_beginning 80 = .ok (.getfield 7, 3) := by decide +kernel
theorem dX8_beginning_83 : decode cX8_beginning 83 = .ok (.bipush 82, 2) := by decide +kernel
theorem dX8_beginning_85 : decode cX8_beginning 85 = .ok (.iaload, 1) := by decide +kernel
theorem dX8_beginning_86 : decode cX8_beginning 86 = .ok (.iadd, 1) := by decide +kernel
theorem dX8_beginning_87 : decode cX8_beginning 87 = .ok (.ireturn, 1) := by decide +kernel
theorem dX8_carriedTo_0 : decode cX8_carriedTo 0 = .ok (.iload_n 1, 1) := by decide +kernel
theorem dX8_carriedTo_1 : decode cX8_carriedTo 1 = .ok (.ifCond .ne 7, 3) := by decide +kernel
theorem dX8_carriedTo_4 : decode cX8_carriedTo 4 = .ok (.iconst 0, 1) := by decide +kernel
theorem dX8_carriedTo_5 : decode cX8_carriedTo 5 = .ok (.goto 15, 3) := by decide +kernel
theorem dX8_carriedTo_8 : decode cX8_carriedTo 8 = .ok (.aload_n 0, 1) := by decide +kernel
theorem dX8_carriedTo_9 : decode cX8_carriedTo 9 = .ok (.getfield 47, 3) := by decide +kernel
theorem dX8_carriedTo_12 : decode cX8_carriedTo 12 = .ok (.iconst 2, 1) := by decide +kernel
theorem dX8_carriedTo_13 : decode cX8_carriedTo 13 = .ok (.iload_n 1, 1) := by decide +kernel
theorem dX8_carriedTo_14 : decode cX8_carriedTo 14 = .ok (.iconst 1, 1) := by decide +kernel
theorem dX8_carriedTo_15 : decode cX8_carriedTo 15 = .ok (.isub, 1) := by decide +kernel
theorem dX8_carriedTo_16 : decode cX8_carriedTo 16 = .ok (.imul, 1) := by decide +kernel
theorem dX8_carriedTo_17 : decode cX8_carriedTo 17 = .ok (.iload_n 2, 1) := by decide +kernel
theorem dX8_carriedTo_18 : decode cX8_carriedTo 18 = .ok (.iadd, 1) := by decide +kernel
theorem dX8_carriedTo_19 : decode cX8_carriedTo 19 = .ok (.iaload, 1) := by decide +kernel
theorem dX8_carriedTo_20 : decode cX8_carriedTo 20 = .ok (.ireturn, 1) := by decide +kernel
theorem dX8_notedLines_0 : decode cX8_notedLines 0 = .ok (.aload_n 0, 1) := by decide +kernel
theorem dX8_notedLines_1 : decode cX8_notedLines 1 = .ok (.aload_n 0, 1) := by decide +kernel
theorem dX8_notedLines_2 : decode cX8_notedLines 2 = .ok (.getfield 98, 3) := by decide +kernel
theorem dX8_notedLines_5 : decode cX8_notedLines 5 = .ok (.iload_n 1, 1) := by decide +kernel
theorem dX8_notedLines_6 : decode cX8_notedLines 6 = .ok (.invokevirtual 105, 3) := by decide +kernel
theorem dX8_notedLines_9 : decode cX8_notedLines 9 = .ok (.istore_n 3, 1) := by decide +kernel
theorem dX8_notedLines_10 : decode cX8_notedLines 10 = .ok (.aload_n 0, 1) := by decide +kernel
theorem dX8_notedLines_11 : decode cX8_notedLines 11 = .ok (.getfield 50, 3) := by decide +kernel
theorem dX8_notedLines_14 : decode cX8_notedLines 14 = .ok (.iconst 2, 1) := by decide +kernel
theorem dX8_notedLines_15 : decode cX8_notedLines 15 = .ok (.aload_n 0, 1) := by decide +kernel
theorem dX8_notedLines_16 : decode cX8_notedLines 16 = .ok (.getfield 98, 3) := by decide +kernel
theorem dX8_notedLines_19 : decode cX8_notedLines 19 = .ok (.imul, 1) := by decide +kernel
theorem dX8_notedLines_20 : decode cX8_notedLines 20 = .ok (.iload_n 1, 1) := by decide +kernel
theorem dX8_notedLines_21 : decode cX8_notedLines 21 = .ok (.iadd, 1) := by decide +kernel
theorem dX8_notedLines_22 : decode cX8_notedLines 22 = .ok (.iaload, 1) := by decide +kernel
theorem dX8_notedLines_23 : decode cX8_notedLines 23 = .ok (.istore 4, 2) := by decide +kernel
theorem dX8_notedLines_25 : decode cX8_notedLines 25 = .ok (.iload 4, 2) := by decide +kernel
theorem dX8_notedLines_27 : decode cX8_notedLines 27 = .ok (.iload_n 2, 1) := by decide +kernel
theorem dX8_notedLines_28 : decode cX8_notedLines 28 = .ok (.if_icmp .ge 19, 3) := by decide +kernel
theorem dX8_notedLines_31 : decode cX8_notedLines 31 = .ok (.iload_n 3, 1) := by decide +kernel
theorem dX8_notedLines_32 : decode cX8_notedLines 32 = .ok (.aload_n 0, 1) := by decide +kernel
theorem dX8_notedLines_33 : decode cX8_notedLines 33 = .ok (.iload_n 1, 1) := by decide +kernel
theorem dX8_notedLines_34 : decode cX8_notedLines 34 = .ok (.iload 4, 2) := by decide +kernel
theorem dX8_notedLines_36 : decode cX8_notedLines 36 = .ok (.invokevirtual 108, 3) := by decide +kernel
theorem dX8_notedLines_39 : decode cX8_notedLines 39 = .ok (.iadd, 1) := by decide +kernel
theorem dX8_notedLines_40 : decode cX8_notedLines 40 = .ok (.istore_n 3, 1) := by decide +kernel
theorem dX8_notedLines_41 : decode cX8_notedLines 41 = .ok (.iinc 4 1, 3) := by decide +kernel
theorem dX8_notedLines_44 : decode cX8_notedLines 44 = .ok (.goto (-19), 3) := by decide +kernel
theorem dX8_notedLines_47 : decode cX8_notedLines 47 = .ok (.iload_n 3, 1) := by decide +kernel
theorem dX8_notedLines_48 : decode cX8_notedLines 48 = .ok (.ireturn, 1) := by decide +kernel
theorem dX8_mostCarried_0 : decode cX8_mostCarried 0 = .ok (.iload_n 2, 1) := by decide +kernel
theorem dX8_mostCarried_1 : decode cX8_mostCarried 1 = .ok (.aload_n 0, 1) := by decide +kernel
theorem dX8_mostCarried_2 : decode cX8_mostCarried 2 = .ok (.getfield 50, 3) := by decide +kernel
theorem dX8_mostCarried_5 : decode cX8_mostCarried 5 = .ok (.iconst 2, 1) := by decide +kernel
theorem dX8_mostCarried_6 : decode cX8_mostCarried 6 = .ok (.aload_n 0, 1) := by decide +kernel
theorem dX8_mostCarried_7 : decode cX8_mostCarried 7 = .ok (.getfield 98, 3) := by decide +kernel
theorem dX8_mostCarried_10 : decode cX8_mostCarried 10 = .ok (.imul, 1) := by decide +kernel
theorem dX8_mostCarried_11 : decode cX8_mostCarried 11 = .ok (.iload_n 1, 1) := by decide +kernel
theorem dX8_mostCarried_12 : decode cX8_mostCarried 12 = .ok (.iadd, 1) := by decide +kernel
theorem dX8_mostCarried_13 : decode cX8_mostCarried 13 = .ok (.iaload, 1) := by decide +kernel
theorem dX8_mostCarried_14 : decode cX8_mostCarried 14 = .ok (.if_icmp .ne 5, 3) := by decide +kernel
theorem dX8_mostCarried_17 : decode cX8_mostCarried 17 = .ok (.iconst 0, 1) := by decide +kernel
theorem dX8_mostCarried_18 : decode cX8_mostCarried 18 = .ok (.ireturn, 1) := by decide +kernel
theorem dX8_mostCarried_19 : decode cX8_mostCarried 19 = .ok (.aload_n 0, 1) := by decide +kernel
theorem dX8_mostCarried_20 : decode cX8_mostCarried 20 = .ok (.iload_n 1, 1) := by decide +kernel
theorem dX8_mostCarried_21 : decode cX8_mostCarried 21 = .ok (.iload_n 2, 1) := by decide +kernel
theorem dX8_mostCarried_22 : decode cX8_mostCarried 22 = .ok (.iconst 1, 1) := by decide +kernel
theorem dX8_mostCarried_23 : decode cX8_mostCarried 23 = .ok (.isub, 1) := by decide +kernel
theorem dX8_mostCarried_24 : decode cX8_mostCarried 24 = .ok (.invokevirtual 108, 3) := by decide +kernel
theorem dX8_mostCarried_27 : decode cX8_mostCarried 27 = .ok (.iconst 1, 1) := by decide +kernel
theorem dX8_mostCarried_28 : decode cX8_mostCarried 28 = .ok (.isub, 1) := by decide +kernel
theorem dX8_mostCarried_29 : decode cX8_mostCarried 29 = .ok (.istore_n 3, 1) := by decide +kernel
theorem dX8_mostCarried_30 : decode cX8_mostCarried 30 = .ok (.iload_n 3, 1) := by decide +kernel
theorem dX8_mostCarried_31 : decode cX8_mostCarried 31 = .ok (.aload_n 0, 1) := by decide +kernel
theorem dX8_mostCarried_32 : decode cX8_mostCarried 32 = .ok (.getfield 7, 3) := by decide +kernel
theorem dX8_mostCarried_35 : decode cX8_mostCarried 35 = .ok (.bipush 85, 2) := by decide +kernel
theorem dX8_mostCarried_37 : decode cX8_mostCarried 37 = .ok (.iaload, 1) := by decide +kernel
theorem dX8_mostCarried_38 : decode cX8_mostCarried 38 = .ok (.if_icmp .ge 7, 3) := by decide +kernel
theorem dX8_mostCarried_41 : decode cX8_mostCarried 41 = .ok (.iload_n 3, 1) := by decide +kernel
theorem dX8_mostCarried_42 : decode cX8_mostCarried 42 = .ok (.goto 10, 3) := by decide +kernel
theorem dX8_mostCarried_45 : decode cX8_mostCarried 45 = .ok (.aload_n 0, 1) := by decide +kernel
theorem dX8_mostCarried_46 : decode cX8_mostCarried 46 = .ok (.getfield 7, 3) := by decide +kernel
theorem dX8_mostCarried_49 : decode cX8_mostCarried 49 = .ok (.bipush 85, 2) := by decide +kernel
theorem dX8_mostCarried_51 : decode cX8_mostCarried 51 = .ok (.iaload, 1) := by decide +kernel
theorem dX8_mostCarried_52 : decode cX8_mostCarried 52 = .ok (.ireturn, 1) := by decide +kernel
theorem dX8_fitsOn_0 : decode cX8_fitsOn 0 = .ok (.aload_n 0, 1) := by decide +kernel
theorem dX8_fitsOn_1 : decode cX8_fitsOn 1 = .ok (.iload_n 1, 1) := by decide +kernel
theorem dX8_fitsOn_2 : decode cX8_fitsOn 2 = .ok (.aload_n 0, 1) := by decide +kernel
theorem dX8_fitsOn_3 : decode cX8_fitsOn 3 = .ok (.getfield 111, 3) := by decide +kernel
theorem dX8_fitsOn_6 : decode cX8_fitsOn 6 = .ok (.aload_n 0, 1) := by decide +kernel
theorem dX8_fitsOn_7 : decode cX8_fitsOn 7 = .ok (.getfield 53, 3) := by decide +kernel
theorem dX8_fitsOn_10 : decode cX8_fitsOn 10 = .ok (.iload_n 1, 1) := by decide +kernel
theorem dX8_fitsOn_11 : decode cX8_fitsOn 11 = .ok (.iaload, 1) := by decide +kernel
theorem dX8_fitsOn_12 : decode cX8_fitsOn 12 = .ok (.iload_n 2, 1) := by decide +kernel
theorem dX8_fitsOn_13 : decode cX8_fitsOn 13 = .ok (.iadd, 1) := by decide +kernel
theorem dX8_fitsOn_14 : decode cX8_fitsOn 14 = .ok (.invokevirtual 91, 3) := by decide +kernel
theorem dX8_fitsOn_17 : decode cX8_fitsOn 17 = .ok (.istore_n 3, 1) := by decide +kernel
theorem dX8_fitsOn_18 : decode cX8_fitsOn 18 = .ok (.aload_n 0, 1) := by decide +kernel
theorem dX8_fitsOn_19 : decode cX8_fitsOn 19 = .ok (.iload_n 1, 1) := by decide +kernel
theorem dX8_fitsOn_20 : decode cX8_fitsOn 20 = .ok (.iload_n 3, 1) := by decide +kernel
theorem dX8_fitsOn_21 : decode cX8_fitsOn 21 = .ok (.invokevirtual 114, 3) := by decide +kernel
theorem dX8_fitsOn_24 : decode cX8_fitsOn 24 = .ok (.aload_n 0, 1) := by decide +kernel
theorem dX8_fitsOn_25 : decode cX8_fitsOn 25 = .ok (.iload_n 1, 1) := by decide +kernel
theorem dX8_fitsOn_26 : decode cX8_fitsOn 26 = .ok (.iload_n 3, 1) := by decide +kernel
theorem dX8_fitsOn_27 : decode cX8_fitsOn 27 = .ok (.invokevirtual 117, 3) := by decide +kernel
theorem dX8_fitsOn_30 : decode cX8_fitsOn 30 = .ok (.isub, 1) := by decide +kernel
theorem dX8_fitsOn_31 : decode cX8_fitsOn 31 = .ok (.istore 4, 2) := by decide +kernel
theorem dX8_fitsOn_33 : decode cX8_fitsOn 33 = .ok (.aload_n 0, 1) := by decide +kernel
theorem dX8_fitsOn_34 : decode cX8_fitsOn 34 = .ok (.iload_n 1, 1) := by decide +kernel
theorem dX8_fitsOn_35 : decode cX8_fitsOn 35 = .ok (.invokevirtual 120, 3) := by decide +kernel
theorem dX8_fitsOn_38 : decode cX8_fitsOn 38 = .ok (.iload_n 2, 1) := by decide +kernel
theorem dX8_fitsOn_39 : decode cX8_fitsOn 39 = .ok (.iadd, 1) := by decide +kernel
theorem dX8_fitsOn_40 : decode cX8_fitsOn 40 = .ok (.aload_n 0, 1) := by decide +kernel
theorem dX8_fitsOn_41 : decode cX8_fitsOn 41 = .ok (.iload 4, 2) := by decide +kernel
theorem dX8_fitsOn_43 : decode cX8_fitsOn 43 = .ok (.invokevirtual 124, 3) := by decide +kernel
theorem dX8_fitsOn_46 : decode cX8_fitsOn 46 = .ok (.iadd, 1) := by decide +kernel
theorem dX8_fitsOn_47 : decode cX8_fitsOn 47 = .ok (.aload_n 0, 1) := by decide +kernel
theorem dX8_fitsOn_48 : decode cX8_fitsOn 48 = .ok (.getfield 7, 3) := by decide +kernel
theorem dX8_fitsOn_51 : decode cX8_fitsOn 51 = .ok (.bipush 81, 2) := by decide +kernel
theorem dX8_fitsOn_53 : decode cX8_fitsOn 53 = .ok (.iaload, 1) := by decide +kernel
theorem dX8_fitsOn_54 : decode cX8_fitsOn 54 = .ok (.if_icmp .gt 7, 3) := by decide +kernel
theorem dX8_fitsOn_57 : decode cX8_fitsOn 57 = .ok (.iconst 1, 1) := by decide +kernel
theorem dX8_fitsOn_58 : decode cX8_fitsOn 58 = .ok (.goto 4, 3) := by decide +kernel
theorem dX8_fitsOn_61 : decode cX8_fitsOn 61 = .ok (.iconst 0, 1) := by decide +kernel
theorem dX8_fitsOn_62 : decode cX8_fitsOn 62 = .ok (.ireturn, 1) := by decide +kernel
theorem dX8_fits_0 : decode cX8_fits 0 = .ok (.aload_n 0, 1) := by decide +kernel
theorem dX8_fits_1 : decode cX8_fits 1 = .ok (.iconst 0, 1) := by decide +kernel
theorem dX8_fits_2 : decode cX8_fits 2 = .ok (.iload_n 1, 1) := by decide +kernel
theorem dX8_fits_3 : decode cX8_fits 3 = .ok (.invokevirtual 127, 3) := by decide +kernel
theorem dX8_fits_6 : decode cX8_fits 6 = .ok (.ifCond .eq 16, 3) := by decide +kernel
theorem dX8_fits_9 : decode cX8_fits 9 = .ok (.aload_n 0, 1) := by decide +kernel
theorem dX8_fits_10 : decode cX8_fits 10 = .ok (.iconst 1, 1) := by decide +kernel
theorem dX8_fits_11 : decode cX8_fits 11 = .ok (.iload_n 2, 1) := by decide +kernel
theorem dX8_fits_12 : decode cX8_fits 12 = .ok (.invokevirtual 127, 3) := by decide +kernel
theorem dX8_fits_15 : decode cX8_fits 15 = .ok (.ifCond .eq 7, 3) := by decide +kernel
theorem dX8_fits_18 : decode cX8_fits 18 = .ok (.iconst 1, 1) := by decide +kernel
theorem dX8_fits_19 : decode cX8_fits 19 = .ok (.goto 4, 3) := by decide +kernel
theorem dX8_fits_22 : decode cX8_fits 22 = .ok (.iconst 0, 1) := by decide +kernel
theorem dX8_fits_23 : decode cX8_fits 23 = .ok (.ireturn, 1) := by decide +kernel
theorem dX8_puts_0 : decode cX8_puts 0 = .ok (.aload_n 0, 1) := by decide +kernel
theorem dX8_puts_1 : decode cX8_puts 1 = .ok (.iconst 0, 1) := by decide +kernel
theorem dX8_puts_2 : decode cX8_puts 2 = .ok (.invokevirtual 120, 3) := by decide +kernel
theorem dX8_puts_5 : decode cX8_puts 5 = .ok (.istore_n 3, 1) := by decide +kernel
theorem dX8_puts_6 : decode cX8_puts 6 = .ok (.aload_n 0, 1) := by decide +kernel
theorem dX8_puts_7 : decode cX8_puts 7 = .ok (.iconst 1, 1) := by decide +kernel
theorem dX8_puts_8 : decode cX8_puts 8 = .ok (.invokevirtual 120, 3) := by decide +kernel
theorem dX8_puts_11 : decode cX8_puts 11 = .ok (.istore 4, 2) := by decide +kernel
theorem dX8_puts_13 : decode cX8_puts 13 = .ok (.aload_n 0, 1) := by decide +kernel
theorem dX8_puts_14 : decode cX8_puts 14 = .ok (.getfield 95, 3) := by decide +kernel
theorem dX8_puts_17 : decode cX8_puts 17 = .ok (.istore 5, 2) := by decide +kernel
theorem dX8_puts_19 : decode cX8_puts 19 = .ok (.aload_n 0, 1) := by decide +kernel
theorem dX8_puts_20 : decode cX8_puts 20 = .ok (.getfield 22, 3) := by decide +kernel
theorem dX8_puts_23 : decode cX8_puts 23 = .ok (.iload 5, 2) := by decide +kernel
theorem dX8_puts_25 : decode cX8_puts 25 = .ok (.aload_n 0, 1) := by decide +kernel
theorem dX8_puts_26 : decode cX8_puts 26 = .ok (.getfield 111, 3) := by decide +kernel
theorem dX8_puts_29 : decode cX8_puts 29 = .ok (.iastore, 1) := by decide +kernel
theorem dX8_puts_30 : decode cX8_puts 30 = .ok (.aload_n 0, 1) := by decide +kernel
theorem dX8_puts_31 : decode cX8_puts 31 = .ok (.getfield 25, 3) := by decide +kernel
theorem dX8_puts_34 : decode cX8_puts 34 = .ok (.iconst 2, 1) := by decide +kernel
theorem dX8_puts_35 : decode cX8_puts 35 = .ok (.iload 5, 2) := by decide +kernel
theorem dX8_puts_37 : decode cX8_puts 37 = .ok (.imul, 1) := by decide +kernel
theorem dX8_puts_38 : decode cX8_puts 38 = .ok (.aload_n 0, 1) := by decide +kernel
theorem dX8_puts_39 : decode cX8_puts 39 = .ok (.getfield 53, 3) := by decide +kernel
theorem dX8_puts_42 : decode cX8_puts 42 = .ok (.iconst 0, 1) := by decide +kernel
theorem dX8_puts_43 : decode cX8_puts 43 = .ok (.iaload, 1) := by decide +kernel
theorem dX8_puts_44 : decode cX8_puts 44 = .ok (.iastore, 1) := by decide +kernel
theorem dX8_puts_45 : decode cX8_puts 45 = .ok (.aload_n 0, 1) := by decide +kernel
theorem dX8_puts_46 : decode cX8_puts 46 = .ok (.getfield 25, 3) := by decide +kernel
theorem dX8_puts_49 : decode cX8_puts 49 = .ok (.iconst 2, 1) := by decide +kernel
theorem dX8_puts_50 : decode cX8_puts 50 = .ok (.iload 5, 2) := by decide +kernel
theorem dX8_puts_52 : decode cX8_puts 52 = .ok (.imul, 1) := by decide +kernel
theorem dX8_puts_53 : decode cX8_puts 53 = .ok (.iconst 1, 1) := by decide +kernel
theorem dX8_puts_54 : decode cX8_puts 54 = .ok (.iadd, 1) := by decide +kernel
theorem dX8_puts_55 : decode cX8_puts 55 = .ok (.aload_n 0, 1) := by decide +kernel
theorem dX8_puts_56 : decode cX8_puts 56 = .ok (.getfield 53, 3) := by decide +kernel
theorem dX8_puts_59 : decode cX8_puts 59 = .ok (.iconst 1, 1) := by decide +kernel
theorem dX8_puts_60 : decode cX8_puts 60 = .ok (.iaload, 1) := by decide +kernel
theorem dX8_puts_61 : decode cX8_puts 61 = .ok (.iastore, 1) := by decide +kernel
theorem dX8_puts_62 : decode cX8_puts 62 = .ok (.aload_n 0, 1) := by decide +kernel
theorem dX8_puts_63 : decode cX8_puts 63 = .ok (.getfield 28, 3) := by decide +kernel
theorem dX8_puts_66 : decode cX8_puts 66 = .ok (.iconst 2, 1) := by decide +kernel
theorem dX8_puts_67 : decode cX8_puts 67 = .ok (.iload 5, 2) := by decide +kernel
theorem dX8_puts_69 : decode cX8_puts 69 = .ok (.imul, 1) := by decide +kernel
theorem dX8_puts_70 : decode cX8_puts 70 = .ok (.iload_n 1, 1) := by decide +kernel
theorem dX8_puts_71 : decode cX8_puts 71 = .ok (.iastore, 1) := by decide +kernel
theorem dX8_puts_72 : decode cX8_puts 72 = .ok (.aload_n 0, 1) := by decide +kernel
theorem dX8_puts_73 : decode cX8_puts 73 = .ok (.getfield 28, 3) := by decide +kernel
theorem dX8_puts_76 : decode cX8_puts 76 = .ok (.iconst 2, 1) := by decide +kernel
theorem dX8_puts_77 : decode cX8_puts 77 = .ok (.iload 5, 2) := by decide +kernel
theorem dX8_puts_79 : decode cX8_puts 79 = .ok (.imul, 1) := by decide +kernel
theorem dX8_puts_80 : decode cX8_puts 80 = .ok (.iconst 1, 1) := by decide +kernel
theorem dX8_puts_81 : decode cX8_puts 81 = .ok (.iadd, 1) := by decide +kernel
theorem dX8_puts_82 : decode cX8_puts 82 = .ok (.iload_n 2, 1) := by decide +kernel
theorem dX8_puts_83 : decode cX8_puts 83 = .ok (.iastore, 1) := by decide +kernel
theorem dX8_puts_84 : decode cX8_puts 84 = .ok (.aload_n 0, 1) := by decide +kernel
theorem dX8_puts_85 : decode cX8_puts 85 = .ok (.getfield 31, 3) := by decide +kernel
theorem dX8_puts_88 : decode cX8_puts 88 = .ok (.iconst 2, 1) := by decide +kernel
theorem dX8_puts_89 : decode cX8_puts 89 = .ok (.iload 5, 2) := by decide +kernel
theorem dX8_puts_91 : decode cX8_puts 91 = .ok (.imul, 1) := by decide +kernel
theorem dX8_puts_92 : decode cX8_puts 92 = .ok (.iload_n 3, 1) := by decide +kernel
theorem dX8_puts_93 : decode cX8_puts 93 = .ok (.iastore, 1) := by decide +kernel
theorem dX8_puts_94 : decode cX8_puts 94 = .ok (.aload_n 0, 1) := by decide +kernel
theorem dX8_puts_95 : decode cX8_puts 95 = .ok (.getfield 31, 3) := by decide +kernel
theorem dX8_puts_98 : decode cX8_puts 98 = .ok (.iconst 2, 1) := by decide +kernel
theorem dX8_puts_99 : decode cX8_puts 99 = .ok (.iload 5, 2) := by decide +kernel
theorem dX8_puts_101 : decode cX8_puts 101 = .ok (.imul, 1) := by decide +kernel
theorem dX8_puts_102 : decode cX8_puts 102 = .ok (.iconst 1, 1) := by decide +kernel
theorem dX8_puts_103 : decode cX8_puts 103 = .ok (.iadd, 1) := by decide +kernel
theorem dX8_puts_104 : decode cX8_puts 104 = .ok (.iload 4, 2) := by decide +kernel
theorem dX8_puts_106 : decode cX8_puts 106 = .ok (.iastore, 1) := by decide +kernel
theorem dX8_puts_107 : decode cX8_puts 107 = .ok (.aload_n 0, 1) := by decide +kernel
theorem dX8_puts_108 : decode cX8_puts 108 = .ok (.dup, 1) := by decide +kernel
theorem dX8_puts_109 : decode cX8_puts 109 = .ok (.getfield 95, 3) := by decide +kernel
theorem dX8_puts_112 : decode cX8_puts 112 = .ok (.iconst 1, 1) := by decide +kernel
theorem dX8_puts_113 : decode cX8_puts 113 = .ok (.iadd, 1) := by decide +kernel
theorem dX8_puts_114 : decode cX8_puts 114 = .ok (.putfield 95, 3) := by decide +kernel
theorem dX8_puts_117 : decode cX8_puts 117 = .ok (.aload_n 0, 1) := by decide +kernel
theorem dX8_puts_118 : decode cX8_puts 118 = .ok (.getfield 53, 3) := by decide +kernel
theorem dX8_puts_121 : decode cX8_puts 121 = .ok (.iconst 0, 1) := by decide +kernel
theorem dX8_puts_122 : decode cX8_puts 122 = .ok (.dup2, 1) := by decide +kernel
theorem dX8_puts_123 : decode cX8_puts 123 = .ok (.iaload, 1) := by decide +kernel
theorem dX8_puts_124 : decode cX8_puts 124 = .ok (.iload_n 1, 1) := by decide +kernel
theorem dX8_puts_125 : decode cX8_puts 125 = .ok (.iadd, 1) := by decide +kernel
theorem dX8_puts_126 : decode cX8_puts 126 = .ok (.iastore, 1) := by decide +kernel
theorem dX8_puts_127 : decode cX8_puts 127 = .ok (.aload_n 0, 1) := by decide +kernel
theorem dX8_puts_128 : decode cX8_puts 128 = .ok (.getfield 53, 3) := by decide +kernel
theorem dX8_puts_131 : decode cX8_puts 131 = .ok (.iconst 1, 1) := by decide +kernel
theorem dX8_puts_132 : decode cX8_puts 132 = .ok (.dup2, 1) := by decide +kernel
theorem dX8_puts_133 : decode cX8_puts 133 = .ok (.iaload, 1) := by decide +kernel
theorem dX8_puts_134 : decode cX8_puts 134 = .ok (.iload_n 2, 1) := by decide +kernel
theorem dX8_puts_135 : decode cX8_puts 135 = .ok (.iadd, 1) := by decide +kernel
theorem dX8_puts_136 : decode cX8_puts 136 = .ok (.iastore, 1) := by decide +kernel
theorem dX8_puts_137 : decode cX8_puts 137 = .ok (.aload_n 0, 1) := by decide +kernel
theorem dX8_puts_138 : decode cX8_puts 138 = .ok (.getfield 53, 3) := by decide +kernel
theorem dX8_puts_141 : decode cX8_puts 141 = .ok (.iconst 0, 1) := by decide +kernel
theorem dX8_puts_142 : decode cX8_puts 142 = .ok (.iaload, 1) := by decide +kernel
theorem dX8_puts_143 : decode cX8_puts 143 = .ok (.aload_n 0, 1) := by decide +kernel
theorem dX8_puts_144 : decode cX8_puts 144 = .ok (.aload_n 0, 1) := by decide +kernel
theorem dX8_puts_145 : decode cX8_puts 145 = .ok (.getfield 111, 3) := by decide +kernel
theorem dX8_puts_148 : decode cX8_puts 148 = .ok (.iconst 0, 1) := by decide +kernel
theorem dX8_puts_149 : decode cX8_puts 149 = .ok (.invokevirtual 73, 3) := by decide +kernel
theorem dX8_puts_152 : decode cX8_puts 152 = .ok (.if_icmp .ne 27, 3) := by decide +kernel
theorem dX8_puts_155 : decode cX8_puts 155 = .ok (.aload_n 0, 1) := by decide +kernel
theorem dX8_puts_156 : decode cX8_puts 156 = .ok (.dup, 1) := by decide +kernel
theorem dX8_puts_157 : decode cX8_puts 157 = .ok (.getfield 111, 3) := by decide +kernel
theorem dX8_puts_160 : decode cX8_puts 160 = .ok (.iconst 1, 1) := by decide +kernel
theorem dX8_puts_161 : decode cX8_puts 161 = .ok (.iadd, 1) := by decide +kernel
theorem dX8_puts_162 : decode cX8_puts 162 = .ok (.putfield 111, 3) := by decide +kernel
theorem dX8_puts_165 : decode cX8_puts 165 = .ok (.aload_n 0, 1) := by decide +kernel
theorem dX8_puts_166 : decode cX8_puts 166 = .ok (.getfield 53, 3) := by decide +kernel
theorem dX8_puts_169 : decode cX8_puts 169 = .ok (.iconst 0, 1) := by decide +kernel
theorem dX8_puts_170 : decode cX8_puts 170 = .ok (.iconst 0, 1) := by decide +kernel
theorem dX8_puts_171 : decode cX8_puts 171 = .ok (.iastore, 1) := by decide +kernel
theorem dX8_puts_172 : decode cX8_puts 172 = .ok (.aload_n 0, 1) := by decide +kernel
theorem dX8_puts_173 : decode cX8_puts 173 = .ok (.getfield 53, 3) := by decide +kernel
theorem dX8_puts_176 : decode cX8_puts 176 = .ok (.iconst 1, 1) := by decide +kernel
theorem dX8_puts_177 : decode cX8_puts 177 = .ok (.iconst 0, 1) := by decide +kernel
theorem dX8_puts_178 : decode cX8_puts 178 = .ok (.iastore, 1) := by decide +kernel
theorem dX8_puts_179 : decode cX8_puts 179 = .ok (.return_, 1) := by decide +kernel
theorem dX8_splits_0 : decode cX8_splits 0 = .ok (.aload_n 0, 1) := by decide +kernel
theorem dX8_splits_1 : decode cX8_splits 1 = .ok (.aload_n 0, 1) := by decide +kernel
theorem dX8_splits_2 : decode cX8_splits 2 = .ok (.getfield 111, 3) := by decide +kernel
theorem dX8_splits_5 : decode cX8_splits 5 = .ok (.iconst 0, 1) := by decide +kernel
theorem dX8_splits_6 : decode cX8_splits 6 = .ok (.invokevirtual 73, 3) := by decide +kernel
theorem dX8_splits_9 : decode cX8_splits 9 = .ok (.aload_n 0, 1) := by decide +kernel
theorem dX8_splits_10 : decode cX8_splits 10 = .ok (.getfield 53, 3) := by decide +kernel
theorem dX8_splits_13 : decode cX8_splits 13 = .ok (.iconst 0, 1) := by decide +kernel
theorem dX8_splits_14 : decode cX8_splits 14 = .ok (.iaload, 1) := by decide +kernel
theorem dX8_splits_15 : decode cX8_splits 15 = .ok (.isub, 1) := by decide +kernel
theorem dX8_splits_16 : decode cX8_splits 16 = .ok (.istore_n 1, 1) := by decide +kernel
theorem dX8_splits_17 : decode cX8_splits 17 = .ok (.aload_n 0, 1) := by decide +kernel
theorem dX8_splits_18 : decode cX8_splits 18 = .ok (.aload_n 0, 1) := by decide +kernel
theorem dX8_splits_19 : decode cX8_splits 19 = .ok (.getfield 111, 3) := by decide +kernel
theorem dX8_splits_22 : decode cX8_splits 22 = .ok (.iconst 1, 1) := by decide +kernel
theorem dX8_splits_23 : decode cX8_splits 23 = .ok (.invokevirtual 73, 3) := by decide +kernel
theorem dX8_splits_26 : decode cX8_splits 26 = .ok (.aload_n 0, 1) := by decide +kernel
theorem dX8_splits_27 : decode cX8_splits 27 = .ok (.getfield 53, 3) := by decide +kernel
theorem dX8_splits_30 : decode cX8_splits 30 = .ok (.iconst 1, 1) := by decide +kernel
theorem dX8_splits_31 : decode cX8_splits 31 = .ok (.iaload, 1) := by decide +kernel
theorem dX8_splits_32 : decode cX8_splits 32 = .ok (.isub, 1) := by decide +kernel
theorem dX8_splits_33 : decode cX8_splits 33 = .ok (.istore_n 2, 1) := by decide +kernel
theorem dX8_splits_34 : decode cX8_splits 34 = .ok (.iload_n 1, 1) := by decide +kernel
theorem dX8_splits_35 : decode cX8_splits 35 = .ok (.aload_n 0, 1) := by decide +kernel
theorem dX8_splits_36 : decode cX8_splits 36 = .ok (.getfield 7, 3) := by decide +kernel
theorem dX8_splits_39 : decode cX8_splits 39 = .ok (.bipush 84, 2) := by decide +kernel
theorem dX8_splits_41 : decode cX8_splits 41 = .ok (.iaload, 1) := by decide +kernel
theorem dX8_splits_42 : decode cX8_splits 42 = .ok (.isub, 1) := by decide +kernel
theorem dX8_splits_43 : decode cX8_splits 43 = .ok (.istore_n 3, 1) := by decide +kernel
theorem dX8_splits_44 : decode cX8_splits 44 = .ok (.iload_n 3, 1) := by decide +kernel
theorem dX8_splits_45 : decode cX8_splits 45 = .ok (.aload_n 0, 1) := by decide +kernel
theorem dX8_splits_46 : decode cX8_splits 46 = .ok (.getfield 7, 3) := by decide +kernel
theorem dX8_splits_49 : decode cX8_splits 49 = .ok (.bipush 84, 2) := by decide +kernel
theorem dX8_splits_51 : decode cX8_splits 51 = .ok (.iaload, 1) := by decide +kernel
theorem dX8_splits_52 : decode cX8_splits 52 = .ok (.if_icmp .lt 67, 3) := by decide +kernel
theorem dX8_splits_55 : decode cX8_splits 55 = .ok (.iconst 2, 1) := by decide +kernel
theorem dX8_splits_56 : decode cX8_splits 56 = .ok (.iload_n 3, 1) := by decide +kernel
theorem dX8_splits_57 : decode cX8_splits 57 = .ok (.imul, 1) := by decide +kernel
theorem dX8_splits_58 : decode cX8_splits 58 = .ok (.iload_n 2, 1) := by decide +kernel
theorem dX8_splits_59 : decode cX8_splits 59 = .ok (.imul, 1) := by decide +kernel
theorem dX8_splits_60 : decode cX8_splits 60 = .ok (.iload_n 1, 1) := by decide +kernel
theorem dX8_splits_61 : decode cX8_splits 61 = .ok (.iadd, 1) := by decide +kernel
theorem dX8_splits_62 : decode cX8_splits 62 = .ok (.iconst 2, 1) := by decide +kernel
theorem dX8_splits_63 : decode cX8_splits 63 = .ok (.iload_n 1, 1) := by decide +kernel
theorem dX8_splits_64 : decode cX8_splits 64 = .ok (.imul, 1) := by decide +kernel
theorem dX8_splits_65 : decode cX8_splits 65 = .ok (.idiv, 1) := by decide +kernel
theorem dX8_splits_66 : decode cX8_splits 66 = .ok (.istore 4, 2) := by decide +kernel
theorem dX8_splits_68 : decode cX8_splits 68 = .ok (.iload 4, 2) := by decide +kernel
theorem dX8_splits_70 : decode cX8_splits 70 = .ok (.aload_n 0, 1) := by decide +kernel
theorem dX8_splits_71 : decode cX8_splits 71 = .ok (.getfield 7, 3) := by decide +kernel
theorem dX8_splits_74 : decode cX8_splits 74 = .ok (.bipush 84, 2) := by decide +kernel
theorem dX8_splits_76 : decode cX8_splits 76 = .ok (.iaload, 1) := by decide +kernel
theorem dX8_splits_77 : decode cX8_splits 77 = .ok (.if_icmp .lt 36, 3) := by decide +kernel
theorem dX8_splits_80 : decode cX8_splits 80 = .ok (.iload_n 2, 1) := by decide +kernel
theorem dX8_splits_81 : decode cX8_splits 81 = .ok (.iload 4, 2) := by decide +kernel
theorem dX8_splits_83 : decode cX8_splits 83 = .ok (.isub, 1) := by decide +kernel
theorem dX8_splits_84 : decode cX8_splits 84 = .ok (.aload_n 0, 1) := by decide +kernel
theorem dX8_splits_85 : decode cX8_splits 85 = .ok (.getfield 7, 3) := by decide +kernel
theorem dX8_splits_88 : decode cX8_splits 88 = .ok (.bipush 84, 2) := by decide +kernel
theorem dX8_splits_90 : decode cX8_splits 90 = .ok (.iaload, 1) := by decide +kernel
theorem dX8_splits_91 : decode cX8_splits 91 = .ok (.if_icmp .lt 22, 3) := by decide +kernel
theorem dX8_splits_94 : decode cX8_splits 94 = .ok (.aload_n 0, 1) := by decide +kernel
theorem dX8_splits_95 : decode cX8_splits 95 = .ok (.iload_n 3, 1) := by decide +kernel
theorem dX8_splits_96 : decode cX8_splits 96 = .ok (.iload 4, 2) := by decide +kernel
theorem dX8_splits_98 : decode cX8_splits 98 = .ok (.invokevirtual 131, 3) := by decide +kernel
theorem dX8_splits_101 : decode cX8_splits 101 = .ok (.ifCond .eq 12, 3) := by decide +kernel
theorem dX8_splits_104 : decode cX8_splits 104 = .ok (.aload_n 0, 1) := by decide +kernel
theorem dX8_splits_105 : decode cX8_splits 105 = .ok (.iload_n 3, 1) := by decide +kernel
theorem dX8_splits_106 : decode cX8_splits 106 = .ok (.iload 4, 2) := by decide +kernel
theorem dX8_splits_108 : decode cX8_splits 108 = .ok (.invokevirtual 134, 3) := by decide +kernel
theorem dX8_splits_111 : decode cX8_splits 111 = .ok (.iconst 1, 1) := by decide +kernel
theorem dX8_splits_112 : decode cX8_splits 112 = .ok (.ireturn, 1) := by decide +kernel
theorem dX8_splits_113 : decode cX8_splits 113 = .ok (.iinc 3 (-1), 3) := by decide +kernel
theorem dX8_splits_116 : decode cX8_splits 116 = .ok (.goto (-72), 3) := by decide +kernel
theorem dX8_splits_119 : decode cX8_splits 119 = .ok (.iconst 0, 1) := by decide +kernel
theorem dX8_splits_120 : decode cX8_splits 120 = .ok (.ireturn, 1) := by decide +kernel
theorem dX8_goesOn_0 : decode cX8_goesOn 0 = .ok (.aload_n 0, 1) := by decide +kernel
theorem dX8_goesOn_1 : decode cX8_goesOn 1 = .ok (.getfield 111, 3) := by decide +kernel
theorem dX8_goesOn_4 : decode cX8_goesOn 4 = .ok (.aload_n 0, 1) := by decide +kernel
theorem dX8_goesOn_5 : decode cX8_goesOn 5 = .ok (.getfield 7, 3) := by decide +kernel
theorem dX8_goesOn_8 : decode cX8_goesOn 8 = .ok (.iconst 0, 1) := by decide +kernel
theorem dX8_goesOn_9 : decode cX8_goesOn 9 = .ok (.iaload, 1) := by decide +kernel
theorem dX8_goesOn_10 : decode cX8_goesOn 10 = .ok (.if_icmp .ne 5, 3) := by decide +kernel
theorem dX8_goesOn_13 : decode cX8_goesOn 13 = .ok (.iconst 0, 1) := by decide +kernel
theorem dX8_goesOn_14 : decode cX8_goesOn 14 = .ok (.ireturn, 1) := by decide +kernel
theorem dX8_goesOn_15 : decode cX8_goesOn 15 = .ok (.aload_n 0, 1) := by decide +kernel
theorem dX8_goesOn_16 : decode cX8_goesOn 16 = .ok (.getfield 53, 3) := by decide +kernel
theorem dX8_goesOn_19 : decode cX8_goesOn 19 = .ok (.iconst 0, 1) := by decide +kernel
theorem dX8_goesOn_20 : decode cX8_goesOn 20 = .ok (.iaload, 1) := by decide +kernel
theorem dX8_goesOn_21 : decode cX8_goesOn 21 = .ok (.ifCond .ne 16, 3) := by decide +kernel
theorem dX8_goesOn_24 : decode cX8_goesOn 24 = .ok (.aload_n 0, 1) := by decide +kernel
theorem dX8_goesOn_25 : decode cX8_goesOn 25 = .ok (.getfield 53, 3) := by decide +kernel
theorem dX8_goesOn_28 : decode cX8_goesOn 28 = .ok (.iconst 1, 1) := by decide +kernel
theorem dX8_goesOn_29 : decode cX8_goesOn 29 = .ok (.iaload, 1) := by decide +kernel
theorem dX8_goesOn_30 : decode cX8_goesOn 30 = .ok (.ifCond .ne 7, 3) := by decide +kernel
theorem dX8_goesOn_33 : decode cX8_goesOn 33 = .ok (.iconst 1, 1) := by decide +kernel
theorem dX8_goesOn_34 : decode cX8_goesOn 34 = .ok (.goto 4, 3) := by decide +kernel
theorem dX8_goesOn_37 : decode cX8_goesOn 37 = .ok (.iconst 0, 1) := by decide +kernel
theorem dX8_goesOn_38 : decode cX8_goesOn 38 = .ok (.istore_n 1, 1) := by decide +kernel
theorem dX8_goesOn_39 : decode cX8_goesOn 39 = .ok (.aload_n 0, 1) := by decide +kernel
theorem dX8_goesOn_40 : decode cX8_goesOn 40 = .ok (.invokevirtual 101, 3) := by decide +kernel
theorem dX8_goesOn_43 : decode cX8_goesOn 43 = .ok (.ifCond .le 25, 3) := by decide +kernel
theorem dX8_goesOn_46 : decode cX8_goesOn 46 = .ok (.iload_n 1, 1) := by decide +kernel
theorem dX8_goesOn_47 : decode cX8_goesOn 47 = .ok (.ifCond .eq 21, 3) := by decide +kernel
theorem dX8_goesOn_50 : decode cX8_goesOn 50 = .ok (.aload_n 0, 1) := by decide +kernel
theorem dX8_goesOn_51 : decode cX8_goesOn 51 = .ok (.getfield 7, 3) := by decide +kernel
theorem dX8_goesOn_54 : decode cX8_goesOn 54 = .ok (.bipush 61, 2) := by decide +kernel
theorem dX8_goesOn_56 : decode cX8_goesOn 56 = .ok (.aload_n 0, 1) := by decide +kernel
theorem dX8_goesOn_57 : decode cX8_goesOn 57 = .ok (.getfield 111, 3) := by decide +kernel
theorem dX8_goesOn_60 : decode cX8_goesOn 60 = .ok (.iadd, 1) := by decide +kernel
theorem dX8_goesOn_61 : decode cX8_goesOn 61 = .ok (.iaload, 1) := by decide +kernel
theorem dX8_goesOn_62 : decode cX8_goesOn 62 = .ok (.iconst 1, 1) := by decide +kernel
theorem dX8_goesOn_63 : decode cX8_goesOn 63 = .ok (.if_icmp .ne 5, 3) := by decide +kernel
theorem dX8_goesOn_66 : decode cX8_goesOn 66 = .ok (.iconst 0, 1) := by decide +kernel
theorem dX8_goesOn_67 : decode cX8_goesOn 67 = .ok (.ireturn, 1) := by decide +kernel
theorem dX8_goesOn_68 : decode cX8_goesOn 68 = .ok (.aload_n 0, 1) := by decide +kernel
theorem dX8_goesOn_69 : decode cX8_goesOn 69 = .ok (.aload_n 0, 1) := by decide +kernel
theorem dX8_goesOn_70 : decode cX8_goesOn 70 = .ok (.getfield 111, 3) := by decide +kernel
theorem dX8_goesOn_73 : decode cX8_goesOn 73 = .ok (.iconst 0, 1) := by decide +kernel
theorem dX8_goesOn_74 : decode cX8_goesOn 74 = .ok (.invokevirtual 73, 3) := by decide +kernel
theorem dX8_goesOn_77 : decode cX8_goesOn 77 = .ok (.aload_n 0, 1) := by decide +kernel
theorem dX8_goesOn_78 : decode cX8_goesOn 78 = .ok (.getfield 53, 3) := by decide +kernel
theorem dX8_goesOn_81 : decode cX8_goesOn 81 = .ok (.iconst 0, 1) := by decide +kernel
theorem dX8_goesOn_82 : decode cX8_goesOn 82 = .ok (.iaload, 1) := by decide +kernel
theorem dX8_goesOn_83 : decode cX8_goesOn 83 = .ok (.isub, 1) := by decide +kernel
theorem dX8_goesOn_84 : decode cX8_goesOn 84 = .ok (.istore_n 2, 1) := by decide +kernel
theorem dX8_goesOn_85 : decode cX8_goesOn 85 = .ok (.aload_n 0, 1) := by decide +kernel
theorem dX8_goesOn_86 : decode cX8_goesOn 86 = .ok (.aload_n 0, 1) := by decide +kernel
theorem dX8_goesOn_87 : decode cX8_goesOn 87 = .ok (.getfield 111, 3) := by decide +kernel
theorem dX8_goesOn_90 : decode cX8_goesOn 90 = .ok (.iconst 1, 1) := by decide +kernel
theorem dX8_goesOn_91 : decode cX8_goesOn 91 = .ok (.invokevirtual 73, 3) := by decide +kernel
theorem dX8_goesOn_94 : decode cX8_goesOn 94 = .ok (.aload_n 0, 1) := by decide +kernel
theorem dX8_goesOn_95 : decode cX8_goesOn 95 = .ok (.getfield 53, 3) := by decide +kernel
theorem dX8_goesOn_98 : decode cX8_goesOn 98 = .ok (.iconst 1, 1) := by decide +kernel
theorem dX8_goesOn_99 : decode cX8_goesOn 99 = .ok (.iaload, 1) := by decide +kernel
theorem dX8_goesOn_100 : decode cX8_goesOn 100 = .ok (.isub, 1) := by decide +kernel
theorem dX8_goesOn_101 : decode cX8_goesOn 101 = .ok (.istore_n 3, 1) := by decide +kernel
theorem dX8_goesOn_102 : decode cX8_goesOn 102 = .ok (.aload_n 0, 1) := by decide +kernel
theorem dX8_goesOn_103 : decode cX8_goesOn 103 = .ok (.iload_n 2, 1) := by decide +kernel
theorem dX8_goesOn_104 : decode cX8_goesOn 104 = .ok (.iload_n 3, 1) := by decide +kernel
theorem dX8_goesOn_105 : decode cX8_goesOn 105 = .ok (.invokevirtual 131, 3) := by decide +kernel
theorem dX8_goesOn_108 : decode cX8_goesOn 108 = .ok (.ifCond .eq 11, 3) := by decide +kernel
theorem dX8_goesOn_111 : decode cX8_goesOn 111 = .ok (.aload_n 0, 1) := by decide +kernel
theorem dX8_goesOn_112 : decode cX8_goesOn 112 = .ok (.iload_n 2, 1) := by decide +kernel
theorem dX8_goesOn_113 : decode cX8_goesOn 113 = .ok (.iload_n 3, 1) := by decide +kernel
theorem dX8_goesOn_114 : decode cX8_goesOn 114 = .ok (.invokevirtual 134, 3) := by decide +kernel
theorem dX8_goesOn_117 : decode cX8_goesOn 117 = .ok (.iconst 1, 1) := by decide +kernel
theorem dX8_goesOn_118 : decode cX8_goesOn 118 = .ok (.ireturn, 1) := by decide +kernel
theorem dX8_goesOn_119 : decode cX8_goesOn 119 = .ok (.aload_n 0, 1) := by decide +kernel
theorem dX8_goesOn_120 : decode cX8_goesOn 120 = .ok (.getfield 7, 3) := by decide +kernel
theorem dX8_goesOn_123 : decode cX8_goesOn 123 = .ok (.bipush 41, 2) := by decide +kernel
theorem dX8_goesOn_125 : decode cX8_goesOn 125 = .ok (.aload_n 0, 1) := by decide +kernel
theorem dX8_goesOn_126 : decode cX8_goesOn 126 = .ok (.getfield 111, 3) := by decide +kernel
theorem dX8_goesOn_129 : decode cX8_goesOn 129 = .ok (.iadd, 1) := by decide +kernel
theorem dX8_goesOn_130 : decode cX8_goesOn 130 = .ok (.iaload, 1) := by decide +kernel
theorem dX8_goesOn_131 : decode cX8_goesOn 131 = .ok (.iconst 1, 1) := by decide +kernel
theorem dX8_goesOn_132 : decode cX8_goesOn 132 = .ok (.if_icmp .ne 7, 3) := by decide +kernel
theorem dX8_goesOn_135 : decode cX8_goesOn 135 = .ok (.iconst 1, 1) := by decide +kernel
theorem dX8_goesOn_136 : decode cX8_goesOn 136 = .ok (.goto 4, 3) := by decide +kernel
theorem dX8_goesOn_139 : decode cX8_goesOn 139 = .ok (.iconst 0, 1) := by decide +kernel
theorem dX8_goesOn_140 : decode cX8_goesOn 140 = .ok (.istore 4, 2) := by decide +kernel
theorem dX8_goesOn_142 : decode cX8_goesOn 142 = .ok (.iload 4, 2) := by decide +kernel
theorem dX8_goesOn_144 : decode cX8_goesOn 144 = .ok (.ifCond .ne 10, 3) := by decide +kernel
theorem dX8_goesOn_147 : decode cX8_goesOn 147 = .ok (.aload_n 0, 1) := by decide +kernel
theorem dX8_goesOn_148 : decode cX8_goesOn 148 = .ok (.invokevirtual 137, 3) := by decide +kernel
theorem dX8_goesOn_151 : decode cX8_goesOn 151 = .ok (.ifCond .ne 26, 3) := by decide +kernel
theorem dX8_goesOn_154 : decode cX8_goesOn 154 = .ok (.aload_n 0, 1) := by decide +kernel
theorem dX8_goesOn_155 : decode cX8_goesOn 155 = .ok (.invokevirtual 101, 3) := by decide +kernel
theorem dX8_goesOn_158 : decode cX8_goesOn 158 = .ok (.ifCond .ne 19, 3) := by decide +kernel
theorem dX8_goesOn_161 : decode cX8_goesOn 161 = .ok (.aload_n 0, 1) := by decide +kernel
theorem dX8_goesOn_162 : decode cX8_goesOn 162 = .ok (.iload_n 2, 1) := by decide +kernel
theorem dX8_goesOn_163 : decode cX8_goesOn 163 = .ok (.iload_n 3, 1) := by decide +kernel
theorem dX8_goesOn_164 : decode cX8_goesOn 164 = .ok (.invokevirtual 134, 3) := by decide +kernel
theorem dX8_goesOn_167 : decode cX8_goesOn 167 = .ok (.aload_n 0, 1) := by decide +kernel
theorem dX8_goesOn_168 : decode cX8_goesOn 168 = .ok (.getfield 37, 3) := by decide +kernel
theorem dX8_goesOn_171 : decode cX8_goesOn 171 = .ok (.aload_n 0, 1) := by decide +kernel
theorem dX8_goesOn_172 : decode cX8_goesOn 172 = .ok (.getfield 98, 3) := by decide +kernel
theorem dX8_goesOn_175 : decode cX8_goesOn 175 = .ok (.iconst 1, 1) := by decide +kernel
theorem dX8_goesOn_176 : decode cX8_goesOn 176 = .ok (.bastore, 1) := by decide +kernel
theorem dX8_goesOn_177 : decode cX8_goesOn 177 = .ok (.iconst 0, 1) := by decide +kernel
theorem dX8_goesOn_178 : decode cX8_goesOn 178 = .ok (.ireturn, 1) := by decide +kernel
theorem dX8_closes_0 : decode cX8_closes 0 = .ok (.iconst 2, 1) := by decide +kernel
theorem dX8_closes_1 : decode cX8_closes 1 = .ok (.aload_n 0, 1) := by decide +kernel
theorem dX8_closes_2 : decode cX8_closes 2 = .ok (.getfield 98, 3) := by decide +kernel
theorem dX8_closes_5 : decode cX8_closes 5 = .ok (.imul, 1) := by decide +kernel
theorem dX8_closes_6 : decode cX8_closes 6 = .ok (.iload_n 1, 1) := by decide +kernel
theorem dX8_closes_7 : decode cX8_closes 7 = .ok (.iadd, 1) := by decide +kernel
theorem dX8_closes_8 : decode cX8_closes 8 = .ok (.istore_n 2, 1) := by decide +kernel
theorem dX8_closes_9 : decode cX8_closes 9 = .ok (.aload_n 0, 1) := by decide +kernel
theorem dX8_closes_10 : decode cX8_closes 10 = .ok (.getfield 95, 3) := by decide +kernel
theorem dX8_closes_13 : decode cX8_closes 13 = .ok (.iconst 1, 1) := by decide +kernel
theorem dX8_closes_14 : decode cX8_closes 14 = .ok (.isub, 1) := by decide +kernel
theorem dX8_closes_15 : decode cX8_closes 15 = .ok (.istore_n 3, 1) := by decide +kernel
theorem dX8_closes_16 : decode cX8_closes 16 = .ok (.aload_n 0, 1) := by decide +kernel
theorem dX8_closes_17 : decode cX8_closes 17 = .ok (.getfield 50, 3) := by decide +kernel
theorem dX8_closes_20 : decode cX8_closes 20 = .ok (.iload_n 2, 1) := by decide +kernel
theorem dX8_closes_21 : decode cX8_closes 21 = .ok (.iaload, 1) := by decide +kernel
theorem dX8_closes_22 : decode cX8_closes 22 = .ok (.istore 4, 2) := by decide +kernel
theorem dX8_closes_24 : decode cX8_closes 24 = .ok (.aload_n 0, 1) := by decide +kernel
theorem dX8_closes_25 : decode cX8_closes 25 = .ok (.getfield 41, 3) := by decide +kernel
theorem dX8_closes_28 : decode cX8_closes 28 = .ok (.iload_n 2, 1) := by decide +kernel
theorem dX8_closes_29 : decode cX8_closes 29 = .ok (.iconst 0, 1) := by decide +kernel
theorem dX8_closes_30 : decode cX8_closes 30 = .ok (.iastore, 1) := by decide +kernel
theorem dX8_closes_31 : decode cX8_closes 31 = .ok (.aload_n 0, 1) := by decide +kernel
theorem dX8_closes_32 : decode cX8_closes 32 = .ok (.invokevirtual 101, 3) := by decide +kernel
theorem dX8_closes_35 : decode cX8_closes 35 = .ok (.ifCond .le 64, 3) := by decide +kernel
theorem dX8_closes_38 : decode cX8_closes 38 = .ok (.aload_n 0, 1) := by decide +kernel
theorem dX8_closes_39 : decode cX8_closes 39 = .ok (.getfield 41, 3) := by decide +kernel
theorem dX8_closes_42 : decode cX8_closes 42 = .ok (.iload_n 2, 1) := by decide +kernel
theorem dX8_closes_43 : decode cX8_closes 43 = .ok (.aload_n 0, 1) := by decide +kernel
theorem dX8_closes_44 : decode cX8_closes 44 = .ok (.getfield 31, 3) := by decide +kernel
theorem dX8_closes_47 : decode cX8_closes 47 = .ok (.iconst 2, 1) := by decide +kernel
theorem dX8_closes_48 : decode cX8_closes 48 = .ok (.iload_n 3, 1) := by decide +kernel
theorem dX8_closes_49 : decode cX8_closes 49 = .ok (.imul, 1) := by decide +kernel
theorem dX8_closes_50 : decode cX8_closes 50 = .ok (.iload_n 1, 1) := by decide +kernel
theorem dX8_closes_51 : decode cX8_closes 51 = .ok (.iadd, 1) := by decide +kernel
theorem dX8_closes_52 : decode cX8_closes 52 = .ok (.iaload, 1) := by decide +kernel
theorem dX8_closes_53 : decode cX8_closes 53 = .ok (.aload_n 0, 1) := by decide +kernel
theorem dX8_closes_54 : decode cX8_closes 54 = .ok (.getfield 28, 3) := by decide +kernel
theorem dX8_closes_57 : decode cX8_closes 57 = .ok (.iconst 2, 1) := by decide +kernel
theorem dX8_closes_58 : decode cX8_closes 58 = .ok (.iload_n 3, 1) := by decide +kernel
theorem dX8_closes_59 : decode cX8_closes 59 = .ok (.imul, 1) := by decide +kernel
theorem dX8_closes_60 : decode cX8_closes 60 = .ok (.iload_n 1, 1) := by decide +kernel
theorem dX8_closes_61 : decode cX8_closes 61 = .ok (.iadd, 1) := by decide +kernel
theorem dX8_closes_62 : decode cX8_closes 62 = .ok (.iaload, 1) := by decide +kernel
theorem dX8_closes_63 : decode cX8_closes 63 = .ok (.iadd, 1) := by decide +kernel
theorem dX8_closes_64 : decode cX8_closes 64 = .ok (.iastore, 1) := by decide +kernel
theorem dX8_closes_65 : decode cX8_closes 65 = .ok (.aload_n 0, 1) := by decide +kernel
theorem dX8_closes_66 : decode cX8_closes 66 = .ok (.iload_n 1, 1) := by decide +kernel
theorem dX8_closes_67 : decode cX8_closes 67 = .ok (.aload_n 0, 1) := by decide +kernel
theorem dX8_closes_68 : decode cX8_closes 68 = .ok (.getfield 22, 3) := by decide +kernel
theorem dX8_closes_71 : decode cX8_closes 71 = .ok (.iload_n 3, 1) := by decide +kernel
theorem dX8_closes_72 : decode cX8_closes 72 = .ok (.iaload, 1) := by decide +kernel
theorem dX8_closes_73 : decode cX8_closes 73 = .ok (.aload_n 0, 1) := by decide +kernel
theorem dX8_closes_74 : decode cX8_closes 74 = .ok (.getfield 25, 3) := by decide +kernel
theorem dX8_closes_77 : decode cX8_closes 77 = .ok (.iconst 2, 1) := by decide +kernel
theorem dX8_closes_78 : decode cX8_closes 78 = .ok (.iload_n 3, 1) := by decide +kernel
theorem dX8_closes_79 : decode cX8_closes 79 = .ok (.imul, 1) := by decide +kernel
theorem dX8_closes_80 : decode cX8_closes 80 = .ok (.iload_n 1, 1) := by decide +kernel
theorem dX8_closes_81 : decode cX8_closes 81 = .ok (.iadd, 1) := by decide +kernel
theorem dX8_closes_82 : decode cX8_closes 82 = .ok (.iaload, 1) := by decide +kernel
theorem dX8_closes_83 : decode cX8_closes 83 = .ok (.aload_n 0, 1) := by decide +kernel
theorem dX8_closes_84 : decode cX8_closes 84 = .ok (.getfield 28, 3) := by decide +kernel
theorem dX8_closes_87 : decode cX8_closes 87 = .ok (.iconst 2, 1) := by decide +kernel
theorem dX8_closes_88 : decode cX8_closes 88 = .ok (.iload_n 3, 1) := by decide +kernel
theorem dX8_closes_89 : decode cX8_closes 89 = .ok (.imul, 1) := by decide +kernel
theorem dX8_closes_90 : decode cX8_closes 90 = .ok (.iload_n 1, 1) := by decide +kernel
theorem dX8_closes_91 : decode cX8_closes 91 = .ok (.iadd, 1) := by decide +kernel
theorem dX8_closes_92 : decode cX8_closes 92 = .ok (.iaload, 1) := by decide +kernel
theorem dX8_closes_93 : decode cX8_closes 93 = .ok (.iadd, 1) := by decide +kernel
theorem dX8_closes_94 : decode cX8_closes 94 = .ok (.invokevirtual 91, 3) := by decide +kernel
theorem dX8_closes_97 : decode cX8_closes 97 = .ok (.istore 4, 2) := by decide +kernel
theorem dX8_closes_99 : decode cX8_closes 99 = .ok (.aload_n 0, 1) := by decide +kernel
theorem dX8_closes_100 : decode cX8_closes 100 = .ok (.iload_n 1, 1) := by decide +kernel
theorem dX8_closes_101 : decode cX8_closes 101 = .ok (.iload 4, 2) := by decide +kernel
theorem dX8_closes_103 : decode cX8_closes 103 = .ok (.invokevirtual 114, 3) := by decide +kernel
theorem dX8_closes_106 : decode cX8_closes 106 = .ok (.istore 5, 2) := by decide +kernel
theorem dX8_closes_108 : decode cX8_closes 108 = .ok (.iconst 0, 1) := by decide +kernel
theorem dX8_closes_109 : decode cX8_closes 109 = .ok (.istore 6, 2) := by decide +kernel
theorem dX8_closes_111 : decode cX8_closes 111 = .ok (.aload_n 0, 1) := by decide +kernel
theorem dX8_closes_112 : decode cX8_closes 112 = .ok (.iload_n 1, 1) := by decide +kernel
theorem dX8_closes_113 : decode cX8_closes 113 = .ok (.iload 4, 2) := by decide +kernel
theorem dX8_closes_115 : decode cX8_closes 115 = .ok (.invokevirtual 117, 3) := by decide +kernel
theorem dX8_closes_118 : decode cX8_closes 118 = .ok (.istore 7, 2) := by decide +kernel
theorem dX8_closes_120 : decode cX8_closes 120 = .ok (.iload 6, 2) := by decide +kernel
theorem dX8_closes_122 : decode cX8_closes 122 = .ok (.iload 7, 2) := by decide +kernel
theorem dX8_closes_124 : decode cX8_closes 124 = .ok (.if_icmp .ge 35, 3) := by decide +kernel
theorem dX8_closes_127 : decode cX8_closes 127 = .ok (.aload_n 0, 1) := by decide +kernel
theorem dX8_closes_128 : decode cX8_closes 128 = .ok (.getfield 41, 3) := by decide +kernel
theorem dX8_closes_131 : decode cX8_closes 131 = .ok (.iload_n 2, 1) := by decide +kernel
theorem dX8_closes_132 : decode cX8_closes 132 = .ok (.iaload, 1) := by decide +kernel
theorem dX8_closes_133 : decode cX8_closes 133 = .ok (.aload_n 0, 1) := by decide +kernel
theorem dX8_closes_134 : decode cX8_closes 134 = .ok (.iload 5, 2) := by decide +kernel
theorem dX8_closes_136 : decode cX8_closes 136 = .ok (.iload 6, 2) := by decide +kernel
theorem dX8_closes_138 : decode cX8_closes 138 = .ok (.isub, 1) := by decide +kernel
theorem dX8_closes_139 : decode cX8_closes 139 = .ok (.invokevirtual 124, 3) := by decide +kernel
theorem dX8_closes_142 : decode cX8_closes 142 = .ok (.iadd, 1) := by decide +kernel
theorem dX8_closes_143 : decode cX8_closes 143 = .ok (.aload_n 0, 1) := by decide +kernel
theorem dX8_closes_144 : decode cX8_closes 144 = .ok (.getfield 7, 3) := by decide +kernel
theorem dX8_closes_147 : decode cX8_closes 147 = .ok (.bipush 81, 2) := by decide +kernel
theorem dX8_closes_149 : decode cX8_closes 149 = .ok (.iaload, 1) := by decide +kernel
theorem dX8_closes_150 : decode cX8_closes 150 = .ok (.if_icmp .le 9, 3) := by decide +kernel
theorem dX8_closes_153 : decode cX8_closes 153 = .ok (.iinc 6 1, 3) := by decide +kernel
theorem dX8_closes_156 : decode cX8_closes 156 = .ok (.goto (-36), 3) := by decide +kernel
theorem dX8_closes_159 : decode cX8_closes 159 = .ok (.aload_n 0, 1) := by decide +kernel
theorem dX8_closes_160 : decode cX8_closes 160 = .ok (.getfield 44, 3) := by decide +kernel
theorem dX8_closes_163 : decode cX8_closes 163 = .ok (.iload_n 2, 1) := by decide +kernel
theorem dX8_closes_164 : decode cX8_closes 164 = .ok (.iload 5, 2) := by decide +kernel
theorem dX8_closes_166 : decode cX8_closes 166 = .ok (.iload 6, 2) := by decide +kernel
theorem dX8_closes_168 : decode cX8_closes 168 = .ok (.isub, 1) := by decide +kernel
theorem dX8_closes_169 : decode cX8_closes 169 = .ok (.iastore, 1) := by decide +kernel
theorem dX8_closes_170 : decode cX8_closes 170 = .ok (.aload_n 0, 1) := by decide +kernel
theorem dX8_closes_171 : decode cX8_closes 171 = .ok (.getfield 47, 3) := by decide +kernel
theorem dX8_closes_174 : decode cX8_closes 174 = .ok (.iload_n 2, 1) := by decide +kernel
theorem dX8_closes_175 : decode cX8_closes 175 = .ok (.iload 6, 2) := by decide +kernel
theorem dX8_closes_177 : decode cX8_closes 177 = .ok (.iastore, 1) := by decide +kernel
theorem dX8_closes_178 : decode cX8_closes 178 = .ok (.aload_n 0, 1) := by decide +kernel
theorem dX8_closes_179 : decode cX8_closes 179 = .ok (.getfield 50, 3) := by decide +kernel
theorem dX8_closes_182 : decode cX8_closes 182 = .ok (.iload_n 2, 1) := by decide +kernel
theorem dX8_closes_183 : decode cX8_closes 183 = .ok (.iconst 2, 1) := by decide +kernel
theorem dX8_closes_184 : decode cX8_closes 184 = .ok (.iadd, 1) := by decide +kernel
theorem dX8_closes_185 : decode cX8_closes 185 = .ok (.iload 4, 2) := by decide +kernel
theorem dX8_closes_187 : decode cX8_closes 187 = .ok (.iastore, 1) := by decide +kernel
theorem dX8_closes_188 : decode cX8_closes 188 = .ok (.return_, 1) := by decide +kernel
theorem dX8_sets_0 : decode cX8_sets 0 = .ok (.aload_n 0, 1) := by decide +kernel
theorem dX8_sets_1 : decode cX8_sets 1 = .ok (.iconst 0, 1) := by decide +kernel
theorem dX8_sets_2 : decode cX8_sets 2 = .ok (.putfield 98, 3) := by decide +kernel
theorem dX8_sets_5 : decode cX8_sets 5 = .ok (.aload_n 0, 1) := by decide +kernel
theorem dX8_sets_6 : decode cX8_sets 6 = .ok (.iconst 0, 1) := by decide +kernel
theorem dX8_sets_7 : decode cX8_sets 7 = .ok (.putfield 95, 3) := by decide +kernel
theorem dX8_sets_10 : decode cX8_sets 10 = .ok (.aload_n 0, 1) := by decide +kernel
theorem dX8_sets_11 : decode cX8_sets 11 = .ok (.iconst 0, 1) := by decide +kernel
theorem dX8_sets_12 : decode cX8_sets 12 = .ok (.putfield 111, 3) := by decide +kernel
theorem dX8_sets_15 : decode cX8_sets 15 = .ok (.aload_n 0, 1) := by decide +kernel
theorem dX8_sets_16 : decode cX8_sets 16 = .ok (.getfield 53, 3) := by decide +kernel
theorem dX8_sets_19 : decode cX8_sets 19 = .ok (.iconst 0, 1) := by decide +kernel
theorem dX8_sets_20 : decode cX8_sets 20 = .ok (.iconst 0, 1) := by decide +kernel
theorem dX8_sets_21 : decode cX8_sets 21 = .ok (.iastore, 1) := by decide +kernel
theorem dX8_sets_22 : decode cX8_sets 22 = .ok (.aload_n 0, 1) := by decide +kernel
theorem dX8_sets_23 : decode cX8_sets 23 = .ok (.getfield 53, 3) := by decide +kernel
theorem dX8_sets_26 : decode cX8_sets 26 = .ok (.iconst 1, 1) := by decide +kernel
theorem dX8_sets_27 : decode cX8_sets 27 = .ok (.iconst 0, 1) := by decide +kernel
theorem dX8_sets_28 : decode cX8_sets 28 = .ok (.iastore, 1) := by decide +kernel
theorem dX8_sets_29 : decode cX8_sets 29 = .ok (.aload_n 0, 1) := by decide +kernel
theorem dX8_sets_30 : decode cX8_sets 30 = .ok (.getfield 50, 3) := by decide +kernel
theorem dX8_sets_33 : decode cX8_sets 33 = .ok (.iconst 0, 1) := by decide +kernel
theorem dX8_sets_34 : decode cX8_sets 34 = .ok (.iconst 0, 1) := by decide +kernel
theorem dX8_sets_35 : decode cX8_sets 35 = .ok (.iastore, 1) := by decide +kernel
theorem dX8_sets_36 : decode cX8_sets 36 = .ok (.aload_n 0, 1) := by decide +kernel
theorem dX8_sets_37 : decode cX8_sets 37 = .ok (.getfield 50, 3) := by decide +kernel
theorem dX8_sets_40 : decode cX8_sets 40 = .ok (.iconst 1, 1) := by decide +kernel
theorem dX8_sets_41 : decode cX8_sets 41 = .ok (.iconst 0, 1) := by decide +kernel
theorem dX8_sets_42 : decode cX8_sets 42 = .ok (.iastore, 1) := by decide +kernel
theorem dX8_sets_43 : decode cX8_sets 43 = .ok (.aload_n 0, 1) := by decide +kernel
theorem dX8_sets_44 : decode cX8_sets 44 = .ok (.getfield 7, 3) := by decide +kernel
theorem dX8_sets_47 : decode cX8_sets 47 = .ok (.iconst 0, 1) := by decide +kernel
theorem dX8_sets_48 : decode cX8_sets 48 = .ok (.iaload, 1) := by decide +kernel
theorem dX8_sets_49 : decode cX8_sets 49 = .ok (.ifCond .le 7, 3) := by decide +kernel
theorem dX8_sets_52 : decode cX8_sets 52 = .ok (.iconst 1, 1) := by decide +kernel
theorem dX8_sets_53 : decode cX8_sets 53 = .ok (.goto 4, 3) := by decide +kernel
theorem dX8_sets_56 : decode cX8_sets 56 = .ok (.iconst 0, 1) := by decide +kernel
theorem dX8_sets_57 : decode cX8_sets 57 = .ok (.istore_n 1, 1) := by decide +kernel
theorem dX8_sets_58 : decode cX8_sets 58 = .ok (.iload_n 1, 1) := by decide +kernel
theorem dX8_sets_59 : decode cX8_sets 59 = .ok (.ifCond .eq 114, 3) := by decide +kernel
theorem dX8_sets_62 : decode cX8_sets 62 = .ok (.aload_n 0, 1) := by decide +kernel
theorem dX8_sets_63 : decode cX8_sets 63 = .ok (.getfield 34, 3) := by decide +kernel
theorem dX8_sets_66 : decode cX8_sets 66 = .ok (.aload_n 0, 1) := by decide +kernel
theorem dX8_sets_67 : decode cX8_sets 67 = .ok (.getfield 98, 3) := by decide +kernel
theorem dX8_sets_70 : decode cX8_sets 70 = .ok (.aload_n 0, 1) := by decide +kernel
theorem dX8_sets_71 : decode cX8_sets 71 = .ok (.getfield 95, 3) := by decide +kernel
theorem dX8_sets_74 : decode cX8_sets 74 = .ok (.iastore, 1) := by decide +kernel
theorem dX8_sets_75 : decode cX8_sets 75 = .ok (.aload_n 0, 1) := by decide +kernel
theorem dX8_sets_76 : decode cX8_sets 76 = .ok (.getfield 37, 3) := by decide +kernel
theorem dX8_sets_79 : decode cX8_sets 79 = .ok (.aload_n 0, 1) := by decide +kernel
theorem dX8_sets_80 : decode cX8_sets 80 = .ok (.getfield 98, 3) := by decide +kernel
theorem dX8_sets_83 : decode cX8_sets 83 = .ok (.iconst 0, 1) := by decide +kernel
theorem dX8_sets_84 : decode cX8_sets 84 = .ok (.bastore, 1) := by decide +kernel
theorem dX8_sets_85 : decode cX8_sets 85 = .ok (.iconst 1, 1) := by decide +kernel
theorem dX8_sets_86 : decode cX8_sets 86 = .ok (.istore_n 2, 1) := by decide +kernel
theorem dX8_sets_87 : decode cX8_sets 87 = .ok (.iload_n 2, 1) := by decide +kernel
theorem dX8_sets_88 : decode cX8_sets 88 = .ok (.ifCond .eq 11, 3) := by decide +kernel
theorem dX8_sets_91 : decode cX8_sets 91 = .ok (.aload_n 0, 1) := by decide +kernel
theorem dX8_sets_92 : decode cX8_sets 92 = .ok (.invokevirtual 141, 3) := by decide +kernel
theorem dX8_sets_95 : decode cX8_sets 95 = .ok (.istore_n 2, 1) := by decide +kernel
theorem dX8_sets_96 : decode cX8_sets 96 = .ok (.goto (-9), 3) := by decide +kernel
theorem dX8_sets_99 : decode cX8_sets 99 = .ok (.aload_n 0, 1) := by decide +kernel
theorem dX8_sets_100 : decode cX8_sets 100 = .ok (.iconst 0, 1) := by decide +kernel
theorem dX8_sets_101 : decode cX8_sets 101 = .ok (.invokevirtual 144, 3) := by decide +kernel
theorem dX8_sets_104 : decode cX8_sets 104 = .ok (.aload_n 0, 1) := by decide +kernel
theorem dX8_sets_105 : decode cX8_sets 105 = .ok (.iconst 1, 1) := by decide +kernel
theorem dX8_sets_106 : decode cX8_sets 106 = .ok (.invokevirtual 144, 3) := by decide +kernel
theorem dX8_sets_109 : decode cX8_sets 109 = .ok (.aload_n 0, 1) := by decide +kernel
theorem dX8_sets_110 : decode cX8_sets 110 = .ok (.dup, 1) := by decide +kernel
theorem dX8_sets_111 : decode cX8_sets 111 = .ok (.getfield 98, 3) := by decide +kernel
theorem dX8_sets_114 : decode cX8_sets 114 = .ok (.iconst 1, 1) := by decide +kernel
theorem dX8_sets_115 : decode cX8_sets 115 = .ok (.iadd, 1) := by decide +kernel
theorem dX8_sets_116 : decode cX8_sets 116 = .ok (.putfield 98, 3) := by decide +kernel
theorem dX8_sets_119 : decode cX8_sets 119 = .ok (.aload_n 0, 1) := by decide +kernel
theorem dX8_sets_120 : decode cX8_sets 120 = .ok (.getfield 111, 3) := by decide +kernel
theorem dX8_sets_123 : decode cX8_sets 123 = .ok (.aload_n 0, 1) := by decide +kernel
theorem dX8_sets_124 : decode cX8_sets 124 = .ok (.getfield 7, 3) := by decide +kernel
theorem dX8_sets_127 : decode cX8_sets 127 = .ok (.iconst 0, 1) := by decide +kernel
theorem dX8_sets_128 : decode cX8_sets 128 = .ok (.iaload, 1) := by decide +kernel
theorem dX8_sets_129 : decode cX8_sets 129 = .ok (.if_icmp .lt 35, 3) := by decide +kernel
theorem dX8_sets_132 : decode cX8_sets 132 = .ok (.aload_n 0, 1) := by decide +kernel
theorem dX8_sets_133 : decode cX8_sets 133 = .ok (.getfield 47, 3) := by decide +kernel
theorem dX8_sets_136 : decode cX8_sets 136 = .ok (.iconst 2, 1) := by decide +kernel
theorem dX8_sets_137 : decode cX8_sets 137 = .ok (.aload_n 0, 1) := by decide +kernel
theorem dX8_sets_138 : decode cX8_sets 138 = .ok (.getfield 98, 3) := by decide +kernel
theorem dX8_sets_141 : decode cX8_sets 141 = .ok (.imul, 1) := by decide +kernel
theorem dX8_sets_142 : decode cX8_sets 142 = .ok (.iconst 2, 1) := by decide +kernel
theorem dX8_sets_143 : decode cX8_sets 143 = .ok (.isub, 1) := by decide +kernel
theorem dX8_sets_144 : decode cX8_sets 144 = .ok (.iaload, 1) := by decide +kernel
theorem dX8_sets_145 : decode cX8_sets 145 = .ok (.ifCond .gt 19, 3) := by decide +kernel
theorem dX8_sets_148 : decode cX8_sets 148 = .ok (.aload_n 0, 1) := by decide +kernel
theorem dX8_sets_149 : decode cX8_sets 149 = .ok (.getfield 47, 3) := by decide +kernel
theorem dX8_sets_152 : decode cX8_sets 152 = .ok (.iconst 2, 1) := by decide +kernel
theorem dX8_sets_153 : decode cX8_sets 153 = .ok (.aload_n 0, 1) := by decide +kernel
theorem dX8_sets_154 : decode cX8_sets 154 = .ok (.getfield 98, 3) := by decide +kernel
theorem dX8_sets_157 : decode cX8_sets 157 = .ok (.imul, 1) := by decide +kernel
theorem dX8_sets_158 : decode cX8_sets 158 = .ok (.iconst 1, 1) := by decide +kernel
theorem dX8_sets_159 : decode cX8_sets 159 = .ok (.isub, 1) := by decide +kernel
theorem dX8_sets_160 : decode cX8_sets 160 = .ok (.iaload, 1) := by decide +kernel
theorem dX8_sets_161 : decode cX8_sets 161 = .ok (.ifCond .le 7, 3) := by decide +kernel
theorem dX8_sets_164 : decode cX8_sets 164 = .ok (.iconst 1, 1) := by decide +kernel
theorem dX8_sets_165 : decode cX8_sets 165 = .ok (.goto 4, 3) := by decide +kernel
theorem dX8_sets_168 : decode cX8_sets 168 = .ok (.iconst 0, 1) := by decide +kernel
theorem dX8_sets_169 : decode cX8_sets 169 = .ok (.istore_n 1, 1) := by decide +kernel
theorem dX8_sets_170 : decode cX8_sets 170 = .ok (.goto (-112), 3) := by decide +kernel
theorem dX8_sets_173 : decode cX8_sets 173 = .ok (.aload_n 0, 1) := by decide +kernel
theorem dX8_sets_174 : decode cX8_sets 174 = .ok (.getfield 34, 3) := by decide +kernel
theorem dX8_sets_177 : decode cX8_sets 177 = .ok (.aload_n 0, 1) := by decide +kernel
theorem dX8_sets_178 : decode cX8_sets 178 = .ok (.getfield 98, 3) := by decide +kernel
theorem dX8_sets_181 : decode cX8_sets 181 = .ok (.aload_n 0, 1) := by decide +kernel
theorem dX8_sets_182 : decode cX8_sets 182 = .ok (.getfield 95, 3) := by decide +kernel
theorem dX8_sets_185 : decode cX8_sets 185 = .ok (.iastore, 1) := by decide +kernel
theorem dX8_sets_186 : decode cX8_sets 186 = .ok (.return_, 1) := by decide +kernel
theorem dX8_isSpread_0 : decode cX8_isSpread 0 = .ok (.aload_n 0, 1) := by decide +kernel
theorem dX8_isSpread_1 : decode cX8_isSpread 1 = .ok (.invokevirtual 148, 3) := by decide +kernel
theorem dX8_isSpread_4 : decode cX8_isSpread 4 = .ok (.iload_n 1, 1) := by decide +kernel
theorem dX8_isSpread_5 : decode cX8_isSpread 5 = .ok (.iconst 0, 1) := by decide +kernel
theorem dX8_isSpread_6 : decode cX8_isSpread 6 = .ok (.aload_n 0, 1) := by decide +kernel
theorem dX8_isSpread_7 : decode cX8_isSpread 7 = .ok (.getfield 98, 3) := by decide +kernel
theorem dX8_isSpread_10 : decode cX8_isSpread 10 = .ok (.iconst 1, 1) := by decide +kernel
theorem dX8_isSpread_11 : decode cX8_isSpread 11 = .ok (.isub, 1) := by decide +kernel
theorem dX8_isSpread_12 : decode cX8_isSpread 12 = .ok (.invokestatic 62, 3) := by decide +kernel
theorem dX8_isSpread_15 : decode cX8_isSpread 15 = .ok (.ireturn, 1) := by decide +kernel
theorem dX8_spreadCount_0 : decode cX8_spreadCount 0 = .ok (.aload_n 0, 1) := by decide +kernel
theorem dX8_spreadCount_1 : decode cX8_spreadCount 1 = .ok (.invokevirtual 148, 3) := by decide +kernel
theorem dX8_spreadCount_4 : decode cX8_spreadCount 4 = .ok (.aload_n 0, 1) := by decide +kernel
theorem dX8_spreadCount_5 : decode cX8_spreadCount 5 = .ok (.getfield 98, 3) := by decide +kernel
theorem dX8_spreadCount_8 : decode cX8_spreadCount 8 = .ok (.ireturn, 1) := by decide +kernel
theorem dX8_segmentCount_0 : decode cX8_segmentCount 0 = .ok (.aload_n 0, 1) := by decide +kernel
theorem dX8_segmentCount_1 : decode cX8_segmentCount 1 = .ok (.iload_n 1, 1) := by decide +kernel
theorem dX8_segmentCount_2 : decode cX8_segmentCount 2 = .ok (.invokevirtual 151, 3) := by decide +kernel
theorem dX8_segmentCount_5 : decode cX8_segmentCount 5 = .ok (.ifCond .eq 21, 3) := by decide +kernel
theorem dX8_segmentCount_8 : decode cX8_segmentCount 8 = .ok (.aload_n 0, 1) := by decide +kernel
theorem dX8_segmentCount_9 : decode cX8_segmentCount 9 = .ok (.getfield 34, 3) := by decide +kernel
theorem dX8_segmentCount_12 : decode cX8_segmentCount 12 = .ok (.iload_n 1, 1) := by decide +kernel
theorem dX8_segmentCount_13 : decode cX8_segmentCount 13 = .ok (.iconst 1, 1) := by decide +kernel
theorem dX8_segmentCount_14 : decode cX8_segmentCount 14 = .ok (.iadd, 1) := by decide +kernel
theorem dX8_segmentCount_15 : decode cX8_segmentCount 15 = .ok (.iaload, 1) := by decide +kernel
theorem dX8_segmentCount_16 : decode cX8_segmentCount 16 = .ok (.aload_n 0, 1) := by decide +kernel
theorem dX8_segmentCount_17 : decode cX8_segmentCount 17 = .ok (.getfield 34, 3) := by decide +kernel
theorem dX8_segmentCount_20 : decode cX8_segmentCount 20 = .ok (.iload_n 1, 1) := by decide +kernel
theorem dX8_segmentCount_21 : decode cX8_segmentCount 21 = .ok (.iaload, 1) := by decide +kernel
theorem dX8_segmentCount_22 : decode cX8_segmentCount 22 = .ok (.isub, 1) := by decide +kernel
theorem dX8_segmentCount_23 : decode cX8_segmentCount 23 = .ok (.goto 4, 3) := by decide +kernel
theorem dX8_segmentCount_26 : decode cX8_segmentCount 26 = .ok (.iconst (-1), 1) := by decide +kernel
theorem dX8_segmentCount_27 : decode cX8_segmentCount 27 = .ok (.ireturn, 1) := by decide +kernel
theorem dX8_segmentInfo_0 : decode cX8_segmentInfo 0 = .ok (.aload_n 0, 1) := by decide +kernel
theorem dX8_segmentInfo_1 : decode cX8_segmentInfo 1 = .ok (.iload_n 1, 1) := by decide +kernel
theorem dX8_segmentInfo_2 : decode cX8_segmentInfo 2 = .ok (.invokevirtual 151, 3) := by decide +kernel
theorem dX8_segmentInfo_5 : decode cX8_segmentInfo 5 = .ok (.ifCond .eq 17, 3) := by decide +kernel
theorem dX8_segmentInfo_8 : decode cX8_segmentInfo 8 = .ok (.iload_n 2, 1) := by decide +kernel
theorem dX8_segmentInfo_9 : decode cX8_segmentInfo 9 = .ok (.ifCond .lt 13, 3) := by decide +kernel
theorem dX8_segmentInfo_12 : decode cX8_segmentInfo 12 = .ok (.iload_n 3, 1) := by decide +kernel
theorem dX8_segmentInfo_13 : decode cX8_segmentInfo 13 = .ok (.iconst 0, 1) := by decide +kernel
theorem dX8_segmentInfo_14 : decode cX8_segmentInfo 14 = .ok (.bipush 7, 2) := by decide +kernel
theorem dX8_segmentInfo_16 : decode cX8_segmentInfo 16 = .ok (.invokestatic 62, 3) := by decide +kernel
theorem dX8_segmentInfo_19 : decode cX8_segmentInfo 19 = .ok (.ifCond .ne 5, 3) := by decide +kernel
theorem dX8_segmentInfo_22 : decode cX8_segmentInfo 22 = .ok (.iconst (-1), 1) := by decide +kernel
theorem dX8_segmentInfo_23 : decode cX8_segmentInfo 23 = .ok (.ireturn, 1) := by decide +kernel
theorem dX8_segmentInfo_24 : decode cX8_segmentInfo 24 = .ok (.iload_n 2, 1) := by decide +kernel
theorem dX8_segmentInfo_25 : decode cX8_segmentInfo 25 = .ok (.aload_n 0, 1) := by decide +kernel
theorem dX8_segmentInfo_26 : decode cX8_segmentInfo 26 = .ok (.getfield 34, 3) := by decide +kernel
theorem dX8_segmentInfo_29 : decode cX8_segmentInfo 29 = .ok (.iload_n 1, 1) := by decide +kernel
theorem dX8_segmentInfo_30 : decode cX8_segmentInfo 30 = .ok (.iconst 1, 1) := by decide +kernel
theorem dX8_segmentInfo_31 : decode cX8_segmentInfo 31 = .ok (.iadd, 1) := by decide +kernel
theorem dX8_segmentInfo_32 : decode cX8_segmentInfo 32 = .ok (.iaload, 1) := by decide +kernel
theorem dX8_segmentInfo_33 : decode cX8_segmentInfo 33 = .ok (.aload_n 0, 1) := by decide +kernel
theorem dX8_segmentInfo_34 : decode cX8_segmentInfo 34 = .ok (.getfield 34, 3) := by decide +kernel
theorem dX8_segmentInfo_37 : decode cX8_segmentInfo 37 = .ok (.iload_n 1, 1) := by decide +kernel
theorem dX8_segmentInfo_38 : decode cX8_segmentInfo 38 = .ok (.iaload, 1) := by decide +kernel
theorem dX8_segmentInfo_39 : decode cX8_segmentInfo 39 = .ok (.isub, 1) := by decide +kernel
theorem dX8_segmentInfo_40 : decode cX8_segmentInfo 40 = .ok (.if_icmp .lt 6, 3) := by decide +kernel
theorem dX8_segmentInfo_43 : decode cX8_segmentInfo 43 = .ok (.bipush (-4), 2) := by decide +kernel
theorem dX8_segmentInfo_45 : decode cX8_segmentInfo 45 = .ok (.ireturn, 1) := by decide +kernel
theorem dX8_segmentInfo_46 : decode cX8_segmentInfo 46 = .ok (.aload_n 0, 1) := by decide +kernel
theorem dX8_segmentInfo_47 : decode cX8_segmentInfo 47 = .ok (.getfield 34, 3) := by decide +kernel
theorem dX8_segmentInfo_50 : decode cX8_segmentInfo 50 = .ok (.iload_n 1, 1) := by decide +kernel
theorem dX8_segmentInfo_51 : decode cX8_segmentInfo 51 = .ok (.iaload, 1) := by decide +kernel
theorem dX8_segmentInfo_52 : decode cX8_segmentInfo 52 = .ok (.iload_n 2, 1) := by decide +kernel
theorem dX8_segmentInfo_53 : decode cX8_segmentInfo 53 = .ok (.iadd, 1) := by decide +kernel
theorem dX8_segmentInfo_54 : decode cX8_segmentInfo 54 = .ok (.istore 4, 2) := by decide +kernel
theorem dX8_segmentInfo_56 : decode cX8_segmentInfo 56 = .ok (.iload_n 3, 1) := by decide +kernel
theorem dX8_segmentInfo_57 : decode cX8_segmentInfo 57 = .ok (.tableswitch 117 0 6 #[43, 51, 61, 71, 83, 95, 105], 43) := by decide +kernel
theorem dX8_segmentInfo_100 : decode cX8_segmentInfo 100 = .ok (.aload_n 0, 1) := by decide +kernel
theorem dX8_segmentInfo_101 : decode cX8_segmentInfo 101 = .ok (.getfield 22, 3) := by decide +kernel
theorem dX8_segmentInfo_104 : decode cX8_segmentInfo 104 = .ok (.iload 4, 2) := by decide +kernel
theorem dX8_segmentInfo_106 : decode cX8_segmentInfo 106 = .ok (.iaload, 1) := by decide +kernel
theorem dX8_segmentInfo_107 : decode cX8_segmentInfo 107 = .ok (.ireturn, 1) := by decide +kernel
theorem dX8_segmentInfo_108 : decode cX8_segmentInfo 108 = .ok (.aload_n 0, 1) := by decide +kernel
theorem dX8_segmentInfo_109 : decode cX8_segmentInfo 109 = .ok (.getfield 25, 3) := by decide +kernel
theorem dX8_segmentInfo_112 : decode cX8_segmentInfo 112 = .ok (.iconst 2, 1) := by decide +kernel
theorem dX8_segmentInfo_113 : decode cX8_segmentInfo 113 = .ok (.iload 4, 2) := by decide +kernel
theorem dX8_segmentInfo_115 : decode cX8_segmentInfo 115 = .ok (.imul, 1) := by decide +kernel
theorem dX8_segmentInfo_116 : decode cX8_segmentInfo 116 = .ok (.iaload, 1) := by decide +kernel
theorem dX8_segmentInfo_117 : decode cX8_segmentInfo 117 = .ok (.ireturn, 1) := by decide +kernel
theorem dX8_segmentInfo_118 : decode cX8_segmentInfo 118 = .ok (.aload_n 0, 1) := by decide +kernel
theorem dX8_segmentInfo_119 : decode cX8_segmentInfo 119 = .ok (.getfield 28, 3) := by decide +kernel
theorem dX8_segmentInfo_122 : decode cX8_segmentInfo 122 = .ok (.iconst 2, 1) := by decide +kernel
theorem dX8_segmentInfo_123 : decode cX8_segmentInfo 123 = .ok (.iload 4, 2) := by decide +kernel
theorem dX8_segmentInfo_125 : decode cX8_segmentInfo 125 = .ok (.imul, 1) := by decide +kernel
theorem dX8_segmentInfo_126 : decode cX8_segmentInfo 126 = .ok (.iaload, 1) := by decide +kernel
theorem dX8_segmentInfo_127 : decode cX8_segmentInfo 127 = .ok (.ireturn, 1) := by decide +kernel
theorem dX8_segmentInfo_128 : decode cX8_segmentInfo 128 = .ok (.aload_n 0, 1) := by decide +kernel
theorem dX8_segmentInfo_129 : decode cX8_segmentInfo 129 = .ok (.getfield 25, 3) := by decide +kernel
theorem dX8_segmentInfo_132 : decode cX8_segmentInfo 132 = .ok (.iconst 2, 1) := by decide +kernel
theorem dX8_segmentInfo_133 : decode cX8_segmentInfo 133 = .ok (.iload 4, 2) := by decide +kernel
theorem dX8_segmentInfo_135 : decode cX8_segmentInfo 135 = .ok (.imul, 1) := by decide +kernel
theorem dX8_segmentInfo_136 : decode cX8_segmentInfo 136 = .ok (.iconst 1, 1) := by decide +kernel
theorem dX8_segmentInfo_137 : decode cX8_segmentInfo 137 = .ok (.iadd, 1) := by decide +kernel
theorem dX8_segmentInfo_138 : decode cX8_segmentInfo 138 = .ok (.iaload, 1) := by decide +kernel
theorem dX8_segmentInfo_139 : decode cX8_segmentInfo 139 = .ok (.ireturn, 1) := by decide +kernel
theorem dX8_segmentInfo_140 : decode cX8_segmentInfo 140 = .ok (.aload_n 0, 1) := by decide +kernel
theorem dX8_segmentInfo_141 : decode cX8_segmentInfo 141 = .ok (.getfield 28, 3) := by decide +kernel
theorem dX8_segmentInfo_144 : decode cX8_segmentInfo 144 = .ok (.iconst 2, 1) := by decide +kernel
theorem dX8_segmentInfo_145 : decode cX8_segmentInfo 145 = .ok (.iload 4, 2) := by decide +kernel
theorem dX8_segmentInfo_147 : decode cX8_segmentInfo 147 = .ok (.imul, 1) := by decide +kernel
theorem dX8_segmentInfo_148 : decode cX8_segmentInfo 148 = .ok (.iconst 1, 1) := by decide +kernel
theorem dX8_segmentInfo_149 : decode cX8_segmentInfo 149 = .ok (.iadd, 1) := by decide +kernel
theorem dX8_segmentInfo_150 : decode cX8_segmentInfo 150 = .ok (.iaload, 1) := by decide +kernel
theorem dX8_segmentInfo_151 : decode cX8_segmentInfo 151 = .ok (.ireturn, 1) := by decide +kernel
theorem dX8_segmentInfo_152 : decode cX8_segmentInfo 152 = .ok (.aload_n 0, 1) := by decide +kernel
theorem dX8_segmentInfo_153 : decode cX8_segmentInfo 153 = .ok (.getfield 31, 3) := by decide +kernel
theorem dX8_segmentInfo_156 : decode cX8_segmentInfo 156 = .ok (.iconst 2, 1) := by decide +kernel
theorem dX8_segmentInfo_157 : decode cX8_segmentInfo 157 = .ok (.iload 4, 2) := by decide +kernel
theorem dX8_segmentInfo_159 : decode cX8_segmentInfo 159 = .ok (.imul, 1) := by decide +kernel
theorem dX8_segmentInfo_160 : decode cX8_segmentInfo 160 = .ok (.iaload, 1) := by decide +kernel
theorem dX8_segmentInfo_161 : decode cX8_segmentInfo 161 = .ok (.ireturn, 1) := by decide +kernel
theorem dX8_segmentInfo_162 : decode cX8_segmentInfo 162 = .ok (.aload_n 0, 1) := by decide +kernel
theorem dX8_segmentInfo_163 : decode cX8_segmentInfo 163 = .ok (.getfield 31, 3) := by decide +kernel
theorem dX8_segmentInfo_166 : decode cX8_segmentInfo 166 = .ok (.iconst 2, 1) := by decide +kernel
theorem dX8_segmentInfo_167 : decode cX8_segmentInfo 167 = .ok (.iload 4, 2) := by decide +kernel
theorem dX8_segmentInfo_169 : decode cX8_segmentInfo 169 = .ok (.imul, 1) := by decide +kernel
theorem dX8_segmentInfo_170 : decode cX8_segmentInfo 170 = .ok (.iconst 1, 1) := by decide +kernel
theorem dX8_segmentInfo_171 : decode cX8_segmentInfo 171 = .ok (.iadd, 1) := by decide +kernel
theorem dX8_segmentInfo_172 : decode cX8_segmentInfo 172 = .ok (.iaload, 1) := by decide +kernel
theorem dX8_segmentInfo_173 : decode cX8_segmentInfo 173 = .ok (.ireturn, 1) := by decide +kernel
theorem dX8_segmentInfo_174 : decode cX8_segmentInfo 174 = .ok (.aload_n 0, 1) := by decide +kernel
theorem dX8_segmentInfo_175 : decode cX8_segmentInfo 175 = .ok (.getfield 25, 3) := by decide +kernel
theorem dX8_segmentInfo_178 : decode cX8_segmentInfo 178 = .ok (.iconst 2, 1) := by decide +kernel
theorem dX8_segmentInfo_179 : decode cX8_segmentInfo 179 = .ok (.iload 4, 2) := by decide +kernel
theorem dX8_segmentInfo_181 : decode cX8_segmentInfo 181 = .ok (.imul, 1) := by decide +kernel
theorem dX8_segmentInfo_182 : decode cX8_segmentInfo 182 = .ok (.iaload, 1) := by decide +kernel
theorem dX8_segmentInfo_183 : decode cX8_segmentInfo 183 = .ok (.aload_n 0, 1) := by decide +kernel
theorem dX8_segmentInfo_184 : decode cX8_segmentInfo 184 = .ok (.getfield 28, 3) := by decide +kernel
theorem dX8_segmentInfo_187 : decode cX8_segmentInfo 187 = .ok (.iconst 2, 1) := by decide +kernel
theorem dX8_segmentInfo_188 : decode cX8_segmentInfo 188 = .ok (.iload 4, 2) := by decide +kernel
theorem dX8_segmentInfo_190 : decode cX8_segmentInfo 190 = .ok (.imul, 1) := by decide +kernel
theorem dX8_segmentInfo_191 : decode cX8_segmentInfo 191 = .ok (.iaload, 1) := by decide +kernel
theorem dX8_segmentInfo_192 : decode cX8_segmentInfo 192 = .ok (.iadd, 1) := by decide +kernel
theorem dX8_segmentInfo_193 : decode cX8_segmentInfo 193 = .ok (.aload_n 0, 1) := by decide +kernel
theorem dX8_segmentInfo_194 : decode cX8_segmentInfo 194 = .ok (.aload_n 0, 1) := by decide +kernel
theorem dX8_segmentInfo_195 : decode cX8_segmentInfo 195 = .ok (.getfield 22, 3) := by decide +kernel
theorem dX8_segmentInfo_198 : decode cX8_segmentInfo 198 = .ok (.iload 4, 2) := by decide +kernel
theorem dX8_segmentInfo_200 : decode cX8_segmentInfo 200 = .ok (.iaload, 1) := by decide +kernel
theorem dX8_segmentInfo_201 : decode cX8_segmentInfo 201 = .ok (.iconst 0, 1) := by decide +kernel
theorem dX8_segmentInfo_202 : decode cX8_segmentInfo 202 = .ok (.invokevirtual 73, 3) := by decide +kernel
theorem dX8_segmentInfo_205 : decode cX8_segmentInfo 205 = .ok (.if_icmp .ge 7, 3) := by decide +kernel
theorem dX8_segmentInfo_208 : decode cX8_segmentInfo 208 = .ok (.iconst 1, 1) := by decide +kernel
theorem dX8_segmentInfo_209 : decode cX8_segmentInfo 209 = .ok (.goto 4, 3) := by decide +kernel
theorem dX8_segmentInfo_212 : decode cX8_segmentInfo 212 = .ok (.iconst 0, 1) := by decide +kernel
theorem dX8_segmentInfo_213 : decode cX8_segmentInfo 213 = .ok (.ireturn, 1) := by decide +kernel
theorem dX8_blank_0 : decode cX8_blank 0 = .ok (.aload_n 0, 1) := by decide +kernel
theorem dX8_blank_1 : decode cX8_blank 1 = .ok (.getfield 7, 3) := by decide +kernel
theorem dX8_blank_4 : decode cX8_blank 4 = .ok (.bipush 81, 2) := by decide +kernel
theorem dX8_blank_6 : decode cX8_blank 6 = .ok (.iaload, 1) := by decide +kernel
theorem dX8_blank_7 : decode cX8_blank 7 = .ok (.aload_n 0, 1) := by decide +kernel
theorem dX8_blank_8 : decode cX8_blank 8 = .ok (.getfield 41, 3) := by decide +kernel
theorem dX8_blank_11 : decode cX8_blank 11 = .ok (.iload_n 1, 1) := by decide +kernel
theorem dX8_blank_12 : decode cX8_blank 12 = .ok (.iaload, 1) := by decide +kernel
theorem dX8_blank_13 : decode cX8_blank 13 = .ok (.isub, 1) := by decide +kernel
theorem dX8_blank_14 : decode cX8_blank 14 = .ok (.aload_n 0, 1) := by decide +kernel
theorem dX8_blank_15 : decode cX8_blank 15 = .ok (.aload_n 0, 1) := by decide +kernel
theorem dX8_blank_16 : decode cX8_blank 16 = .ok (.getfield 44, 3) := by decide +kernel
theorem dX8_blank_19 : decode cX8_blank 19 = .ok (.iload_n 1, 1) := by decide +kernel
theorem dX8_blank_20 : decode cX8_blank 20 = .ok (.iaload, 1) := by decide +kernel
theorem dX8_blank_21 : decode cX8_blank 21 = .ok (.invokevirtual 124, 3) := by decide +kernel
theorem dX8_blank_24 : decode cX8_blank 24 = .ok (.isub, 1) := by decide +kernel
theorem dX8_blank_25 : decode cX8_blank 25 = .ok (.istore_n 2, 1) := by decide +kernel
theorem dX8_blank_26 : decode cX8_blank 26 = .ok (.iload_n 2, 1) := by decide +kernel
theorem dX8_blank_27 : decode cX8_blank 27 = .ok (.ifCond .le 7, 3) := by decide +kernel
theorem dX8_blank_30 : decode cX8_blank 30 = .ok (.iload_n 2, 1) := by decide +kernel
theorem dX8_blank_31 : decode cX8_blank 31 = .ok (.goto 4, 3) := by decide +kernel
theorem dX8_blank_34 : decode cX8_blank 34 = .ok (.iconst 0, 1) := by decide +kernel
theorem dX8_blank_35 : decode cX8_blank 35 = .ok (.ireturn, 1) := by decide +kernel
theorem dX8_pageInfo_0 : decode cX8_pageInfo 0 = .ok (.aload_n 0, 1) := by decide +kernel
theorem dX8_pageInfo_1 : decode cX8_pageInfo 1 = .ok (.iload_n 1, 1) := by decide +kernel
theorem dX8_pageInfo_2 : decode cX8_pageInfo 2 = .ok (.invokevirtual 151, 3) := by decide +kernel
theorem dX8_pageInfo_5 : decode cX8_pageInfo 5 = .ok (.ifCond .eq 19, 3) := by decide +kernel
theorem dX8_pageInfo_8 : decode cX8_pageInfo 8 = .ok (.iload_n 2, 1) := by decide +kernel
theorem dX8_pageInfo_9 : decode cX8_pageInfo 9 = .ok (.invokestatic 70, 3) := by decide +kernel
theorem dX8_pageInfo_12 : decode cX8_pageInfo 12 = .ok (.ifCond .eq 12, 3) := by decide +kernel
theorem dX8_pageInfo_15 : decode cX8_pageInfo 15 = .ok (.iload_n 3, 1) := by decide +kernel
theorem dX8_pageInfo_16 : decode cX8_pageInfo 16 = .ok (.iconst 0, 1) := by decide +kernel
theorem dX8_pageInfo_17 : decode cX8_pageInfo 17 = .ok (.iconst 5, 1) := by decide +kernel
theorem dX8_pageInfo_18 : decode cX8_pageInfo 18 = .ok (.invokestatic 62, 3) := by decide +kernel
theorem dX8_pageInfo_21 : decode cX8_pageInfo 21 = .ok (.ifCond .ne 5, 3) := by decide +kernel
theorem dX8_pageInfo_24 : decode cX8_pageInfo 24 = .ok (.iconst (-1), 1) := by decide +kernel
theorem dX8_pageInfo_25 : decode cX8_pageInfo 25 = .ok (.ireturn, 1) := by decide +kernel
theorem dX8_pageInfo_26 : decode cX8_pageInfo 26 = .ok (.iconst 2, 1) := by decide +kernel
theorem dX8_pageInfo_27 : decode cX8_pageInfo 27 = .ok (.iload_n 1, 1) := by decide +kernel
theorem dX8_pageInfo_28 : decode cX8_pageInfo 28 = .ok (.imul, 1) := by decide +kernel
theorem dX8_pageInfo_29 : decode cX8_pageInfo 29 = .ok (.iload_n 2, 1) := by decide +kernel
theorem dX8_pageInfo_30 : decode cX8_pageInfo 30 = .ok (.iadd, 1) := by decide +kernel
theorem dX8_pageInfo_31 : decode cX8_pageInfo 31 = .ok (.istore 4, 2) := by decide +kernel
theorem dX8_pageInfo_33 : decode cX8_pageInfo 33 = .ok (.iload_n 3, 1) := by decide +kernel
theorem dX8_pageInfo_34 : decode cX8_pageInfo 34 = .ok (.tableswitch 76 0 4 #[34, 42, 54, 61, 68], 34) := by decide +kernel
theorem dX8_pageInfo_68 : decode cX8_pageInfo 68 = .ok (.aload_n 0, 1) := by decide +kernel
theorem dX8_pageInfo_69 : decode cX8_pageInfo 69 = .ok (.getfield 41, 3) := by decide +kernel
theorem dX8_pageInfo_72 : decode cX8_pageInfo 72 = .ok (.iload 4, 2) := by decide +kernel
theorem dX8_pageInfo_74 : decode cX8_pageInfo 74 = .ok (.iaload, 1) := by decide +kernel
theorem dX8_pageInfo_75 : decode cX8_pageInfo 75 = .ok (.ireturn, 1) := by decide +kernel
theorem dX8_pageInfo_76 : decode cX8_pageInfo 76 = .ok (.aload_n 0, 1) := by decide +kernel
theorem dX8_pageInfo_77 : decode cX8_pageInfo 77 = .ok (.aload_n 0, 1) := by decide +kernel
theorem dX8_pageInfo_78 : decode cX8_pageInfo 78 = .ok (.getfield 44, 3) := by decide +kernel
theorem dX8_pageInfo_81 : decode cX8_pageInfo 81 = .ok (.iload 4, 2) := by decide +kernel
theorem dX8_pageInfo_83 : decode cX8_pageInfo 83 = .ok (.iaload, 1) := by decide +kernel
theorem dX8_pageInfo_84 : decode cX8_pageInfo 84 = .ok (.invokevirtual 124, 3) := by decide +kernel
theorem dX8_pageInfo_87 : decode cX8_pageInfo 87 = .ok (.ireturn, 1) := by decide +kernel
theorem dX8_pageInfo_88 : decode cX8_pageInfo 88 = .ok (.aload_n 0, 1) := by decide +kernel
theorem dX8_pageInfo_89 : decode cX8_pageInfo 89 = .ok (.iload 4, 2) := by decide +kernel
theorem dX8_pageInfo_91 : decode cX8_pageInfo 91 = .ok (.invokevirtual 154, 3) := by decide +kernel
theorem dX8_pageInfo_94 : decode cX8_pageInfo 94 = .ok (.ireturn, 1) := by decide +kernel
theorem dX8_pageInfo_95 : decode cX8_pageInfo 95 = .ok (.aload_n 0, 1) := by decide +kernel
theorem dX8_pageInfo_96 : decode cX8_pageInfo 96 = .ok (.iload_n 1, 1) := by decide +kernel
theorem dX8_pageInfo_97 : decode cX8_pageInfo 97 = .ok (.iload_n 2, 1) := by decide +kernel
theorem dX8_pageInfo_98 : decode cX8_pageInfo 98 = .ok (.invokevirtual 105, 3) := by decide +kernel
theorem dX8_pageInfo_101 : decode cX8_pageInfo 101 = .ok (.ireturn, 1) := by decide +kernel
theorem dX8_pageInfo_102 : decode cX8_pageInfo 102 = .ok (.aload_n 0, 1) := by decide +kernel
theorem dX8_pageInfo_103 : decode cX8_pageInfo 103 = .ok (.getfield 47, 3) := by decide +kernel
theorem dX8_pageInfo_106 : decode cX8_pageInfo 106 = .ok (.iload 4, 2) := by decide +kernel
theorem dX8_pageInfo_108 : decode cX8_pageInfo 108 = .ok (.iaload, 1) := by decide +kernel
theorem dX8_pageInfo_109 : decode cX8_pageInfo 109 = .ok (.ireturn, 1) := by decide +kernel
theorem dX8_pageInfo_110 : decode cX8_pageInfo 110 = .ok (.aload_n 0, 1) := by decide +kernel
theorem dX8_pageInfo_111 : decode cX8_pageInfo 111 = .ok (.getfield 50, 3) := by decide +kernel
theorem dX8_pageInfo_114 : decode cX8_pageInfo 114 = .ok (.iload 4, 2) := by decide +kernel
theorem dX8_pageInfo_116 : decode cX8_pageInfo 116 = .ok (.iconst 2, 1) := by decide +kernel
theorem dX8_pageInfo_117 : decode cX8_pageInfo 117 = .ok (.iadd, 1) := by decide +kernel
theorem dX8_pageInfo_118 : decode cX8_pageInfo 118 = .ok (.iaload, 1) := by decide +kernel
theorem dX8_pageInfo_119 : decode cX8_pageInfo 119 = .ok (.aload_n 0, 1) := by decide +kernel
theorem dX8_pageInfo_120 : decode cX8_pageInfo 120 = .ok (.getfield 50, 3) := by decide +kernel
theorem dX8_pageInfo_123 : decode cX8_pageInfo 123 = .ok (.iload 4, 2) := by decide +kernel
theorem dX8_pageInfo_125 : decode cX8_pageInfo 125 = .ok (.iaload, 1) := by decide +kernel
theorem dX8_pageInfo_126 : decode cX8_pageInfo 126 = .ok (.isub, 1) := by decide +kernel
theorem dX8_pageInfo_127 : decode cX8_pageInfo 127 = .ok (.ireturn, 1) := by decide +kernel
theorem dX8_isOverfull_0 : decode cX8_isOverfull 0 = .ok (.aload_n 0, 1) := by decide +kernel
theorem dX8_isOverfull_1 : decode cX8_isOverfull 1 = .ok (.iload_n 1, 1) := by decide +kernel
theorem dX8_isOverfull_2 : decode cX8_isOverfull 2 = .ok (.invokevirtual 151, 3) := by decide +kernel
theorem dX8_isOverfull_5 : decode cX8_isOverfull 5 = .ok (.ifCond .ne 7, 3) := by decide +kernel
theorem dX8_isOverfull_8 : decode cX8_isOverfull 8 = .ok (.iconst (-1), 1) := by decide +kernel
theorem dX8_isOverfull_9 : decode cX8_isOverfull 9 = .ok (.goto 17, 3) := by decide +kernel
theorem dX8_isOverfull_12 : decode cX8_isOverfull 12 = .ok (.aload_n 0, 1) := by decide +kernel
theorem dX8_isOverfull_13 : decode cX8_isOverfull 13 = .ok (.getfield 37, 3) := by decide +kernel
theorem dX8_isOverfull_16 : decode cX8_isOverfull 16 = .ok (.iload_n 1, 1) := by decide +kernel
theorem dX8_isOverfull_17 : decode cX8_isOverfull 17 = .ok (.baload, 1) := by decide +kernel
theorem dX8_isOverfull_18 : decode cX8_isOverfull 18 = .ok (.ifCond .eq 7, 3) := by decide +kernel
theorem dX8_isOverfull_21 : decode cX8_isOverfull 21 = .ok (.iconst 1, 1) := by decide +kernel
theorem dX8_isOverfull_22 : decode cX8_isOverfull 22 = .ok (.goto 4, 3) := by decide +kernel
theorem dX8_isOverfull_25 : decode cX8_isOverfull 25 = .ok (.iconst 0, 1) := by decide +kernel
theorem dX8_isOverfull_26 : decode cX8_isOverfull 26 = .ok (.ireturn, 1) := by decide +kernel
theorem dX8_segmentOf_0 : decode cX8_segmentOf 0 = .ok (.iconst 0, 1) := by decide +kernel
theorem dX8_segmentOf_1 : decode cX8_segmentOf 1 = .ok (.istore 4, 2) := by decide +kernel
theorem dX8_segmentOf_3 : decode cX8_segmentOf 3 = .ok (.aload_n 0, 1) := by decide +kernel
theorem dX8_segmentOf_4 : decode cX8_segmentOf 4 = .ok (.getfield 22, 3) := by decide +kernel
theorem dX8_segmentOf_7 : decode cX8_segmentOf 7 = .ok (.iload 4, 2) := by decide +kernel
theorem dX8_segmentOf_9 : decode cX8_segmentOf 9 = .ok (.iaload, 1) := by decide +kernel
theorem dX8_segmentOf_10 : decode cX8_segmentOf 10 = .ok (.iload_n 1, 1) := by decide +kernel
theorem dX8_segmentOf_11 : decode cX8_segmentOf 11 = .ok (.if_icmp .ne 45, 3) := by decide +kernel
theorem dX8_segmentOf_14 : decode cX8_segmentOf 14 = .ok (.iload_n 3, 1) := by decide +kernel
theorem dX8_segmentOf_15 : decode cX8_segmentOf 15 = .ok (.aload_n 0, 1) := by decide +kernel
theorem dX8_segmentOf_16 : decode cX8_segmentOf 16 = .ok (.getfield 25, 3) := by decide +kernel
theorem dX8_segmentOf_19 : decode cX8_segmentOf 19 = .ok (.iconst 2, 1) := by decide +kernel
theorem dX8_segmentOf_20 : decode cX8_segmentOf 20 = .ok (.iload 4, 2) := by decide +kernel
theorem dX8_segmentOf_22 : decode cX8_segmentOf 22 = .ok (.imul, 1) := by decide +kernel
theorem dX8_segmentOf_23 : decode cX8_segmentOf 23 = .ok (.iload_n 2, 1) := by decide +kernel
theorem dX8_segmentOf_24 : decode cX8_segmentOf 24 = .ok (.iadd, 1) := by decide +kernel
theorem dX8_segmentOf_25 : decode cX8_segmentOf 25 = .ok (.iaload, 1) := by decide +kernel
theorem dX8_segmentOf_26 : decode cX8_segmentOf 26 = .ok (.if_icmp .lt 30, 3) := by decide +kernel
theorem dX8_segmentOf_29 : decode cX8_segmentOf 29 = .ok (.iload_n 3, 1) := by decide +kernel
theorem dX8_segmentOf_30 : decode cX8_segmentOf 30 = .ok (.aload_n 0, 1) := by decide +kernel
theorem dX8_segmentOf_31 : decode cX8_segmentOf 31 = .ok (.getfield 25, 3) := by decide +kernel
theorem dX8_segmentOf_34 : decode cX8_segmentOf 34 = .ok (.iconst 2, 1) := by decide +kernel
theorem dX8_segmentOf_35 : decode cX8_segmentOf 35 = .ok (.iload 4, 2) := by decide +kernel
theorem dX8_segmentOf_37 : decode cX8_segmentOf 37 = .ok (.imul, 1) := by decide +kernel
theorem dX8_segmentOf_38 : decode cX8_segmentOf 38 = .ok (.iload_n 2, 1) := by decide +kernel
theorem dX8_segmentOf_39 : decode cX8_segmentOf 39 = .ok (.iadd, 1) := by decide +kernel
theorem dX8_segmentOf_40 : decode cX8_segmentOf 40 = .ok (.iaload, 1) := by decide +kernel
theorem dX8_segmentOf_41 : decode cX8_segmentOf 41 = .ok (.aload_n 0, 1) := by decide +kernel
theorem dX8_segmentOf_42 : decode cX8_segmentOf 42 = .ok (.getfield 28, 3) := by decide +kernel
theorem dX8_segmentOf_45 : decode cX8_segmentOf 45 = .ok (.iconst 2, 1) := by decide +kernel
theorem dX8_segmentOf_46 : decode cX8_segmentOf 46 = .ok (.iload 4, 2) := by decide +kernel
theorem dX8_segmentOf_48 : decode cX8_segmentOf 48 = .ok (.imul, 1) := by decide +kernel
theorem dX8_segmentOf_49 : decode cX8_segmentOf 49 = .ok (.iload_n 2, 1) := by decide +kernel
theorem dX8_segmentOf_50 : decode cX8_segmentOf 50 = .ok (.iadd, 1) := by decide +kernel
theorem dX8_segmentOf_51 : decode cX8_segmentOf 51 = .ok (.iaload, 1) := by decide +kernel
theorem dX8_segmentOf_52 : decode cX8_segmentOf 52 = .ok (.iadd, 1) := by decide +kernel
theorem dX8_segmentOf_53 : decode cX8_segmentOf 53 = .ok (.if_icmp .lt 9, 3) := by decide +kernel
theorem dX8_segmentOf_56 : decode cX8_segmentOf 56 = .ok (.iinc 4 1, 3) := by decide +kernel
theorem dX8_segmentOf_59 : decode cX8_segmentOf 59 = .ok (.goto (-56), 3) := by decide +kernel
theorem dX8_segmentOf_62 : decode cX8_segmentOf 62 = .ok (.iload 4, 2) := by decide +kernel
theorem dX8_segmentOf_64 : decode cX8_segmentOf 64 = .ok (.ireturn, 1) := by decide +kernel
theorem dX8_spreadOf_0 : decode cX8_spreadOf 0 = .ok (.aload_n 0, 1) := by decide +kernel
theorem dX8_spreadOf_1 : decode cX8_spreadOf 1 = .ok (.iload_n 1, 1) := by decide +kernel
theorem dX8_spreadOf_2 : decode cX8_spreadOf 2 = .ok (.iload_n 2, 1) := by decide +kernel
theorem dX8_spreadOf_3 : decode cX8_spreadOf 3 = .ok (.iload_n 3, 1) := by decide +kernel
theorem dX8_spreadOf_4 : decode cX8_spreadOf 4 = .ok (.invokevirtual 88, 3) := by decide +kernel
theorem dX8_spreadOf_7 : decode cX8_spreadOf 7 = .ok (.ifCond .ne 5, 3) := by decide +kernel
theorem dX8_spreadOf_10 : decode cX8_spreadOf 10 = .ok (.iconst (-1), 1) := by decide +kernel
theorem dX8_spreadOf_11 : decode cX8_spreadOf 11 = .ok (.ireturn, 1) := by decide +kernel
theorem dX8_spreadOf_12 : decode cX8_spreadOf 12 = .ok (.aload_n 0, 1) := by decide +kernel
theorem dX8_spreadOf_13 : decode cX8_spreadOf 13 = .ok (.invokevirtual 148, 3) := by decide +kernel
theorem dX8_spreadOf_16 : decode cX8_spreadOf 16 = .ok (.aload_n 0, 1) := by decide +kernel
theorem dX8_spreadOf_17 : decode cX8_spreadOf 17 = .ok (.iload_n 1, 1) := by decide +kernel
theorem dX8_spreadOf_18 : decode cX8_spreadOf 18 = .ok (.iload_n 2, 1) := by decide +kernel
theorem dX8_spreadOf_19 : decode cX8_spreadOf 19 = .ok (.iload_n 3, 1) := by decide +kernel
theorem dX8_spreadOf_20 : decode cX8_spreadOf 20 = .ok (.invokevirtual 157, 3) := by decide +kernel
theorem dX8_spreadOf_23 : decode cX8_spreadOf 23 = .ok (.istore 4, 2) := by decide +kernel
theorem dX8_spreadOf_25 : decode cX8_spreadOf 25 = .ok (.iconst 0, 1) := by decide +kernel
theorem dX8_spreadOf_26 : decode cX8_spreadOf 26 = .ok (.istore 5, 2) := by decide +kernel
theorem dX8_spreadOf_28 : decode cX8_spreadOf 28 = .ok (.aload_n 0, 1) := by decide +kernel
theorem dX8_spreadOf_29 : decode cX8_spreadOf 29 = .ok (.getfield 34, 3) := by decide +kernel
theorem dX8_spreadOf_32 : decode cX8_spreadOf 32 = .ok (.iload 5, 2) := by decide +kernel
theorem dX8_spreadOf_34 : decode cX8_spreadOf 34 = .ok (.iconst 1, 1) := by decide +kernel
theorem dX8_spreadOf_35 : decode cX8_spreadOf 35 = .ok (.iadd, 1) := by decide +kernel
theorem dX8_spreadOf_36 : decode cX8_spreadOf 36 = .ok (.iaload, 1) := by decide +kernel
theorem dX8_spreadOf_37 : decode cX8_spreadOf 37 = .ok (.iload 4, 2) := by decide +kernel
theorem dX8_spreadOf_39 : decode cX8_spreadOf 39 = .ok (.if_icmp .gt 9, 3) := by decide +kernel
theorem dX8_spreadOf_42 : decode cX8_spreadOf 42 = .ok (.iinc 5 1, 3) := by decide +kernel
theorem dX8_spreadOf_45 : decode cX8_spreadOf 45 = .ok (.goto (-17), 3) := by decide +kernel
theorem dX8_spreadOf_48 : decode cX8_spreadOf 48 = .ok (.iload 5, 2) := by decide +kernel
theorem dX8_spreadOf_50 : decode cX8_spreadOf 50 = .ok (.ireturn, 1) := by decide +kernel
theorem dX8_rowOf_0 : decode cX8_rowOf 0 = .ok (.aload_n 0, 1) := by decide +kernel
theorem dX8_rowOf_1 : decode cX8_rowOf 1 = .ok (.iload_n 1, 1) := by decide +kernel
theorem dX8_rowOf_2 : decode cX8_rowOf 2 = .ok (.iload_n 2, 1) := by decide +kernel
theorem dX8_rowOf_3 : decode cX8_rowOf 3 = .ok (.iload_n 3, 1) := by decide +kernel
theorem dX8_rowOf_4 : decode cX8_rowOf 4 = .ok (.invokevirtual 88, 3) := by decide +kernel
theorem dX8_rowOf_7 : decode cX8_rowOf 7 = .ok (.ifCond .ne 5, 3) := by decide +kernel
theorem dX8_rowOf_10 : decode cX8_rowOf 10 = .ok (.iconst (-1), 1) := by decide +kernel
theorem dX8_rowOf_11 : decode cX8_rowOf 11 = .ok (.ireturn, 1) := by decide +kernel
theorem dX8_rowOf_12 : decode cX8_rowOf 12 = .ok (.aload_n 0, 1) := by decide +kernel
theorem dX8_rowOf_13 : decode cX8_rowOf 13 = .ok (.invokevirtual 148, 3) := by decide +kernel
theorem dX8_rowOf_16 : decode cX8_rowOf 16 = .ok (.aload_n 0, 1) := by decide +kernel
theorem dX8_rowOf_17 : decode cX8_rowOf 17 = .ok (.iload_n 1, 1) := by decide +kernel
theorem dX8_rowOf_18 : decode cX8_rowOf 18 = .ok (.iload_n 2, 1) := by decide +kernel
theorem dX8_rowOf_19 : decode cX8_rowOf 19 = .ok (.iload_n 3, 1) := by decide +kernel
theorem dX8_rowOf_20 : decode cX8_rowOf 20 = .ok (.invokevirtual 157, 3) := by decide +kernel
theorem dX8_rowOf_23 : decode cX8_rowOf 23 = .ok (.istore 4, 2) := by decide +kernel
theorem dX8_rowOf_25 : decode cX8_rowOf 25 = .ok (.aload_n 0, 1) := by decide +kernel
theorem dX8_rowOf_26 : decode cX8_rowOf 26 = .ok (.getfield 31, 3) := by decide +kernel
theorem dX8_rowOf_29 : decode cX8_rowOf 29 = .ok (.iconst 2, 1) := by decide +kernel
theorem dX8_rowOf_30 : decode cX8_rowOf 30 = .ok (.iload 4, 2) := by decide +kernel
theorem dX8_rowOf_32 : decode cX8_rowOf 32 = .ok (.imul, 1) := by decide +kernel
theorem dX8_rowOf_33 : decode cX8_rowOf 33 = .ok (.iload_n 2, 1) := by decide +kernel
theorem dX8_rowOf_34 : decode cX8_rowOf 34 = .ok (.iadd, 1) := by decide +kernel
theorem dX8_rowOf_35 : decode cX8_rowOf 35 = .ok (.iaload, 1) := by decide +kernel
theorem dX8_rowOf_36 : decode cX8_rowOf 36 = .ok (.iload_n 3, 1) := by decide +kernel
theorem dX8_rowOf_37 : decode cX8_rowOf 37 = .ok (.iadd, 1) := by decide +kernel
theorem dX8_rowOf_38 : decode cX8_rowOf 38 = .ok (.aload_n 0, 1) := by decide +kernel
theorem dX8_rowOf_39 : decode cX8_rowOf 39 = .ok (.getfield 25, 3) := by decide +kernel
theorem dX8_rowOf_42 : decode cX8_rowOf 42 = .ok (.iconst 2, 1) := by decide +kernel
theorem dX8_rowOf_43 : decode cX8_rowOf 43 = .ok (.iload 4, 2) := by decide +kernel
theorem dX8_rowOf_45 : decode cX8_rowOf 45 = .ok (.imul, 1) := by decide +kernel
theorem dX8_rowOf_46 : decode cX8_rowOf 46 = .ok (.iload_n 2, 1) := by decide +kernel
theorem dX8_rowOf_47 : decode cX8_rowOf 47 = .ok (.iadd, 1) := by decide +kernel
theorem dX8_rowOf_48 : decode cX8_rowOf 48 = .ok (.iaload, 1) := by decide +kernel
theorem dX8_rowOf_49 : decode cX8_rowOf 49 = .ok (.isub, 1) := by decide +kernel
theorem dX8_rowOf_50 : decode cX8_rowOf 50 = .ok (.ireturn, 1) := by decide +kernel
theorem dX8_noteAt_0 : decode cX8_noteAt 0 = .ok (.aload_n 0, 1) := by decide +kernel
theorem dX8_noteAt_1 : decode cX8_noteAt 1 = .ok (.getfield 50, 3) := by decide +kernel
theorem dX8_noteAt_4 : decode cX8_noteAt 4 = .ok (.iconst 2, 1) := by decide +kernel
theorem dX8_noteAt_5 : decode cX8_noteAt 5 = .ok (.iload_n 1, 1) := by decide +kernel
theorem dX8_noteAt_6 : decode cX8_noteAt 6 = .ok (.imul, 1) := by decide +kernel
theorem dX8_noteAt_7 : decode cX8_noteAt 7 = .ok (.iload_n 2, 1) := by decide +kernel
theorem dX8_noteAt_8 : decode cX8_noteAt 8 = .ok (.iadd, 1) := by decide +kernel
theorem dX8_noteAt_9 : decode cX8_noteAt 9 = .ok (.iaload, 1) := by decide +kernel
theorem dX8_noteAt_10 : decode cX8_noteAt 10 = .ok (.istore 4, 2) := by decide +kernel
theorem dX8_noteAt_12 : decode cX8_noteAt 12 = .ok (.aload_n 0, 1) := by decide +kernel
theorem dX8_noteAt_13 : decode cX8_noteAt 13 = .ok (.iload_n 1, 1) := by decide +kernel
theorem dX8_noteAt_14 : decode cX8_noteAt 14 = .ok (.iload_n 2, 1) := by decide +kernel
theorem dX8_noteAt_15 : decode cX8_noteAt 15 = .ok (.invokevirtual 105, 3) := by decide +kernel
theorem dX8_noteAt_18 : decode cX8_noteAt 18 = .ok (.istore 5, 2) := by decide +kernel
theorem dX8_noteAt_20 : decode cX8_noteAt 20 = .ok (.iload_n 3, 1) := by decide +kernel
theorem dX8_noteAt_21 : decode cX8_noteAt 21 = .ok (.iload 5, 2) := by decide +kernel
theorem dX8_noteAt_23 : decode cX8_noteAt 23 = .ok (.if_icmp .ge 30, 3) := by decide +kernel
theorem dX8_noteAt_26 : decode cX8_noteAt 26 = .ok (.sipush 20000, 3) := by decide +kernel
theorem dX8_noteAt_29 : decode cX8_noteAt 29 = .ok (.bipush 100, 2) := by decide +kernel
theorem dX8_noteAt_31 : decode cX8_noteAt 31 = .ok (.iload 4, 2) := by decide +kernel
theorem dX8_noteAt_33 : decode cX8_noteAt 33 = .ok (.iconst 1, 1) := by decide +kernel
theorem dX8_noteAt_34 : decode cX8_noteAt 34 = .ok (.isub, 1) := by decide +kernel
theorem dX8_noteAt_35 : decode cX8_noteAt 35 = .ok (.imul, 1) := by decide +kernel
theorem dX8_noteAt_36 : decode cX8_noteAt 36 = .ok (.iadd, 1) := by decide +kernel
theorem dX8_noteAt_37 : decode cX8_noteAt 37 = .ok (.aload_n 0, 1) := by decide +kernel
theorem dX8_noteAt_38 : decode cX8_noteAt 38 = .ok (.iload_n 2, 1) := by decide +kernel
theorem dX8_noteAt_39 : decode cX8_noteAt 39 = .ok (.iload 4, 2) := by decide +kernel
theorem dX8_noteAt_41 : decode cX8_noteAt 41 = .ok (.iconst 1, 1) := by decide +kernel
theorem dX8_noteAt_42 : decode cX8_noteAt 42 = .ok (.isub, 1) := by decide +kernel
theorem dX8_noteAt_43 : decode cX8_noteAt 43 = .ok (.invokevirtual 108, 3) := by decide +kernel
theorem dX8_noteAt_46 : decode cX8_noteAt 46 = .ok (.iadd, 1) := by decide +kernel
theorem dX8_noteAt_47 : decode cX8_noteAt 47 = .ok (.iload 5, 2) := by decide +kernel
theorem dX8_noteAt_49 : decode cX8_noteAt 49 = .ok (.isub, 1) := by decide +kernel
theorem dX8_noteAt_50 : decode cX8_noteAt 50 = .ok (.iload_n 3, 1) := by decide +kernel
theorem dX8_noteAt_51 : decode cX8_noteAt 51 = .ok (.iadd, 1) := by decide +kernel
theorem dX8_noteAt_52 : decode cX8_noteAt 52 = .ok (.ireturn, 1) := by decide +kernel
theorem dX8_noteAt_53 : decode cX8_noteAt 53 = .ok (.iload_n 3, 1) := by decide +kernel
theorem dX8_noteAt_54 : decode cX8_noteAt 54 = .ok (.iload 5, 2) := by decide +kernel
theorem dX8_noteAt_56 : decode cX8_noteAt 56 = .ok (.isub, 1) := by decide +kernel
theorem dX8_noteAt_57 : decode cX8_noteAt 57 = .ok (.istore 6, 2) := by decide +kernel
theorem dX8_noteAt_59 : decode cX8_noteAt 59 = .ok (.iload 6, 2) := by decide +kernel
theorem dX8_noteAt_61 : decode cX8_noteAt 61 = .ok (.aload_n 0, 1) := by decide +kernel
theorem dX8_noteAt_62 : decode cX8_noteAt 62 = .ok (.iload_n 2, 1) := by decide +kernel
theorem dX8_noteAt_63 : decode cX8_noteAt 63 = .ok (.iload 4, 2) := by decide +kernel
theorem dX8_noteAt_65 : decode cX8_noteAt 65 = .ok (.invokevirtual 108, 3) := by decide +kernel
theorem dX8_noteAt_68 : decode cX8_noteAt 68 = .ok (.if_icmp .lt 21, 3) := by decide +kernel
theorem dX8_noteAt_71 : decode cX8_noteAt 71 = .ok (.iload 6, 2) := by decide +kernel
theorem dX8_noteAt_73 : decode cX8_noteAt 73 = .ok (.aload_n 0, 1) := by decide +kernel
theorem dX8_noteAt_74 : decode cX8_noteAt 74 = .ok (.iload_n 2, 1) := by decide +kernel
theorem dX8_noteAt_75 : decode cX8_noteAt 75 = .ok (.iload 4, 2) := by decide +kernel
theorem dX8_noteAt_77 : decode cX8_noteAt 77 = .ok (.invokevirtual 108, 3) := by decide +kernel
theorem dX8_noteAt_80 : decode cX8_noteAt 80 = .ok (.isub, 1) := by decide +kernel
theorem dX8_noteAt_81 : decode cX8_noteAt 81 = .ok (.istore 6, 2) := by decide +kernel
theorem dX8_noteAt_83 : decode cX8_noteAt 83 = .ok (.iinc 4 1, 3) := by decide +kernel
theorem dX8_noteAt_86 : decode cX8_noteAt 86 = .ok (.goto (-27), 3) := by decide +kernel
theorem dX8_noteAt_89 : decode cX8_noteAt 89 = .ok (.sipush 20000, 3) := by decide +kernel
theorem dX8_noteAt_92 : decode cX8_noteAt 92 = .ok (.bipush 100, 2) := by decide +kernel
theorem dX8_noteAt_94 : decode cX8_noteAt 94 = .ok (.iload 4, 2) := by decide +kernel
theorem dX8_noteAt_96 : decode cX8_noteAt 96 = .ok (.imul, 1) := by decide +kernel
theorem dX8_noteAt_97 : decode cX8_noteAt 97 = .ok (.iadd, 1) := by decide +kernel
theorem dX8_noteAt_98 : decode cX8_noteAt 98 = .ok (.iload 6, 2) := by decide +kernel
theorem dX8_noteAt_100 : decode cX8_noteAt 100 = .ok (.iadd, 1) := by decide +kernel
theorem dX8_noteAt_101 : decode cX8_noteAt 101 = .ok (.ireturn, 1) := by decide +kernel
theorem dX8_shown_0 : decode cX8_shown 0 = .ok (.aload_n 0, 1) := by decide +kernel
theorem dX8_shown_1 : decode cX8_shown 1 = .ok (.iload_n 1, 1) := by decide +kernel
theorem dX8_shown_2 : decode cX8_shown 2 = .ok (.invokevirtual 151, 3) := by decide +kernel
theorem dX8_shown_5 : decode cX8_shown 5 = .ok (.ifCond .eq 20, 3) := by decide +kernel
theorem dX8_shown_8 : decode cX8_shown 8 = .ok (.iload_n 2, 1) := by decide +kernel
theorem dX8_shown_9 : decode cX8_shown 9 = .ok (.invokestatic 70, 3) := by decide +kernel
theorem dX8_shown_12 : decode cX8_shown 12 = .ok (.ifCond .eq 13, 3) := by decide +kernel
theorem dX8_shown_15 : decode cX8_shown 15 = .ok (.iload_n 3, 1) := by decide +kernel
theorem dX8_shown_16 : decode cX8_shown 16 = .ok (.iconst 0, 1) := by decide +kernel
theorem dX8_shown_17 : decode cX8_shown 17 = .ok (.bipush 99, 2) := by decide +kernel
theorem dX8_shown_19 : decode cX8_shown 19 = .ok (.invokestatic 62, 3) := by decide +kernel
theorem dX8_shown_22 : decode cX8_shown 22 = .ok (.ifCond .ne 5, 3) := by decide +kernel
theorem dX8_shown_25 : decode cX8_shown 25 = .ok (.iconst (-1), 1) := by decide +kernel
theorem dX8_shown_26 : decode cX8_shown 26 = .ok (.ireturn, 1) := by decide +kernel
theorem dX8_shown_27 : decode cX8_shown 27 = .ok (.aload_n 0, 1) := by decide +kernel
theorem dX8_shown_28 : decode cX8_shown 28 = .ok (.getfield 34, 3) := by decide +kernel
theorem dX8_shown_31 : decode cX8_shown 31 = .ok (.iload_n 1, 1) := by decide +kernel
theorem dX8_shown_32 : decode cX8_shown 32 = .ok (.iaload, 1) := by decide +kernel
theorem dX8_shown_33 : decode cX8_shown 33 = .ok (.istore 4, 2) := by decide +kernel
theorem dX8_shown_35 : decode cX8_shown 35 = .ok (.iload 4, 2) := by decide +kernel
theorem dX8_shown_37 : decode cX8_shown 37 = .ok (.aload_n 0, 1) := by decide +kernel
theorem dX8_shown_38 : decode cX8_shown 38 = .ok (.getfield 34, 3) := by decide +kernel
theorem dX8_shown_41 : decode cX8_shown 41 = .ok (.iload_n 1, 1) := by decide +kernel
theorem dX8_shown_42 : decode cX8_shown 42 = .ok (.iconst 1, 1) := by decide +kernel
theorem dX8_shown_43 : decode cX8_shown 43 = .ok (.iadd, 1) := by decide +kernel
theorem dX8_shown_44 : decode cX8_shown 44 = .ok (.iaload, 1) := by decide +kernel
theorem dX8_shown_45 : decode cX8_shown 45 = .ok (.if_icmp .ge 76, 3) := by decide +kernel
theorem dX8_shown_48 : decode cX8_shown 48 = .ok (.iload_n 3, 1) := by decide +kernel
theorem dX8_shown_49 : decode cX8_shown 49 = .ok (.aload_n 0, 1) := by decide +kernel
theorem dX8_shown_50 : decode cX8_shown 50 = .ok (.getfield 31, 3) := by decide +kernel
theorem dX8_shown_53 : decode cX8_shown 53 = .ok (.iconst 2, 1) := by decide +kernel
theorem dX8_shown_54 : decode cX8_shown 54 = .ok (.iload 4, 2) := by decide +kernel
theorem dX8_shown_56 : decode cX8_shown 56 = .ok (.imul, 1) := by decide +kernel
theorem dX8_shown_57 : decode cX8_shown 57 = .ok (.iload_n 2, 1) := by decide +kernel
theorem dX8_shown_58 : decode cX8_shown 58 = .ok (.iadd, 1) := by decide +kernel
theorem dX8_shown_59 : decode cX8_shown 59 = .ok (.iaload, 1) := by decide +kernel
theorem dX8_shown_60 : decode cX8_shown 60 = .ok (.isub, 1) := by decide +kernel
theorem dX8_shown_61 : decode cX8_shown 61 = .ok (.istore 5, 2) := by decide +kernel
theorem dX8_shown_63 : decode cX8_shown 63 = .ok (.iload 5, 2) := by decide +kernel
theorem dX8_shown_65 : decode cX8_shown 65 = .ok (.iconst 0, 1) := by decide +kernel
theorem dX8_shown_66 : decode cX8_shown 66 = .ok (.aload_n 0, 1) := by decide +kernel
theorem dX8_shown_67 : decode cX8_shown 67 = .ok (.getfield 28, 3) := by decide +kernel
theorem dX8_shown_70 : decode cX8_shown 70 = .ok (.iconst 2, 1) := by decide +kernel
theorem dX8_shown_71 : decode cX8_shown 71 = .ok (.iload 4, 2) := by decide +kernel
theorem dX8_shown_73 : decode cX8_shown 73 = .ok (.imul, 1) := by decide +kernel
theorem dX8_shown_74 : decode cX8_shown 74 = .ok (.iload_n 2, 1) := by decide +kernel
theorem dX8_shown_75 : decode cX8_shown 75 = .ok (.iadd, 1) := by decide +kernel
theorem dX8_shown_76 : decode cX8_shown 76 = .ok (.iaload, 1) := by decide +kernel
theorem dX8_shown_77 : decode cX8_shown 77 = .ok (.iconst 1, 1) := by decide +kernel
theorem dX8_shown_78 : decode cX8_shown 78 = .ok (.isub, 1) := by decide +kernel
theorem dX8_shown_79 : decode cX8_shown 79 = .ok (.invokestatic 62, 3) := by decide +kernel
theorem dX8_shown_82 : decode cX8_shown 82 = .ok (.ifCond .eq 33, 3) := by decide +kernel
theorem dX8_shown_85 : decode cX8_shown 85 = .ok (.sipush 10000, 3) := by decide +kernel
theorem dX8_shown_88 : decode cX8_shown 88 = .ok (.bipush 100, 2) := by decide +kernel
theorem dX8_shown_90 : decode cX8_shown 90 = .ok (.aload_n 0, 1) := by decide +kernel
theorem dX8_shown_91 : decode cX8_shown 91 = .ok (.getfield 22, 3) := by decide +kernel
theorem dX8_shown_94 : decode cX8_shown 94 = .ok (.iload 4, 2) := by decide +kernel
theorem dX8_shown_96 : decode cX8_shown 96 = .ok (.iaload, 1) := by decide +kernel
theorem dX8_shown_97 : decode cX8_shown 97 = .ok (.imul, 1) := by decide +kernel
theorem dX8_shown_98 : decode cX8_shown 98 = .ok (.iadd, 1) := by decide +kernel
theorem dX8_shown_99 : decode cX8_shown 99 = .ok (.aload_n 0, 1) := by decide +kernel
theorem dX8_shown_100 : decode cX8_shown 100 = .ok (.getfield 25, 3) := by decide +kernel
theorem dX8_shown_103 : decode cX8_shown 103 = .ok (.iconst 2, 1) := by decide +kernel
theorem dX8_shown_104 : decode cX8_shown 104 = .ok (.iload 4, 2) := by decide +kernel
theorem dX8_shown_106 : decode cX8_shown 106 = .ok (.imul, 1) := by decide +kernel
theorem dX8_shown_107 : decode cX8_shown 107 = .ok (.iload_n 2, 1) := by decide +kernel
theorem dX8_shown_108 : decode cX8_shown 108 = .ok (.iadd, 1) := by decide +kernel
theorem dX8_shown_109 : decode cX8_shown 109 = .ok (.iaload, 1) := by decide +kernel
theorem dX8_shown_110 : decode cX8_shown 110 = .ok (.iadd, 1) := by decide +kernel
theorem dX8_shown_111 : decode cX8_shown 111 = .ok (.iload 5, 2) := by decide +kernel
theorem dX8_shown_113 : decode cX8_shown 113 = .ok (.iadd, 1) := by decide +kernel
theorem dX8_shown_114 : decode cX8_shown 114 = .ok (.ireturn, 1) := by decide +kernel
theorem dX8_shown_115 : decode cX8_shown 115 = .ok (.iinc 4 1, 3) := by decide +kernel
theorem dX8_shown_118 : decode cX8_shown 118 = .ok (.goto (-83), 3) := by decide +kernel
theorem dX8_shown_121 : decode cX8_shown 121 = .ok (.iconst 2, 1) := by decide +kernel
theorem dX8_shown_122 : decode cX8_shown 122 = .ok (.iload_n 1, 1) := by decide +kernel
theorem dX8_shown_123 : decode cX8_shown 123 = .ok (.imul, 1) := by decide +kernel
theorem dX8_shown_124 : decode cX8_shown 124 = .ok (.iload_n 2, 1) := by decide +kernel
theorem dX8_shown_125 : decode cX8_shown 125 = .ok (.iadd, 1) := by decide +kernel
theorem dX8_shown_126 : decode cX8_shown 126 = .ok (.istore 4, 2) := by decide +kernel
theorem dX8_shown_128 : decode cX8_shown 128 = .ok (.aload_n 0, 1) := by decide +kernel
theorem dX8_shown_129 : decode cX8_shown 129 = .ok (.aload_n 0, 1) := by decide +kernel
theorem dX8_shown_130 : decode cX8_shown 130 = .ok (.getfield 44, 3) := by decide +kernel
theorem dX8_shown_133 : decode cX8_shown 133 = .ok (.iload 4, 2) := by decide +kernel
theorem dX8_shown_135 : decode cX8_shown 135 = .ok (.iaload, 1) := by decide +kernel
theorem dX8_shown_136 : decode cX8_shown 136 = .ok (.invokevirtual 124, 3) := by decide +kernel
theorem dX8_shown_139 : decode cX8_shown 139 = .ok (.istore 5, 2) := by decide +kernel
theorem dX8_shown_141 : decode cX8_shown 141 = .ok (.aload_n 0, 1) := by decide +kernel
theorem dX8_shown_142 : decode cX8_shown 142 = .ok (.getfield 7, 3) := by decide +kernel
theorem dX8_shown_145 : decode cX8_shown 145 = .ok (.bipush 81, 2) := by decide +kernel
theorem dX8_shown_147 : decode cX8_shown 147 = .ok (.iaload, 1) := by decide +kernel
theorem dX8_shown_148 : decode cX8_shown 148 = .ok (.iload 5, 2) := by decide +kernel
theorem dX8_shown_150 : decode cX8_shown 150 = .ok (.isub, 1) := by decide +kernel
theorem dX8_shown_151 : decode cX8_shown 151 = .ok (.istore 6, 2) := by decide +kernel
theorem dX8_shown_153 : decode cX8_shown 153 = .ok (.iload 6, 2) := by decide +kernel
theorem dX8_shown_155 : decode cX8_shown 155 = .ok (.aload_n 0, 1) := by decide +kernel
theorem dX8_shown_156 : decode cX8_shown 156 = .ok (.getfield 41, 3) := by decide +kernel
theorem dX8_shown_159 : decode cX8_shown 159 = .ok (.iload 4, 2) := by decide +kernel
theorem dX8_shown_161 : decode cX8_shown 161 = .ok (.iaload, 1) := by decide +kernel
theorem dX8_shown_162 : decode cX8_shown 162 = .ok (.if_icmp .ge 13, 3) := by decide +kernel
theorem dX8_shown_165 : decode cX8_shown 165 = .ok (.aload_n 0, 1) := by decide +kernel
theorem dX8_shown_166 : decode cX8_shown 166 = .ok (.getfield 41, 3) := by decide +kernel
theorem dX8_shown_169 : decode cX8_shown 169 = .ok (.iload 4, 2) := by decide +kernel
theorem dX8_shown_171 : decode cX8_shown 171 = .ok (.iaload, 1) := by decide +kernel
theorem dX8_shown_172 : decode cX8_shown 172 = .ok (.goto 5, 3) := by decide +kernel
theorem dX8_shown_175 : decode cX8_shown 175 = .ok (.iload 6, 2) := by decide +kernel
theorem dX8_shown_177 : decode cX8_shown 177 = .ok (.istore 6, 2) := by decide +kernel
theorem dX8_shown_179 : decode cX8_shown 179 = .ok (.iload_n 3, 1) := by decide +kernel
theorem dX8_shown_180 : decode cX8_shown 180 = .ok (.iload 6, 2) := by decide +kernel
theorem dX8_shown_182 : decode cX8_shown 182 = .ok (.iload 6, 2) := by decide +kernel
theorem dX8_shown_184 : decode cX8_shown 184 = .ok (.iload 5, 2) := by decide +kernel
theorem dX8_shown_186 : decode cX8_shown 186 = .ok (.iadd, 1) := by decide +kernel
theorem dX8_shown_187 : decode cX8_shown 187 = .ok (.iconst 1, 1) := by decide +kernel
theorem dX8_shown_188 : decode cX8_shown 188 = .ok (.isub, 1) := by decide +kernel
theorem dX8_shown_189 : decode cX8_shown 189 = .ok (.invokestatic 62, 3) := by decide +kernel
theorem dX8_shown_192 : decode cX8_shown 192 = .ok (.ifCond .ne 5, 3) := by decide +kernel
theorem dX8_shown_195 : decode cX8_shown 195 = .ok (.iconst 0, 1) := by decide +kernel
theorem dX8_shown_196 : decode cX8_shown 196 = .ok (.ireturn, 1) := by decide +kernel
theorem dX8_shown_197 : decode cX8_shown 197 = .ok (.iload_n 3, 1) := by decide +kernel
theorem dX8_shown_198 : decode cX8_shown 198 = .ok (.iload 6, 2) := by decide +kernel
theorem dX8_shown_200 : decode cX8_shown 200 = .ok (.aload_n 0, 1) := by decide +kernel
theorem dX8_shown_201 : decode cX8_shown 201 = .ok (.getfield 7, 3) := by decide +kernel
theorem dX8_shown_204 : decode cX8_shown 204 = .ok (.bipush 83, 2) := by decide +kernel
theorem dX8_shown_206 : decode cX8_shown 206 = .ok (.iaload, 1) := by decide +kernel
theorem dX8_shown_207 : decode cX8_shown 207 = .ok (.iadd, 1) := by decide +kernel
theorem dX8_shown_208 : decode cX8_shown 208 = .ok (.if_icmp .ge 9, 3) := by decide +kernel
theorem dX8_shown_211 : decode cX8_shown 211 = .ok (.sipush 30000, 3) := by decide +kernel
theorem dX8_shown_214 : decode cX8_shown 214 = .ok (.goto 21, 3) := by decide +kernel
theorem dX8_shown_217 : decode cX8_shown 217 = .ok (.aload_n 0, 1) := by decide +kernel
theorem dX8_shown_218 : decode cX8_shown 218 = .ok (.iload_n 1, 1) := by decide +kernel
theorem dX8_shown_219 : decode cX8_shown 219 = .ok (.iload_n 2, 1) := by decide +kernel
theorem dX8_shown_220 : decode cX8_shown 220 = .ok (.iload_n 3, 1) := by decide +kernel
theorem dX8_shown_221 : decode cX8_shown 221 = .ok (.iload 6, 2) := by decide +kernel
theorem dX8_shown_223 : decode cX8_shown 223 = .ok (.isub, 1) := by decide +kernel
theorem dX8_shown_224 : decode cX8_shown 224 = .ok (.aload_n 0, 1) := by decide +kernel
theorem dX8_shown_225 : decode cX8_shown 225 = .ok (.getfield 7, 3) := by decide +kernel
theorem dX8_shown_228 : decode cX8_shown 228 = .ok (.bipush 83, 2) := by decide +kernel
theorem dX8_shown_230 : decode cX8_shown 230 = .ok (.iaload, 1) := by decide +kernel
theorem dX8_shown_231 : decode cX8_shown 231 = .ok (.isub, 1) := by decide +kernel
theorem dX8_shown_232 : decode cX8_shown 232 = .ok (.invokevirtual 160, 3) := by decide +kernel
theorem dX8_shown_235 : decode cX8_shown 235 = .ok (.ireturn, 1) := by decide +kernel
theorem dX8_cost_0 : decode cX8_cost 0 = .ok (.aload_n 0, 1) := by decide +kernel
theorem dX8_cost_1 : decode cX8_cost 1 = .ok (.invokevirtual 148, 3) := by decide +kernel
theorem dX8_cost_4 : decode cX8_cost 4 = .ok (.iconst 0, 1) := by decide +kernel
theorem dX8_cost_5 : decode cX8_cost 5 = .ok (.istore_n 1, 1) := by decide +kernel
theorem dX8_cost_6 : decode cX8_cost 6 = .ok (.iconst 0, 1) := by decide +kernel
theorem dX8_cost_7 : decode cX8_cost 7 = .ok (.istore_n 2, 1) := by decide +kernel
theorem dX8_cost_8 : decode cX8_cost 8 = .ok (.iload_n 2, 1) := by decide +kernel
theorem dX8_cost_9 : decode cX8_cost 9 = .ok (.iconst 2, 1) := by decide +kernel
theorem dX8_cost_10 : decode cX8_cost 10 = .ok (.aload_n 0, 1) := by decide +kernel
theorem dX8_cost_11 : decode cX8_cost 11 = .ok (.getfield 98, 3) := by decide +kernel
theorem dX8_cost_14 : decode cX8_cost 14 = .ok (.imul, 1) := by decide +kernel
theorem dX8_cost_15 : decode cX8_cost 15 = .ok (.iconst 2, 1) := by decide +kernel
theorem dX8_cost_16 : decode cX8_cost 16 = .ok (.isub, 1) := by decide +kernel
theorem dX8_cost_17 : decode cX8_cost 17 = .ok (.if_icmp .ge 23, 3) := by decide +kernel
theorem dX8_cost_20 : decode cX8_cost 20 = .ok (.iload_n 1, 1) := by decide +kernel
theorem dX8_cost_21 : decode cX8_cost 21 = .ok (.aload_n 0, 1) := by decide +kernel
theorem dX8_cost_22 : decode cX8_cost 22 = .ok (.iload_n 2, 1) := by decide +kernel
theorem dX8_cost_23 : decode cX8_cost 23 = .ok (.invokevirtual 154, 3) := by decide +kernel
theorem dX8_cost_26 : decode cX8_cost 26 = .ok (.aload_n 0, 1) := by decide +kernel
theorem dX8_cost_27 : decode cX8_cost 27 = .ok (.iload_n 2, 1) := by decide +kernel
theorem dX8_cost_28 : decode cX8_cost 28 = .ok (.invokevirtual 154, 3) := by decide +kernel
theorem dX8_cost_31 : decode cX8_cost 31 = .ok (.imul, 1) := by decide +kernel
theorem dX8_cost_32 : decode cX8_cost 32 = .ok (.iadd, 1) := by decide +kernel
theorem dX8_cost_33 : decode cX8_cost 33 = .ok (.istore_n 1, 1) := by decide +kernel
theorem dX8_cost_34 : decode cX8_cost 34 = .ok (.iinc 2 1, 3) := by decide +kernel
theorem dX8_cost_37 : decode cX8_cost 37 = .ok (.goto (-29), 3) := by decide +kernel
theorem dX8_cost_40 : decode cX8_cost 40 = .ok (.iload_n 1, 1) := by decide +kernel
theorem dX8_cost_41 : decode cX8_cost 41 = .ok (.ireturn, 1) := by decide +kernel
theorem dX8_rowsOfGroup_0 : decode cX8_rowsOfGroup 0 = .ok (.iconst 0, 1) := by decide +kernel
theorem dX8_rowsOfGroup_1 : decode cX8_rowsOfGroup 1 = .ok (.istore 4, 2) := by decide +kernel
theorem dX8_rowsOfGroup_3 : decode cX8_rowsOfGroup 3 = .ok (.iload_n 2, 1) := by decide +kernel
theorem dX8_rowsOfGroup_4 : decode cX8_rowsOfGroup 4 = .ok (.istore 5, 2) := by decide +kernel
theorem dX8_rowsOfGroup_6 : decode cX8_rowsOfGroup 6 = .ok (.iload 5, 2) := by decide +kernel
theorem dX8_rowsOfGroup_8 : decode cX8_rowsOfGroup 8 = .ok (.iload_n 3, 1) := by decide +kernel
theorem dX8_rowsOfGroup_9 : decode cX8_rowsOfGroup 9 = .ok (.iconst 1, 1) := by decide +kernel
theorem dX8_rowsOfGroup_10 : decode cX8_rowsOfGroup 10 = .ok (.isub, 1) := by decide +kernel
theorem dX8_rowsOfGroup_11 : decode cX8_rowsOfGroup 11 = .ok (.if_icmp .ge 67, 3) := by decide +kernel
theorem dX8_rowsOfGroup_14 : decode cX8_rowsOfGroup 14 = .ok (.aload_n 0, 1) := by decide +kernel
theorem dX8_rowsOfGroup_15 : decode cX8_rowsOfGroup 15 = .ok (.iload 5, 2) := by decide +kernel
theorem dX8_rowsOfGroup_17 : decode cX8_rowsOfGroup 17 = .ok (.iload_n 1, 1) := by decide +kernel
theorem dX8_rowsOfGroup_18 : decode cX8_rowsOfGroup 18 = .ok (.invokevirtual 73, 3) := by decide +kernel
theorem dX8_rowsOfGroup_21 : decode cX8_rowsOfGroup 21 = .ok (.istore 6, 2) := by decide +kernel
theorem dX8_rowsOfGroup_23 : decode cX8_rowsOfGroup 23 = .ok (.aload_n 0, 1) := by decide +kernel
theorem dX8_rowsOfGroup_24 : decode cX8_rowsOfGroup 24 = .ok (.iload 5, 2) := by decide +kernel
theorem dX8_rowsOfGroup_26 : decode cX8_rowsOfGroup 26 = .ok (.iconst 1, 1) := by decide +kernel
theorem dX8_rowsOfGroup_27 : decode cX8_rowsOfGroup 27 = .ok (.iload_n 1, 1) := by decide +kernel
theorem dX8_rowsOfGroup_28 : decode cX8_rowsOfGroup 28 = .ok (.isub, 1) := by decide +kernel
theorem dX8_rowsOfGroup_29 : decode cX8_rowsOfGroup 29 = .ok (.invokevirtual 73, 3) := by decide +kernel
theorem dX8_rowsOfGroup_32 : decode cX8_rowsOfGroup 32 = .ok (.istore 7, 2) := by decide +kernel
theorem dX8_rowsOfGroup_34 : decode cX8_rowsOfGroup 34 = .ok (.iload 4, 2) := by decide +kernel
theorem dX8_rowsOfGroup_36 : decode cX8_rowsOfGroup 36 = .ok (.aload_n 0, 1) := by decide +kernel
theorem dX8_rowsOfGroup_37 : decode cX8_rowsOfGroup 37 = .ok (.getfield 7, 3) := by decide +kernel
theorem dX8_rowsOfGroup_40 : decode cX8_rowsOfGroup 40 = .ok (.bipush 86, 2) := by decide +kernel
theorem dX8_rowsOfGroup_42 : decode cX8_rowsOfGroup 42 = .ok (.iaload, 1) := by decide +kernel
theorem dX8_rowsOfGroup_43 : decode cX8_rowsOfGroup 43 = .ok (.iconst 1, 1) := by decide +kernel
theorem dX8_rowsOfGroup_44 : decode cX8_rowsOfGroup 44 = .ok (.if_icmp .ne 15, 3) := by decide +kernel
theorem dX8_rowsOfGroup_47 : decode cX8_rowsOfGroup 47 = .ok (.iload 7, 2) := by decide +kernel
theorem dX8_rowsOfGroup_49 : decode cX8_rowsOfGroup 49 = .ok (.iload 6, 2) := by decide +kernel
theorem dX8_rowsOfGroup_51 : decode cX8_rowsOfGroup 51 = .ok (.if_icmp .le 8, 3) := by decide +kernel
theorem dX8_rowsOfGroup_54 : decode cX8_rowsOfGroup 54 = .ok (.iload 7, 2) := by decide +kernel
theorem dX8_rowsOfGroup_56 : decode cX8_rowsOfGroup 56 = .ok (.goto 5, 3) := by decide +kernel
theorem dX8_rowsOfGroup_59 : decode cX8_rowsOfGroup 59 = .ok (.iload 6, 2) := by decide +kernel
theorem dX8_rowsOfGroup_61 : decode cX8_rowsOfGroup 61 = .ok (.aload_n 0, 1) := by decide +kernel
theorem dX8_rowsOfGroup_62 : decode cX8_rowsOfGroup 62 = .ok (.getfield 7, 3) := by decide +kernel
theorem dX8_rowsOfGroup_65 : decode cX8_rowsOfGroup 65 = .ok (.bipush 82, 2) := by decide +kernel
theorem dX8_rowsOfGroup_67 : decode cX8_rowsOfGroup 67 = .ok (.iaload, 1) := by decide +kernel
theorem dX8_rowsOfGroup_68 : decode cX8_rowsOfGroup 68 = .ok (.iadd, 1) := by decide +kernel
theorem dX8_rowsOfGroup_69 : decode cX8_rowsOfGroup 69 = .ok (.iadd, 1) := by decide +kernel
theorem dX8_rowsOfGroup_70 : decode cX8_rowsOfGroup 70 = .ok (.istore 4, 2) := by decide +kernel
theorem dX8_rowsOfGroup_72 : decode cX8_rowsOfGroup 72 = .ok (.iinc 5 1, 3) := by decide +kernel
theorem dX8_rowsOfGroup_75 : decode cX8_rowsOfGroup 75 = .ok (.goto (-69), 3) := by decide +kernel
theorem dX8_rowsOfGroup_78 : decode cX8_rowsOfGroup 78 = .ok (.iconst 0, 1) := by decide +kernel
theorem dX8_rowsOfGroup_79 : decode cX8_rowsOfGroup 79 = .ok (.istore 5, 2) := by decide +kernel
theorem dX8_rowsOfGroup_81 : decode cX8_rowsOfGroup 81 = .ok (.iconst 0, 1) := by decide +kernel
theorem dX8_rowsOfGroup_82 : decode cX8_rowsOfGroup 82 = .ok (.istore 6, 2) := by decide +kernel
theorem dX8_rowsOfGroup_84 : decode cX8_rowsOfGroup 84 = .ok (.iload 6, 2) := by decide +kernel
theorem dX8_rowsOfGroup_86 : decode cX8_rowsOfGroup 86 = .ok (.aload_n 0, 1) := by decide +kernel
theorem dX8_rowsOfGroup_87 : decode cX8_rowsOfGroup 87 = .ok (.getfield 7, 3) := by decide +kernel
theorem dX8_rowsOfGroup_90 : decode cX8_rowsOfGroup 90 = .ok (.bipush 87, 2) := by decide +kernel
theorem dX8_rowsOfGroup_92 : decode cX8_rowsOfGroup 92 = .ok (.iload_n 1, 1) := by decide +kernel
theorem dX8_rowsOfGroup_93 : decode cX8_rowsOfGroup 93 = .ok (.iadd, 1) := by decide +kernel
theorem dX8_rowsOfGroup_94 : decode cX8_rowsOfGroup 94 = .ok (.iaload, 1) := by decide +kernel
theorem dX8_rowsOfGroup_95 : decode cX8_rowsOfGroup 95 = .ok (.if_icmp .ge 50, 3) := by decide +kernel
theorem dX8_rowsOfGroup_98 : decode cX8_rowsOfGroup 98 = .ok (.iload 5, 2) := by decide +kernel
theorem dX8_rowsOfGroup_100 : decode cX8_rowsOfGroup 100 = .ok (.aload_n 0, 1) := by decide +kernel
theorem dX8_rowsOfGroup_101 : decode cX8_rowsOfGroup 101 = .ok (.getfield 7, 3) := by decide +kernel
theorem dX8_rowsOfGroup_104 : decode cX8_rowsOfGroup 104 = .ok (.bipush 89, 2) := by decide +kernel
theorem dX8_rowsOfGroup_106 : decode cX8_rowsOfGroup 106 = .ok (.bipush 40, 2) := by decide +kernel
theorem dX8_rowsOfGroup_108 : decode cX8_rowsOfGroup 108 = .ok (.iload_n 1, 1) := by decide +kernel
theorem dX8_rowsOfGroup_109 : decode cX8_rowsOfGroup 109 = .ok (.imul, 1) := by decide +kernel
theorem dX8_rowsOfGroup_110 : decode cX8_rowsOfGroup 110 = .ok (.iadd, 1) := by decide +kernel
theorem dX8_rowsOfGroup_111 : decode cX8_rowsOfGroup 111 = .ok (.iload 6, 2) := by decide +kernel
theorem dX8_rowsOfGroup_113 : decode cX8_rowsOfGroup 113 = .ok (.iadd, 1) := by decide +kernel
theorem dX8_rowsOfGroup_114 : decode cX8_rowsOfGroup 114 = .ok (.iaload, 1) := by decide +kernel
theorem dX8_rowsOfGroup_115 : decode cX8_rowsOfGroup 115 = .ok (.iload_n 2, 1) := by decide +kernel
theorem dX8_rowsOfGroup_116 : decode cX8_rowsOfGroup 116 = .ok (.iload_n 3, 1) := by decide +kernel
theorem dX8_rowsOfGroup_117 : decode cX8_rowsOfGroup 117 = .ok (.iconst 1, 1) := by decide +kernel
theorem dX8_rowsOfGroup_118 : decode cX8_rowsOfGroup 118 = .ok (.isub, 1) := by decide +kernel
theorem dX8_rowsOfGroup_119 : decode cX8_rowsOfGroup 119 = .ok (.invokestatic 62, 3) := by decide +kernel
theorem dX8_rowsOfGroup_122 : decode cX8_rowsOfGroup 122 = .ok (.ifCond .eq 13, 3) := by decide +kernel
theorem dX8_rowsOfGroup_125 : decode cX8_rowsOfGroup 125 = .ok (.aload_n 0, 1) := by decide +kernel
theorem dX8_rowsOfGroup_126 : decode cX8_rowsOfGroup 126 = .ok (.iload_n 1, 1) := by decide +kernel
theorem dX8_rowsOfGroup_127 : decode cX8_rowsOfGroup 127 = .ok (.iload 6, 2) := by decide +kernel
theorem dX8_rowsOfGroup_129 : decode cX8_rowsOfGroup 129 = .ok (.invokevirtual 108, 3) := by decide +kernel
theorem dX8_rowsOfGroup_132 : decode cX8_rowsOfGroup 132 = .ok (.goto 4, 3) := by decide +kernel
theorem dX8_rowsOfGroup_135 : decode cX8_rowsOfGroup 135 = .ok (.iconst 0, 1) := by decide +kernel
theorem dX8_rowsOfGroup_136 : decode cX8_rowsOfGroup 136 = .ok (.iadd, 1) := by decide +kernel
theorem dX8_rowsOfGroup_137 : decode cX8_rowsOfGroup 137 = .ok (.istore 5, 2) := by decide +kernel
theorem dX8_rowsOfGroup_139 : decode cX8_rowsOfGroup 139 = .ok (.iinc 6 1, 3) := by decide +kernel
theorem dX8_rowsOfGroup_142 : decode cX8_rowsOfGroup 142 = .ok (.goto (-58), 3) := by decide +kernel
theorem dX8_rowsOfGroup_145 : decode cX8_rowsOfGroup 145 = .ok (.iload 4, 2) := by decide +kernel
theorem dX8_rowsOfGroup_147 : decode cX8_rowsOfGroup 147 = .ok (.aload_n 0, 1) := by decide +kernel
theorem dX8_rowsOfGroup_148 : decode cX8_rowsOfGroup 148 = .ok (.iload_n 3, 1) := by decide +kernel
theorem dX8_rowsOfGroup_149 : decode cX8_rowsOfGroup 149 = .ok (.iconst 1, 1) := by decide +kernel
theorem dX8_rowsOfGroup_150 : decode cX8_rowsOfGroup 150 = .ok (.isub, 1) := by decide +kernel
theorem dX8_rowsOfGroup_151 : decode cX8_rowsOfGroup 151 = .ok (.iload_n 1, 1) := by decide +kernel
theorem dX8_rowsOfGroup_152 : decode cX8_rowsOfGroup 152 = .ok (.invokevirtual 73, 3) := by decide +kernel
theorem dX8_rowsOfGroup_155 : decode cX8_rowsOfGroup 155 = .ok (.iadd, 1) := by decide +kernel
theorem dX8_rowsOfGroup_156 : decode cX8_rowsOfGroup 156 = .ok (.aload_n 0, 1) := by decide +kernel
theorem dX8_rowsOfGroup_157 : decode cX8_rowsOfGroup 157 = .ok (.iload 5, 2) := by decide +kernel
theorem dX8_rowsOfGroup_159 : decode cX8_rowsOfGroup 159 = .ok (.invokevirtual 124, 3) := by decide +kernel
theorem dX8_rowsOfGroup_162 : decode cX8_rowsOfGroup 162 = .ok (.iadd, 1) := by decide +kernel
theorem dX8_rowsOfGroup_163 : decode cX8_rowsOfGroup 163 = .ok (.ireturn, 1) := by decide +kernel
theorem dX8_isGroup_0 : decode cX8_isGroup 0 = .ok (.aload_n 0, 1) := by decide +kernel
theorem dX8_isGroup_1 : decode cX8_isGroup 1 = .ok (.iconst 0, 1) := by decide +kernel
theorem dX8_isGroup_2 : decode cX8_isGroup 2 = .ok (.iload_n 1, 1) := by decide +kernel
theorem dX8_isGroup_3 : decode cX8_isGroup 3 = .ok (.iload_n 2, 1) := by decide +kernel
theorem dX8_isGroup_4 : decode cX8_isGroup 4 = .ok (.invokevirtual 163, 3) := by decide +kernel
theorem dX8_isGroup_7 : decode cX8_isGroup 7 = .ok (.aload_n 0, 1) := by decide +kernel
theorem dX8_isGroup_8 : decode cX8_isGroup 8 = .ok (.getfield 7, 3) := by decide +kernel
theorem dX8_isGroup_11 : decode cX8_isGroup 11 = .ok (.bipush 81, 2) := by decide +kernel
theorem dX8_isGroup_13 : decode cX8_isGroup 13 = .ok (.iaload, 1) := by decide +kernel
theorem dX8_isGroup_14 : decode cX8_isGroup 14 = .ok (.if_icmp .gt 24, 3) := by decide +kernel
theorem dX8_isGroup_17 : decode cX8_isGroup 17 = .ok (.aload_n 0, 1) := by decide +kernel
theorem dX8_isGroup_18 : decode cX8_isGroup 18 = .ok (.iconst 1, 1) := by decide +kernel
theorem dX8_isGroup_19 : decode cX8_isGroup 19 = .ok (.iload_n 1, 1) := by decide +kernel
theorem dX8_isGroup_20 : decode cX8_isGroup 20 = .ok (.iload_n 2, 1) := by decide +kernel
theorem dX8_isGroup_21 : decode cX8_isGroup 21 = .ok (.invokevirtual 163, 3) := by decide +kernel
theorem dX8_isGroup_24 : decode cX8_isGroup 24 = .ok (.aload_n 0, 1) := by decide +kernel
theorem dX8_isGroup_25 : decode cX8_isGroup 25 = .ok (.getfield 7, 3) := by decide +kernel
theorem dX8_isGroup_28 : decode cX8_isGroup 28 = .ok (.bipush 81, 2) := by decide +kernel
theorem dX8_isGroup_30 : decode cX8_isGroup 30 = .ok (.iaload, 1) := by decide +kernel
theorem dX8_isGroup_31 : decode cX8_isGroup 31 = .ok (.if_icmp .gt 7, 3) := by decide +kernel
theorem dX8_isGroup_34 : decode cX8_isGroup 34 = .ok (.iconst 1, 1) := by decide +kernel
theorem dX8_isGroup_35 : decode cX8_isGroup 35 = .ok (.goto 4, 3) := by decide +kernel
theorem dX8_isGroup_38 : decode cX8_isGroup 38 = .ok (.iconst 0, 1) := by decide +kernel
theorem dX8_isGroup_39 : decode cX8_isGroup 39 = .ok (.istore_n 3, 1) := by decide +kernel
theorem dX8_isGroup_40 : decode cX8_isGroup 40 = .ok (.iload_n 1, 1) := by decide +kernel
theorem dX8_isGroup_41 : decode cX8_isGroup 41 = .ok (.iconst 1, 1) := by decide +kernel
theorem dX8_isGroup_42 : decode cX8_isGroup 42 = .ok (.iadd, 1) := by decide +kernel
theorem dX8_isGroup_43 : decode cX8_isGroup 43 = .ok (.istore 4, 2) := by decide +kernel
theorem dX8_isGroup_45 : decode cX8_isGroup 45 = .ok (.iload 4, 2) := by decide +kernel
theorem dX8_isGroup_47 : decode cX8_isGroup 47 = .ok (.iload_n 2, 1) := by decide +kernel
theorem dX8_isGroup_48 : decode cX8_isGroup 48 = .ok (.if_icmp .ge 32, 3) := by decide +kernel
theorem dX8_isGroup_51 : decode cX8_isGroup 51 = .ok (.iload_n 3, 1) := by decide +kernel
theorem dX8_isGroup_52 : decode cX8_isGroup 52 = .ok (.ifCond .eq 20, 3) := by decide +kernel
theorem dX8_isGroup_55 : decode cX8_isGroup 55 = .ok (.aload_n 0, 1) := by decide +kernel
theorem dX8_isGroup_56 : decode cX8_isGroup 56 = .ok (.getfield 7, 3) := by decide +kernel
theorem dX8_isGroup_59 : decode cX8_isGroup 59 = .ok (.bipush 61, 2) := by decide +kernel
theorem dX8_isGroup_61 : decode cX8_isGroup 61 = .ok (.iload 4, 2) := by decide +kernel
theorem dX8_isGroup_63 : decode cX8_isGroup 63 = .ok (.iadd, 1) := by decide +kernel
theorem dX8_isGroup_64 : decode cX8_isGroup 64 = .ok (.iaload, 1) := by decide +kernel
theorem dX8_isGroup_65 : decode cX8_isGroup 65 = .ok (.ifCond .ne 7, 3) := by decide +kernel
theorem dX8_isGroup_68 : decode cX8_isGroup 68 = .ok (.iconst 1, 1) := by decide +kernel
theorem dX8_isGroup_69 : decode cX8_isGroup 69 = .ok (.goto 4, 3) := by decide +kernel
theorem dX8_isGroup_72 : decode cX8_isGroup 72 = .ok (.iconst 0, 1) := by decide +kernel
theorem dX8_isGroup_73 : decode cX8_isGroup 73 = .ok (.istore_n 3, 1) := by decide +kernel
theorem dX8_isGroup_74 : decode cX8_isGroup 74 = .ok (.iinc 4 1, 3) := by decide +kernel
theorem dX8_isGroup_77 : decode cX8_isGroup 77 = .ok (.goto (-32), 3) := by decide +kernel
theorem dX8_isGroup_80 : decode cX8_isGroup 80 = .ok (.iload_n 3, 1) := by decide +kernel
theorem dX8_isGroup_81 : decode cX8_isGroup 81 = .ok (.ireturn, 1) := by decide +kernel
theorem dX8_divides_0 : decode cX8_divides 0 = .ok (.aload_n 0, 1) := by decide +kernel
theorem dX8_divides_1 : decode cX8_divides 1 = .ok (.getfield 7, 3) := by decide +kernel
theorem dX8_divides_4 : decode cX8_divides 4 = .ok (.iconst 0, 1) := by decide +kernel
theorem dX8_divides_5 : decode cX8_divides 5 = .ok (.iaload, 1) := by decide +kernel
theorem dX8_divides_6 : decode cX8_divides 6 = .ok (.istore_n 1, 1) := by decide +kernel
theorem dX8_divides_7 : decode cX8_divides 7 = .ok (.aload_n 0, 1) := by decide +kernel
theorem dX8_divides_8 : decode cX8_divides 8 = .ok (.getfield 56, 3) := by decide +kernel
theorem dX8_divides_11 : decode cX8_divides 11 = .ok (.iload_n 1, 1) := by decide +kernel
theorem dX8_divides_12 : decode cX8_divides 12 = .ok (.iconst 0, 1) := by decide +kernel
theorem dX8_divides_13 : decode cX8_divides 13 = .ok (.iastore, 1) := by decide +kernel
theorem dX8_divides_14 : decode cX8_divides 14 = .ok (.aload_n 0, 1) := by decide +kernel
theorem dX8_divides_15 : decode cX8_divides 15 = .ok (.getfield 59, 3) := by decide +kernel
theorem dX8_divides_18 : decode cX8_divides 18 = .ok (.iload_n 1, 1) := by decide +kernel
theorem dX8_divides_19 : decode cX8_divides 19 = .ok (.iload_n 1, 1) := by decide +kernel
theorem dX8_divides_20 : decode cX8_divides 20 = .ok (.iastore, 1) := by decide +kernel
theorem dX8_divides_21 : decode cX8_divides 21 = .ok (.iload_n 1, 1) := by decide +kernel
theorem dX8_divides_22 : decode cX8_divides 22 = .ok (.iconst 1, 1) := by decide +kernel
theorem dX8_divides_23 : decode cX8_divides 23 = .ok (.isub, 1) := by decide +kernel
theorem dX8_divides_24 : decode cX8_divides 24 = .ok (.istore_n 2, 1) := by decide +kernel
theorem dX8_divides_25 : decode cX8_divides 25 = .ok (.iload_n 2, 1) := by decide +kernel
theorem dX8_divides_26 : decode cX8_divides 26 = .ok (.ifCond .lt 146, 3) := by decide +kernel
theorem dX8_divides_29 : decode cX8_divides 29 = .ok (.aload_n 0, 1) := by decide +kernel
theorem dX8_divides_30 : decode cX8_divides 30 = .ok (.getfield 56, 3) := by decide +kernel
theorem dX8_divides_33 : decode cX8_divides 33 = .ok (.iload_n 2, 1) := by decide +kernel
theorem dX8_divides_34 : decode cX8_divides 34 = .ok (.bipush (-4), 2) := by decide +kernel
theorem dX8_divides_36 : decode cX8_divides 36 = .ok (.iastore, 1) := by decide +kernel
theorem dX8_divides_37 : decode cX8_divides 37 = .ok (.iload_n 1, 1) := by decide +kernel
theorem dX8_divides_38 : decode cX8_divides 38 = .ok (.istore_n 3, 1) := by decide +kernel
theorem dX8_divides_39 : decode cX8_divides 39 = .ok (.iload_n 3, 1) := by decide +kernel
theorem dX8_divides_40 : decode cX8_divides 40 = .ok (.iload_n 2, 1) := by decide +kernel
theorem dX8_divides_41 : decode cX8_divides 41 = .ok (.if_icmp .le 125, 3) := by decide +kernel
theorem dX8_divides_44 : decode cX8_divides 44 = .ok (.aload_n 0, 1) := by decide +kernel
theorem dX8_divides_45 : decode cX8_divides 45 = .ok (.getfield 56, 3) := by decide +kernel
theorem dX8_divides_48 : decode cX8_divides 48 = .ok (.iload_n 3, 1) := by decide +kernel
theorem dX8_divides_49 : decode cX8_divides 49 = .ok (.iaload, 1) := by decide +kernel
theorem dX8_divides_50 : decode cX8_divides 50 = .ok (.ifCond .lt 110, 3) := by decide +kernel
theorem dX8_divides_53 : decode cX8_divides 53 = .ok (.aload_n 0, 1) := by decide +kernel
theorem dX8_divides_54 : decode cX8_divides 54 = .ok (.iload_n 2, 1) := by decide +kernel
theorem dX8_divides_55 : decode cX8_divides 55 = .ok (.iload_n 3, 1) := by decide +kernel
theorem dX8_divides_56 : decode cX8_divides 56 = .ok (.invokevirtual 166, 3) := by decide +kernel
theorem dX8_divides_59 : decode cX8_divides 59 = .ok (.ifCond .eq 101, 3) := by decide +kernel
theorem dX8_divides_62 : decode cX8_divides 62 = .ok (.aload_n 0, 1) := by decide +kernel
theorem dX8_divides_63 : decode cX8_divides 63 = .ok (.getfield 7, 3) := by decide +kernel
theorem dX8_divides_66 : decode cX8_divides 66 = .ok (.bipush 81, 2) := by decide +kernel
theorem dX8_divides_68 : decode cX8_divides 68 = .ok (.iaload, 1) := by decide +kernel
theorem dX8_divides_69 : decode cX8_divides 69 = .ok (.aload_n 0, 1) := by decide +kernel
theorem dX8_divides_70 : decode cX8_divides 70 = .ok (.iconst 0, 1) := by decide +kernel
theorem dX8_divides_71 : decode cX8_divides 71 = .ok (.iload_n 2, 1) := by decide +kernel
theorem dX8_divides_72 : decode cX8_divides 72 = .ok (.iload_n 3, 1) := by decide +kernel
theorem dX8_divides_73 : decode cX8_divides 73 = .ok (.invokevirtual 163, 3) := by decide +kernel
theorem dX8_divides_76 : decode cX8_divides 76 = .ok (.isub, 1) := by decide +kernel
theorem dX8_divides_77 : decode cX8_divides 77 = .ok (.istore 4, 2) := by decide +kernel
theorem dX8_divides_79 : decode cX8_divides 79 = .ok (.aload_n 0, 1) := by decide +kernel
theorem dX8_divides_80 : decode cX8_divides 80 = .ok (.getfield 7, 3) := by decide +kernel
theorem dX8_divides_83 : decode cX8_divides 83 = .ok (.bipush 81, 2) := by decide +kernel
theorem dX8_divides_85 : decode cX8_divides 85 = .ok (.iaload, 1) := by decide +kernel
theorem dX8_divides_86 : decode cX8_divides 86 = .ok (.aload_n 0, 1) := by decide +kernel
theorem dX8_divides_87 : decode cX8_divides 87 = .ok (.iconst 1, 1) := by decide +kernel
theorem dX8_divides_88 : decode cX8_divides 88 = .ok (.iload_n 2, 1) := by decide +kernel
theorem dX8_divides_89 : decode cX8_divides 89 = .ok (.iload_n 3, 1) := by decide +kernel
theorem dX8_divides_90 : decode cX8_divides 90 = .ok (.invokevirtual 163, 3) := by decide +kernel
theorem dX8_divides_93 : decode cX8_divides 93 = .ok (.isub, 1) := by decide +kernel
theorem dX8_divides_94 : decode cX8_divides 94 = .ok (.istore 5, 2) := by decide +kernel
theorem dX8_divides_96 : decode cX8_divides 96 = .ok (.aload_n 0, 1) := by decide +kernel
theorem dX8_divides_97 : decode cX8_divides 97 = .ok (.getfield 56, 3) := by decide +kernel
theorem dX8_divides_100 : decode cX8_divides 100 = .ok (.iload_n 3, 1) := by decide +kernel
theorem dX8_divides_101 : decode cX8_divides 101 = .ok (.iaload, 1) := by decide +kernel
theorem dX8_divides_102 : decode cX8_divides 102 = .ok (.iload_n 3, 1) := by decide +kernel
theorem dX8_divides_103 : decode cX8_divides 103 = .ok (.iload_n 1, 1) := by decide +kernel
theorem dX8_divides_104 : decode cX8_divides 104 = .ok (.if_icmp .ne 7, 3) := by decide +kernel
theorem dX8_divides_107 : decode cX8_divides 107 = .ok (.iconst 0, 1) := by decide +kernel
theorem dX8_divides_108 : decode cX8_divides 108 = .ok (.goto 14, 3) := by decide +kernel
theorem dX8_divides_111 : decode cX8_divides 111 = .ok (.iload 4, 2) := by decide +kernel
theorem dX8_divides_113 : decode cX8_divides 113 = .ok (.iload 4, 2) := by decide +kernel
theorem dX8_divides_115 : decode cX8_divides 115 = .ok (.imul, 1) := by decide +kernel
theorem dX8_divides_116 : decode cX8_divides 116 = .ok (.iload 5, 2) := by decide +kernel
theorem dX8_divides_118 : decode cX8_divides 118 = .ok (.iload 5, 2) := by decide +kernel
theorem dX8_divides_120 : decode cX8_divides 120 = .ok (.imul, 1) := by decide +kernel
theorem dX8_divides_121 : decode cX8_divides 121 = .ok (.iadd, 1) := by decide +kernel
theorem dX8_divides_122 : decode cX8_divides 122 = .ok (.iadd, 1) := by decide +kernel
theorem dX8_divides_123 : decode cX8_divides 123 = .ok (.istore 6, 2) := by decide +kernel
theorem dX8_divides_125 : decode cX8_divides 125 = .ok (.aload_n 0, 1) := by decide +kernel
theorem dX8_divides_126 : decode cX8_divides 126 = .ok (.getfield 56, 3) := by decide +kernel
theorem dX8_divides_129 : decode cX8_divides 129 = .ok (.iload_n 2, 1) := by decide +kernel
theorem dX8_divides_130 : decode cX8_divides 130 = .ok (.iaload, 1) := by decide +kernel
theorem dX8_divides_131 : decode cX8_divides 131 = .ok (.ifCond .lt 14, 3) := by decide +kernel
theorem dX8_divides_134 : decode cX8_divides 134 = .ok (.iload 6, 2) := by decide +kernel
theorem dX8_divides_136 : decode cX8_divides 136 = .ok (.aload_n 0, 1) := by decide +kernel
theorem dX8_divides_137 : decode cX8_divides 137 = .ok (.getfield 56, 3) := by decide +kernel
theorem dX8_divides_140 : decode cX8_divides 140 = .ok (.iload_n 2, 1) := by decide +kernel
theorem dX8_divides_141 : decode cX8_divides 141 = .ok (.iaload, 1) := by decide +kernel
theorem dX8_divides_142 : decode cX8_divides 142 = .ok (.if_icmp .ge 18, 3) := by decide +kernel
theorem dX8_divides_145 : decode cX8_divides 145 = .ok (.aload_n 0, 1) := by decide +kernel
theorem dX8_divides_146 : decode cX8_divides 146 = .ok (.getfield 56, 3) := by decide +kernel
theorem dX8_divides_149 : decode cX8_divides 149 = .ok (.iload_n 2, 1) := by decide +kernel
theorem dX8_divides_150 : decode cX8_divides 150 = .ok (.iload 6, 2) := by decide +kernel
theorem dX8_divides_152 : decode cX8_divides 152 = .ok (.iastore, 1) := by decide +kernel
theorem dX8_divides_153 : decode cX8_divides 153 = .ok (.aload_n 0, 1) := by decide +kernel
theorem dX8_divides_154 : decode cX8_divides 154 = .ok (.getfield 59, 3) := by decide +kernel
theorem dX8_divides_157 : decode cX8_divides 157 = .ok (.iload_n 2, 1) := by decide +kernel
theorem dX8_divides_158 : decode cX8_divides 158 = .ok (.iload_n 3, 1) := by decide +kernel
theorem dX8_divides_159 : decode cX8_divides 159 = .ok (.iastore, 1) := by decide +kernel
theorem dX8_divides_160 : decode cX8_divides 160 = .ok (.iinc 3 (-1), 3) := by decide +kernel
theorem dX8_divides_163 : decode cX8_divides 163 = .ok (.goto (-124), 3) := by decide +kernel
theorem dX8_divides_166 : decode cX8_divides 166 = .ok (.iinc 2 (-1), 3) := by decide +kernel
theorem dX8_divides_169 : decode cX8_divides 169 = .ok (.goto (-144), 3) := by decide +kernel
theorem dX8_divides_172 : decode cX8_divides 172 = .ok (.return_, 1) := by decide +kernel
theorem dX8_bestCost_0 : decode cX8_bestCost 0 = .ok (.aload_n 0, 1) := by decide +kernel
theorem dX8_bestCost_1 : decode cX8_bestCost 1 = .ok (.invokevirtual 169, 3) := by decide +kernel
theorem dX8_bestCost_4 : decode cX8_bestCost 4 = .ok (.aload_n 0, 1) := by decide +kernel
theorem dX8_bestCost_5 : decode cX8_bestCost 5 = .ok (.getfield 56, 3) := by decide +kernel
theorem dX8_bestCost_8 : decode cX8_bestCost 8 = .ok (.iconst 0, 1) := by decide +kernel
theorem dX8_bestCost_9 : decode cX8_bestCost 9 = .ok (.iaload, 1) := by decide +kernel
theorem dX8_bestCost_10 : decode cX8_bestCost 10 = .ok (.ireturn, 1) := by decide +kernel
theorem dX8_bestBreak_0 : decode cX8_bestBreak 0 = .ok (.iload_n 1, 1) := by decide +kernel
theorem dX8_bestBreak_1 : decode cX8_bestBreak 1 = .ok (.ifCond .ge 5, 3) := by decide +kernel
theorem dX8_bestBreak_4 : decode cX8_bestBreak 4 = .ok (.iconst (-1), 1) := by decide +kernel
theorem dX8_bestBreak_5 : decode cX8_bestBreak 5 = .ok (.ireturn, 1) := by decide +kernel
theorem dX8_bestBreak_6 : decode cX8_bestBreak 6 = .ok (.aload_n 0, 1) := by decide +kernel
theorem dX8_bestBreak_7 : decode cX8_bestBreak 7 = .ok (.invokevirtual 169, 3) := by decide +kernel
theorem dX8_bestBreak_10 : decode cX8_bestBreak 10 = .ok (.iconst 0, 1) := by decide +kernel
theorem dX8_bestBreak_11 : decode cX8_bestBreak 11 = .ok (.istore_n 2, 1) := by decide +kernel
theorem dX8_bestBreak_12 : decode cX8_bestBreak 12 = .ok (.iconst 0, 1) := by decide +kernel
theorem dX8_bestBreak_13 : decode cX8_bestBreak 13 = .ok (.istore_n 3, 1) := by decide +kernel
theorem dX8_bestBreak_14 : decode cX8_bestBreak 14 = .ok (.iload_n 3, 1) := by decide +kernel
theorem dX8_bestBreak_15 : decode cX8_bestBreak 15 = .ok (.iload_n 1, 1) := by decide +kernel
theorem dX8_bestBreak_16 : decode cX8_bestBreak 16 = .ok (.if_icmp .ge 35, 3) := by decide +kernel
theorem dX8_bestBreak_19 : decode cX8_bestBreak 19 = .ok (.aload_n 0, 1) := by decide +kernel
theorem dX8_bestBreak_20 : decode cX8_bestBreak 20 = .ok (.getfield 56, 3) := by decide +kernel
theorem dX8_bestBreak_23 : decode cX8_bestBreak 23 = .ok (.iconst 0, 1) := by decide +kernel
theorem dX8_bestBreak_24 : decode cX8_bestBreak 24 = .ok (.iaload, 1) := by decide +kernel
theorem dX8_bestBreak_25 : decode cX8_bestBreak 25 = .ok (.ifCond .lt 26, 3) := by decide +kernel
theorem dX8_bestBreak_28 : decode cX8_bestBreak 28 = .ok (.iload_n 2, 1) := by decide +kernel
theorem dX8_bestBreak_29 : decode cX8_bestBreak 29 = .ok (.aload_n 0, 1) := by decide +kernel
theorem dX8_bestBreak_30 : decode cX8_bestBreak 30 = .ok (.getfield 7, 3) := by decide +kernel
theorem dX8_bestBreak_33 : decode cX8_bestBreak 33 = .ok (.iconst 0, 1) := by decide +kernel
theorem dX8_bestBreak_34 : decode cX8_bestBreak 34 = .ok (.iaload, 1) := by decide +kernel
theorem dX8_bestBreak_35 : decode cX8_bestBreak 35 = .ok (.if_icmp .ge 16, 3) := by decide +kernel
theorem dX8_bestBreak_38 : decode cX8_bestBreak 38 = .ok (.aload_n 0, 1) := by decide +kernel
theorem dX8_bestBreak_39 : decode cX8_bestBreak 39 = .ok (.getfield 59, 3) := by decide +kernel
theorem dX8_bestBreak_42 : decode cX8_bestBreak 42 = .ok (.iload_n 2, 1) := by decide +kernel
theorem dX8_bestBreak_43 : decode cX8_bestBreak 43 = .ok (.iaload, 1) := by decide +kernel
theorem dX8_bestBreak_44 : decode cX8_bestBreak 44 = .ok (.istore_n 2, 1) := by decide +kernel
theorem dX8_bestBreak_45 : decode cX8_bestBreak 45 = .ok (.iinc 3 1, 3) := by decide +kernel
theorem dX8_bestBreak_48 : decode cX8_bestBreak 48 = .ok (.goto (-34), 3) := by decide +kernel
theorem dX8_bestBreak_51 : decode cX8_bestBreak 51 = .ok (.aload_n 0, 1) := by decide +kernel
theorem dX8_bestBreak_52 : decode cX8_bestBreak 52 = .ok (.getfield 56, 3) := by decide +kernel
theorem dX8_bestBreak_55 : decode cX8_bestBreak 55 = .ok (.iconst 0, 1) := by decide +kernel
theorem dX8_bestBreak_56 : decode cX8_bestBreak 56 = .ok (.iaload, 1) := by decide +kernel
theorem dX8_bestBreak_57 : decode cX8_bestBreak 57 = .ok (.ifCond .lt 13, 3) := by decide +kernel
theorem dX8_bestBreak_60 : decode cX8_bestBreak 60 = .ok (.iload_n 2, 1) := by decide +kernel
theorem dX8_bestBreak_61 : decode cX8_bestBreak 61 = .ok (.aload_n 0, 1) := by decide +kernel
theorem dX8_bestBreak_62 : decode cX8_bestBreak 62 = .ok (.getfield 7, 3) := by decide +kernel
theorem dX8_bestBreak_65 : decode cX8_bestBreak 65 = .ok (.iconst 0, 1) := by decide +kernel
theorem dX8_bestBreak_66 : decode cX8_bestBreak 66 = .ok (.iaload, 1) := by decide +kernel
theorem dX8_bestBreak_67 : decode cX8_bestBreak 67 = .ok (.if_icmp .lt 8, 3) := by decide +kernel
theorem dX8_bestBreak_70 : decode cX8_bestBreak 70 = .ok (.bipush (-4), 2) := by decide +kernel
theorem dX8_bestBreak_72 : decode cX8_bestBreak 72 = .ok (.goto 4, 3) := by decide +kernel
theorem dX8_bestBreak_75 : decode cX8_bestBreak 75 = .ok (.iload_n 2, 1) := by decide +kernel
theorem dX8_bestBreak_76 : decode cX8_bestBreak 76 = .ok (.ireturn, 1) := by decide +kernel
theorem dX8_leastHeight_0 : decode cX8_leastHeight 0 = .ok (.iload_n 1, 1) := by decide +kernel
theorem dX8_leastHeight_1 : decode cX8_leastHeight 1 = .ok (.iconst 1, 1) := by decide +kernel
theorem dX8_leastHeight_2 : decode cX8_leastHeight 2 = .ok (.bipush 40, 2) := by decide +kernel
theorem dX8_leastHeight_4 : decode cX8_leastHeight 4 = .ok (.invokestatic 62, 3) := by decide +kernel
theorem dX8_leastHeight_7 : decode cX8_leastHeight 7 = .ok (.ifCond .ne 5, 3) := by decide +kernel
theorem dX8_leastHeight_10 : decode cX8_leastHeight 10 = .ok (.iconst (-1), 1) := by decide +kernel
theorem dX8_leastHeight_11 : decode cX8_leastHeight 11 = .ok (.ireturn, 1) := by decide +kernel
theorem dX8_leastHeight_12 : decode cX8_leastHeight 12 = .ok (.aload_n 0, 1) := by decide +kernel
theorem dX8_leastHeight_13 : decode cX8_leastHeight 13 = .ok (.getfield 7, 3) := by decide +kernel
theorem dX8_leastHeight_16 : decode cX8_leastHeight 16 = .ok (.bipush 81, 2) := by decide +kernel
theorem dX8_leastHeight_18 : decode cX8_leastHeight 18 = .ok (.iaload, 1) := by decide +kernel
theorem dX8_leastHeight_19 : decode cX8_leastHeight 19 = .ok (.istore_n 2, 1) := by decide +kernel
theorem dX8_leastHeight_20 : decode cX8_leastHeight 20 = .ok (.bipush (-4), 2) := by decide +kernel
theorem dX8_leastHeight_22 : decode cX8_leastHeight 22 = .ok (.istore_n 3, 1) := by decide +kernel
theorem dX8_leastHeight_23 : decode cX8_leastHeight 23 = .ok (.bipush 8, 2) := by decide +kernel
theorem dX8_leastHeight_25 : decode cX8_leastHeight 25 = .ok (.istore 4, 2) := by decide +kernel
theorem dX8_leastHeight_27 : decode cX8_leastHeight 27 = .ok (.iload 4, 2) := by decide +kernel
theorem dX8_leastHeight_29 : decode cX8_leastHeight 29 = .ok (.bipush 60, 2) := by decide +kernel
theorem dX8_leastHeight_31 : decode cX8_leastHeight 31 = .ok (.if_icmp .gt 43, 3) := by decide +kernel
theorem dX8_leastHeight_34 : decode cX8_leastHeight 34 = .ok (.iload_n 3, 1) := by decide +kernel
theorem dX8_leastHeight_35 : decode cX8_leastHeight 35 = .ok (.bipush (-4), 2) := by decide +kernel
theorem dX8_leastHeight_37 : decode cX8_leastHeight 37 = .ok (.if_icmp .ne 37, 3) := by decide +kernel
theorem dX8_leastHeight_40 : decode cX8_leastHeight 40 = .ok (.aload_n 0, 1) := by decide +kernel
theorem dX8_leastHeight_41 : decode cX8_leastHeight 41 = .ok (.getfield 7, 3) := by decide +kernel
theorem dX8_leastHeight_44 : decode cX8_leastHeight 44 = .ok (.bipush 81, 2) := by decide +kernel
theorem dX8_leastHeight_46 : decode cX8_leastHeight 46 = .ok (.iload 4, 2) := by decide +kernel
theorem dX8_leastHeight_48 : decode cX8_leastHeight 48 = .ok (.iastore, 1) := by decide +kernel
theorem dX8_leastHeight_49 : decode cX8_leastHeight 49 = .ok (.aload_n 0, 1) := by decide +kernel
theorem dX8_leastHeight_50 : decode cX8_leastHeight 50 = .ok (.invokevirtual 148, 3) := by decide +kernel
theorem dX8_leastHeight_53 : decode cX8_leastHeight 53 = .ok (.aload_n 0, 1) := by decide +kernel
theorem dX8_leastHeight_54 : decode cX8_leastHeight 54 = .ok (.getfield 98, 3) := by decide +kernel
theorem dX8_leastHeight_57 : decode cX8_leastHeight 57 = .ok (.iload_n 1, 1) := by decide +kernel
theorem dX8_leastHeight_58 : decode cX8_leastHeight 58 = .ok (.if_icmp .gt 8, 3) := by decide +kernel
theorem dX8_leastHeight_61 : decode cX8_leastHeight 61 = .ok (.iload 4, 2) := by decide +kernel
theorem dX8_leastHeight_63 : decode cX8_leastHeight 63 = .ok (.goto 4, 3) := by decide +kernel
theorem dX8_leastHeight_66 : decode cX8_leastHeight 66 = .ok (.iload_n 3, 1) := by decide +kernel
theorem dX8_leastHeight_67 : decode cX8_leastHeight 67 = .ok (.istore_n 3, 1) := by decide +kernel
theorem dX8_leastHeight_68 : decode cX8_leastHeight 68 = .ok (.iinc 4 1, 3) := by decide +kernel
theorem dX8_leastHeight_71 : decode cX8_leastHeight 71 = .ok (.goto (-44), 3) := by decide +kernel
theorem dX8_leastHeight_74 : decode cX8_leastHeight 74 = .ok (.aload_n 0, 1) := by decide +kernel
theorem dX8_leastHeight_75 : decode cX8_leastHeight 75 = .ok (.getfield 7, 3) := by decide +kernel
theorem dX8_leastHeight_78 : decode cX8_leastHeight 78 = .ok (.bipush 81, 2) := by decide +kernel
theorem dX8_leastHeight_80 : decode cX8_leastHeight 80 = .ok (.iload_n 2, 1) := by decide +kernel
theorem dX8_leastHeight_81 : decode cX8_leastHeight 81 = .ok (.iastore, 1) := by decide +kernel
theorem dX8_leastHeight_82 : decode cX8_leastHeight 82 = .ok (.iload_n 3, 1) := by decide +kernel
theorem dX8_leastHeight_83 : decode cX8_leastHeight 83 = .ok (.ireturn, 1) := by decide +kernel
theorem dX8_overfullWith_0 : decode cX8_overfullWith 0 = .ok (.iload_n 1, 1) := by decide +kernel
theorem dX8_overfullWith_1 : decode cX8_overfullWith 1 = .ok (.bipush 8, 2) := by decide +kernel
theorem dX8_overfullWith_3 : decode cX8_overfullWith 3 = .ok (.bipush 60, 2) := by decide +kernel
theorem dX8_overfullWith_5 : decode cX8_overfullWith 5 = .ok (.invokestatic 62, 3) := by decide +kernel
theorem dX8_overfullWith_8 : decode cX8_overfullWith 8 = .ok (.ifCond .ne 5, 3) := by decide +kernel
theorem dX8_overfullWith_11 : decode cX8_overfullWith 11 = .ok (.iconst (-1), 1) := by decide +kernel
theorem dX8_overfullWith_12 : decode cX8_overfullWith 12 = .ok (.ireturn, 1) := by decide +kernel
theorem dX8_overfullWith_13 : decode cX8_overfullWith 13 = .ok (.aload_n 0, 1) := by decide +kernel
theorem dX8_overfullWith_14 : decode cX8_overfullWith 14 = .ok (.getfield 7, 3) := by decide +kernel
theorem dX8_overfullWith_17 : decode cX8_overfullWith 17 = .ok (.bipush 81, 2) := by decide +kernel
theorem dX8_overfullWith_19 : decode cX8_overfullWith 19 = .ok (.iaload, 1) := by decide +kernel
theorem dX8_overfullWith_20 : decode cX8_overfullWith 20 = .ok (.istore_n 2, 1) := by decide +kernel
theorem dX8_overfullWith_21 : decode cX8_overfullWith 21 = .ok (.aload_n 0, 1) := by decide +kernel
theorem dX8_overfullWith_22 : decode cX8_overfullWith 22 = .ok (.getfield 7, 3) := by decide +kernel
theorem dX8_overfullWith_25 : decode cX8_overfullWith 25 = .ok (.bipush 81, 2) := by decide +kernel
theorem dX8_overfullWith_27 : decode cX8_overfullWith 27 = .ok (.iload_n 1, 1) := by decide +kernel
theorem dX8_overfullWith_28 : decode cX8_overfullWith 28 = .ok (.iastore, 1) := by decide +kernel
theorem dX8_overfullWith_29 : decode cX8_overfullWith 29 = .ok (.aload_n 0, 1) := by decide +kernel
theorem dX8_overfullWith_30 : decode cX8_overfullWith 30 = .ok (.invokevirtual 148, 3) := by decide +kernel
theorem dX8_overfullWith_33 : decode cX8_overfullWith 33 = .ok (.aload_n 0, 1) := by decide +kernel
theorem dX8_overfullWith_34 : decode cX8_overfullWith 34 = .ok (.getfield 7, 3) := by decide +kernel
theorem dX8_overfullWith_37 : decode cX8_overfullWith 37 = .ok (.bipush 81, 2) := by decide +kernel
theorem dX8_overfullWith_39 : decode cX8_overfullWith 39 = .ok (.iload_n 2, 1) := by decide +kernel
theorem dX8_overfullWith_40 : decode cX8_overfullWith 40 = .ok (.iastore, 1) := by decide +kernel
theorem dX8_overfullWith_41 : decode cX8_overfullWith 41 = .ok (.iconst 0, 1) := by decide +kernel
theorem dX8_overfullWith_42 : decode cX8_overfullWith 42 = .ok (.istore_n 3, 1) := by decide +kernel
theorem dX8_overfullWith_43 : decode cX8_overfullWith 43 = .ok (.iconst 0, 1) := by decide +kernel
theorem dX8_overfullWith_44 : decode cX8_overfullWith 44 = .ok (.istore 4, 2) := by decide +kernel
theorem dX8_overfullWith_46 : decode cX8_overfullWith 46 = .ok (.iload 4, 2) := by decide +kernel
theorem dX8_overfullWith_48 : decode cX8_overfullWith 48 = .ok (.aload_n 0, 1) := by decide +kernel
theorem dX8_overfullWith_49 : decode cX8_overfullWith 49 = .ok (.getfield 98, 3) := by decide +kernel
theorem dX8_overfullWith_52 : decode cX8_overfullWith 52 = .ok (.if_icmp .ge 27, 3) := by decide +kernel
theorem dX8_overfullWith_55 : decode cX8_overfullWith 55 = .ok (.iload_n 3, 1) := by decide +kernel
theorem dX8_overfullWith_56 : decode cX8_overfullWith 56 = .ok (.aload_n 0, 1) := by decide +kernel
theorem dX8_overfullWith_57 : decode cX8_overfullWith 57 = .ok (.getfield 37, 3) := by decide +kernel
theorem dX8_overfullWith_60 : decode cX8_overfullWith 60 = .ok (.iload 4, 2) := by decide +kernel
theorem dX8_overfullWith_62 : decode cX8_overfullWith 62 = .ok (.baload, 1) := by decide +kernel
theorem dX8_overfullWith_63 : decode cX8_overfullWith 63 = .ok (.ifCond .eq 7, 3) := by decide +kernel
theorem dX8_overfullWith_66 : decode cX8_overfullWith 66 = .ok (.iconst 1, 1) := by decide +kernel
theorem dX8_overfullWith_67 : decode cX8_overfullWith 67 = .ok (.goto 4, 3) := by decide +kernel
theorem dX8_overfullWith_70 : decode cX8_overfullWith 70 = .ok (.iconst 0, 1) := by decide +kernel
theorem dX8_overfullWith_71 : decode cX8_overfullWith 71 = .ok (.iadd, 1) := by decide +kernel
theorem dX8_overfullWith_72 : decode cX8_overfullWith 72 = .ok (.istore_n 3, 1) := by decide +kernel
theorem dX8_overfullWith_73 : decode cX8_overfullWith 73 = .ok (.iinc 4 1, 3) := by decide +kernel
theorem dX8_overfullWith_76 : decode cX8_overfullWith 76 = .ok (.goto (-30), 3) := by decide +kernel
theorem dX8_overfullWith_79 : decode cX8_overfullWith 79 = .ok (.iload_n 3, 1) := by decide +kernel
theorem dX8_overfullWith_80 : decode cX8_overfullWith 80 = .ok (.ireturn, 1) := by decide +kernel
theorem dX8_splitPairs_0 : decode cX8_splitPairs 0 = .ok (.aload_n 0, 1) := by decide +kernel
theorem dX8_splitPairs_1 : decode cX8_splitPairs 1 = .ok (.invokevirtual 148, 3) := by decide +kernel
theorem dX8_splitPairs_4 : decode cX8_splitPairs 4 = .ok (.iconst 0, 1) := by decide +kernel
theorem dX8_splitPairs_5 : decode cX8_splitPairs 5 = .ok (.istore_n 1, 1) := by decide +kernel
theorem dX8_splitPairs_6 : decode cX8_splitPairs 6 = .ok (.iconst 1, 1) := by decide +kernel
theorem dX8_splitPairs_7 : decode cX8_splitPairs 7 = .ok (.istore_n 2, 1) := by decide +kernel
theorem dX8_splitPairs_8 : decode cX8_splitPairs 8 = .ok (.iload_n 2, 1) := by decide +kernel
theorem dX8_splitPairs_9 : decode cX8_splitPairs 9 = .ok (.aload_n 0, 1) := by decide +kernel
theorem dX8_splitPairs_10 : decode cX8_splitPairs 10 = .ok (.getfield 95, 3) := by decide +kernel
theorem dX8_splitPairs_13 : decode cX8_splitPairs 13 = .ok (.if_icmp .ge 66, 3) := by decide +kernel
theorem dX8_splitPairs_16 : decode cX8_splitPairs 16 = .ok (.aload_n 0, 1) := by decide +kernel
theorem dX8_splitPairs_17 : decode cX8_splitPairs 17 = .ok (.getfield 22, 3) := by decide +kernel
theorem dX8_splitPairs_20 : decode cX8_splitPairs 20 = .ok (.iload_n 2, 1) := by decide +kernel
theorem dX8_splitPairs_21 : decode cX8_splitPairs 21 = .ok (.iaload, 1) := by decide +kernel
theorem dX8_splitPairs_22 : decode cX8_splitPairs 22 = .ok (.aload_n 0, 1) := by decide +kernel
theorem dX8_splitPairs_23 : decode cX8_splitPairs 23 = .ok (.getfield 22, 3) := by decide +kernel
theorem dX8_splitPairs_26 : decode cX8_splitPairs 26 = .ok (.iload_n 2, 1) := by decide +kernel
theorem dX8_splitPairs_27 : decode cX8_splitPairs 27 = .ok (.iconst 1, 1) := by decide +kernel
theorem dX8_splitPairs_28 : decode cX8_splitPairs 28 = .ok (.isub, 1) := by decide +kernel
theorem dX8_splitPairs_29 : decode cX8_splitPairs 29 = .ok (.iaload, 1) := by decide +kernel
theorem dX8_splitPairs_30 : decode cX8_splitPairs 30 = .ok (.if_icmp .ne 7, 3) := by decide +kernel
theorem dX8_splitPairs_33 : decode cX8_splitPairs 33 = .ok (.iconst 1, 1) := by decide +kernel
theorem dX8_splitPairs_34 : decode cX8_splitPairs 34 = .ok (.goto 4, 3) := by decide +kernel
theorem dX8_splitPairs_37 : decode cX8_splitPairs 37 = .ok (.iconst 0, 1) := by decide +kernel
theorem dX8_splitPairs_38 : decode cX8_splitPairs 38 = .ok (.istore_n 3, 1) := by decide +kernel
theorem dX8_splitPairs_39 : decode cX8_splitPairs 39 = .ok (.iload_n 1, 1) := by decide +kernel
theorem dX8_splitPairs_40 : decode cX8_splitPairs 40 = .ok (.iload_n 3, 1) := by decide +kernel
theorem dX8_splitPairs_41 : decode cX8_splitPairs 41 = .ok (.ifCond .eq 29, 3) := by decide +kernel
theorem dX8_splitPairs_44 : decode cX8_splitPairs 44 = .ok (.iload_n 2, 1) := by decide +kernel
theorem dX8_splitPairs_45 : decode cX8_splitPairs 45 = .ok (.iconst 1, 1) := by decide +kernel
theorem dX8_splitPairs_46 : decode cX8_splitPairs 46 = .ok (.if_icmp .eq 20, 3) := by decide +kernel
theorem dX8_splitPairs_49 : decode cX8_splitPairs 49 = .ok (.aload_n 0, 1) := by decide +kernel
theorem dX8_splitPairs_50 : decode cX8_splitPairs 50 = .ok (.getfield 22, 3) := by decide +kernel
theorem dX8_splitPairs_53 : decode cX8_splitPairs 53 = .ok (.iload_n 2, 1) := by decide +kernel
theorem dX8_splitPairs_54 : decode cX8_splitPairs 54 = .ok (.iconst 2, 1) := by decide +kernel
theorem dX8_splitPairs_55 : decode cX8_splitPairs 55 = .ok (.isub, 1) := by decide +kernel
theorem dX8_splitPairs_56 : decode cX8_splitPairs 56 = .ok (.iaload, 1) := by decide +kernel
theorem dX8_splitPairs_57 : decode cX8_splitPairs 57 = .ok (.aload_n 0, 1) := by decide +kernel
theorem dX8_splitPairs_58 : decode cX8_splitPairs 58 = .ok (.getfield 22, 3) := by decide +kernel
theorem dX8_splitPairs_61 : decode cX8_splitPairs 61 = .ok (.iload_n 2, 1) := by decide +kernel
theorem dX8_splitPairs_62 : decode cX8_splitPairs 62 = .ok (.iaload, 1) := by decide +kernel
theorem dX8_splitPairs_63 : decode cX8_splitPairs 63 = .ok (.if_icmp .eq 7, 3) := by decide +kernel
theorem dX8_splitPairs_66 : decode cX8_splitPairs 66 = .ok (.iconst 1, 1) := by decide +kernel
theorem dX8_splitPairs_67 : decode cX8_splitPairs 67 = .ok (.goto 4, 3) := by decide +kernel
theorem dX8_splitPairs_70 : decode cX8_splitPairs 70 = .ok (.iconst 0, 1) := by decide +kernel
theorem dX8_splitPairs_71 : decode cX8_splitPairs 71 = .ok (.iadd, 1) := by decide +kernel
theorem dX8_splitPairs_72 : decode cX8_splitPairs 72 = .ok (.istore_n 1, 1) := by decide +kernel
theorem dX8_splitPairs_73 : decode cX8_splitPairs 73 = .ok (.iinc 2 1, 3) := by decide +kernel
theorem dX8_splitPairs_76 : decode cX8_splitPairs 76 = .ok (.goto (-68), 3) := by decide +kernel
theorem dX8_splitPairs_79 : decode cX8_splitPairs 79 = .ok (.iload_n 1, 1) := by decide +kernel
theorem dX8_splitPairs_80 : decode cX8_splitPairs 80 = .ok (.ireturn, 1) := by decide +kernel
theorem dL_law_0 : decode cL_law 0 = .ok (.new 7, 3) := by decide +kernel
theorem dL_law_3 : decode cL_law 3 = .ok (.dup, 1) := by decide +kernel
theorem dL_law_4 : decode cL_law 4 = .ok (.invokespecial 9, 3) := by decide +kernel
theorem dL_law_7 : decode cL_law 7 = .ok (.astore_n 1, 1) := by decide +kernel
theorem dL_law_8 : decode cL_law 8 = .ok (.new 10, 3) := by decide +kernel
theorem dL_law_11 : decode cL_law 11 = .ok (.dup, 1) := by decide +kernel
theorem dL_law_12 : decode cL_law 12 = .ok (.invokespecial 12, 3) := by decide +kernel
theorem dL_law_15 : decode cL_law 15 = .ok (.astore_n 2, 1) := by decide +kernel
theorem dL_law_16 : decode cL_law 16 = .ok (.iconst 0, 1) := by decide +kernel
theorem dL_law_17 : decode cL_law 17 = .ok (.istore_n 3, 1) := by decide +kernel
theorem dL_law_18 : decode cL_law 18 = .ok (.iload_n 3, 1) := by decide +kernel
theorem dL_law_19 : decode cL_law 19 = .ok (.aload_n 0, 1) := by decide +kernel
theorem dL_law_20 : decode cL_law 20 = .ok (.arraylength, 1) := by decide +kernel
theorem dL_law_21 : decode cL_law 21 = .ok (.iconst 5, 1) := by decide +kernel
theorem dL_law_22 : decode cL_law 22 = .ok (.isub, 1) := by decide +kernel
theorem dL_law_23 : decode cL_law 23 = .ok (.if_icmp .gt 913, 3) := by decide +kernel
theorem dL_law_26 : decode cL_law 26 = .ok (.aload_n 0, 1) := by decide +kernel
theorem dL_law_27 : decode cL_law 27 = .ok (.iload_n 3, 1) := by decide +kernel
theorem dL_law_28 : decode cL_law 28 = .ok (.iaload, 1) := by decide +kernel
theorem dL_law_29 : decode cL_law 29 = .ok (.bipush 31, 2) := by decide +kernel
theorem dL_law_31 : decode cL_law 31 = .ok (.iand, 1) := by decide +kernel
theorem dL_law_32 : decode cL_law 32 = .ok (.tableswitch 898 0 25 #[120, 163, 186, 229, 272, 325, 358, 391, 404, 417, 450, 473, 516, 529, 552, 595, 638, 661, 704, 747, 790, 803, 816, 839, 862, 885], 120) := by decide +kernel
theorem dL_law_152 : decode cL_law 152 = .ok (.aload_n 1, 1) := by decide +kernel
theorem dL_law_153 : decode cL_law 153 = .ok (.aload_n 0, 1) := by decide +kernel
theorem dL_law_154 : decode cL_law 154 = .ok (.iload_n 3, 1) := by decide +kernel
theorem dL_law_155 : decode cL_law 155 = .ok (.iconst 1, 1) := by decide +kernel
theorem dL_law_156 : decode cL_law 156 = .ok (.iadd, 1) := by decide +kernel
theorem dL_law_157 : decode cL_law 157 = .ok (.iaload, 1) := by decide +kernel
theorem dL_law_158 : decode cL_law 158 = .ok (.aload_n 0, 1) := by decide +kernel
theorem dL_law_159 : decode cL_law 159 = .ok (.iload_n 3, 1) := by decide +kernel
theorem dL_law_160 : decode cL_law 160 = .ok (.iconst 2, 1) := by decide +kernel
theorem dL_law_161 : decode cL_law 161 = .ok (.iadd, 1) := by decide +kernel
theorem dL_law_162 : decode cL_law 162 = .ok (.iaload, 1) := by decide +kernel
theorem dL_law_163 : decode cL_law 163 = .ok (.aload_n 0, 1) := by decide +kernel
theorem dL_law_164 : decode cL_law 164 = .ok (.iload_n 3, 1) := by decide +kernel
theorem dL_law_165 : decode cL_law 165 = .ok (.iconst 3, 1) := by decide +kernel
theorem dL_law_166 : decode cL_law 166 = .ok (.iadd, 1) := by decide +kernel
theorem dL_law_167 : decode cL_law 167 = .ok (.iaload, 1) := by decide +kernel
theorem dL_law_168 : decode cL_law 168 = .ok (.invokevirtual 13, 3) := by decide +kernel
theorem dL_law_171 : decode cL_law 171 = .ok (.aload_n 2, 1) := by decide +kernel
theorem dL_law_172 : decode cL_law 172 = .ok (.aload_n 0, 1) := by decide +kernel
theorem dL_law_173 : decode cL_law 173 = .ok (.iload_n 3, 1) := by decide +kernel
theorem dL_law_174 : decode cL_law 174 = .ok (.iconst 1, 1) := by decide +kernel
theorem dL_law_175 : decode cL_law 175 = .ok (.iadd, 1) := by decide +kernel
theorem dL_law_176 : decode cL_law 176 = .ok (.iaload, 1) := by decide +kernel
theorem dL_law_177 : decode cL_law 177 = .ok (.aload_n 0, 1) := by decide +kernel
theorem dL_law_178 : decode cL_law 178 = .ok (.iload_n 3, 1) := by decide +kernel
theorem dL_law_179 : decode cL_law 179 = .ok (.iconst 2, 1) := by decide +kernel
theorem dL_law_180 : decode cL_law 180 = .ok (.iadd, 1) := by decide +kernel
theorem dL_law_181 : decode cL_law 181 = .ok (.iaload, 1) := by decide +kernel
theorem dL_law_182 : decode cL_law 182 = .ok (.aload_n 0, 1) := by decide +kernel
theorem dL_law_183 : decode cL_law 183 = .ok (.iload_n 3, 1) := by decide +kernel
theorem dL_law_184 : decode cL_law 184 = .ok (.iconst 3, 1) := by decide +kernel
theorem dL_law_185 : decode cL_law 185 = .ok (.iadd, 1) := by decide +kernel
theorem dL_law_186 : decode cL_law 186 = .ok (.iaload, 1) := by decide +kernel
theorem dL_law_187 : decode cL_law 187 = .ok (.invokevirtual 17, 3) := by decide +kernel
theorem dL_law_190 : decode cL_law 190 = .ok (.if_icmp .eq 740, 3) := by decide +kernel
theorem dL_law_193 : decode cL_law 193 = .ok (.iconst 0, 1) := by decide +kernel
theorem dL_law_194 : decode cL_law 194 = .ok (.ireturn, 1) := by decide +kernel
theorem dL_law_195 : decode cL_law 195 = .ok (.aload_n 1, 1) := by decide +kernel
theorem dL_law_196 : decode cL_law 196 = .ok (.aload_n 0, 1) := by decide +kernel
theorem dL_law_197 : decode cL_law 197 = .ok (.iload_n 3, 1) := by decide +kernel
theorem dL_law_198 : decode cL_law 198 = .ok (.iconst 1, 1) := by decide +kernel
theorem dL_law_199 : decode cL_law 199 = .ok (.iadd, 1) := by decide +kernel
theorem dL_law_200 : decode cL_law 200 = .ok (.iaload, 1) := by decide +kernel
theorem dL_law_201 : decode cL_law 201 = .ok (.invokevirtual 18, 3) := by decide +kernel
theorem dL_law_204 : decode cL_law 204 = .ok (.aload_n 2, 1) := by decide +kernel
theorem dL_law_205 : decode cL_law 205 = .ok (.aload_n 0, 1) := by decide +kernel
theorem dL_law_206 : decode cL_law 206 = .ok (.iload_n 3, 1) := by decide +kernel
theorem dL_law_207 : decode cL_law 207 = .ok (.iconst 1, 1) := by decide +kernel
theorem dL_law_208 : decode cL_law 208 = .ok (.iadd, 1) := by decide +kernel
theorem dL_law_209 : decode cL_law 209 = .ok (.iaload, 1) := by decide +kernel
theorem dL_law_210 : decode cL_law 210 = .ok (.invokevirtual 22, 3) := by decide +kernel
theorem dL_law_213 : decode cL_law 213 = .ok (.if_icmp .eq 717, 3) := by decide +kernel
theorem dL_law_216 : decode cL_law 216 = .ok (.iconst 0, 1) := by decide +kernel
theorem dL_law_217 : decode cL_law 217 = .ok (.ireturn, 1) := by decide +kernel
theorem dL_law_218 : decode cL_law 218 = .ok (.aload_n 1, 1) := by decide +kernel
theorem dL_law_219 : decode cL_law 219 = .ok (.aload_n 0, 1) := by decide +kernel
theorem dL_law_220 : decode cL_law 220 = .ok (.iload_n 3, 1) := by decide +kernel
theorem dL_law_221 : decode cL_law 221 = .ok (.iconst 1, 1) := by decide +kernel
theorem dL_law_222 : decode cL_law 222 = .ok (.iadd, 1) := by decide +kernel
theorem dL_law_223 : decode cL_law 223 = .ok (.iaload, 1) := by decide +kernel
theorem dL_law_224 : decode cL_law 224 = .ok (.aload_n 0, 1) := by decide +kernel
theorem dL_law_225 : decode cL_law 225 = .ok (.iload_n 3, 1) := by decide +kernel
theorem dL_law_226 : decode cL_law 226 = .ok (.iconst 2, 1) := by decide +kernel
theorem dL_law_227 : decode cL_law 227 = .ok (.iadd, 1) := by decide +kernel
theorem dL_law_228 : decode cL_law 228 = .ok (.iaload, 1) := by decide +kernel
theorem dL_law_229 : decode cL_law 229 = .ok (.aload_n 0, 1) := by decide +kernel
theorem dL_law_230 : decode cL_law 230 = .ok (.iload_n 3, 1) := by decide +kernel
theorem dL_law_231 : decode cL_law 231 = .ok (.iconst 3, 1) := by decide +kernel
theorem dL_law_232 : decode cL_law 232 = .ok (.iadd, 1) := by decide +kernel
theorem dL_law_233 : decode cL_law 233 = .ok (.iaload, 1) := by decide +kernel
theorem dL_law_234 : decode cL_law 234 = .ok (.invokevirtual 23, 3) := by decide +kernel
theorem dL_law_237 : decode cL_law 237 = .ok (.aload_n 2, 1) := by decide +kernel
theorem dL_law_238 : decode cL_law 238 = .ok (.aload_n 0, 1) := by decide +kernel
theorem dL_law_239 : decode cL_law 239 = .ok (.iload_n 3, 1) := by decide +kernel
theorem dL_law_240 : decode cL_law 240 = .ok (.iconst 1, 1) := by decide +kernel
theorem dL_law_241 : decode cL_law 241 = .ok (.iadd, 1) := by decide +kernel
theorem dL_law_242 : decode cL_law 242 = .ok (.iaload, 1) := by decide +kernel
theorem dL_law_243 : decode cL_law 243 = .ok (.aload_n 0, 1) := by decide +kernel
theorem dL_law_244 : decode cL_law 244 = .ok (.iload_n 3, 1) := by decide +kernel
theorem dL_law_245 : decode cL_law 245 = .ok (.iconst 2, 1) := by decide +kernel
theorem dL_law_246 : decode cL_law 246 = .ok (.iadd, 1) := by decide +kernel
theorem dL_law_247 : decode cL_law 247 = .ok (.iaload, 1) := by decide +kernel
theorem dL_law_248 : decode cL_law 248 = .ok (.aload_n 0, 1) := by decide +kernel
theorem dL_law_249 : decode cL_law 249 = .ok (.iload_n 3, 1) := by decide +kernel
theorem dL_law_250 : decode cL_law 250 = .ok (.iconst 3, 1) := by decide +kernel
theorem dL_law_251 : decode cL_law 251 = .ok (.iadd, 1) := by decide +kernel
theorem dL_law_252 : decode cL_law 252 = .ok (.iaload, 1) := by decide +kernel
theorem dL_law_253 : decode cL_law 253 = .ok (.invokevirtual 26, 3) := by decide +kernel
theorem dL_law_256 : decode cL_law 256 = .ok (.if_icmp .eq 674, 3) := by decide +kernel
theorem dL_law_259 : decode cL_law 259 = .ok (.iconst 0, 1) := by decide +kernel
theorem dL_law_260 : decode cL_law 260 = .ok (.ireturn, 1) := by decide +kernel
theorem dL_law_261 : decode cL_law 261 = .ok (.aload_n 1, 1) := by decide +kernel
theorem dL_law_262 : decode cL_law 262 = .ok (.aload_n 0, 1) := by decide +kernel
theorem dL_law_263 : decode cL_law 263 = .ok (.iload_n 3, 1) := by decide +kernel
theorem dL_law_264 : decode cL_law 264 = .ok (.iconst 1, 1) := by decide +kernel
theorem dL_law_265 : decode cL_law 265 = .ok (.iadd, 1) := by decide +kernel
theorem dL_law_266 : decode cL_law 266 = .ok (.iaload, 1) := by decide +kernel
theorem dL_law_267 : decode cL_law 267 = .ok (.aload_n 0, 1) := by decide +kernel
theorem dL_law_268 : decode cL_law 268 = .ok (.iload_n 3, 1) := by decide +kernel
theorem dL_law_269 : decode cL_law 269 = .ok (.iconst 2, 1) := by decide +kernel
theorem dL_law_270 : decode cL_law 270 = .ok (.iadd, 1) := by decide +kernel
theorem dL_law_271 : decode cL_law 271 = .ok (.iaload, 1) := by decide +kernel
theorem dL_law_272 : decode cL_law 272 = .ok (.aload_n 0, 1) := by decide +kernel
theorem dL_law_273 : decode cL_law 273 = .ok (.iload_n 3, 1) := by decide +kernel
theorem dL_law_274 : decode cL_law 274 = .ok (.iconst 3, 1) := by decide +kernel
theorem dL_law_275 : decode cL_law 275 = .ok (.iadd, 1) := by decide +kernel
theorem dL_law_276 : decode cL_law 276 = .ok (.iaload, 1) := by decide +kernel
theorem dL_law_277 : decode cL_law 277 = .ok (.invokevirtual 27, 3) := by decide +kernel
theorem dL_law_280 : decode cL_law 280 = .ok (.aload_n 2, 1) := by decide +kernel
theorem dL_law_281 : decode cL_law 281 = .ok (.aload_n 0, 1) := by decide +kernel
theorem dL_law_282 : decode cL_law 282 = .ok (.iload_n 3, 1) := by decide +kernel
theorem dL_law_283 : decode cL_law 283 = .ok (.iconst 1, 1) := by decide +kernel
theorem dL_law_284 : decode cL_law 284 = .ok (.iadd, 1) := by decide +kernel
theorem dL_law_285 : decode cL_law 285 = .ok (.iaload, 1) := by decide +kernel
theorem dL_law_286 : decode cL_law 286 = .ok (.aload_n 0, 1) := by decide +kernel
theorem dL_law_287 : decode cL_law 287 = .ok (.iload_n 3, 1) := by decide +kernel
theorem dL_law_288 : decode cL_law 288 = .ok (.iconst 2, 1) := by decide +kernel
theorem dL_law_289 : decode cL_law 289 = .ok (.iadd, 1) := by decide +kernel
theorem dL_law_290 : decode cL_law 290 = .ok (.iaload, 1) := by decide +kernel
theorem dL_law_291 : decode cL_law 291 = .ok (.aload_n 0, 1) := by decide +kernel
theorem dL_law_292 : decode cL_law 292 = .ok (.iload_n 3, 1) := by decide +kernel
theorem dL_law_293 : decode cL_law 293 = .ok (.iconst 3, 1) := by decide +kernel
theorem dL_law_294 : decode cL_law 294 = .ok (.iadd, 1) := by decide +kernel
theorem dL_law_295 : decode cL_law 295 = .ok (.iaload, 1) := by decide +kernel
theorem dL_law_296 : decode cL_law 296 = .ok (.invokevirtual 30, 3) := by decide +kernel
theorem dL_law_299 : decode cL_law 299 = .ok (.if_icmp .eq 631, 3) := by decide +kernel
theorem dL_law_302 : decode cL_law 302 = .ok (.iconst 0, 1) := by decide +kernel
theorem dL_law_303 : decode cL_law 303 = .ok (.ireturn, 1) := by decide +kernel
theorem dL_law_304 : decode cL_law 304 = .ok (.aload_n 1, 1) := by decide +kernel
theorem dL_law_305 : decode cL_law 305 = .ok (.aload_n 0, 1) := by decide +kernel
theorem dL_law_306 : decode cL_law 306 = .ok (.iload_n 3, 1) := by decide +kernel
theorem dL_law_307 : decode cL_law 307 = .ok (.iconst 1, 1) := by decide +kernel
theorem dL_law_308 : decode cL_law 308 = .ok (.iadd, 1) := by decide +kernel
theorem dL_law_309 : decode cL_law 309 = .ok (.iaload, 1) := by decide +kernel
theorem dL_law_310 : decode cL_law 310 = .ok (.aload_n 0, 1) := by decide +kernel
theorem dL_law_311 : decode cL_law 311 = .ok (.iload_n 3, 1) := by decide +kernel
theorem dL_law_312 : decode cL_law 312 = .ok (.iconst 2, 1) := by decide +kernel
theorem dL_law_313 : decode cL_law 313 = .ok (.iadd, 1) := by decide +kernel
theorem dL_law_314 : decode cL_law 314 = .ok (.iaload, 1) := by decide +kernel
theorem dL_law_315 : decode cL_law 315 = .ok (.aload_n 0, 1) := by decide +kernel
theorem dL_law_316 : decode cL_law 316 = .ok (.iload_n 3, 1) := by decide +kernel
theorem dL_law_317 : decode cL_law 317 = .ok (.iconst 3, 1) := by decide +kernel
theorem dL_law_318 : decode cL_law 318 = .ok (.iadd, 1) := by decide +kernel
theorem dL_law_319 : decode cL_law 319 = .ok (.iaload, 1) := by decide +kernel
theorem dL_law_320 : decode cL_law 320 = .ok (.aload_n 0, 1) := by decide +kernel
theorem dL_law_321 : decode cL_law 321 = .ok (.iload_n 3, 1) := by decide +kernel
theorem dL_law_322 : decode cL_law 322 = .ok (.iconst 4, 1) := by decide +kernel
theorem dL_law_323 : decode cL_law 323 = .ok (.iadd, 1) := by decide +kernel
theorem dL_law_324 : decode cL_law 324 = .ok (.iaload, 1) := by decide +kernel
theorem dL_law_325 : decode cL_law 325 = .ok (.invokevirtual 31, 3) := by decide +kernel
theorem dL_law_328 : decode cL_law 328 = .ok (.aload_n 2, 1) := by decide +kernel
theorem dL_law_329 : decode cL_law 329 = .ok (.aload_n 0, 1) := by decide +kernel
theorem dL_law_330 : decode cL_law 330 = .ok (.iload_n 3, 1) := by decide +kernel
theorem dL_law_331 : decode cL_law 331 = .ok (.iconst 1, 1) := by decide +kernel
theorem dL_law_332 : decode cL_law 332 = .ok (.iadd, 1) := by decide +kernel
theorem dL_law_333 : decode cL_law 333 = .ok (.iaload, 1) := by decide +kernel
theorem dL_law_334 : decode cL_law 334 = .ok (.aload_n 0, 1) := by decide +kernel
theorem dL_law_335 : decode cL_law 335 = .ok (.iload_n 3, 1) := by decide +kernel
theorem dL_law_336 : decode cL_law 336 = .ok (.iconst 2, 1) := by decide +kernel
theorem dL_law_337 : decode cL_law 337 = .ok (.iadd, 1) := by decide +kernel
theorem dL_law_338 : decode cL_law 338 = .ok (.iaload, 1) := by decide +kernel
theorem dL_law_339 : decode cL_law 339 = .ok (.aload_n 0, 1) := by decide +kernel
theorem dL_law_340 : decode cL_law 340 = .ok (.iload_n 3, 1) := by decide +kernel
theorem dL_law_341 : decode cL_law 341 = .ok (.iconst 3, 1) := by decide +kernel
theorem dL_law_342 : decode cL_law 342 = .ok (.iadd, 1) := by decide +kernel
theorem dL_law_343 : decode cL_law 343 = .ok (.iaload, 1) := by decide +kernel
theorem dL_law_344 : decode cL_law 344 = .ok (.aload_n 0, 1) := by decide +kernel
theorem dL_law_345 : decode cL_law 345 = .ok (.iload_n 3, 1) := by decide +kernel
theorem dL_law_346 : decode cL_law 346 = .ok (.iconst 4, 1) := by decide +kernel
theorem dL_law_347 : decode cL_law 347 = .ok (.iadd, 1) := by decide +kernel
theorem dL_law_348 : decode cL_law 348 = .ok (.iaload, 1) := by decide +kernel
theorem dL_law_349 : decode cL_law 349 = .ok (.invokevirtual 35, 3) := by decide +kernel
theorem dL_law_352 : decode cL_law 352 = .ok (.if_icmp .eq 578, 3) := by decide +kernel
theorem dL_law_355 : decode cL_law 355 = .ok (.iconst 0, 1) := by decide +kernel
theorem dL_law_356 : decode cL_law 356 = .ok (.ireturn, 1) := by decide +kernel
theorem dL_law_357 : decode cL_law 357 = .ok (.aload_n 1, 1) := by decide +kernel
theorem dL_law_358 : decode cL_law 358 = .ok (.aload_n 0, 1) := by decide +kernel
theorem dL_law_359 : decode cL_law 359 = .ok (.iload_n 3, 1) := by decide +kernel
theorem dL_law_360 : decode cL_law 360 = .ok (.iconst 1, 1) := by decide +kernel
theorem dL_law_361 : decode cL_law 361 = .ok (.iadd, 1) := by decide +kernel
theorem dL_law_362 : decode cL_law 362 = .ok (.iaload, 1) := by decide +kernel
theorem dL_law_363 : decode cL_law 363 = .ok (.aload_n 0, 1) := by decide +kernel
theorem dL_law_364 : decode cL_law 364 = .ok (.iload_n 3, 1) := by decide +kernel
theorem dL_law_365 : decode cL_law 365 = .ok (.iconst 2, 1) := by decide +kernel
theorem dL_law_366 : decode cL_law 366 = .ok (.iadd, 1) := by decide +kernel
theorem dL_law_367 : decode cL_law 367 = .ok (.iaload, 1) := by decide +kernel
theorem dL_law_368 : decode cL_law 368 = .ok (.invokevirtual 36, 3) := by decide +kernel
theorem dL_law_371 : decode cL_law 371 = .ok (.aload_n 2, 1) := by decide +kernel
theorem dL_law_372 : decode cL_law 372 = .ok (.aload_n 0, 1) := by decide +kernel
theorem dL_law_373 : decode cL_law 373 = .ok (.iload_n 3, 1) := by decide +kernel
theorem dL_law_374 : decode cL_law 374 = .ok (.iconst 1, 1) := by decide +kernel
theorem dL_law_375 : decode cL_law 375 = .ok (.iadd, 1) := by decide +kernel
theorem dL_law_376 : decode cL_law 376 = .ok (.iaload, 1) := by decide +kernel
theorem dL_law_377 : decode cL_law 377 = .ok (.aload_n 0, 1) := by decide +kernel
theorem dL_law_378 : decode cL_law 378 = .ok (.iload_n 3, 1) := by decide +kernel
theorem dL_law_379 : decode cL_law 379 = .ok (.iconst 2, 1) := by decide +kernel
theorem dL_law_380 : decode cL_law 380 = .ok (.iadd, 1) := by decide +kernel
theorem dL_law_381 : decode cL_law 381 = .ok (.iaload, 1) := by decide +kernel
theorem dL_law_382 : decode cL_law 382 = .ok (.invokevirtual 40, 3) := by decide +kernel
theorem dL_law_385 : decode cL_law 385 = .ok (.if_icmp .eq 545, 3) := by decide +kernel
theorem dL_law_388 : decode cL_law 388 = .ok (.iconst 0, 1) := by decide +kernel
theorem dL_law_389 : decode cL_law 389 = .ok (.ireturn, 1) := by decide +kernel
theorem dL_law_390 : decode cL_law 390 = .ok (.aload_n 1, 1) := by decide +kernel
theorem dL_law_391 : decode cL_law 391 = .ok (.aload_n 0, 1) := by decide +kernel
theorem dL_law_392 : decode cL_law 392 = .ok (.iload_n 3, 1) := by decide +kernel
theorem dL_law_393 : decode cL_law 393 = .ok (.iconst 1, 1) := by decide +kernel
theorem dL_law_394 : decode cL_law 394 = .ok (.iadd, 1) := by decide +kernel
theorem dL_law_395 : decode cL_law 395 = .ok (.iaload, 1) := by decide +kernel
theorem dL_law_396 : decode cL_law 396 = .ok (.aload_n 0, 1) := by decide +kernel
theorem dL_law_397 : decode cL_law 397 = .ok (.iload_n 3, 1) := by decide +kernel
theorem dL_law_398 : decode cL_law 398 = .ok (.iconst 2, 1) := by decide +kernel
theorem dL_law_399 : decode cL_law 399 = .ok (.iadd, 1) := by decide +kernel
theorem dL_law_400 : decode cL_law 400 = .ok (.iaload, 1) := by decide +kernel
theorem dL_law_401 : decode cL_law 401 = .ok (.invokevirtual 41, 3) := by decide +kernel
theorem dL_law_404 : decode cL_law 404 = .ok (.aload_n 2, 1) := by decide +kernel
theorem dL_law_405 : decode cL_law 405 = .ok (.aload_n 0, 1) := by decide +kernel
theorem dL_law_406 : decode cL_law 406 = .ok (.iload_n 3, 1) := by decide +kernel
theorem dL_law_407 : decode cL_law 407 = .ok (.iconst 1, 1) := by decide +kernel
theorem dL_law_408 : decode cL_law 408 = .ok (.iadd, 1) := by decide +kernel
theorem dL_law_409 : decode cL_law 409 = .ok (.iaload, 1) := by decide +kernel
theorem dL_law_410 : decode cL_law 410 = .ok (.aload_n 0, 1) := by decide +kernel
theorem dL_law_411 : decode cL_law 411 = .ok (.iload_n 3, 1) := by decide +kernel
theorem dL_law_412 : decode cL_law 412 = .ok (.iconst 2, 1) := by decide +kernel
theorem dL_law_413 : decode cL_law 413 = .ok (.iadd, 1) := by decide +kernel
theorem dL_law_414 : decode cL_law 414 = .ok (.iaload, 1) := by decide +kernel
theorem dL_law_415 : decode cL_law 415 = .ok (.invokevirtual 44, 3) := by decide +kernel
theorem dL_law_418 : decode cL_law 418 = .ok (.if_icmp .eq 512, 3) := by decide +kernel
theorem dL_law_421 : decode cL_law 421 = .ok (.iconst 0, 1) := by decide +kernel
theorem dL_law_422 : decode cL_law 422 = .ok (.ireturn, 1) := by decide +kernel
theorem dL_law_423 : decode cL_law 423 = .ok (.aload_n 1, 1) := by decide +kernel
theorem dL_law_424 : decode cL_law 424 = .ok (.invokevirtual 45, 3) := by decide +kernel
theorem dL_law_427 : decode cL_law 427 = .ok (.aload_n 2, 1) := by decide +kernel
theorem dL_law_428 : decode cL_law 428 = .ok (.invokevirtual 49, 3) := by decide +kernel
theorem dL_law_431 : decode cL_law 431 = .ok (.if_icmp .eq 499, 3) := by decide +kernel
theorem dL_law_434 : decode cL_law 434 = .ok (.iconst 0, 1) := by decide +kernel
theorem dL_law_435 : decode cL_law 435 = .ok (.ireturn, 1) := by decide +kernel
theorem dL_law_436 : decode cL_law 436 = .ok (.aload_n 1, 1) := by decide +kernel
theorem dL_law_437 : decode cL_law 437 = .ok (.invokevirtual 50, 3) := by decide +kernel
theorem dL_law_440 : decode cL_law 440 = .ok (.aload_n 2, 1) := by decide +kernel
theorem dL_law_441 : decode cL_law 441 = .ok (.invokevirtual 53, 3) := by decide +kernel
theorem dL_law_444 : decode cL_law 444 = .ok (.if_icmp .eq 486, 3) := by decide +kernel
theorem dL_law_447 : decode cL_law 447 = .ok (.iconst 0, 1) := by decide +kernel
theorem dL_law_448 : decode cL_law 448 = .ok (.ireturn, 1) := by decide +kernel
theorem dL_law_449 : decode cL_law 449 = .ok (.aload_n 1, 1) := by decide +kernel
theorem dL_law_450 : decode cL_law 450 = .ok (.aload_n 0, 1) := by decide +kernel
theorem dL_law_451 : decode cL_law 451 = .ok (.iload_n 3, 1) := by decide +kernel
theorem dL_law_452 : decode cL_law 452 = .ok (.iconst 1, 1) := by decide +kernel
theorem dL_law_453 : decode cL_law 453 = .ok (.iadd, 1) := by decide +kernel
theorem dL_law_454 : decode cL_law 454 = .ok (.iaload, 1) := by decide +kernel
theorem dL_law_455 : decode cL_law 455 = .ok (.aload_n 0, 1) := by decide +kernel
theorem dL_law_456 : decode cL_law 456 = .ok (.iload_n 3, 1) := by decide +kernel
theorem dL_law_457 : decode cL_law 457 = .ok (.iconst 2, 1) := by decide +kernel
theorem dL_law_458 : decode cL_law 458 = .ok (.iadd, 1) := by decide +kernel
theorem dL_law_459 : decode cL_law 459 = .ok (.iaload, 1) := by decide +kernel
theorem dL_law_460 : decode cL_law 460 = .ok (.invokevirtual 54, 3) := by decide +kernel
theorem dL_law_463 : decode cL_law 463 = .ok (.aload_n 2, 1) := by decide +kernel
theorem dL_law_464 : decode cL_law 464 = .ok (.aload_n 0, 1) := by decide +kernel
theorem dL_law_465 : decode cL_law 465 = .ok (.iload_n 3, 1) := by decide +kernel
theorem dL_law_466 : decode cL_law 466 = .ok (.iconst 1, 1) := by decide +kernel
theorem dL_law_467 : decode cL_law 467 = .ok (.iadd, 1) := by decide +kernel
theorem dL_law_468 : decode cL_law 468 = .ok (.iaload, 1) := by decide +kernel
theorem dL_law_469 : decode cL_law 469 = .ok (.aload_n 0, 1) := by decide +kernel
theorem dL_law_470 : decode cL_law 470 = .ok (.iload_n 3, 1) := by decide +kernel
theorem dL_law_471 : decode cL_law 471 = .ok (.iconst 2, 1) := by decide +kernel
theorem dL_law_472 : decode cL_law 472 = .ok (.iadd, 1) := by decide +kernel
theorem dL_law_473 : decode cL_law 473 = .ok (.iaload, 1) := by decide +kernel
theorem dL_law_474 : decode cL_law 474 = .ok (.invokevirtual 57, 3) := by decide +kernel
theorem dL_law_477 : decode cL_law 477 = .ok (.if_icmp .eq 453, 3) := by decide +kernel
theorem dL_law_480 : decode cL_law 480 = .ok (.iconst 0, 1) := by decide +kernel
theorem dL_law_481 : decode cL_law 481 = .ok (.ireturn, 1) := by decide +kernel
theorem dL_law_482 : decode cL_law 482 = .ok (.aload_n 1, 1) := by decide +kernel
theorem dL_law_483 : decode cL_law 483 = .ok (.aload_n 0, 1) := by decide +kernel
theorem dL_law_484 : decode cL_law 484 = .ok (.iload_n 3, 1) := by decide +kernel
theorem dL_law_485 : decode cL_law 485 = .ok (.iconst 1, 1) := by decide +kernel
theorem dL_law_486 : decode cL_law 486 = .ok (.iadd, 1) := by decide +kernel
theorem dL_law_487 : decode cL_law 487 = .ok (.iaload, 1) := by decide +kernel
theorem dL_law_488 : decode cL_law 488 = .ok (.invokevirtual 58, 3) := by decide +kernel
theorem dL_law_491 : decode cL_law 491 = .ok (.aload_n 2, 1) := by decide +kernel
theorem dL_law_492 : decode cL_law 492 = .ok (.aload_n 0, 1) := by decide +kernel
theorem dL_law_493 : decode cL_law 493 = .ok (.iload_n 3, 1) := by decide +kernel
theorem dL_law_494 : decode cL_law 494 = .ok (.iconst 1, 1) := by decide +kernel
theorem dL_law_495 : decode cL_law 495 = .ok (.iadd, 1) := by decide +kernel
theorem dL_law_496 : decode cL_law 496 = .ok (.iaload, 1) := by decide +kernel
theorem dL_law_497 : decode cL_law 497 = .ok (.invokevirtual 61, 3) := by decide +kernel
theorem dL_law_500 : decode cL_law 500 = .ok (.if_icmp .eq 430, 3) := by decide +kernel
theorem dL_law_503 : decode cL_law 503 = .ok (.iconst 0, 1) := by decide +kernel
theorem dL_law_504 : decode cL_law 504 = .ok (.ireturn, 1) := by decide +kernel
theorem dL_law_505 : decode cL_law 505 = .ok (.aload_n 1, 1) := by decide +kernel
theorem dL_law_506 : decode cL_law 506 = .ok (.aload_n 0, 1) := by decide +kernel
theorem dL_law_507 : decode cL_law 507 = .ok (.iload_n 3, 1) := by decide +kernel
theorem dL_law_508 : decode cL_law 508 = .ok (.iconst 1, 1) := by decide +kernel
theorem dL_law_509 : decode cL_law 509 = .ok (.iadd, 1) := by decide +kernel
theorem dL_law_510 : decode cL_law 510 = .ok (.iaload, 1) := by decide +kernel
theorem dL_law_511 : decode cL_law 511 = .ok (.aload_n 0, 1) := by decide +kernel
theorem dL_law_512 : decode cL_law 512 = .ok (.iload_n 3, 1) := by decide +kernel
theorem dL_law_513 : decode cL_law 513 = .ok (.iconst 2, 1) := by decide +kernel
theorem dL_law_514 : decode cL_law 514 = .ok (.iadd, 1) := by decide +kernel
theorem dL_law_515 : decode cL_law 515 = .ok (.iaload, 1) := by decide +kernel
theorem dL_law_516 : decode cL_law 516 = .ok (.aload_n 0, 1) := by decide +kernel
theorem dL_law_517 : decode cL_law 517 = .ok (.iload_n 3, 1) := by decide +kernel
theorem dL_law_518 : decode cL_law 518 = .ok (.iconst 3, 1) := by decide +kernel
theorem dL_law_519 : decode cL_law 519 = .ok (.iadd, 1) := by decide +kernel
theorem dL_law_520 : decode cL_law 520 = .ok (.iaload, 1) := by decide +kernel
theorem dL_law_521 : decode cL_law 521 = .ok (.invokevirtual 62, 3) := by decide +kernel
theorem dL_law_524 : decode cL_law 524 = .ok (.aload_n 2, 1) := by decide +kernel
theorem dL_law_525 : decode cL_law 525 = .ok (.aload_n 0, 1) := by decide +kernel
theorem dL_law_526 : decode cL_law 526 = .ok (.iload_n 3, 1) := by decide +kernel
theorem dL_law_527 : decode cL_law 527 = .ok (.iconst 1, 1) := by decide +kernel
theorem dL_law_528 : decode cL_law 528 = .ok (.iadd, 1) := by decide +kernel
theorem dL_law_529 : decode cL_law 529 = .ok (.iaload, 1) := by decide +kernel
theorem dL_law_530 : decode cL_law 530 = .ok (.aload_n 0, 1) := by decide +kernel
theorem dL_law_531 : decode cL_law 531 = .ok (.iload_n 3, 1) := by decide +kernel
theorem dL_law_532 : decode cL_law 532 = .ok (.iconst 2, 1) := by decide +kernel
theorem dL_law_533 : decode cL_law 533 = .ok (.iadd, 1) := by decide +kernel
theorem dL_law_534 : decode cL_law 534 = .ok (.iaload, 1) := by decide +kernel
theorem dL_law_535 : decode cL_law 535 = .ok (.aload_n 0, 1) := by decide +kernel
theorem dL_law_536 : decode cL_law 536 = .ok (.iload_n 3, 1) := by decide +kernel
theorem dL_law_537 : decode cL_law 537 = .ok (.iconst 3, 1) := by decide +kernel
theorem dL_law_538 : decode cL_law 538 = .ok (.iadd, 1) := by decide +kernel
theorem dL_law_539 : decode cL_law 539 = .ok (.iaload, 1) := by decide +kernel
theorem dL_law_540 : decode cL_law 540 = .ok (.invokevirtual 65, 3) := by decide +kernel
theorem dL_law_543 : decode cL_law 543 = .ok (.if_icmp .eq 387, 3) := by decide +kernel
theorem dL_law_546 : decode cL_law 546 = .ok (.iconst 0, 1) := by decide +kernel
theorem dL_law_547 : decode cL_law 547 = .ok (.ireturn, 1) := by decide +kernel
theorem dL_law_548 : decode cL_law 548 = .ok (.aload_n 1, 1) := by decide +kernel
theorem dL_law_549 : decode cL_law 549 = .ok (.invokevirtual 66, 3) := by decide +kernel
theorem dL_law_552 : decode cL_law 552 = .ok (.aload_n 2, 1) := by decide +kernel
theorem dL_law_553 : decode cL_law 553 = .ok (.invokevirtual 69, 3) := by decide +kernel
theorem dL_law_556 : decode cL_law 556 = .ok (.if_icmp .eq 374, 3) := by decide +kernel
theorem dL_law_559 : decode cL_law 559 = .ok (.iconst 0, 1) := by decide +kernel
theorem dL_law_560 : decode cL_law 560 = .ok (.ireturn, 1) := by decide +kernel
theorem dL_law_561 : decode cL_law 561 = .ok (.aload_n 1, 1) := by decide +kernel
theorem dL_law_562 : decode cL_law 562 = .ok (.aload_n 0, 1) := by decide +kernel
theorem dL_law_563 : decode cL_law 563 = .ok (.iload_n 3, 1) := by decide +kernel
theorem dL_law_564 : decode cL_law 564 = .ok (.iconst 1, 1) := by decide +kernel
theorem dL_law_565 : decode cL_law 565 = .ok (.iadd, 1) := by decide +kernel
theorem dL_law_566 : decode cL_law 566 = .ok (.iaload, 1) := by decide +kernel
theorem dL_law_567 : decode cL_law 567 = .ok (.invokevirtual 70, 3) := by decide +kernel
theorem dL_law_570 : decode cL_law 570 = .ok (.aload_n 2, 1) := by decide +kernel
theorem dL_law_571 : decode cL_law 571 = .ok (.aload_n 0, 1) := by decide +kernel
theorem dL_law_572 : decode cL_law 572 = .ok (.iload_n 3, 1) := by decide +kernel
theorem dL_law_573 : decode cL_law 573 = .ok (.iconst 1, 1) := by decide +kernel
theorem dL_law_574 : decode cL_law 574 = .ok (.iadd, 1) := by decide +kernel
theorem dL_law_575 : decode cL_law 575 = .ok (.iaload, 1) := by decide +kernel
theorem dL_law_576 : decode cL_law 576 = .ok (.invokevirtual 73, 3) := by decide +kernel
theorem dL_law_579 : decode cL_law 579 = .ok (.if_icmp .eq 351, 3) := by decide +kernel
theorem dL_law_582 : decode cL_law 582 = .ok (.iconst 0, 1) := by decide +kernel
theorem dL_law_583 : decode cL_law 583 = .ok (.ireturn, 1) := by decide +kernel
theorem dL_law_584 : decode cL_law 584 = .ok (.aload_n 1, 1) := by decide +kernel
theorem dL_law_585 : decode cL_law 585 = .ok (.aload_n 0, 1) := by decide +kernel
theorem dL_law_586 : decode cL_law 586 = .ok (.iload_n 3, 1) := by decide +kernel
theorem dL_law_587 : decode cL_law 587 = .ok (.iconst 1, 1) := by decide +kernel
theorem dL_law_588 : decode cL_law 588 = .ok (.iadd, 1) := by decide +kernel
theorem dL_law_589 : decode cL_law 589 = .ok (.iaload, 1) := by decide +kernel
theorem dL_law_590 : decode cL_law 590 = .ok (.aload_n 0, 1) := by decide +kernel
theorem dL_law_591 : decode cL_law 591 = .ok (.iload_n 3, 1) := by decide +kernel
theorem dL_law_592 : decode cL_law 592 = .ok (.iconst 2, 1) := by decide +kernel
theorem dL_law_593 : decode cL_law 593 = .ok (.iadd, 1) := by decide +kernel
theorem dL_law_594 : decode cL_law 594 = .ok (.iaload, 1) := by decide +kernel
theorem dL_law_595 : decode cL_law 595 = .ok (.aload_n 0, 1) := by decide +kernel
theorem dL_law_596 : decode cL_law 596 = .ok (.iload_n 3, 1) := by decide +kernel
theorem dL_law_597 : decode cL_law 597 = .ok (.iconst 3, 1) := by decide +kernel
theorem dL_law_598 : decode cL_law 598 = .ok (.iadd, 1) := by decide +kernel
theorem dL_law_599 : decode cL_law 599 = .ok (.iaload, 1) := by decide +kernel
theorem dL_law_600 : decode cL_law 600 = .ok (.invokevirtual 74, 3) := by decide +kernel
theorem dL_law_603 : decode cL_law 603 = .ok (.aload_n 2, 1) := by decide +kernel
theorem dL_law_604 : decode cL_law 604 = .ok (.aload_n 0, 1) := by decide +kernel
theorem dL_law_605 : decode cL_law 605 = .ok (.iload_n 3, 1) := by decide +kernel
theorem dL_law_606 : decode cL_law 606 = .ok (.iconst 1, 1) := by decide +kernel
theorem dL_law_607 : decode cL_law 607 = .ok (.iadd, 1) := by decide +kernel
theorem dL_law_608 : decode cL_law 608 = .ok (.iaload, 1) := by decide +kernel
theorem dL_law_609 : decode cL_law 609 = .ok (.aload_n 0, 1) := by decide +kernel
theorem dL_law_610 : decode cL_law 610 = .ok (.iload_n 3, 1) := by decide +kernel
theorem dL_law_611 : decode cL_law 611 = .ok (.iconst 2, 1) := by decide +kernel
theorem dL_law_612 : decode cL_law 612 = .ok (.iadd, 1) := by decide +kernel
theorem dL_law_613 : decode cL_law 613 = .ok (.iaload, 1) := by decide +kernel
theorem dL_law_614 : decode cL_law 614 = .ok (.aload_n 0, 1) := by decide +kernel
theorem dL_law_615 : decode cL_law 615 = .ok (.iload_n 3, 1) := by decide +kernel
theorem dL_law_616 : decode cL_law 616 = .ok (.iconst 3, 1) := by decide +kernel
theorem dL_law_617 : decode cL_law 617 = .ok (.iadd, 1) := by decide +kernel
theorem dL_law_618 : decode cL_law 618 = .ok (.iaload, 1) := by decide +kernel
theorem dL_law_619 : decode cL_law 619 = .ok (.invokevirtual 77, 3) := by decide +kernel
theorem dL_law_622 : decode cL_law 622 = .ok (.if_icmp .eq 308, 3) := by decide +kernel
theorem dL_law_625 : decode cL_law 625 = .ok (.iconst 0, 1) := by decide +kernel
theorem dL_law_626 : decode cL_law 626 = .ok (.ireturn, 1) := by decide +kernel
theorem dL_law_627 : decode cL_law 627 = .ok (.aload_n 1, 1) := by decide +kernel
theorem dL_law_628 : decode cL_law 628 = .ok (.aload_n 0, 1) := by decide +kernel
theorem dL_law_629 : decode cL_law 629 = .ok (.iload_n 3, 1) := by decide +kernel
theorem dL_law_630 : decode cL_law 630 = .ok (.iconst 1, 1) := by decide +kernel
theorem dL_law_631 : decode cL_law 631 = .ok (.iadd, 1) := by decide +kernel
theorem dL_law_632 : decode cL_law 632 = .ok (.iaload, 1) := by decide +kernel
theorem dL_law_633 : decode cL_law 633 = .ok (.aload_n 0, 1) := by decide +kernel
theorem dL_law_634 : decode cL_law 634 = .ok (.iload_n 3, 1) := by decide +kernel
theorem dL_law_635 : decode cL_law 635 = .ok (.iconst 2, 1) := by decide +kernel
theorem dL_law_636 : decode cL_law 636 = .ok (.iadd, 1) := by decide +kernel
theorem dL_law_637 : decode cL_law 637 = .ok (.iaload, 1) := by decide +kernel
theorem dL_law_638 : decode cL_law 638 = .ok (.aload_n 0, 1) := by decide +kernel
theorem dL_law_639 : decode cL_law 639 = .ok (.iload_n 3, 1) := by decide +kernel
theorem dL_law_640 : decode cL_law 640 = .ok (.iconst 3, 1) := by decide +kernel
theorem dL_law_641 : decode cL_law 641 = .ok (.iadd, 1) := by decide +kernel
theorem dL_law_642 : decode cL_law 642 = .ok (.iaload, 1) := by decide +kernel
theorem dL_law_643 : decode cL_law 643 = .ok (.invokevirtual 78, 3) := by decide +kernel
theorem dL_law_646 : decode cL_law 646 = .ok (.aload_n 2, 1) := by decide +kernel
theorem dL_law_647 : decode cL_law 647 = .ok (.aload_n 0, 1) := by decide +kernel
theorem dL_law_648 : decode cL_law 648 = .ok (.iload_n 3, 1) := by decide +kernel
theorem dL_law_649 : decode cL_law 649 = .ok (.iconst 1, 1) := by decide +kernel
theorem dL_law_650 : decode cL_law 650 = .ok (.iadd, 1) := by decide +kernel
theorem dL_law_651 : decode cL_law 651 = .ok (.iaload, 1) := by decide +kernel
theorem dL_law_652 : decode cL_law 652 = .ok (.aload_n 0, 1) := by decide +kernel
theorem dL_law_653 : decode cL_law 653 = .ok (.iload_n 3, 1) := by decide +kernel
theorem dL_law_654 : decode cL_law 654 = .ok (.iconst 2, 1) := by decide +kernel
theorem dL_law_655 : decode cL_law 655 = .ok (.iadd, 1) := by decide +kernel
theorem dL_law_656 : decode cL_law 656 = .ok (.iaload, 1) := by decide +kernel
theorem dL_law_657 : decode cL_law 657 = .ok (.aload_n 0, 1) := by decide +kernel
theorem dL_law_658 : decode cL_law 658 = .ok (.iload_n 3, 1) := by decide +kernel
theorem dL_law_659 : decode cL_law 659 = .ok (.iconst 3, 1) := by decide +kernel
theorem dL_law_660 : decode cL_law 660 = .ok (.iadd, 1) := by decide +kernel
theorem dL_law_661 : decode cL_law 661 = .ok (.iaload, 1) := by decide +kernel
theorem dL_law_662 : decode cL_law 662 = .ok (.invokevirtual 81, 3) := by decide +kernel
theorem dL_law_665 : decode cL_law 665 = .ok (.if_icmp .eq 265, 3) := by decide +kernel
theorem dL_law_668 : decode cL_law 668 = .ok (.iconst 0, 1) := by decide +kernel
theorem dL_law_669 : decode cL_law 669 = .ok (.ireturn, 1) := by decide +kernel
theorem dL_law_670 : decode cL_law 670 = .ok (.aload_n 1, 1) := by decide +kernel
theorem dL_law_671 : decode cL_law 671 = .ok (.aload_n 0, 1) := by decide +kernel
theorem dL_law_672 : decode cL_law 672 = .ok (.iload_n 3, 1) := by decide +kernel
theorem dL_law_673 : decode cL_law 673 = .ok (.iconst 1, 1) := by decide +kernel
theorem dL_law_674 : decode cL_law 674 = .ok (.iadd, 1) := by decide +kernel
theorem dL_law_675 : decode cL_law 675 = .ok (.iaload, 1) := by decide +kernel
theorem dL_law_676 : decode cL_law 676 = .ok (.invokevirtual 82, 3) := by decide +kernel
theorem dL_law_679 : decode cL_law 679 = .ok (.aload_n 2, 1) := by decide +kernel
theorem dL_law_680 : decode cL_law 680 = .ok (.aload_n 0, 1) := by decide +kernel
theorem dL_law_681 : decode cL_law 681 = .ok (.iload_n 3, 1) := by decide +kernel
theorem dL_law_682 : decode cL_law 682 = .ok (.iconst 1, 1) := by decide +kernel
theorem dL_law_683 : decode cL_law 683 = .ok (.iadd, 1) := by decide +kernel
theorem dL_law_684 : decode cL_law 684 = .ok (.iaload, 1) := by decide +kernel
theorem dL_law_685 : decode cL_law 685 = .ok (.invokevirtual 85, 3) := by decide +kernel
theorem dL_law_688 : decode cL_law 688 = .ok (.if_icmp .eq 242, 3) := by decide +kernel
theorem dL_law_691 : decode cL_law 691 = .ok (.iconst 0, 1) := by decide +kernel
theorem dL_law_692 : decode cL_law 692 = .ok (.ireturn, 1) := by decide +kernel
theorem dL_law_693 : decode cL_law 693 = .ok (.aload_n 1, 1) := by decide +kernel
theorem dL_law_694 : decode cL_law 694 = .ok (.aload_n 0, 1) := by decide +kernel
theorem dL_law_695 : decode cL_law 695 = .ok (.iload_n 3, 1) := by decide +kernel
theorem dL_law_696 : decode cL_law 696 = .ok (.iconst 1, 1) := by decide +kernel
theorem dL_law_697 : decode cL_law 697 = .ok (.iadd, 1) := by decide +kernel
theorem dL_law_698 : decode cL_law 698 = .ok (.iaload, 1) := by decide +kernel
theorem dL_law_699 : decode cL_law 699 = .ok (.aload_n 0, 1) := by decide +kernel
theorem dL_law_700 : decode cL_law 700 = .ok (.iload_n 3, 1) := by decide +kernel
theorem dL_law_701 : decode cL_law 701 = .ok (.iconst 2, 1) := by decide +kernel
theorem dL_law_702 : decode cL_law 702 = .ok (.iadd, 1) := by decide +kernel
theorem dL_law_703 : decode cL_law 703 = .ok (.iaload, 1) := by decide +kernel
theorem dL_law_704 : decode cL_law 704 = .ok (.aload_n 0, 1) := by decide +kernel
theorem dL_law_705 : decode cL_law 705 = .ok (.iload_n 3, 1) := by decide +kernel
theorem dL_law_706 : decode cL_law 706 = .ok (.iconst 3, 1) := by decide +kernel
theorem dL_law_707 : decode cL_law 707 = .ok (.iadd, 1) := by decide +kernel
theorem dL_law_708 : decode cL_law 708 = .ok (.iaload, 1) := by decide +kernel
theorem dL_law_709 : decode cL_law 709 = .ok (.invokevirtual 86, 3) := by decide +kernel
theorem dL_law_712 : decode cL_law 712 = .ok (.aload_n 2, 1) := by decide +kernel
theorem dL_law_713 : decode cL_law 713 = .ok (.aload_n 0, 1) := by decide +kernel
theorem dL_law_714 : decode cL_law 714 = .ok (.iload_n 3, 1) := by decide +kernel
theorem dL_law_715 : decode cL_law 715 = .ok (.iconst 1, 1) := by decide +kernel
theorem dL_law_716 : decode cL_law 716 = .ok (.iadd, 1) := by decide +kernel
theorem dL_law_717 : decode cL_law 717 = .ok (.iaload, 1) := by decide +kernel
theorem dL_law_718 : decode cL_law 718 = .ok (.aload_n 0, 1) := by decide +kernel
theorem dL_law_719 : decode cL_law 719 = .ok (.iload_n 3, 1) := by decide +kernel
theorem dL_law_720 : decode cL_law 720 = .ok (.iconst 2, 1) := by decide +kernel
theorem dL_law_721 : decode cL_law 721 = .ok (.iadd, 1) := by decide +kernel
theorem dL_law_722 : decode cL_law 722 = .ok (.iaload, 1) := by decide +kernel
theorem dL_law_723 : decode cL_law 723 = .ok (.aload_n 0, 1) := by decide +kernel
theorem dL_law_724 : decode cL_law 724 = .ok (.iload_n 3, 1) := by decide +kernel
theorem dL_law_725 : decode cL_law 725 = .ok (.iconst 3, 1) := by decide +kernel
theorem dL_law_726 : decode cL_law 726 = .ok (.iadd, 1) := by decide +kernel
theorem dL_law_727 : decode cL_law 727 = .ok (.iaload, 1) := by decide +kernel
theorem dL_law_728 : decode cL_law 728 = .ok (.invokevirtual 89, 3) := by decide +kernel
theorem dL_law_731 : decode cL_law 731 = .ok (.if_icmp .eq 199, 3) := by decide +kernel
theorem dL_law_734 : decode cL_law 734 = .ok (.iconst 0, 1) := by decide +kernel
theorem dL_law_735 : decode cL_law 735 = .ok (.ireturn, 1) := by decide +kernel
theorem dL_law_736 : decode cL_law 736 = .ok (.aload_n 1, 1) := by decide +kernel
theorem dL_law_737 : decode cL_law 737 = .ok (.aload_n 0, 1) := by decide +kernel
theorem dL_law_738 : decode cL_law 738 = .ok (.iload_n 3, 1) := by decide +kernel
theorem dL_law_739 : decode cL_law 739 = .ok (.iconst 1, 1) := by decide +kernel
theorem dL_law_740 : decode cL_law 740 = .ok (.iadd, 1) := by decide +kernel
theorem dL_law_741 : decode cL_law 741 = .ok (.iaload, 1) := by decide +kernel
theorem dL_law_742 : decode cL_law 742 = .ok (.aload_n 0, 1) := by decide +kernel
theorem dL_law_743 : decode cL_law 743 = .ok (.iload_n 3, 1) := by decide +kernel
theorem dL_law_744 : decode cL_law 744 = .ok (.iconst 2, 1) := by decide +kernel
theorem dL_law_745 : decode cL_law 745 = .ok (.iadd, 1) := by decide +kernel
theorem dL_law_746 : decode cL_law 746 = .ok (.iaload, 1) := by decide +kernel
theorem dL_law_747 : decode cL_law 747 = .ok (.aload_n 0, 1) := by decide +kernel
theorem dL_law_748 : decode cL_law 748 = .ok (.iload_n 3, 1) := by decide +kernel
theorem dL_law_749 : decode cL_law 749 = .ok (.iconst 3, 1) := by decide +kernel
theorem dL_law_750 : decode cL_law 750 = .ok (.iadd, 1) := by decide +kernel
theorem dL_law_751 : decode cL_law 751 = .ok (.iaload, 1) := by decide +kernel
theorem dL_law_752 : decode cL_law 752 = .ok (.invokevirtual 90, 3) := by decide +kernel
theorem dL_law_755 : decode cL_law 755 = .ok (.aload_n 2, 1) := by decide +kernel
theorem dL_law_756 : decode cL_law 756 = .ok (.aload_n 0, 1) := by decide +kernel
theorem dL_law_757 : decode cL_law 757 = .ok (.iload_n 3, 1) := by decide +kernel
theorem dL_law_758 : decode cL_law 758 = .ok (.iconst 1, 1) := by decide +kernel
theorem dL_law_759 : decode cL_law 759 = .ok (.iadd, 1) := by decide +kernel
theorem dL_law_760 : decode cL_law 760 = .ok (.iaload, 1) := by decide +kernel
theorem dL_law_761 : decode cL_law 761 = .ok (.aload_n 0, 1) := by decide +kernel
theorem dL_law_762 : decode cL_law 762 = .ok (.iload_n 3, 1) := by decide +kernel
theorem dL_law_763 : decode cL_law 763 = .ok (.iconst 2, 1) := by decide +kernel
theorem dL_law_764 : decode cL_law 764 = .ok (.iadd, 1) := by decide +kernel
theorem dL_law_765 : decode cL_law 765 = .ok (.iaload, 1) := by decide +kernel
theorem dL_law_766 : decode cL_law 766 = .ok (.aload_n 0, 1) := by decide +kernel
theorem dL_law_767 : decode cL_law 767 = .ok (.iload_n 3, 1) := by decide +kernel
theorem dL_law_768 : decode cL_law 768 = .ok (.iconst 3, 1) := by decide +kernel
theorem dL_law_769 : decode cL_law 769 = .ok (.iadd, 1) := by decide +kernel
theorem dL_law_770 : decode cL_law 770 = .ok (.iaload, 1) := by decide +kernel
theorem dL_law_771 : decode cL_law 771 = .ok (.invokevirtual 93, 3) := by decide +kernel
theorem dL_law_774 : decode cL_law 774 = .ok (.if_icmp .eq 156, 3) := by decide +kernel
theorem dL_law_777 : decode cL_law 777 = .ok (.iconst 0, 1) := by decide +kernel
theorem dL_law_778 : decode cL_law 778 = .ok (.ireturn, 1) := by decide +kernel
theorem dL_law_779 : decode cL_law 779 = .ok (.aload_n 1, 1) := by decide +kernel
theorem dL_law_780 : decode cL_law 780 = .ok (.aload_n 0, 1) := by decide +kernel
theorem dL_law_781 : decode cL_law 781 = .ok (.iload_n 3, 1) := by decide +kernel
theorem dL_law_782 : decode cL_law 782 = .ok (.iconst 1, 1) := by decide +kernel
theorem dL_law_783 : decode cL_law 783 = .ok (.iadd, 1) := by decide +kernel
theorem dL_law_784 : decode cL_law 784 = .ok (.iaload, 1) := by decide +kernel
theorem dL_law_785 : decode cL_law 785 = .ok (.aload_n 0, 1) := by decide +kernel
theorem dL_law_786 : decode cL_law 786 = .ok (.iload_n 3, 1) := by decide +kernel
theorem dL_law_787 : decode cL_law 787 = .ok (.iconst 2, 1) := by decide +kernel
theorem dL_law_788 : decode cL_law 788 = .ok (.iadd, 1) := by decide +kernel
theorem dL_law_789 : decode cL_law 789 = .ok (.iaload, 1) := by decide +kernel
theorem dL_law_790 : decode cL_law 790 = .ok (.aload_n 0, 1) := by decide +kernel
theorem dL_law_791 : decode cL_law 791 = .ok (.iload_n 3, 1) := by decide +kernel
theorem dL_law_792 : decode cL_law 792 = .ok (.iconst 3, 1) := by decide +kernel
theorem dL_law_793 : decode cL_law 793 = .ok (.iadd, 1) := by decide +kernel
theorem dL_law_794 : decode cL_law 794 = .ok (.iaload, 1) := by decide +kernel
theorem dL_law_795 : decode cL_law 795 = .ok (.invokevirtual 94, 3) := by decide +kernel
theorem dL_law_798 : decode cL_law 798 = .ok (.aload_n 2, 1) := by decide +kernel
theorem dL_law_799 : decode cL_law 799 = .ok (.aload_n 0, 1) := by decide +kernel
theorem dL_law_800 : decode cL_law 800 = .ok (.iload_n 3, 1) := by decide +kernel
theorem dL_law_801 : decode cL_law 801 = .ok (.iconst 1, 1) := by decide +kernel
theorem dL_law_802 : decode cL_law 802 = .ok (.iadd, 1) := by decide +kernel
theorem dL_law_803 : decode cL_law 803 = .ok (.iaload, 1) := by decide +kernel
theorem dL_law_804 : decode cL_law 804 = .ok (.aload_n 0, 1) := by decide +kernel
theorem dL_law_805 : decode cL_law 805 = .ok (.iload_n 3, 1) := by decide +kernel
theorem dL_law_806 : decode cL_law 806 = .ok (.iconst 2, 1) := by decide +kernel
theorem dL_law_807 : decode cL_law 807 = .ok (.iadd, 1) := by decide +kernel
theorem dL_law_808 : decode cL_law 808 = .ok (.iaload, 1) := by decide +kernel
theorem dL_law_809 : decode cL_law 809 = .ok (.aload_n 0, 1) := by decide +kernel
theorem dL_law_810 : decode cL_law 810 = .ok (.iload_n 3, 1) := by decide +kernel
theorem dL_law_811 : decode cL_law 811 = .ok (.iconst 3, 1) := by decide +kernel
theorem dL_law_812 : decode cL_law 812 = .ok (.iadd, 1) := by decide +kernel
theorem dL_law_813 : decode cL_law 813 = .ok (.iaload, 1) := by decide +kernel
theorem dL_law_814 : decode cL_law 814 = .ok (.invokevirtual 97, 3) := by decide +kernel
theorem dL_law_817 : decode cL_law 817 = .ok (.if_icmp .eq 113, 3) := by decide +kernel
theorem dL_law_820 : decode cL_law 820 = .ok (.iconst 0, 1) := by decide +kernel
theorem dL_law_821 : decode cL_law 821 = .ok (.ireturn, 1) := by decide +kernel
theorem dL_law_822 : decode cL_law 822 = .ok (.aload_n 1, 1) := by decide +kernel
theorem dL_law_823 : decode cL_law 823 = .ok (.invokevirtual 98, 3) := by decide +kernel
theorem dL_law_826 : decode cL_law 826 = .ok (.aload_n 2, 1) := by decide +kernel
theorem dL_law_827 : decode cL_law 827 = .ok (.invokevirtual 101, 3) := by decide +kernel
theorem dL_law_830 : decode cL_law 830 = .ok (.if_icmp .eq 100, 3) := by decide +kernel
theorem dL_law_833 : decode cL_law 833 = .ok (.iconst 0, 1) := by decide +kernel
theorem dL_law_834 : decode cL_law 834 = .ok (.ireturn, 1) := by decide +kernel
theorem dL_law_835 : decode cL_law 835 = .ok (.aload_n 1, 1) := by decide +kernel
theorem dL_law_836 : decode cL_law 836 = .ok (.invokevirtual 102, 3) := by decide +kernel
theorem dL_law_839 : decode cL_law 839 = .ok (.aload_n 2, 1) := by decide +kernel
theorem dL_law_840 : decode cL_law 840 = .ok (.invokevirtual 105, 3) := by decide +kernel
theorem dL_law_843 : decode cL_law 843 = .ok (.if_icmp .eq 87, 3) := by decide +kernel
theorem dL_law_846 : decode cL_law 846 = .ok (.iconst 0, 1) := by decide +kernel
theorem dL_law_847 : decode cL_law 847 = .ok (.ireturn, 1) := by decide +kernel
theorem dL_law_848 : decode cL_law 848 = .ok (.aload_n 1, 1) := by decide +kernel
theorem dL_law_849 : decode cL_law 849 = .ok (.aload_n 0, 1) := by decide +kernel
theorem dL_law_850 : decode cL_law 850 = .ok (.iload_n 3, 1) := by decide +kernel
theorem dL_law_851 : decode cL_law 851 = .ok (.iconst 1, 1) := by decide +kernel
theorem dL_law_852 : decode cL_law 852 = .ok (.iadd, 1) := by decide +kernel
theorem dL_law_853 : decode cL_law 853 = .ok (.iaload, 1) := by decide +kernel
theorem dL_law_854 : decode cL_law 854 = .ok (.invokevirtual 106, 3) := by decide +kernel
theorem dL_law_857 : decode cL_law 857 = .ok (.aload_n 2, 1) := by decide +kernel
theorem dL_law_858 : decode cL_law 858 = .ok (.aload_n 0, 1) := by decide +kernel
theorem dL_law_859 : decode cL_law 859 = .ok (.iload_n 3, 1) := by decide +kernel
theorem dL_law_860 : decode cL_law 860 = .ok (.iconst 1, 1) := by decide +kernel
theorem dL_law_861 : decode cL_law 861 = .ok (.iadd, 1) := by decide +kernel
theorem dL_law_862 : decode cL_law 862 = .ok (.iaload, 1) := by decide +kernel
theorem dL_law_863 : decode cL_law 863 = .ok (.invokevirtual 109, 3) := by decide +kernel
theorem dL_law_866 : decode cL_law 866 = .ok (.if_icmp .eq 64, 3) := by decide +kernel
theorem dL_law_869 : decode cL_law 869 = .ok (.iconst 0, 1) := by decide +kernel
theorem dL_law_870 : decode cL_law 870 = .ok (.ireturn, 1) := by decide +kernel
theorem dL_law_871 : decode cL_law 871 = .ok (.aload_n 1, 1) := by decide +kernel
theorem dL_law_872 : decode cL_law 872 = .ok (.aload_n 0, 1) := by decide +kernel
theorem dL_law_873 : decode cL_law 873 = .ok (.iload_n 3, 1) := by decide +kernel
theorem dL_law_874 : decode cL_law 874 = .ok (.iconst 1, 1) := by decide +kernel
theorem dL_law_875 : decode cL_law 875 = .ok (.iadd, 1) := by decide +kernel
theorem dL_law_876 : decode cL_law 876 = .ok (.iaload, 1) := by decide +kernel
theorem dL_law_877 : decode cL_law 877 = .ok (.invokevirtual 110, 3) := by decide +kernel
theorem dL_law_880 : decode cL_law 880 = .ok (.aload_n 2, 1) := by decide +kernel
theorem dL_law_881 : decode cL_law 881 = .ok (.aload_n 0, 1) := by decide +kernel
theorem dL_law_882 : decode cL_law 882 = .ok (.iload_n 3, 1) := by decide +kernel
theorem dL_law_883 : decode cL_law 883 = .ok (.iconst 1, 1) := by decide +kernel
theorem dL_law_884 : decode cL_law 884 = .ok (.iadd, 1) := by decide +kernel
theorem dL_law_885 : decode cL_law 885 = .ok (.iaload, 1) := by decide +kernel
theorem dL_law_886 : decode cL_law 886 = .ok (.invokevirtual 113, 3) := by decide +kernel
theorem dL_law_889 : decode cL_law 889 = .ok (.if_icmp .eq 41, 3) := by decide +kernel
theorem dL_law_892 : decode cL_law 892 = .ok (.iconst 0, 1) := by decide +kernel
theorem dL_law_893 : decode cL_law 893 = .ok (.ireturn, 1) := by decide +kernel
theorem dL_law_894 : decode cL_law 894 = .ok (.aload_n 1, 1) := by decide +kernel
theorem dL_law_895 : decode cL_law 895 = .ok (.aload_n 0, 1) := by decide +kernel
theorem dL_law_896 : decode cL_law 896 = .ok (.iload_n 3, 1) := by decide +kernel
theorem dL_law_897 : decode cL_law 897 = .ok (.iconst 1, 1) := by decide +kernel
theorem dL_law_898 : decode cL_law 898 = .ok (.iadd, 1) := by decide +kernel
theorem dL_law_899 : decode cL_law 899 = .ok (.iaload, 1) := by decide +kernel
theorem dL_law_900 : decode cL_law 900 = .ok (.invokevirtual 114, 3) := by decide +kernel
theorem dL_law_903 : decode cL_law 903 = .ok (.aload_n 2, 1) := by decide +kernel
theorem dL_law_904 : decode cL_law 904 = .ok (.aload_n 0, 1) := by decide +kernel
theorem dL_law_905 : decode cL_law 905 = .ok (.iload_n 3, 1) := by decide +kernel
theorem dL_law_906 : decode cL_law 906 = .ok (.iconst 1, 1) := by decide +kernel
theorem dL_law_907 : decode cL_law 907 = .ok (.iadd, 1) := by decide +kernel
theorem dL_law_908 : decode cL_law 908 = .ok (.iaload, 1) := by decide +kernel
theorem dL_law_909 : decode cL_law 909 = .ok (.invokevirtual 117, 3) := by decide +kernel
theorem dL_law_912 : decode cL_law 912 = .ok (.if_icmp .eq 18, 3) := by decide +kernel
theorem dL_law_915 : decode cL_law 915 = .ok (.iconst 0, 1) := by decide +kernel
theorem dL_law_916 : decode cL_law 916 = .ok (.ireturn, 1) := by decide +kernel
theorem dL_law_917 : decode cL_law 917 = .ok (.aload_n 1, 1) := by decide +kernel
theorem dL_law_918 : decode cL_law 918 = .ok (.invokevirtual 118, 3) := by decide +kernel
theorem dL_law_921 : decode cL_law 921 = .ok (.aload_n 2, 1) := by decide +kernel
theorem dL_law_922 : decode cL_law 922 = .ok (.invokevirtual 121, 3) := by decide +kernel
theorem dL_law_925 : decode cL_law 925 = .ok (.if_icmp .eq 5, 3) := by decide +kernel
theorem dL_law_928 : decode cL_law 928 = .ok (.iconst 0, 1) := by decide +kernel
theorem dL_law_929 : decode cL_law 929 = .ok (.ireturn, 1) := by decide +kernel
theorem dL_law_930 : decode cL_law 930 = .ok (.iinc 3 5, 3) := by decide +kernel
theorem dL_law_933 : decode cL_law 933 = .ok (.goto (-915), 3) := by decide +kernel
theorem dL_law_936 : decode cL_law 936 = .ok (.iconst 1, 1) := by decide +kernel
theorem dL_law_937 : decode cL_law 937 = .ok (.ireturn, 1) := by decide +kernel
abbrev vwCl : List vw_C := [(RX0, TX0, 7), (RX1, TX1, 5), (RX2, TX2, 7), (RX3, TX3, 3), (RX4, TX4, 2), (RX5, TX5, 3), (RX6, TX6, 11), (RX7, TX7, 4), (RX8, TX8, 21)]
