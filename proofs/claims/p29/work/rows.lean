section
-- ===== PART A: goes FIRST, ahead of the names: the tables' words, and 'selects' of the private methods out of them =====
/-- a private method of a class that the tables say can be made, by its rows of tables_1 -/
def lw_okq (q : MethodName × Nat) : Prop := (q.1.cls ≠ "java/lang/invoke/MethodHandle" ∧ q.1.cls ≠ "java/lang/invoke/VarHandle") ∧ Cond.instantiable q.1.cls q.2 ∈ tables_1 ∧ Cond.privateMethod q.1 ∈ tables_1 ∧ Cond.instanceMethod q.1 ∈ tables_1
theorem lw_p0 : lw_okq (⟨"BilingualSetter", "beginChange", "()V"⟩, 4) := ⟨⟨by decide +kernel, by decide +kernel⟩, List.mem_of_getElem? (i := 12) (by decide +kernel), List.mem_of_getElem? (i := 268) (by decide +kernel), List.mem_of_getElem? (i := 269) (by decide +kernel)⟩
theorem lw_p1 : lw_okq (⟨"BilingualSetter", "forgetResults", "()V"⟩, 4) := ⟨⟨by decide +kernel, by decide +kernel⟩, List.mem_of_getElem? (i := 12) (by decide +kernel), List.mem_of_getElem? (i := 296) (by decide +kernel), List.mem_of_getElem? (i := 297) (by decide +kernel)⟩
theorem lw_p2 : lw_okq (⟨"BilingualSetter$Spreads", "isCarried", "()Z"⟩, 11) := ⟨⟨by decide +kernel, by decide +kernel⟩, List.mem_of_getElem? (i := 107) (by decide +kernel), List.mem_of_getElem? (i := 326) (by decide +kernel), List.mem_of_getElem? (i := 327) (by decide +kernel)⟩
theorem lw_p3 : lw_okq (⟨"BilingualSetter$Spreads", "putNext", "(LBilingualSetter$Edition;)Z"⟩, 11) := ⟨⟨by decide +kernel, by decide +kernel⟩, List.mem_of_getElem? (i := 107) (by decide +kernel), List.mem_of_getElem? (i := 330) (by decide +kernel), List.mem_of_getElem? (i := 331) (by decide +kernel)⟩
theorem lw_p4 : lw_okq (⟨"BilingualSetter$Spreads", "fits", "(LBilingualSetter$Edition;LBilingualSetter$Part;)Z"⟩, 11) := ⟨⟨by decide +kernel, by decide +kernel⟩, List.mem_of_getElem? (i := 107) (by decide +kernel), List.mem_of_getElem? (i := 338) (by decide +kernel), List.mem_of_getElem? (i := 339) (by decide +kernel)⟩
theorem lw_p5 : lw_okq (⟨"BilingualSetter$Spreads", "putRest", "(LBilingualSetter$Edition;)V"⟩, 11) := ⟨⟨by decide +kernel, by decide +kernel⟩, List.mem_of_getElem? (i := 107) (by decide +kernel), List.mem_of_getElem? (i := 375) (by decide +kernel), List.mem_of_getElem? (i := 376) (by decide +kernel)⟩
theorem lw_p6 : lw_okq (⟨"BilingualSetter$Spreads", "addSegment", "(LBilingualSetter$Edition;LBilingualSetter$Part;I)V"⟩, 11) := ⟨⟨by decide +kernel, by decide +kernel⟩, List.mem_of_getElem? (i := 107) (by decide +kernel), List.mem_of_getElem? (i := 379) (by decide +kernel), List.mem_of_getElem? (i := 380) (by decide +kernel)⟩
theorem lw_p7 : lw_okq (⟨"BilingualSetter$Spreads", "findStart", "(LBilingualSetter$Edition;)Z"⟩, 11) := ⟨⟨by decide +kernel, by decide +kernel⟩, List.mem_of_getElem? (i := 107) (by decide +kernel), List.mem_of_getElem? (i := 389) (by decide +kernel), List.mem_of_getElem? (i := 390) (by decide +kernel)⟩
theorem lw_p8 : lw_okq (⟨"BilingualSetter$Spreads", "endSpread", "(LBilingualSetter$Edition;)V"⟩, 11) := ⟨⟨by decide +kernel, by decide +kernel⟩, List.mem_of_getElem? (i := 107) (by decide +kernel), List.mem_of_getElem? (i := 403) (by decide +kernel), List.mem_of_getElem? (i := 404) (by decide +kernel)⟩
theorem lw_p9 : lw_okq (⟨"BilingualSetter$Division", "searchFrom", "(LBilingualSetter$Edition;I)V"⟩, 7) := ⟨⟨by decide +kernel, by decide +kernel⟩, List.mem_of_getElem? (i := 208) (by decide +kernel), List.mem_of_getElem? (i := 421) (by decide +kernel), List.mem_of_getElem? (i := 422) (by decide +kernel)⟩
theorem lw_p10 : lw_okq (⟨"BilingualSetter$Division", "considerGroup", "(LBilingualSetter$Edition;II)V"⟩, 7) := ⟨⟨by decide +kernel, by decide +kernel⟩, List.mem_of_getElem? (i := 208) (by decide +kernel), List.mem_of_getElem? (i := 434) (by decide +kernel), List.mem_of_getElem? (i := 435) (by decide +kernel)⟩
theorem lw_p11 : lw_okq (⟨"BilingualSetter$Division", "blankSquares", "(LBilingualSetter$Edition;)I"⟩, 7) := ⟨⟨by decide +kernel, by decide +kernel⟩, List.mem_of_getElem? (i := 208) (by decide +kernel), List.mem_of_getElem? (i := 438) (by decide +kernel), List.mem_of_getElem? (i := 439) (by decide +kernel)⟩
theorem lw_p12 : lw_okq (⟨"BilingualSetter", "changePair", "(III)I"⟩, 4) := ⟨⟨by decide +kernel, by decide +kernel⟩, List.mem_of_getElem? (i := 12) (by decide +kernel), List.mem_of_getElem? (i := 519) (by decide +kernel), List.mem_of_getElem? (i := 520) (by decide +kernel)⟩
theorem lw_p13 : lw_okq (⟨"BilingualSetter$Spreads", "noteLine", "(LBilingualSetter$Notes;II)I"⟩, 11) := ⟨⟨by decide +kernel, by decide +kernel⟩, List.mem_of_getElem? (i := 107) (by decide +kernel), List.mem_of_getElem? (i := 579) (by decide +kernel), List.mem_of_getElem? (i := 580) (by decide +kernel)⟩
theorem lw_p14 : lw_okq (⟨"BilingualSetter$Spreads", "contains", "(IIII)Z"⟩, 11) := ⟨⟨by decide +kernel, by decide +kernel⟩, List.mem_of_getElem? (i := 107) (by decide +kernel), List.mem_of_getElem? (i := 595) (by decide +kernel), List.mem_of_getElem? (i := 596) (by decide +kernel)⟩
def lw_privs_1 : List (MethodName × Nat) := [(⟨"BilingualSetter", "beginChange", "()V"⟩, 4), (⟨"BilingualSetter", "forgetResults", "()V"⟩, 4), (⟨"BilingualSetter$Spreads", "isCarried", "()Z"⟩, 11), (⟨"BilingualSetter$Spreads", "putNext", "(LBilingualSetter$Edition;)Z"⟩, 11), (⟨"BilingualSetter$Spreads", "fits", "(LBilingualSetter$Edition;LBilingualSetter$Part;)Z"⟩, 11), (⟨"BilingualSetter$Spreads", "putRest", "(LBilingualSetter$Edition;)V"⟩, 11), (⟨"BilingualSetter$Spreads", "addSegment", "(LBilingualSetter$Edition;LBilingualSetter$Part;I)V"⟩, 11), (⟨"BilingualSetter$Spreads", "findStart", "(LBilingualSetter$Edition;)Z"⟩, 11), (⟨"BilingualSetter$Spreads", "endSpread", "(LBilingualSetter$Edition;)V"⟩, 11), (⟨"BilingualSetter$Division", "searchFrom", "(LBilingualSetter$Edition;I)V"⟩, 7), (⟨"BilingualSetter$Division", "considerGroup", "(LBilingualSetter$Edition;II)V"⟩, 7), (⟨"BilingualSetter$Division", "blankSquares", "(LBilingualSetter$Edition;)I"⟩, 7), (⟨"BilingualSetter", "changePair", "(III)I"⟩, 4), (⟨"BilingualSetter$Spreads", "noteLine", "(LBilingualSetter$Notes;II)I"⟩, 11), (⟨"BilingualSetter$Spreads", "contains", "(IIII)Z"⟩, 11)]
theorem lw_r1 : ∀ q ∈ lw_privs_1, lw_okq q := List.forall_mem_cons.mpr ⟨lw_p0, List.forall_mem_cons.mpr ⟨lw_p1, List.forall_mem_cons.mpr ⟨lw_p2, List.forall_mem_cons.mpr ⟨lw_p3, List.forall_mem_cons.mpr ⟨lw_p4, List.forall_mem_cons.mpr ⟨lw_p5, List.forall_mem_cons.mpr ⟨lw_p6, List.forall_mem_cons.mpr ⟨lw_p7, List.forall_mem_cons.mpr ⟨lw_p8, List.forall_mem_cons.mpr ⟨lw_p9, List.forall_mem_cons.mpr ⟨lw_p10, List.forall_mem_cons.mpr ⟨lw_p11, List.forall_mem_cons.mpr ⟨lw_p12, List.forall_mem_cons.mpr ⟨lw_p13, List.forall_mem_cons.mpr ⟨lw_p14, fun _ h => absurd h List.not_mem_nil⟩⟩⟩⟩⟩⟩⟩⟩⟩⟩⟩⟩⟩⟩⟩
def lw_privs : List (MethodName × Nat) := lw_privs_1
def lw_tbl : List Cond := k2_sels lw_privs ++ tables_1
theorem lw_privs_ok : ∀ q ∈ lw_privs, lw_okq q := lw_r1
-- ===== end of PART A; then your names; then what follows =====
end
section
/-! ===== BEGIN printed: names, fields, word lists, decode rows ===== -/
def RX0 : String := "BilingualSetter$Division"
def TX0 : u_T := fun k => match k with
  | 0 => ("BilingualSetter$Division", "isSearched", "Z", false)
  | 1 => ("BilingualSetter$Division", "groups", "I", false)
  | 2 => ("BilingualSetter$Division", "firstPairs", "[I", true)
  | 3 => ("BilingualSetter$Division", "costs", "[I", true)
  | 4 => ("BilingualSetter$Division", "sizes", "[I", true)
  | 5 => ("BilingualSetter$Division", "group", "LBilingualSetter$Facing;", true)
  | _ => ("BilingualSetter$Division", "whole", "LBilingualSetter$Part;", true)
def tyX0 : Nat → FieldType := fun k => match k with
  | 0 => .boolean
  | 1 => .int
  | 2 => .array .int
  | 3 => .array .int
  | 4 => .array .int
  | 5 => .object "BilingualSetter$Facing"
  | _ => .object "BilingualSetter$Part"
abbrev wsX00 : List Cond := u_ws RX0 TX0 7
theorem nmX0 : ∀ a, a < 7 → ∀ b, b < 7 → a ≠ b → (TX0 a).2.1 ≠ (TX0 b).2.1 := by decide +kernel
theorem tyX0_ok : ∀ k, k < 7 → parseFieldDescriptor (TX0 k).2.2.1 = some (tyX0 k) := by decide +kernel
abbrev cX0_init : ByteArray := prog_2_method_1_code
def yX0_init : MethodName := ⟨RX0, "<init>", "()V"⟩
abbrev cX0_isAllowed : ByteArray := prog_2_method_2_code
def yX0_isAllowed : MethodName := ⟨RX0, "isAllowed", "()Z"⟩
abbrev cX0_search : ByteArray := prog_2_method_3_code
def yX0_search : MethodName := ⟨RX0, "search", "(LBilingualSetter$Edition;)V"⟩
abbrev cX0_searchFrom : ByteArray := prog_2_method_4_code
def yX0_searchFrom : MethodName := ⟨RX0, "searchFrom", "(LBilingualSetter$Edition;I)V"⟩
abbrev cX0_considerGroup : ByteArray := prog_2_method_5_code
def yX0_considerGroup : MethodName := ⟨RX0, "considerGroup", "(LBilingualSetter$Edition;II)V"⟩
abbrev cX0_blankSquares : ByteArray := prog_2_method_6_code
def yX0_blankSquares : MethodName := ⟨RX0, "blankSquares", "(LBilingualSetter$Edition;)I"⟩
def RX1 : String := "BilingualSetter$Edition"
def TX1 : u_T := fun k => match k with
  | 0 => ("BilingualSetter$Edition", "count", "I", false)
  | 1 => ("BilingualSetter$Edition", "pairs", "[[I", true)
  | 2 => ("BilingualSetter$Edition", "left", "LBilingualSetter$Notes;", true)
  | 3 => ("BilingualSetter$Edition", "right", "LBilingualSetter$Notes;", true)
  | _ => ("BilingualSetter$Edition", "settings", "[I", true)
def tyX1 : Nat → FieldType := fun k => match k with
  | 0 => .int
  | 1 => .array (.array .int)
  | 2 => .object "BilingualSetter$Notes"
  | 3 => .object "BilingualSetter$Notes"
  | _ => .array .int
abbrev wsX10 : List Cond := u_ws RX1 TX1 5
theorem nmX1 : ∀ a, a < 5 → ∀ b, b < 5 → a ≠ b → (TX1 a).2.1 ≠ (TX1 b).2.1 := by decide +kernel
theorem tyX1_ok : ∀ k, k < 5 → parseFieldDescriptor (TX1 k).2.2.1 = some (tyX1 k) := by decide +kernel
abbrev cX1_init : ByteArray := prog_3_method_1_code
def yX1_init : MethodName := ⟨RX1, "<init>", "()V"⟩
abbrev cX1_notes : ByteArray := prog_3_method_2_code
def yX1_notes : MethodName := ⟨RX1, "notes", "(I)LBilingualSetter$Notes;"⟩
abbrev cX1_hasPair : ByteArray := prog_3_method_3_code
def yX1_hasPair : MethodName := ⟨RX1, "hasPair", "(I)Z"⟩
abbrev cX1_hasLine : ByteArray := prog_3_method_4_code
def yX1_hasLine : MethodName := ⟨RX1, "hasLine", "(III)Z"⟩
abbrev cX1_placePair : ByteArray := prog_3_method_5_code
def yX1_placePair : MethodName := ⟨RX1, "placePair", "(III)V"⟩
abbrev cX1_copyFrom : ByteArray := prog_3_method_7_code
def yX1_copyFrom : MethodName := ⟨RX1, "copyFrom", "(LBilingualSetter$Edition;)V"⟩
def RX2 : String := "BilingualSetter$Facing"
def TX2 : u_T := fun k => match k with
  | 0 => ("BilingualSetter$Facing", "text", "[I", true)
  | 1 => ("BilingualSetter$Facing", "next", "[I", true)
  | 2 => ("BilingualSetter$Facing", "carriedTo", "[I", true)
  | 3 => ("BilingualSetter$Facing", "firstNote", "[I", true)
  | 4 => ("BilingualSetter$Facing", "notes", "[I", true)
  | 5 => ("BilingualSetter$Facing", "noteLines", "[I", true)
  | _ => ("BilingualSetter$Facing", "lastLength", "[I", true)
def tyX2 : Nat → FieldType := fun k => match k with
  | 0 => .array .int
  | 1 => .array .int
  | 2 => .array .int
  | 3 => .array .int
  | 4 => .array .int
  | 5 => .array .int
  | _ => .array .int
abbrev wsX20 : List Cond := u_ws RX2 TX2 7
theorem nmX2 : ∀ a, a < 7 → ∀ b, b < 7 → a ≠ b → (TX2 a).2.1 ≠ (TX2 b).2.1 := by decide +kernel
theorem tyX2_ok : ∀ k, k < 7 → parseFieldDescriptor (TX2 k).2.2.1 = some (tyX2 k) := by decide +kernel
abbrev cX2_init : ByteArray := prog_4_method_1_code
def yX2_init : MethodName := ⟨RX2, "<init>", "()V"⟩
abbrev cX2_turn : ByteArray := prog_4_method_2_code
def yX2_turn : MethodName := ⟨RX2, "turn", "(III)V"⟩
abbrev cX2_copyFrom : ByteArray := prog_4_method_3_code
def yX2_copyFrom : MethodName := ⟨RX2, "copyFrom", "(LBilingualSetter$Facing;)V"⟩
abbrev cX2_put : ByteArray := prog_4_method_4_code
def yX2_put : MethodName := ⟨RX2, "put", "(LBilingualSetter$Edition;LBilingualSetter$Part;)V"⟩
abbrev cX2_noteRows : ByteArray := prog_4_method_5_code
def yX2_noteRows : MethodName := ⟨RX2, "noteRows", "(III)I"⟩
abbrev cX2_mostCarried : ByteArray := prog_4_method_6_code
def yX2_mostCarried : MethodName := ⟨RX2, "mostCarried", "(II)I"⟩
abbrev cX2_fits : ByteArray := prog_4_method_7_code
def yX2_fits : MethodName := ⟨RX2, "fits", "(III)Z"⟩
abbrev cX2_carriedFrom : ByteArray := prog_4_method_8_code
def yX2_carriedFrom : MethodName := ⟨RX2, "carriedFrom", "(ILBilingualSetter$Edition;I)I"⟩
def RX3 : String := "BilingualSetter$History"
def TX3 : u_T := fun k => match k with
  | 0 => ("BilingualSetter$History", "count", "I", false)
  | 1 => ("BilingualSetter$History", "next", "I", false)
  | _ => ("BilingualSetter$History", "ring", "[LBilingualSetter$Edition;", true)
def tyX3 : Nat → FieldType := fun k => match k with
  | 0 => .int
  | 1 => .int
  | _ => .array (.object "BilingualSetter$Edition")
abbrev wsX30 : List Cond := u_ws RX3 TX3 3
theorem nmX3 : ∀ a, a < 3 → ∀ b, b < 3 → a ≠ b → (TX3 a).2.1 ≠ (TX3 b).2.1 := by decide +kernel
theorem tyX3_ok : ∀ k, k < 3 → parseFieldDescriptor (TX3 k).2.2.1 = some (tyX3 k) := by decide +kernel
abbrev cX3_init : ByteArray := prog_5_method_1_code
def yX3_init : MethodName := ⟨RX3, "<init>", "()V"⟩
abbrev cX3_record : ByteArray := prog_5_method_2_code
def yX3_record : MethodName := ⟨RX3, "record", "(LBilingualSetter$Edition;)V"⟩
abbrev cX3_restore : ByteArray := prog_5_method_3_code
def yX3_restore : MethodName := ⟨RX3, "restore", "(LBilingualSetter$Edition;)V"⟩
def RX4 : String := "BilingualSetter$Notes"
def TX4 : u_T := fun k => match k with
  | 0 => ("BilingualSetter$Notes", "count", "I", false)
  | _ => ("BilingualSetter$Notes", "table", "[[I", true)
def tyX4 : Nat → FieldType := fun k => match k with
  | 0 => .int
  | _ => .array (.array .int)
abbrev wsX40 : List Cond := u_ws RX4 TX4 2
theorem nmX4 : ∀ a, a < 2 → ∀ b, b < 2 → a ≠ b → (TX4 a).2.1 ≠ (TX4 b).2.1 := by decide +kernel
theorem tyX4_ok : ∀ k, k < 2 → parseFieldDescriptor (TX4 k).2.2.1 = some (tyX4 k) := by decide +kernel
abbrev cX4_init : ByteArray := prog_6_method_1_code
def yX4_init : MethodName := ⟨RX4, "<init>", "()V"⟩
abbrev cX4_before : ByteArray := prog_6_method_2_code
def yX4_before : MethodName := ⟨RX4, "before", "(II)I"⟩
abbrev cX4_endBefore : ByteArray := prog_6_method_3_code
def yX4_endBefore : MethodName := ⟨RX4, "endBefore", "(III)I"⟩
abbrev cX4_place : ByteArray := prog_6_method_5_code
def yX4_place : MethodName := ⟨RX4, "place", "(III)I"⟩
abbrev cX4_drop : ByteArray := prog_6_method_6_code
def yX4_drop : MethodName := ⟨RX4, "drop", "(I)V"⟩
abbrev cX4_movePairs : ByteArray := prog_6_method_8_code
def yX4_movePairs : MethodName := ⟨RX4, "movePairs", "(II)V"⟩
abbrev cX4_copyFrom : ByteArray := prog_6_method_9_code
def yX4_copyFrom : MethodName := ⟨RX4, "copyFrom", "(LBilingualSetter$Notes;)V"⟩
def RX5 : String := "BilingualSetter$Part"
def TX5 : u_T := fun k => match k with
  | 0 => ("BilingualSetter$Part", "pair", "I", false)
  | 1 => ("BilingualSetter$Part", "first", "[I", true)
  | _ => ("BilingualSetter$Part", "lines", "[I", true)
def tyX5 : Nat → FieldType := fun k => match k with
  | 0 => .int
  | 1 => .array .int
  | _ => .array .int
abbrev wsX50 : List Cond := u_ws RX5 TX5 3
theorem nmX5 : ∀ a, a < 3 → ∀ b, b < 3 → a ≠ b → (TX5 a).2.1 ≠ (TX5 b).2.1 := by decide +kernel
theorem tyX5_ok : ∀ k, k < 3 → parseFieldDescriptor (TX5 k).2.2.1 = some (tyX5 k) := by decide +kernel
abbrev cX5_init : ByteArray := prog_7_method_1_code
def yX5_init : MethodName := ⟨RX5, "<init>", "()V"⟩
abbrev cX5_takePair : ByteArray := prog_7_method_2_code
def yX5_takePair : MethodName := ⟨RX5, "takePair", "(LBilingualSetter$Edition;I)V"⟩
abbrev cX5_takeStart : ByteArray := prog_7_method_3_code
def yX5_takeStart : MethodName := ⟨RX5, "takeStart", "(LBilingualSetter$Part;II)V"⟩
abbrev cX5_dropStart : ByteArray := prog_7_method_4_code
def yX5_dropStart : MethodName := ⟨RX5, "dropStart", "(LBilingualSetter$Part;)V"⟩
abbrev cX5_isBegun : ByteArray := prog_7_method_5_code
def yX5_isBegun : MethodName := ⟨RX5, "isBegun", "()Z"⟩
def RX6 : String := "BilingualSetter$Spreads"
def TX6 : u_T := fun k => match k with
  | 0 => ("BilingualSetter$Spreads", "height", "I", false)
  | 1 => ("BilingualSetter$Spreads", "count", "I", false)
  | 2 => ("BilingualSetter$Spreads", "firstSegment", "[I", true)
  | 3 => ("BilingualSetter$Spreads", "overfull", "[I", true)
  | 4 => ("BilingualSetter$Spreads", "segments", "[[I", true)
  | 5 => ("BilingualSetter$Spreads", "pages", "[[I", true)
  | 6 => ("BilingualSetter$Spreads", "segmentsMade", "I", false)
  | 7 => ("BilingualSetter$Spreads", "now", "LBilingualSetter$Facing;", true)
  | 8 => ("BilingualSetter$Spreads", "trial", "LBilingualSetter$Facing;", true)
  | 9 => ("BilingualSetter$Spreads", "rest", "LBilingualSetter$Part;", true)
  | _ => ("BilingualSetter$Spreads", "start", "LBilingualSetter$Part;", true)
def tyX6 : Nat → FieldType := fun k => match k with
  | 0 => .int
  | 1 => .int
  | 2 => .array .int
  | 3 => .array .int
  | 4 => .array (.array .int)
  | 5 => .array (.array .int)
  | 6 => .int
  | 7 => .object "BilingualSetter$Facing"
  | 8 => .object "BilingualSetter$Facing"
  | 9 => .object "BilingualSetter$Part"
  | _ => .object "BilingualSetter$Part"
abbrev wsX60 : List Cond := u_ws RX6 TX6 11
theorem nmX6 : ∀ a, a < 11 → ∀ b, b < 11 → a ≠ b → (TX6 a).2.1 ≠ (TX6 b).2.1 := by decide +kernel
theorem tyX6_ok : ∀ k, k < 11 → parseFieldDescriptor (TX6 k).2.2.1 = some (tyX6 k) := by decide +kernel
abbrev cX6_init : ByteArray := prog_8_method_1_code
def yX6_init : MethodName := ⟨RX6, "<init>", "()V"⟩
abbrev cX6_arrange : ByteArray := prog_8_method_2_code
def yX6_arrange : MethodName := ⟨RX6, "arrange", "(LBilingualSetter$Edition;I)V"⟩
abbrev cX6_isCarried : ByteArray := prog_8_method_3_code
def yX6_isCarried : MethodName := ⟨RX6, "isCarried", "()Z"⟩
abbrev cX6_putNext : ByteArray := prog_8_method_4_code
def yX6_putNext : MethodName := ⟨RX6, "putNext", "(LBilingualSetter$Edition;)Z"⟩
abbrev cX6_putRest : ByteArray := prog_8_method_5_code
def yX6_putRest : MethodName := ⟨RX6, "putRest", "(LBilingualSetter$Edition;)V"⟩
abbrev cX6_fits : ByteArray := prog_8_method_6_code
def yX6_fits : MethodName := ⟨RX6, "fits", "(LBilingualSetter$Edition;LBilingualSetter$Part;)Z"⟩
abbrev cX6_findStart : ByteArray := prog_8_method_7_code
def yX6_findStart : MethodName := ⟨RX6, "findStart", "(LBilingualSetter$Edition;)Z"⟩
abbrev cX6_addSegment : ByteArray := prog_8_method_8_code
def yX6_addSegment : MethodName := ⟨RX6, "addSegment", "(LBilingualSetter$Edition;LBilingualSetter$Part;I)V"⟩
abbrev cX6_endSpread : ByteArray := prog_8_method_9_code
def yX6_endSpread : MethodName := ⟨RX6, "endSpread", "(LBilingualSetter$Edition;)V"⟩
abbrev cX6_has : ByteArray := prog_8_method_10_code
def yX6_has : MethodName := ⟨RX6, "has", "(I)Z"⟩
abbrev cX6_segmentsOf : ByteArray := prog_8_method_11_code
def yX6_segmentsOf : MethodName := ⟨RX6, "segmentsOf", "(I)I"⟩
abbrev cX6_segmentWith : ByteArray := prog_8_method_12_code
def yX6_segmentWith : MethodName := ⟨RX6, "segmentWith", "(III)I"⟩
abbrev cX6_contains : ByteArray := prog_8_method_13_code
def yX6_contains : MethodName := ⟨RX6, "contains", "(IIII)Z"⟩
abbrev cX6_spreadWith : ByteArray := prog_8_method_14_code
def yX6_spreadWith : MethodName := ⟨RX6, "spreadWith", "(I)I"⟩
abbrev cX6_rowIn : ByteArray := prog_8_method_15_code
def yX6_rowIn : MethodName := ⟨RX6, "rowIn", "(III)I"⟩
abbrev cX6_textAt : ByteArray := prog_8_method_16_code
def yX6_textAt : MethodName := ⟨RX6, "textAt", "(III)I"⟩
abbrev cX6_noteAt : ByteArray := prog_8_method_17_code
def yX6_noteAt : MethodName := ⟨RX6, "noteAt", "(LBilingualSetter$Edition;III)I"⟩
abbrev cX6_noteLine : ByteArray := prog_8_method_18_code
def yX6_noteLine : MethodName := ⟨RX6, "noteLine", "(LBilingualSetter$Notes;II)I"⟩
abbrev cX6_blankSquares : ByteArray := prog_8_method_19_code
def yX6_blankSquares : MethodName := ⟨RX6, "blankSquares", "()I"⟩
def RX7 : String := "BilingualSetter"
def TX7 : u_T := fun k => match k with
  | 0 => ("BilingualSetter", "edition", "LBilingualSetter$Edition;", true)
  | 1 => ("BilingualSetter", "history", "LBilingualSetter$History;", true)
  | 2 => ("BilingualSetter", "spreads", "LBilingualSetter$Spreads;", true)
  | _ => ("BilingualSetter", "division", "LBilingualSetter$Division;", true)
def tyX7 : Nat → FieldType := fun k => match k with
  | 0 => .object "BilingualSetter$Edition"
  | 1 => .object "BilingualSetter$History"
  | 2 => .object "BilingualSetter$Spreads"
  | _ => .object "BilingualSetter$Division"
abbrev wsX70 : List Cond := u_ws RX7 TX7 4
theorem nmX7 : ∀ a, a < 4 → ∀ b, b < 4 → a ≠ b → (TX7 a).2.1 ≠ (TX7 b).2.1 := by decide +kernel
theorem tyX7_ok : ∀ k, k < 4 → parseFieldDescriptor (TX7 k).2.2.1 = some (tyX7 k) := by decide +kernel
abbrev cX7_init : ByteArray := prog_1_method_1_code
def yX7_init : MethodName := ⟨RX7, "<init>", "()V"⟩
abbrev cX7_insert : ByteArray := prog_1_method_2_code
def yX7_insert : MethodName := ⟨RX7, "insert", "(III)I"⟩
abbrev cX7_setFlag : ByteArray := prog_1_method_5_code
def yX7_setFlag : MethodName := ⟨RX7, "setFlag", "(III)I"⟩
abbrev cX7_addNote : ByteArray := prog_1_method_6_code
def yX7_addNote : MethodName := ⟨RX7, "addNote", "(IIII)I"⟩
abbrev cX7_removeNote : ByteArray := prog_1_method_7_code
def yX7_removeNote : MethodName := ⟨RX7, "removeNote", "(II)I"⟩
abbrev cX7_set : ByteArray := prog_1_method_8_code
def yX7_set : MethodName := ⟨RX7, "set", "(II)I"⟩
abbrev cX7_undo : ByteArray := prog_1_method_9_code
def yX7_undo : MethodName := ⟨RX7, "undo", "()I"⟩
abbrev cX7_pairCount : ByteArray := prog_1_method_10_code
def yX7_pairCount : MethodName := ⟨RX7, "pairCount", "()I"⟩
abbrev cX7_pairInfo : ByteArray := prog_1_method_11_code
def yX7_pairInfo : MethodName := ⟨RX7, "pairInfo", "(II)I"⟩
abbrev cX7_noteCount : ByteArray := prog_1_method_12_code
def yX7_noteCount : MethodName := ⟨RX7, "noteCount", "(I)I"⟩
abbrev cX7_noteInfo : ByteArray := prog_1_method_13_code
def yX7_noteInfo : MethodName := ⟨RX7, "noteInfo", "(III)I"⟩
abbrev cX7_spreadCount : ByteArray := prog_1_method_14_code
def yX7_spreadCount : MethodName := ⟨RX7, "spreadCount", "()I"⟩
abbrev cX7_segmentCount : ByteArray := prog_1_method_15_code
def yX7_segmentCount : MethodName := ⟨RX7, "segmentCount", "(I)I"⟩
abbrev cX7_pageInfo : ByteArray := prog_1_method_17_code
def yX7_pageInfo : MethodName := ⟨RX7, "pageInfo", "(III)I"⟩
abbrev cX7_isOverfull : ByteArray := prog_1_method_18_code
def yX7_isOverfull : MethodName := ⟨RX7, "isOverfull", "(I)I"⟩
abbrev cX7_spreadOf : ByteArray := prog_1_method_19_code
def yX7_spreadOf : MethodName := ⟨RX7, "spreadOf", "(III)I"⟩
abbrev cX7_rowOf : ByteArray := prog_1_method_20_code
def yX7_rowOf : MethodName := ⟨RX7, "rowOf", "(III)I"⟩
abbrev cX7_shown : ByteArray := prog_1_method_21_code
def yX7_shown : MethodName := ⟨RX7, "shown", "(III)I"⟩
abbrev cX7_cost : ByteArray := prog_1_method_22_code
def yX7_cost : MethodName := ⟨RX7, "cost", "()I"⟩
abbrev cX7_bestCost : ByteArray := prog_1_method_23_code
def yX7_bestCost : MethodName := ⟨RX7, "bestCost", "()I"⟩
abbrev cX7_bestBreak : ByteArray := prog_1_method_24_code
def yX7_bestBreak : MethodName := ⟨RX7, "bestBreak", "(I)I"⟩
abbrev cX7_leastHeight : ByteArray := prog_1_method_25_code
def yX7_leastHeight : MethodName := ⟨RX7, "leastHeight", "(I)I"⟩
abbrev cX7_changePair : ByteArray := prog_1_method_28_code
def yX7_changePair : MethodName := ⟨RX7, "changePair", "(III)I"⟩
abbrev cX7_beginChange : ByteArray := prog_1_method_29_code
def yX7_beginChange : MethodName := ⟨RX7, "beginChange", "()V"⟩
abbrev cX7_forgetResults : ByteArray := prog_1_method_30_code
def yX7_forgetResults : MethodName := ⟨RX7, "forgetResults", "()V"⟩
abbrev cX7_isIn : ByteArray := prog_1_method_31_code
def yX7_isIn : MethodName := ⟨RX7, "isIn", "(III)Z"⟩
abbrev cX7_isSide : ByteArray := prog_1_method_32_code
def yX7_isSide : MethodName := ⟨RX7, "isSide", "(I)Z"⟩
abbrev cX7_openPlace : ByteArray := prog_1_method_33_code
def yX7_openPlace : MethodName := ⟨RX7, "openPlace", "([III)V"⟩
abbrev cX7_closePlace : ByteArray := prog_1_method_34_code
def yX7_closePlace : MethodName := ⟨RX7, "closePlace", "([III)V"⟩
abbrev cX7_copyTable : ByteArray := prog_1_method_35_code
def yX7_copyTable : MethodName := ⟨RX7, "copyTable", "([[I[[I)V"⟩
def RX8 : String := "BilingualSetterModel"
def TX8 : u_T := fun k => match k with
  | _ => ("", "", "", false)
def tyX8 : Nat → FieldType := fun k => match k with
  | _ => .int
abbrev wsX80 : List Cond := u_ws RX8 TX8 0
theorem nmX8 : ∀ a, a < 0 → ∀ b, b < 0 → a ≠ b → (TX8 a).2.1 ≠ (TX8 b).2.1 := by decide +kernel
theorem tyX8_ok : ∀ k, k < 0 → parseFieldDescriptor (TX8 k).2.2.1 = some (tyX8 k) := by decide +kernel
def RL : String := "BilingualSetterLaw"
abbrev cL_cell : ByteArray := method_2_code
def yL_cell : MethodName := ⟨RL, "cell", "([II)I"⟩
abbrev cL_acts : ByteArray := method_3_code
def yL_acts : MethodName := ⟨RL, "acts", "(LBilingualSetter;I)Z"⟩
abbrev cL_shows : ByteArray := method_4_code
def yL_shows : MethodName := ⟨RL, "shows", "(LBilingualSetter;I)Z"⟩
abbrev cL_adds : ByteArray := method_5_code
def yL_adds : MethodName := ⟨RL, "adds", "(LBilingualSetter;)Z"⟩
abbrev cL_law : ByteArray := code
def yL_law : MethodName := ⟨RL, "law", "([I)Z"⟩
theorem dX0_init_0 : decode cX0_init 0 = .ok (.aload_n 0, 1) := by decide +kernel
theorem dX0_init_1 : decode cX0_init 1 = .ok (.invokespecial 3, 3) := by decide +kernel
theorem dX0_init_4 : decode cX0_init 4 = .ok (.aload_n 0, 1) := by decide +kernel
theorem dX0_init_5 : decode cX0_init 5 = .ok (.bipush 20, 2) := by decide +kernel
theorem dX0_init_7 : decode cX0_init 7 = .ok (.newarray .int, 2) := by decide +kernel
theorem dX0_init_9 : decode cX0_init 9 = .ok (.putfield 9, 3) := by decide +kernel
theorem dX0_init_12 : decode cX0_init 12 = .ok (.aload_n 0, 1) := by decide +kernel
theorem dX0_init_13 : decode cX0_init 13 = .ok (.bipush 21, 2) := by decide +kernel
theorem dX0_init_15 : decode cX0_init 15 = .ok (.newarray .int, 2) := by decide +kernel
theorem dX0_init_17 : decode cX0_init 17 = .ok (.putfield 15, 3) := by decide +kernel
theorem dX0_init_20 : decode cX0_init 20 = .ok (.aload_n 0, 1) := by decide +kernel
theorem dX0_init_21 : decode cX0_init 21 = .ok (.bipush 20, 2) := by decide +kernel
theorem dX0_init_23 : decode cX0_init 23 = .ok (.newarray .int, 2) := by decide +kernel
theorem dX0_init_25 : decode cX0_init 25 = .ok (.putfield 18, 3) := by decide +kernel
theorem dX0_init_28 : decode cX0_init 28 = .ok (.aload_n 0, 1) := by decide +kernel
theorem dX0_init_29 : decode cX0_init 29 = .ok (.new 21, 3) := by decide +kernel
theorem dX0_init_32 : decode cX0_init 32 = .ok (.dup, 1) := by decide +kernel
theorem dX0_init_33 : decode cX0_init 33 = .ok (.invokespecial 23, 3) := by decide +kernel
theorem dX0_init_36 : decode cX0_init 36 = .ok (.putfield 24, 3) := by decide +kernel
theorem dX0_init_39 : decode cX0_init 39 = .ok (.aload_n 0, 1) := by decide +kernel
theorem dX0_init_40 : decode cX0_init 40 = .ok (.new 28, 3) := by decide +kernel
theorem dX0_init_43 : decode cX0_init 43 = .ok (.dup, 1) := by decide +kernel
theorem dX0_init_44 : decode cX0_init 44 = .ok (.invokespecial 30, 3) := by decide +kernel
theorem dX0_init_47 : decode cX0_init 47 = .ok (.putfield 31, 3) := by decide +kernel
theorem dX0_init_50 : decode cX0_init 50 = .ok (.return_, 1) := by decide +kernel
theorem dX0_isAllowed_0 : decode cX0_isAllowed 0 = .ok (.aload_n 0, 1) := by decide +kernel
theorem dX0_isAllowed_1 : decode cX0_isAllowed 1 = .ok (.getfield 15, 3) := by decide +kernel
theorem dX0_isAllowed_4 : decode cX0_isAllowed 4 = .ok (.iconst 0, 1) := by decide +kernel
theorem dX0_isAllowed_5 : decode cX0_isAllowed 5 = .ok (.iaload, 1) := by decide +kernel
theorem dX0_isAllowed_6 : decode cX0_isAllowed 6 = .ok (.iconst (-1), 1) := by decide +kernel
theorem dX0_isAllowed_7 : decode cX0_isAllowed 7 = .ok (.if_icmp .eq 7, 3) := by decide +kernel
theorem dX0_isAllowed_10 : decode cX0_isAllowed 10 = .ok (.iconst 1, 1) := by decide +kernel
theorem dX0_isAllowed_11 : decode cX0_isAllowed 11 = .ok (.goto 4, 3) := by decide +kernel
theorem dX0_isAllowed_14 : decode cX0_isAllowed 14 = .ok (.iconst 0, 1) := by decide +kernel
theorem dX0_isAllowed_15 : decode cX0_isAllowed 15 = .ok (.ireturn, 1) := by decide +kernel
theorem dX0_search_0 : decode cX0_search 0 = .ok (.aload_n 0, 1) := by decide +kernel
theorem dX0_search_1 : decode cX0_search 1 = .ok (.getfield 35, 3) := by decide +kernel
theorem dX0_search_4 : decode cX0_search 4 = .ok (.ifCond .eq 4, 3) := by decide +kernel
theorem dX0_search_7 : decode cX0_search 7 = .ok (.return_, 1) := by decide +kernel
theorem dX0_search_8 : decode cX0_search 8 = .ok (.aload_n 0, 1) := by decide +kernel
theorem dX0_search_9 : decode cX0_search 9 = .ok (.iconst 1, 1) := by decide +kernel
theorem dX0_search_10 : decode cX0_search 10 = .ok (.putfield 35, 3) := by decide +kernel
theorem dX0_search_13 : decode cX0_search 13 = .ok (.aload_n 0, 1) := by decide +kernel
theorem dX0_search_14 : decode cX0_search 14 = .ok (.getfield 15, 3) := by decide +kernel
theorem dX0_search_17 : decode cX0_search 17 = .ok (.aload_n 1, 1) := by decide +kernel
theorem dX0_search_18 : decode cX0_search 18 = .ok (.getfield 39, 3) := by decide +kernel
theorem dX0_search_21 : decode cX0_search 21 = .ok (.iconst 0, 1) := by decide +kernel
theorem dX0_search_22 : decode cX0_search 22 = .ok (.iastore, 1) := by decide +kernel
theorem dX0_search_23 : decode cX0_search 23 = .ok (.aload_n 1, 1) := by decide +kernel
theorem dX0_search_24 : decode cX0_search 24 = .ok (.getfield 39, 3) := by decide +kernel
theorem dX0_search_27 : decode cX0_search 27 = .ok (.iconst 1, 1) := by decide +kernel
theorem dX0_search_28 : decode cX0_search 28 = .ok (.isub, 1) := by decide +kernel
theorem dX0_search_29 : decode cX0_search 29 = .ok (.istore_n 2, 1) := by decide +kernel
theorem dX0_search_30 : decode cX0_search 30 = .ok (.iload_n 2, 1) := by decide +kernel
theorem dX0_search_31 : decode cX0_search 31 = .ok (.ifCond .lt 15, 3) := by decide +kernel
theorem dX0_search_34 : decode cX0_search 34 = .ok (.aload_n 0, 1) := by decide +kernel
theorem dX0_search_35 : decode cX0_search 35 = .ok (.aload_n 1, 1) := by decide +kernel
theorem dX0_search_36 : decode cX0_search 36 = .ok (.iload_n 2, 1) := by decide +kernel
theorem dX0_search_37 : decode cX0_search 37 = .ok (.invokevirtual 45, 3) := by decide +kernel
theorem dX0_search_40 : decode cX0_search 40 = .ok (.iinc 2 (-1), 3) := by decide +kernel
theorem dX0_search_43 : decode cX0_search 43 = .ok (.goto (-13), 3) := by decide +kernel
theorem dX0_search_46 : decode cX0_search 46 = .ok (.aload_n 0, 1) := by decide +kernel
theorem dX0_search_47 : decode cX0_search 47 = .ok (.iconst 0, 1) := by decide +kernel
theorem dX0_search_48 : decode cX0_search 48 = .ok (.putfield 49, 3) := by decide +kernel
theorem dX0_search_51 : decode cX0_search 51 = .ok (.iconst 0, 1) := by decide +kernel
theorem dX0_search_52 : decode cX0_search 52 = .ok (.istore_n 2, 1) := by decide +kernel
theorem dX0_search_53 : decode cX0_search 53 = .ok (.aload_n 0, 1) := by decide +kernel
theorem dX0_search_54 : decode cX0_search 54 = .ok (.invokevirtual 52, 3) := by decide +kernel
theorem dX0_search_57 : decode cX0_search 57 = .ok (.ifCond .eq 52, 3) := by decide +kernel
theorem dX0_search_60 : decode cX0_search 60 = .ok (.iload_n 2, 1) := by decide +kernel
theorem dX0_search_61 : decode cX0_search 61 = .ok (.aload_n 1, 1) := by decide +kernel
theorem dX0_search_62 : decode cX0_search 62 = .ok (.getfield 39, 3) := by decide +kernel
theorem dX0_search_65 : decode cX0_search 65 = .ok (.if_icmp .ge 44, 3) := by decide +kernel
theorem dX0_search_68 : decode cX0_search 68 = .ok (.aload_n 0, 1) := by decide +kernel
theorem dX0_search_69 : decode cX0_search 69 = .ok (.getfield 49, 3) := by decide +kernel
theorem dX0_search_72 : decode cX0_search 72 = .ok (.bipush 20, 2) := by decide +kernel
theorem dX0_search_74 : decode cX0_search 74 = .ok (.if_icmp .ge 35, 3) := by decide +kernel
theorem dX0_search_77 : decode cX0_search 77 = .ok (.aload_n 0, 1) := by decide +kernel
theorem dX0_search_78 : decode cX0_search 78 = .ok (.getfield 9, 3) := by decide +kernel
theorem dX0_search_81 : decode cX0_search 81 = .ok (.aload_n 0, 1) := by decide +kernel
theorem dX0_search_82 : decode cX0_search 82 = .ok (.getfield 49, 3) := by decide +kernel
theorem dX0_search_85 : decode cX0_search 85 = .ok (.iload_n 2, 1) := by decide +kernel
theorem dX0_search_86 : decode cX0_search 86 = .ok (.iastore, 1) := by decide +kernel
theorem dX0_search_87 : decode cX0_search 87 = .ok (.aload_n 0, 1) := by decide +kernel
theorem dX0_search_88 : decode cX0_search 88 = .ok (.dup, 1) := by decide +kernel
theorem dX0_search_89 : decode cX0_search 89 = .ok (.getfield 49, 3) := by decide +kernel
theorem dX0_search_92 : decode cX0_search 92 = .ok (.iconst 1, 1) := by decide +kernel
theorem dX0_search_93 : decode cX0_search 93 = .ok (.iadd, 1) := by decide +kernel
theorem dX0_search_94 : decode cX0_search 94 = .ok (.putfield 49, 3) := by decide +kernel
theorem dX0_search_97 : decode cX0_search 97 = .ok (.iload_n 2, 1) := by decide +kernel
theorem dX0_search_98 : decode cX0_search 98 = .ok (.aload_n 0, 1) := by decide +kernel
theorem dX0_search_99 : decode cX0_search 99 = .ok (.getfield 18, 3) := by decide +kernel
theorem dX0_search_102 : decode cX0_search 102 = .ok (.iload_n 2, 1) := by decide +kernel
theorem dX0_search_103 : decode cX0_search 103 = .ok (.iaload, 1) := by decide +kernel
theorem dX0_search_104 : decode cX0_search 104 = .ok (.iadd, 1) := by decide +kernel
theorem dX0_search_105 : decode cX0_search 105 = .ok (.istore_n 2, 1) := by decide +kernel
theorem dX0_search_106 : decode cX0_search 106 = .ok (.goto (-53), 3) := by decide +kernel
theorem dX0_search_109 : decode cX0_search 109 = .ok (.return_, 1) := by decide +kernel
theorem dX0_searchFrom_0 : decode cX0_searchFrom 0 = .ok (.aload_n 0, 1) := by decide +kernel
theorem dX0_searchFrom_1 : decode cX0_searchFrom 1 = .ok (.getfield 15, 3) := by decide +kernel
theorem dX0_searchFrom_4 : decode cX0_searchFrom 4 = .ok (.iload_n 2, 1) := by decide +kernel
theorem dX0_searchFrom_5 : decode cX0_searchFrom 5 = .ok (.iconst (-1), 1) := by decide +kernel
theorem dX0_searchFrom_6 : decode cX0_searchFrom 6 = .ok (.iastore, 1) := by decide +kernel
theorem dX0_searchFrom_7 : decode cX0_searchFrom 7 = .ok (.aload_n 0, 1) := by decide +kernel
theorem dX0_searchFrom_8 : decode cX0_searchFrom 8 = .ok (.getfield 24, 3) := by decide +kernel
theorem dX0_searchFrom_11 : decode cX0_searchFrom 11 = .ok (.iconst 0, 1) := by decide +kernel
theorem dX0_searchFrom_12 : decode cX0_searchFrom 12 = .ok (.iconst 0, 1) := by decide +kernel
theorem dX0_searchFrom_13 : decode cX0_searchFrom 13 = .ok (.aload_n 1, 1) := by decide +kernel
theorem dX0_searchFrom_14 : decode cX0_searchFrom 14 = .ok (.getfield 56, 3) := by decide +kernel
theorem dX0_searchFrom_17 : decode cX0_searchFrom 17 = .ok (.iload_n 2, 1) := by decide +kernel
theorem dX0_searchFrom_18 : decode cX0_searchFrom 18 = .ok (.iconst 0, 1) := by decide +kernel
theorem dX0_searchFrom_19 : decode cX0_searchFrom 19 = .ok (.invokevirtual 60, 3) := by decide +kernel
theorem dX0_searchFrom_22 : decode cX0_searchFrom 22 = .ok (.invokevirtual 66, 3) := by decide +kernel
theorem dX0_searchFrom_25 : decode cX0_searchFrom 25 = .ok (.aload_n 0, 1) := by decide +kernel
theorem dX0_searchFrom_26 : decode cX0_searchFrom 26 = .ok (.getfield 24, 3) := by decide +kernel
theorem dX0_searchFrom_29 : decode cX0_searchFrom 29 = .ok (.iconst 1, 1) := by decide +kernel
theorem dX0_searchFrom_30 : decode cX0_searchFrom 30 = .ok (.iconst 0, 1) := by decide +kernel
theorem dX0_searchFrom_31 : decode cX0_searchFrom 31 = .ok (.aload_n 1, 1) := by decide +kernel
theorem dX0_searchFrom_32 : decode cX0_searchFrom 32 = .ok (.getfield 70, 3) := by decide +kernel
theorem dX0_searchFrom_35 : decode cX0_searchFrom 35 = .ok (.iload_n 2, 1) := by decide +kernel
theorem dX0_searchFrom_36 : decode cX0_searchFrom 36 = .ok (.iconst 0, 1) := by decide +kernel
theorem dX0_searchFrom_37 : decode cX0_searchFrom 37 = .ok (.invokevirtual 60, 3) := by decide +kernel
theorem dX0_searchFrom_40 : decode cX0_searchFrom 40 = .ok (.invokevirtual 66, 3) := by decide +kernel
theorem dX0_searchFrom_43 : decode cX0_searchFrom 43 = .ok (.iload_n 2, 1) := by decide +kernel
theorem dX0_searchFrom_44 : decode cX0_searchFrom 44 = .ok (.istore_n 3, 1) := by decide +kernel
theorem dX0_searchFrom_45 : decode cX0_searchFrom 45 = .ok (.iload_n 3, 1) := by decide +kernel
theorem dX0_searchFrom_46 : decode cX0_searchFrom 46 = .ok (.aload_n 1, 1) := by decide +kernel
theorem dX0_searchFrom_47 : decode cX0_searchFrom 47 = .ok (.getfield 39, 3) := by decide +kernel
theorem dX0_searchFrom_50 : decode cX0_searchFrom 50 = .ok (.if_icmp .ge 81, 3) := by decide +kernel
theorem dX0_searchFrom_53 : decode cX0_searchFrom 53 = .ok (.iload_n 3, 1) := by decide +kernel
theorem dX0_searchFrom_54 : decode cX0_searchFrom 54 = .ok (.iload_n 2, 1) := by decide +kernel
theorem dX0_searchFrom_55 : decode cX0_searchFrom 55 = .ok (.if_icmp .le 16, 3) := by decide +kernel
theorem dX0_searchFrom_58 : decode cX0_searchFrom 58 = .ok (.aload_n 1, 1) := by decide +kernel
theorem dX0_searchFrom_59 : decode cX0_searchFrom 59 = .ok (.getfield 73, 3) := by decide +kernel
theorem dX0_searchFrom_62 : decode cX0_searchFrom 62 = .ok (.iconst 3, 1) := by decide +kernel
theorem dX0_searchFrom_63 : decode cX0_searchFrom 63 = .ok (.aaload, 1) := by decide +kernel
theorem dX0_searchFrom_64 : decode cX0_searchFrom 64 = .ok (.iload_n 3, 1) := by decide +kernel
theorem dX0_searchFrom_65 : decode cX0_searchFrom 65 = .ok (.iaload, 1) := by decide +kernel
theorem dX0_searchFrom_66 : decode cX0_searchFrom 66 = .ok (.iconst 1, 1) := by decide +kernel
theorem dX0_searchFrom_67 : decode cX0_searchFrom 67 = .ok (.if_icmp .ne 4, 3) := by decide +kernel
theorem dX0_searchFrom_70 : decode cX0_searchFrom 70 = .ok (.return_, 1) := by decide +kernel
theorem dX0_searchFrom_71 : decode cX0_searchFrom 71 = .ok (.aload_n 0, 1) := by decide +kernel
theorem dX0_searchFrom_72 : decode cX0_searchFrom 72 = .ok (.getfield 31, 3) := by decide +kernel
theorem dX0_searchFrom_75 : decode cX0_searchFrom 75 = .ok (.aload_n 1, 1) := by decide +kernel
theorem dX0_searchFrom_76 : decode cX0_searchFrom 76 = .ok (.iload_n 3, 1) := by decide +kernel
theorem dX0_searchFrom_77 : decode cX0_searchFrom 77 = .ok (.invokevirtual 77, 3) := by decide +kernel
theorem dX0_searchFrom_80 : decode cX0_searchFrom 80 = .ok (.aload_n 0, 1) := by decide +kernel
theorem dX0_searchFrom_81 : decode cX0_searchFrom 81 = .ok (.getfield 24, 3) := by decide +kernel
theorem dX0_searchFrom_84 : decode cX0_searchFrom 84 = .ok (.aload_n 1, 1) := by decide +kernel
theorem dX0_searchFrom_85 : decode cX0_searchFrom 85 = .ok (.aload_n 0, 1) := by decide +kernel
theorem dX0_searchFrom_86 : decode cX0_searchFrom 86 = .ok (.getfield 31, 3) := by decide +kernel
theorem dX0_searchFrom_89 : decode cX0_searchFrom 89 = .ok (.invokevirtual 80, 3) := by decide +kernel
theorem dX0_searchFrom_92 : decode cX0_searchFrom 92 = .ok (.aload_n 0, 1) := by decide +kernel
theorem dX0_searchFrom_93 : decode cX0_searchFrom 93 = .ok (.getfield 24, 3) := by decide +kernel
theorem dX0_searchFrom_96 : decode cX0_searchFrom 96 = .ok (.aload_n 1, 1) := by decide +kernel
theorem dX0_searchFrom_97 : decode cX0_searchFrom 97 = .ok (.getfield 84, 3) := by decide +kernel
theorem dX0_searchFrom_100 : decode cX0_searchFrom 100 = .ok (.iconst 0, 1) := by decide +kernel
theorem dX0_searchFrom_101 : decode cX0_searchFrom 101 = .ok (.iaload, 1) := by decide +kernel
theorem dX0_searchFrom_102 : decode cX0_searchFrom 102 = .ok (.aload_n 1, 1) := by decide +kernel
theorem dX0_searchFrom_103 : decode cX0_searchFrom 103 = .ok (.getfield 84, 3) := by decide +kernel
theorem dX0_searchFrom_106 : decode cX0_searchFrom 106 = .ok (.iconst 2, 1) := by decide +kernel
theorem dX0_searchFrom_107 : decode cX0_searchFrom 107 = .ok (.iaload, 1) := by decide +kernel
theorem dX0_searchFrom_108 : decode cX0_searchFrom 108 = .ok (.iconst 0, 1) := by decide +kernel
theorem dX0_searchFrom_109 : decode cX0_searchFrom 109 = .ok (.invokevirtual 87, 3) := by decide +kernel
theorem dX0_searchFrom_112 : decode cX0_searchFrom 112 = .ok (.ifCond .ne 4, 3) := by decide +kernel
theorem dX0_searchFrom_115 : decode cX0_searchFrom 115 = .ok (.return_, 1) := by decide +kernel
theorem dX0_searchFrom_116 : decode cX0_searchFrom 116 = .ok (.aload_n 0, 1) := by decide +kernel
theorem dX0_searchFrom_117 : decode cX0_searchFrom 117 = .ok (.aload_n 1, 1) := by decide +kernel
theorem dX0_searchFrom_118 : decode cX0_searchFrom 118 = .ok (.iload_n 2, 1) := by decide +kernel
theorem dX0_searchFrom_119 : decode cX0_searchFrom 119 = .ok (.iload_n 3, 1) := by decide +kernel
theorem dX0_searchFrom_120 : decode cX0_searchFrom 120 = .ok (.iconst 1, 1) := by decide +kernel
theorem dX0_searchFrom_121 : decode cX0_searchFrom 121 = .ok (.iadd, 1) := by decide +kernel
theorem dX0_searchFrom_122 : decode cX0_searchFrom 122 = .ok (.invokevirtual 91, 3) := by decide +kernel
theorem dX0_searchFrom_125 : decode cX0_searchFrom 125 = .ok (.iinc 3 1, 3) := by decide +kernel
theorem dX0_searchFrom_128 : decode cX0_searchFrom 128 = .ok (.goto (-83), 3) := by decide +kernel
theorem dX0_searchFrom_131 : decode cX0_searchFrom 131 = .ok (.return_, 1) := by decide +kernel
theorem dX0_considerGroup_0 : decode cX0_considerGroup 0 = .ok (.aload_n 0, 1) := by decide +kernel
theorem dX0_considerGroup_1 : decode cX0_considerGroup 1 = .ok (.getfield 15, 3) := by decide +kernel
theorem dX0_considerGroup_4 : decode cX0_considerGroup 4 = .ok (.iload_n 3, 1) := by decide +kernel
theorem dX0_considerGroup_5 : decode cX0_considerGroup 5 = .ok (.iaload, 1) := by decide +kernel
theorem dX0_considerGroup_6 : decode cX0_considerGroup 6 = .ok (.iconst (-1), 1) := by decide +kernel
theorem dX0_considerGroup_7 : decode cX0_considerGroup 7 = .ok (.if_icmp .ne 4, 3) := by decide +kernel
theorem dX0_considerGroup_10 : decode cX0_considerGroup 10 = .ok (.return_, 1) := by decide +kernel
theorem dX0_considerGroup_11 : decode cX0_considerGroup 11 = .ok (.aload_n 0, 1) := by decide +kernel
theorem dX0_considerGroup_12 : decode cX0_considerGroup 12 = .ok (.getfield 15, 3) := by decide +kernel
theorem dX0_considerGroup_15 : decode cX0_considerGroup 15 = .ok (.iload_n 3, 1) := by decide +kernel
theorem dX0_considerGroup_16 : decode cX0_considerGroup 16 = .ok (.iaload, 1) := by decide +kernel
theorem dX0_considerGroup_17 : decode cX0_considerGroup 17 = .ok (.iload_n 3, 1) := by decide +kernel
theorem dX0_considerGroup_18 : decode cX0_considerGroup 18 = .ok (.aload_n 1, 1) := by decide +kernel
theorem dX0_considerGroup_19 : decode cX0_considerGroup 19 = .ok (.getfield 39, 3) := by decide +kernel
theorem dX0_considerGroup_22 : decode cX0_considerGroup 22 = .ok (.if_icmp .ge 11, 3) := by decide +kernel
theorem dX0_considerGroup_25 : decode cX0_considerGroup 25 = .ok (.aload_n 0, 1) := by decide +kernel
theorem dX0_considerGroup_26 : decode cX0_considerGroup 26 = .ok (.aload_n 1, 1) := by decide +kernel
theorem dX0_considerGroup_27 : decode cX0_considerGroup 27 = .ok (.invokevirtual 95, 3) := by decide +kernel
theorem dX0_considerGroup_30 : decode cX0_considerGroup 30 = .ok (.goto 4, 3) := by decide +kernel
theorem dX0_considerGroup_33 : decode cX0_considerGroup 33 = .ok (.iconst 0, 1) := by decide +kernel
theorem dX0_considerGroup_34 : decode cX0_considerGroup 34 = .ok (.iadd, 1) := by decide +kernel
theorem dX0_considerGroup_35 : decode cX0_considerGroup 35 = .ok (.istore 4, 2) := by decide +kernel
theorem dX0_considerGroup_37 : decode cX0_considerGroup 37 = .ok (.aload_n 0, 1) := by decide +kernel
theorem dX0_considerGroup_38 : decode cX0_considerGroup 38 = .ok (.getfield 15, 3) := by decide +kernel
theorem dX0_considerGroup_41 : decode cX0_considerGroup 41 = .ok (.iload_n 2, 1) := by decide +kernel
theorem dX0_considerGroup_42 : decode cX0_considerGroup 42 = .ok (.iaload, 1) := by decide +kernel
theorem dX0_considerGroup_43 : decode cX0_considerGroup 43 = .ok (.iconst (-1), 1) := by decide +kernel
theorem dX0_considerGroup_44 : decode cX0_considerGroup 44 = .ok (.if_icmp .eq 14, 3) := by decide +kernel
theorem dX0_considerGroup_47 : decode cX0_considerGroup 47 = .ok (.iload 4, 2) := by decide +kernel
theorem dX0_considerGroup_49 : decode cX0_considerGroup 49 = .ok (.aload_n 0, 1) := by decide +kernel
theorem dX0_considerGroup_50 : decode cX0_considerGroup 50 = .ok (.getfield 15, 3) := by decide +kernel
theorem dX0_considerGroup_53 : decode cX0_considerGroup 53 = .ok (.iload_n 2, 1) := by decide +kernel
theorem dX0_considerGroup_54 : decode cX0_considerGroup 54 = .ok (.iaload, 1) := by decide +kernel
theorem dX0_considerGroup_55 : decode cX0_considerGroup 55 = .ok (.if_icmp .gt 20, 3) := by decide +kernel
theorem dX0_considerGroup_58 : decode cX0_considerGroup 58 = .ok (.aload_n 0, 1) := by decide +kernel
theorem dX0_considerGroup_59 : decode cX0_considerGroup 59 = .ok (.getfield 15, 3) := by decide +kernel
theorem dX0_considerGroup_62 : decode cX0_considerGroup 62 = .ok (.iload_n 2, 1) := by decide +kernel
theorem dX0_considerGroup_63 : decode cX0_considerGroup 63 = .ok (.iload 4, 2) := by decide +kernel
theorem dX0_considerGroup_65 : decode cX0_considerGroup 65 = .ok (.iastore, 1) := by decide +kernel
theorem dX0_considerGroup_66 : decode cX0_considerGroup 66 = .ok (.aload_n 0, 1) := by decide +kernel
theorem dX0_considerGroup_67 : decode cX0_considerGroup 67 = .ok (.getfield 18, 3) := by decide +kernel
theorem dX0_considerGroup_70 : decode cX0_considerGroup 70 = .ok (.iload_n 2, 1) := by decide +kernel
theorem dX0_considerGroup_71 : decode cX0_considerGroup 71 = .ok (.iload_n 3, 1) := by decide +kernel
theorem dX0_considerGroup_72 : decode cX0_considerGroup 72 = .ok (.iload_n 2, 1) := by decide +kernel
theorem dX0_considerGroup_73 : decode cX0_considerGroup 73 = .ok (.isub, 1) := by decide +kernel
theorem dX0_considerGroup_74 : decode cX0_considerGroup 74 = .ok (.iastore, 1) := by decide +kernel
theorem dX0_considerGroup_75 : decode cX0_considerGroup 75 = .ok (.return_, 1) := by decide +kernel
theorem dX0_blankSquares_0 : decode cX0_blankSquares 0 = .ok (.iconst 0, 1) := by decide +kernel
theorem dX0_blankSquares_1 : decode cX0_blankSquares 1 = .ok (.istore_n 2, 1) := by decide +kernel
theorem dX0_blankSquares_2 : decode cX0_blankSquares 2 = .ok (.iconst 0, 1) := by decide +kernel
theorem dX0_blankSquares_3 : decode cX0_blankSquares 3 = .ok (.istore_n 3, 1) := by decide +kernel
theorem dX0_blankSquares_4 : decode cX0_blankSquares 4 = .ok (.iload_n 3, 1) := by decide +kernel
theorem dX0_blankSquares_5 : decode cX0_blankSquares 5 = .ok (.iconst 2, 1) := by decide +kernel
theorem dX0_blankSquares_6 : decode cX0_blankSquares 6 = .ok (.if_icmp .ge 51, 3) := by decide +kernel
theorem dX0_blankSquares_9 : decode cX0_blankSquares 9 = .ok (.aload_n 1, 1) := by decide +kernel
theorem dX0_blankSquares_10 : decode cX0_blankSquares 10 = .ok (.getfield 84, 3) := by decide +kernel
theorem dX0_blankSquares_13 : decode cX0_blankSquares 13 = .ok (.iconst 0, 1) := by decide +kernel
theorem dX0_blankSquares_14 : decode cX0_blankSquares 14 = .ok (.iaload, 1) := by decide +kernel
theorem dX0_blankSquares_15 : decode cX0_blankSquares 15 = .ok (.aload_n 0, 1) := by decide +kernel
theorem dX0_blankSquares_16 : decode cX0_blankSquares 16 = .ok (.getfield 24, 3) := by decide +kernel
theorem dX0_blankSquares_19 : decode cX0_blankSquares 19 = .ok (.getfield 99, 3) := by decide +kernel
theorem dX0_blankSquares_22 : decode cX0_blankSquares 22 = .ok (.iload_n 3, 1) := by decide +kernel
theorem dX0_blankSquares_23 : decode cX0_blankSquares 23 = .ok (.iaload, 1) := by decide +kernel
theorem dX0_blankSquares_24 : decode cX0_blankSquares 24 = .ok (.isub, 1) := by decide +kernel
theorem dX0_blankSquares_25 : decode cX0_blankSquares 25 = .ok (.aload_n 0, 1) := by decide +kernel
theorem dX0_blankSquares_26 : decode cX0_blankSquares 26 = .ok (.getfield 24, 3) := by decide +kernel
theorem dX0_blankSquares_29 : decode cX0_blankSquares 29 = .ok (.iload_n 3, 1) := by decide +kernel
theorem dX0_blankSquares_30 : decode cX0_blankSquares 30 = .ok (.aload_n 1, 1) := by decide +kernel
theorem dX0_blankSquares_31 : decode cX0_blankSquares 31 = .ok (.getfield 84, 3) := by decide +kernel
theorem dX0_blankSquares_34 : decode cX0_blankSquares 34 = .ok (.iconst 2, 1) := by decide +kernel
theorem dX0_blankSquares_35 : decode cX0_blankSquares 35 = .ok (.iaload, 1) := by decide +kernel
theorem dX0_blankSquares_36 : decode cX0_blankSquares 36 = .ok (.iconst 0, 1) := by decide +kernel
theorem dX0_blankSquares_37 : decode cX0_blankSquares 37 = .ok (.invokevirtual 102, 3) := by decide +kernel
theorem dX0_blankSquares_40 : decode cX0_blankSquares 40 = .ok (.isub, 1) := by decide +kernel
theorem dX0_blankSquares_41 : decode cX0_blankSquares 41 = .ok (.istore 4, 2) := by decide +kernel
theorem dX0_blankSquares_43 : decode cX0_blankSquares 43 = .ok (.iload_n 2, 1) := by decide +kernel
theorem dX0_blankSquares_44 : decode cX0_blankSquares 44 = .ok (.iload 4, 2) := by decide +kernel
theorem dX0_blankSquares_46 : decode cX0_blankSquares 46 = .ok (.iload 4, 2) := by decide +kernel
theorem dX0_blankSquares_48 : decode cX0_blankSquares 48 = .ok (.imul, 1) := by decide +kernel
theorem dX0_blankSquares_49 : decode cX0_blankSquares 49 = .ok (.iadd, 1) := by decide +kernel
theorem dX0_blankSquares_50 : decode cX0_blankSquares 50 = .ok (.istore_n 2, 1) := by decide +kernel
theorem dX0_blankSquares_51 : decode cX0_blankSquares 51 = .ok (.iinc 3 1, 3) := by decide +kernel
theorem dX0_blankSquares_54 : decode cX0_blankSquares 54 = .ok (.goto (-50), 3) := by decide +kernel
theorem dX0_blankSquares_57 : decode cX0_blankSquares 57 = .ok (.iload_n 2, 1) := by decide +kernel
theorem dX0_blankSquares_58 : decode cX0_blankSquares 58 = .ok (.ireturn, 1) := by decide +kernel
theorem dX1_init_0 : decode cX1_init 0 = .ok (.aload_n 0, 1) := by decide +kernel
theorem dX1_init_1 : decode cX1_init 1 = .ok (.invokespecial 3, 3) := by decide +kernel
theorem dX1_init_4 : decode cX1_init 4 = .ok (.aload_n 0, 1) := by decide +kernel
theorem dX1_init_5 : decode cX1_init 5 = .ok (.iconst 4, 1) := by decide +kernel
theorem dX1_init_6 : decode cX1_init 6 = .ok (.bipush 20, 2) := by decide +kernel
theorem dX1_init_8 : decode cX1_init 8 = .ok (.multianewarray 9 2, 4) := by decide +kernel
theorem dX1_init_12 : decode cX1_init 12 = .ok (.putfield 11, 3) := by decide +kernel
theorem dX1_init_15 : decode cX1_init 15 = .ok (.aload_n 0, 1) := by decide +kernel
theorem dX1_init_16 : decode cX1_init 16 = .ok (.new 16, 3) := by decide +kernel
theorem dX1_init_19 : decode cX1_init 19 = .ok (.dup, 1) := by decide +kernel
theorem dX1_init_20 : decode cX1_init 20 = .ok (.invokespecial 18, 3) := by decide +kernel
theorem dX1_init_23 : decode cX1_init 23 = .ok (.putfield 19, 3) := by decide +kernel
theorem dX1_init_26 : decode cX1_init 26 = .ok (.aload_n 0, 1) := by decide +kernel
theorem dX1_init_27 : decode cX1_init 27 = .ok (.new 16, 3) := by decide +kernel
theorem dX1_init_30 : decode cX1_init 30 = .ok (.dup, 1) := by decide +kernel
theorem dX1_init_31 : decode cX1_init 31 = .ok (.invokespecial 18, 3) := by decide +kernel
theorem dX1_init_34 : decode cX1_init 34 = .ok (.putfield 23, 3) := by decide +kernel
theorem dX1_init_37 : decode cX1_init 37 = .ok (.aload_n 0, 1) := by decide +kernel
theorem dX1_init_38 : decode cX1_init 38 = .ok (.getstatic 26, 3) := by decide +kernel
theorem dX1_init_41 : decode cX1_init 41 = .ok (.invokevirtual 30, 3) := by decide +kernel
theorem dX1_init_44 : decode cX1_init 44 = .ok (.checkcast 31, 3) := by decide +kernel
theorem dX1_init_47 : decode cX1_init 47 = .ok (.putfield 35, 3) := by decide +kernel
theorem dX1_init_50 : decode cX1_init 50 = .ok (.return_, 1) := by decide +kernel
theorem dX1_notes_0 : decode cX1_notes 0 = .ok (.iload_n 1, 1) := by decide +kernel
theorem dX1_notes_1 : decode cX1_notes 1 = .ok (.ifCond .ne 10, 3) := by decide +kernel
theorem dX1_notes_4 : decode cX1_notes 4 = .ok (.aload_n 0, 1) := by decide +kernel
theorem dX1_notes_5 : decode cX1_notes 5 = .ok (.getfield 19, 3) := by decide +kernel
theorem dX1_notes_8 : decode cX1_notes 8 = .ok (.goto 7, 3) := by decide +kernel
theorem dX1_notes_11 : decode cX1_notes 11 = .ok (.aload_n 0, 1) := by decide +kernel
theorem dX1_notes_12 : decode cX1_notes 12 = .ok (.getfield 23, 3) := by decide +kernel
theorem dX1_notes_15 : decode cX1_notes 15 = .ok (.areturn, 1) := by decide +kernel
theorem dX1_hasPair_0 : decode cX1_hasPair 0 = .ok (.iload_n 1, 1) := by decide +kernel
theorem dX1_hasPair_1 : decode cX1_hasPair 1 = .ok (.iconst 0, 1) := by decide +kernel
theorem dX1_hasPair_2 : decode cX1_hasPair 2 = .ok (.aload_n 0, 1) := by decide +kernel
theorem dX1_hasPair_3 : decode cX1_hasPair 3 = .ok (.getfield 38, 3) := by decide +kernel
theorem dX1_hasPair_6 : decode cX1_hasPair 6 = .ok (.iconst 1, 1) := by decide +kernel
theorem dX1_hasPair_7 : decode cX1_hasPair 7 = .ok (.isub, 1) := by decide +kernel
theorem dX1_hasPair_8 : decode cX1_hasPair 8 = .ok (.invokestatic 42, 3) := by decide +kernel
theorem dX1_hasPair_11 : decode cX1_hasPair 11 = .ok (.ireturn, 1) := by decide +kernel
theorem dX1_hasLine_0 : decode cX1_hasLine 0 = .ok (.aload_n 0, 1) := by decide +kernel
theorem dX1_hasLine_1 : decode cX1_hasLine 1 = .ok (.iload_n 1, 1) := by decide +kernel
theorem dX1_hasLine_2 : decode cX1_hasLine 2 = .ok (.invokevirtual 46, 3) := by decide +kernel
theorem dX1_hasLine_5 : decode cX1_hasLine 5 = .ok (.ifCond .eq 32, 3) := by decide +kernel
theorem dX1_hasLine_8 : decode cX1_hasLine 8 = .ok (.iload_n 2, 1) := by decide +kernel
theorem dX1_hasLine_9 : decode cX1_hasLine 9 = .ok (.invokestatic 50, 3) := by decide +kernel
theorem dX1_hasLine_12 : decode cX1_hasLine 12 = .ok (.ifCond .eq 25, 3) := by decide +kernel
theorem dX1_hasLine_15 : decode cX1_hasLine 15 = .ok (.iload_n 3, 1) := by decide +kernel
theorem dX1_hasLine_16 : decode cX1_hasLine 16 = .ok (.iconst 0, 1) := by decide +kernel
theorem dX1_hasLine_17 : decode cX1_hasLine 17 = .ok (.aload_n 0, 1) := by decide +kernel
theorem dX1_hasLine_18 : decode cX1_hasLine 18 = .ok (.getfield 11, 3) := by decide +kernel
theorem dX1_hasLine_21 : decode cX1_hasLine 21 = .ok (.iload_n 2, 1) := by decide +kernel
theorem dX1_hasLine_22 : decode cX1_hasLine 22 = .ok (.aaload, 1) := by decide +kernel
theorem dX1_hasLine_23 : decode cX1_hasLine 23 = .ok (.iload_n 1, 1) := by decide +kernel
theorem dX1_hasLine_24 : decode cX1_hasLine 24 = .ok (.iaload, 1) := by decide +kernel
theorem dX1_hasLine_25 : decode cX1_hasLine 25 = .ok (.iconst 1, 1) := by decide +kernel
theorem dX1_hasLine_26 : decode cX1_hasLine 26 = .ok (.isub, 1) := by decide +kernel
theorem dX1_hasLine_27 : decode cX1_hasLine 27 = .ok (.invokestatic 42, 3) := by decide +kernel
theorem dX1_hasLine_30 : decode cX1_hasLine 30 = .ok (.ifCond .eq 7, 3) := by decide +kernel
theorem dX1_hasLine_33 : decode cX1_hasLine 33 = .ok (.iconst 1, 1) := by decide +kernel
theorem dX1_hasLine_34 : decode cX1_hasLine 34 = .ok (.goto 4, 3) := by decide +kernel
theorem dX1_hasLine_37 : decode cX1_hasLine 37 = .ok (.iconst 0, 1) := by decide +kernel
theorem dX1_hasLine_38 : decode cX1_hasLine 38 = .ok (.ireturn, 1) := by decide +kernel
theorem dX1_placePair_0 : decode cX1_placePair 0 = .ok (.iconst 0, 1) := by decide +kernel
theorem dX1_placePair_1 : decode cX1_placePair 1 = .ok (.istore 4, 2) := by decide +kernel
theorem dX1_placePair_3 : decode cX1_placePair 3 = .ok (.iload 4, 2) := by decide +kernel
theorem dX1_placePair_5 : decode cX1_placePair 5 = .ok (.iconst 4, 1) := by decide +kernel
theorem dX1_placePair_6 : decode cX1_placePair 6 = .ok (.if_icmp .ge 24, 3) := by decide +kernel
theorem dX1_placePair_9 : decode cX1_placePair 9 = .ok (.aload_n 0, 1) := by decide +kernel
theorem dX1_placePair_10 : decode cX1_placePair 10 = .ok (.getfield 11, 3) := by decide +kernel
theorem dX1_placePair_13 : decode cX1_placePair 13 = .ok (.iload 4, 2) := by decide +kernel
theorem dX1_placePair_15 : decode cX1_placePair 15 = .ok (.aaload, 1) := by decide +kernel
theorem dX1_placePair_16 : decode cX1_placePair 16 = .ok (.iload_n 1, 1) := by decide +kernel
theorem dX1_placePair_17 : decode cX1_placePair 17 = .ok (.aload_n 0, 1) := by decide +kernel
theorem dX1_placePair_18 : decode cX1_placePair 18 = .ok (.getfield 38, 3) := by decide +kernel
theorem dX1_placePair_21 : decode cX1_placePair 21 = .ok (.invokestatic 53, 3) := by decide +kernel
theorem dX1_placePair_24 : decode cX1_placePair 24 = .ok (.iinc 4 1, 3) := by decide +kernel
theorem dX1_placePair_27 : decode cX1_placePair 27 = .ok (.goto (-24), 3) := by decide +kernel
theorem dX1_placePair_30 : decode cX1_placePair 30 = .ok (.aload_n 0, 1) := by decide +kernel
theorem dX1_placePair_31 : decode cX1_placePair 31 = .ok (.getfield 11, 3) := by decide +kernel
theorem dX1_placePair_34 : decode cX1_placePair 34 = .ok (.iconst 0, 1) := by decide +kernel
theorem dX1_placePair_35 : decode cX1_placePair 35 = .ok (.aaload, 1) := by decide +kernel
theorem dX1_placePair_36 : decode cX1_placePair 36 = .ok (.iload_n 1, 1) := by decide +kernel
theorem dX1_placePair_37 : decode cX1_placePair 37 = .ok (.iload_n 2, 1) := by decide +kernel
theorem dX1_placePair_38 : decode cX1_placePair 38 = .ok (.iastore, 1) := by decide +kernel
theorem dX1_placePair_39 : decode cX1_placePair 39 = .ok (.aload_n 0, 1) := by decide +kernel
theorem dX1_placePair_40 : decode cX1_placePair 40 = .ok (.getfield 11, 3) := by decide +kernel
theorem dX1_placePair_43 : decode cX1_placePair 43 = .ok (.iconst 1, 1) := by decide +kernel
theorem dX1_placePair_44 : decode cX1_placePair 44 = .ok (.aaload, 1) := by decide +kernel
theorem dX1_placePair_45 : decode cX1_placePair 45 = .ok (.iload_n 1, 1) := by decide +kernel
theorem dX1_placePair_46 : decode cX1_placePair 46 = .ok (.iload_n 3, 1) := by decide +kernel
theorem dX1_placePair_47 : decode cX1_placePair 47 = .ok (.iastore, 1) := by decide +kernel
theorem dX1_placePair_48 : decode cX1_placePair 48 = .ok (.aload_n 0, 1) := by decide +kernel
theorem dX1_placePair_49 : decode cX1_placePair 49 = .ok (.getfield 11, 3) := by decide +kernel
theorem dX1_placePair_52 : decode cX1_placePair 52 = .ok (.iconst 2, 1) := by decide +kernel
theorem dX1_placePair_53 : decode cX1_placePair 53 = .ok (.aaload, 1) := by decide +kernel
theorem dX1_placePair_54 : decode cX1_placePair 54 = .ok (.iload_n 1, 1) := by decide +kernel
theorem dX1_placePair_55 : decode cX1_placePair 55 = .ok (.iconst 0, 1) := by decide +kernel
theorem dX1_placePair_56 : decode cX1_placePair 56 = .ok (.iastore, 1) := by decide +kernel
theorem dX1_placePair_57 : decode cX1_placePair 57 = .ok (.aload_n 0, 1) := by decide +kernel
theorem dX1_placePair_58 : decode cX1_placePair 58 = .ok (.getfield 11, 3) := by decide +kernel
theorem dX1_placePair_61 : decode cX1_placePair 61 = .ok (.iconst 3, 1) := by decide +kernel
theorem dX1_placePair_62 : decode cX1_placePair 62 = .ok (.aaload, 1) := by decide +kernel
theorem dX1_placePair_63 : decode cX1_placePair 63 = .ok (.iload_n 1, 1) := by decide +kernel
theorem dX1_placePair_64 : decode cX1_placePair 64 = .ok (.iconst 0, 1) := by decide +kernel
theorem dX1_placePair_65 : decode cX1_placePair 65 = .ok (.iastore, 1) := by decide +kernel
theorem dX1_placePair_66 : decode cX1_placePair 66 = .ok (.aload_n 0, 1) := by decide +kernel
theorem dX1_placePair_67 : decode cX1_placePair 67 = .ok (.dup, 1) := by decide +kernel
theorem dX1_placePair_68 : decode cX1_placePair 68 = .ok (.getfield 38, 3) := by decide +kernel
theorem dX1_placePair_71 : decode cX1_placePair 71 = .ok (.iconst 1, 1) := by decide +kernel
theorem dX1_placePair_72 : decode cX1_placePair 72 = .ok (.iadd, 1) := by decide +kernel
theorem dX1_placePair_73 : decode cX1_placePair 73 = .ok (.putfield 38, 3) := by decide +kernel
theorem dX1_placePair_76 : decode cX1_placePair 76 = .ok (.aload_n 0, 1) := by decide +kernel
theorem dX1_placePair_77 : decode cX1_placePair 77 = .ok (.getfield 19, 3) := by decide +kernel
theorem dX1_placePair_80 : decode cX1_placePair 80 = .ok (.iload_n 1, 1) := by decide +kernel
theorem dX1_placePair_81 : decode cX1_placePair 81 = .ok (.iconst 1, 1) := by decide +kernel
theorem dX1_placePair_82 : decode cX1_placePair 82 = .ok (.invokevirtual 57, 3) := by decide +kernel
theorem dX1_placePair_85 : decode cX1_placePair 85 = .ok (.aload_n 0, 1) := by decide +kernel
theorem dX1_placePair_86 : decode cX1_placePair 86 = .ok (.getfield 23, 3) := by decide +kernel
theorem dX1_placePair_89 : decode cX1_placePair 89 = .ok (.iload_n 1, 1) := by decide +kernel
theorem dX1_placePair_90 : decode cX1_placePair 90 = .ok (.iconst 1, 1) := by decide +kernel
theorem dX1_placePair_91 : decode cX1_placePair 91 = .ok (.invokevirtual 57, 3) := by decide +kernel
theorem dX1_placePair_94 : decode cX1_placePair 94 = .ok (.return_, 1) := by decide +kernel
theorem dX1_copyFrom_0 : decode cX1_copyFrom 0 = .ok (.aload_n 0, 1) := by decide +kernel
theorem dX1_copyFrom_1 : decode cX1_copyFrom 1 = .ok (.aload_n 1, 1) := by decide +kernel
theorem dX1_copyFrom_2 : decode cX1_copyFrom 2 = .ok (.getfield 38, 3) := by decide +kernel
theorem dX1_copyFrom_5 : decode cX1_copyFrom 5 = .ok (.putfield 38, 3) := by decide +kernel
theorem dX1_copyFrom_8 : decode cX1_copyFrom 8 = .ok (.aload_n 1, 1) := by decide +kernel
theorem dX1_copyFrom_9 : decode cX1_copyFrom 9 = .ok (.getfield 11, 3) := by decide +kernel
theorem dX1_copyFrom_12 : decode cX1_copyFrom 12 = .ok (.aload_n 0, 1) := by decide +kernel
theorem dX1_copyFrom_13 : decode cX1_copyFrom 13 = .ok (.getfield 11, 3) := by decide +kernel
theorem dX1_copyFrom_16 : decode cX1_copyFrom 16 = .ok (.invokestatic 68, 3) := by decide +kernel
theorem dX1_copyFrom_19 : decode cX1_copyFrom 19 = .ok (.aload_n 0, 1) := by decide +kernel
theorem dX1_copyFrom_20 : decode cX1_copyFrom 20 = .ok (.getfield 19, 3) := by decide +kernel
theorem dX1_copyFrom_23 : decode cX1_copyFrom 23 = .ok (.aload_n 1, 1) := by decide +kernel
theorem dX1_copyFrom_24 : decode cX1_copyFrom 24 = .ok (.getfield 19, 3) := by decide +kernel
theorem dX1_copyFrom_27 : decode cX1_copyFrom 27 = .ok (.invokevirtual 72, 3) := by decide +kernel
theorem dX1_copyFrom_30 : decode cX1_copyFrom 30 = .ok (.aload_n 0, 1) := by decide +kernel
theorem dX1_copyFrom_31 : decode cX1_copyFrom 31 = .ok (.getfield 23, 3) := by decide +kernel
theorem dX1_copyFrom_34 : decode cX1_copyFrom 34 = .ok (.aload_n 1, 1) := by decide +kernel
theorem dX1_copyFrom_35 : decode cX1_copyFrom 35 = .ok (.getfield 23, 3) := by decide +kernel
theorem dX1_copyFrom_38 : decode cX1_copyFrom 38 = .ok (.invokevirtual 72, 3) := by decide +kernel
theorem dX1_copyFrom_41 : decode cX1_copyFrom 41 = .ok (.aload_n 1, 1) := by decide +kernel
theorem dX1_copyFrom_42 : decode cX1_copyFrom 42 = .ok (.getfield 35, 3) := by decide +kernel
theorem dX1_copyFrom_45 : decode cX1_copyFrom 45 = .ok (.iconst 0, 1) := by decide +kernel
theorem dX1_copyFrom_46 : decode cX1_copyFrom 46 = .ok (.aload_n 0, 1) := by decide +kernel
theorem dX1_copyFrom_47 : decode cX1_copyFrom 47 = .ok (.getfield 35, 3) := by decide +kernel
theorem dX1_copyFrom_50 : decode cX1_copyFrom 50 = .ok (.iconst 0, 1) := by decide +kernel
theorem dX1_copyFrom_51 : decode cX1_copyFrom 51 = .ok (.bipush 6, 2) := by decide +kernel
theorem dX1_copyFrom_53 : decode cX1_copyFrom 53 = .ok (.invokestatic 76, 3) := by decide +kernel
theorem dX1_copyFrom_56 : decode cX1_copyFrom 56 = .ok (.return_, 1) := by decide +kernel
theorem dX2_init_0 : decode cX2_init 0 = .ok (.aload_n 0, 1) := by decide +kernel
theorem dX2_init_1 : decode cX2_init 1 = .ok (.invokespecial 3, 3) := by decide +kernel
theorem dX2_init_4 : decode cX2_init 4 = .ok (.aload_n 0, 1) := by decide +kernel
theorem dX2_init_5 : decode cX2_init 5 = .ok (.iconst 2, 1) := by decide +kernel
theorem dX2_init_6 : decode cX2_init 6 = .ok (.newarray .int, 2) := by decide +kernel
theorem dX2_init_8 : decode cX2_init 8 = .ok (.putfield 9, 3) := by decide +kernel
theorem dX2_init_11 : decode cX2_init 11 = .ok (.aload_n 0, 1) := by decide +kernel
theorem dX2_init_12 : decode cX2_init 12 = .ok (.iconst 2, 1) := by decide +kernel
theorem dX2_init_13 : decode cX2_init 13 = .ok (.newarray .int, 2) := by decide +kernel
theorem dX2_init_15 : decode cX2_init 15 = .ok (.putfield 15, 3) := by decide +kernel
theorem dX2_init_18 : decode cX2_init 18 = .ok (.aload_n 0, 1) := by decide +kernel
theorem dX2_init_19 : decode cX2_init 19 = .ok (.iconst 2, 1) := by decide +kernel
theorem dX2_init_20 : decode cX2_init 20 = .ok (.newarray .int, 2) := by decide +kernel
theorem dX2_init_22 : decode cX2_init 22 = .ok (.putfield 18, 3) := by decide +kernel
theorem dX2_init_25 : decode cX2_init 25 = .ok (.aload_n 0, 1) := by decide +kernel
theorem dX2_init_26 : decode cX2_init 26 = .ok (.iconst 2, 1) := by decide +kernel
theorem dX2_init_27 : decode cX2_init 27 = .ok (.newarray .int, 2) := by decide +kernel
theorem dX2_init_29 : decode cX2_init 29 = .ok (.putfield 21, 3) := by decide +kernel
theorem dX2_init_32 : decode cX2_init 32 = .ok (.aload_n 0, 1) := by decide +kernel
theorem dX2_init_33 : decode cX2_init 33 = .ok (.iconst 2, 1) := by decide +kernel
theorem dX2_init_34 : decode cX2_init 34 = .ok (.newarray .int, 2) := by decide +kernel
theorem dX2_init_36 : decode cX2_init 36 = .ok (.putfield 24, 3) := by decide +kernel
theorem dX2_init_39 : decode cX2_init 39 = .ok (.aload_n 0, 1) := by decide +kernel
theorem dX2_init_40 : decode cX2_init 40 = .ok (.iconst 2, 1) := by decide +kernel
theorem dX2_init_41 : decode cX2_init 41 = .ok (.newarray .int, 2) := by decide +kernel
theorem dX2_init_43 : decode cX2_init 43 = .ok (.putfield 27, 3) := by decide +kernel
theorem dX2_init_46 : decode cX2_init 46 = .ok (.aload_n 0, 1) := by decide +kernel
theorem dX2_init_47 : decode cX2_init 47 = .ok (.iconst 2, 1) := by decide +kernel
theorem dX2_init_48 : decode cX2_init 48 = .ok (.newarray .int, 2) := by decide +kernel
theorem dX2_init_50 : decode cX2_init 50 = .ok (.putfield 30, 3) := by decide +kernel
theorem dX2_init_53 : decode cX2_init 53 = .ok (.return_, 1) := by decide +kernel
theorem dX2_turn_0 : decode cX2_turn 0 = .ok (.aload_n 0, 1) := by decide +kernel
theorem dX2_turn_1 : decode cX2_turn 1 = .ok (.getfield 9, 3) := by decide +kernel
theorem dX2_turn_4 : decode cX2_turn 4 = .ok (.iload_n 1, 1) := by decide +kernel
theorem dX2_turn_5 : decode cX2_turn 5 = .ok (.iconst 0, 1) := by decide +kernel
theorem dX2_turn_6 : decode cX2_turn 6 = .ok (.iastore, 1) := by decide +kernel
theorem dX2_turn_7 : decode cX2_turn 7 = .ok (.aload_n 0, 1) := by decide +kernel
theorem dX2_turn_8 : decode cX2_turn 8 = .ok (.getfield 15, 3) := by decide +kernel
theorem dX2_turn_11 : decode cX2_turn 11 = .ok (.iload_n 1, 1) := by decide +kernel
theorem dX2_turn_12 : decode cX2_turn 12 = .ok (.iconst 0, 1) := by decide +kernel
theorem dX2_turn_13 : decode cX2_turn 13 = .ok (.iastore, 1) := by decide +kernel
theorem dX2_turn_14 : decode cX2_turn 14 = .ok (.aload_n 0, 1) := by decide +kernel
theorem dX2_turn_15 : decode cX2_turn 15 = .ok (.getfield 18, 3) := by decide +kernel
theorem dX2_turn_18 : decode cX2_turn 18 = .ok (.iload_n 1, 1) := by decide +kernel
theorem dX2_turn_19 : decode cX2_turn 19 = .ok (.iload_n 2, 1) := by decide +kernel
theorem dX2_turn_20 : decode cX2_turn 20 = .ok (.iastore, 1) := by decide +kernel
theorem dX2_turn_21 : decode cX2_turn 21 = .ok (.aload_n 0, 1) := by decide +kernel
theorem dX2_turn_22 : decode cX2_turn 22 = .ok (.getfield 21, 3) := by decide +kernel
theorem dX2_turn_25 : decode cX2_turn 25 = .ok (.iload_n 1, 1) := by decide +kernel
theorem dX2_turn_26 : decode cX2_turn 26 = .ok (.iload_n 3, 1) := by decide +kernel
theorem dX2_turn_27 : decode cX2_turn 27 = .ok (.iastore, 1) := by decide +kernel
theorem dX2_turn_28 : decode cX2_turn 28 = .ok (.aload_n 0, 1) := by decide +kernel
theorem dX2_turn_29 : decode cX2_turn 29 = .ok (.getfield 24, 3) := by decide +kernel
theorem dX2_turn_32 : decode cX2_turn 32 = .ok (.iload_n 1, 1) := by decide +kernel
theorem dX2_turn_33 : decode cX2_turn 33 = .ok (.iconst 0, 1) := by decide +kernel
theorem dX2_turn_34 : decode cX2_turn 34 = .ok (.iastore, 1) := by decide +kernel
theorem dX2_turn_35 : decode cX2_turn 35 = .ok (.aload_n 0, 1) := by decide +kernel
theorem dX2_turn_36 : decode cX2_turn 36 = .ok (.getfield 27, 3) := by decide +kernel
theorem dX2_turn_39 : decode cX2_turn 39 = .ok (.iload_n 1, 1) := by decide +kernel
theorem dX2_turn_40 : decode cX2_turn 40 = .ok (.iconst 0, 1) := by decide +kernel
theorem dX2_turn_41 : decode cX2_turn 41 = .ok (.iastore, 1) := by decide +kernel
theorem dX2_turn_42 : decode cX2_turn 42 = .ok (.aload_n 0, 1) := by decide +kernel
theorem dX2_turn_43 : decode cX2_turn 43 = .ok (.getfield 30, 3) := by decide +kernel
theorem dX2_turn_46 : decode cX2_turn 46 = .ok (.iload_n 1, 1) := by decide +kernel
theorem dX2_turn_47 : decode cX2_turn 47 = .ok (.iconst 0, 1) := by decide +kernel
theorem dX2_turn_48 : decode cX2_turn 48 = .ok (.iastore, 1) := by decide +kernel
theorem dX2_turn_49 : decode cX2_turn 49 = .ok (.return_, 1) := by decide +kernel
theorem dX2_copyFrom_0 : decode cX2_copyFrom 0 = .ok (.aload_n 1, 1) := by decide +kernel
theorem dX2_copyFrom_1 : decode cX2_copyFrom 1 = .ok (.getfield 9, 3) := by decide +kernel
theorem dX2_copyFrom_4 : decode cX2_copyFrom 4 = .ok (.iconst 0, 1) := by decide +kernel
theorem dX2_copyFrom_5 : decode cX2_copyFrom 5 = .ok (.aload_n 0, 1) := by decide +kernel
theorem dX2_copyFrom_6 : decode cX2_copyFrom 6 = .ok (.getfield 9, 3) := by decide +kernel
theorem dX2_copyFrom_9 : decode cX2_copyFrom 9 = .ok (.iconst 0, 1) := by decide +kernel
theorem dX2_copyFrom_10 : decode cX2_copyFrom 10 = .ok (.iconst 2, 1) := by decide +kernel
theorem dX2_copyFrom_11 : decode cX2_copyFrom 11 = .ok (.invokestatic 33, 3) := by decide +kernel
theorem dX2_copyFrom_14 : decode cX2_copyFrom 14 = .ok (.aload_n 1, 1) := by decide +kernel
theorem dX2_copyFrom_15 : decode cX2_copyFrom 15 = .ok (.getfield 15, 3) := by decide +kernel
theorem dX2_copyFrom_18 : decode cX2_copyFrom 18 = .ok (.iconst 0, 1) := by decide +kernel
theorem dX2_copyFrom_19 : decode cX2_copyFrom 19 = .ok (.aload_n 0, 1) := by decide +kernel
theorem dX2_copyFrom_20 : decode cX2_copyFrom 20 = .ok (.getfield 15, 3) := by decide +kernel
theorem dX2_copyFrom_23 : decode cX2_copyFrom 23 = .ok (.iconst 0, 1) := by decide +kernel
theorem dX2_copyFrom_24 : decode cX2_copyFrom 24 = .ok (.iconst 2, 1) := by decide +kernel
theorem dX2_copyFrom_25 : decode cX2_copyFrom 25 = .ok (.invokestatic 33, 3) := by decide +kernel
theorem dX2_copyFrom_28 : decode cX2_copyFrom 28 = .ok (.aload_n 1, 1) := by decide +kernel
theorem dX2_copyFrom_29 : decode cX2_copyFrom 29 = .ok (.getfield 18, 3) := by decide +kernel
theorem dX2_copyFrom_32 : decode cX2_copyFrom 32 = .ok (.iconst 0, 1) := by decide +kernel
theorem dX2_copyFrom_33 : decode cX2_copyFrom 33 = .ok (.aload_n 0, 1) := by decide +kernel
theorem dX2_copyFrom_34 : decode cX2_copyFrom 34 = .ok (.getfield 18, 3) := by decide +kernel
theorem dX2_copyFrom_37 : decode cX2_copyFrom 37 = .ok (.iconst 0, 1) := by decide +kernel
theorem dX2_copyFrom_38 : decode cX2_copyFrom 38 = .ok (.iconst 2, 1) := by decide +kernel
theorem dX2_copyFrom_39 : decode cX2_copyFrom 39 = .ok (.invokestatic 33, 3) := by decide +kernel
theorem dX2_copyFrom_42 : decode cX2_copyFrom 42 = .ok (.aload_n 1, 1) := by decide +kernel
theorem dX2_copyFrom_43 : decode cX2_copyFrom 43 = .ok (.getfield 21, 3) := by decide +kernel
theorem dX2_copyFrom_46 : decode cX2_copyFrom 46 = .ok (.iconst 0, 1) := by decide +kernel
theorem dX2_copyFrom_47 : decode cX2_copyFrom 47 = .ok (.aload_n 0, 1) := by decide +kernel
theorem dX2_copyFrom_48 : decode cX2_copyFrom 48 = .ok (.getfield 21, 3) := by decide +kernel
theorem dX2_copyFrom_51 : decode cX2_copyFrom 51 = .ok (.iconst 0, 1) := by decide +kernel
theorem dX2_copyFrom_52 : decode cX2_copyFrom 52 = .ok (.iconst 2, 1) := by decide +kernel
theorem dX2_copyFrom_53 : decode cX2_copyFrom 53 = .ok (.invokestatic 33, 3) := by decide +kernel
theorem dX2_copyFrom_56 : decode cX2_copyFrom 56 = .ok (.aload_n 1, 1) := by decide +kernel
theorem dX2_copyFrom_57 : decode cX2_copyFrom 57 = .ok (.getfield 24, 3) := by decide +kernel
theorem dX2_copyFrom_60 : decode cX2_copyFrom 60 = .ok (.iconst 0, 1) := by decide +kernel
theorem dX2_copyFrom_61 : decode cX2_copyFrom 61 = .ok (.aload_n 0, 1) := by decide +kernel
theorem dX2_copyFrom_62 : decode cX2_copyFrom 62 = .ok (.getfield 24, 3) := by decide +kernel
theorem dX2_copyFrom_65 : decode cX2_copyFrom 65 = .ok (.iconst 0, 1) := by decide +kernel
theorem dX2_copyFrom_66 : decode cX2_copyFrom 66 = .ok (.iconst 2, 1) := by decide +kernel
theorem dX2_copyFrom_67 : decode cX2_copyFrom 67 = .ok (.invokestatic 33, 3) := by decide +kernel
theorem dX2_copyFrom_70 : decode cX2_copyFrom 70 = .ok (.aload_n 1, 1) := by decide +kernel
theorem dX2_copyFrom_71 : decode cX2_copyFrom 71 = .ok (.getfield 27, 3) := by decide +kernel
theorem dX2_copyFrom_74 : decode cX2_copyFrom 74 = .ok (.iconst 0, 1) := by decide +kernel
theorem dX2_copyFrom_75 : decode cX2_copyFrom 75 = .ok (.aload_n 0, 1) := by decide +kernel
theorem dX2_copyFrom_76 : decode cX2_copyFrom 76 = .ok (.getfield 27, 3) := by decide +kernel
theorem dX2_copyFrom_79 : decode cX2_copyFrom 79 = .ok (.iconst 0, 1) := by decide +kernel
theorem dX2_copyFrom_80 : decode cX2_copyFrom 80 = .ok (.iconst 2, 1) := by decide +kernel
theorem dX2_copyFrom_81 : decode cX2_copyFrom 81 = .ok (.invokestatic 33, 3) := by decide +kernel
theorem dX2_copyFrom_84 : decode cX2_copyFrom 84 = .ok (.aload_n 1, 1) := by decide +kernel
theorem dX2_copyFrom_85 : decode cX2_copyFrom 85 = .ok (.getfield 30, 3) := by decide +kernel
theorem dX2_copyFrom_88 : decode cX2_copyFrom 88 = .ok (.iconst 0, 1) := by decide +kernel
theorem dX2_copyFrom_89 : decode cX2_copyFrom 89 = .ok (.aload_n 0, 1) := by decide +kernel
theorem dX2_copyFrom_90 : decode cX2_copyFrom 90 = .ok (.getfield 30, 3) := by decide +kernel
theorem dX2_copyFrom_93 : decode cX2_copyFrom 93 = .ok (.iconst 0, 1) := by decide +kernel
theorem dX2_copyFrom_94 : decode cX2_copyFrom 94 = .ok (.iconst 2, 1) := by decide +kernel
theorem dX2_copyFrom_95 : decode cX2_copyFrom 95 = .ok (.invokestatic 33, 3) := by decide +kernel
theorem dX2_copyFrom_98 : decode cX2_copyFrom 98 = .ok (.return_, 1) := by decide +kernel
theorem dX2_put_0 : decode cX2_put 0 = .ok (.iconst 0, 1) := by decide +kernel
theorem dX2_put_1 : decode cX2_put 1 = .ok (.istore_n 3, 1) := by decide +kernel
theorem dX2_put_2 : decode cX2_put 2 = .ok (.iload_n 3, 1) := by decide +kernel
theorem dX2_put_3 : decode cX2_put 3 = .ok (.iconst 2, 1) := by decide +kernel
theorem dX2_put_4 : decode cX2_put 4 = .ok (.if_icmp .ge 139, 3) := by decide +kernel
theorem dX2_put_7 : decode cX2_put 7 = .ok (.aload_n 0, 1) := by decide +kernel
theorem dX2_put_8 : decode cX2_put 8 = .ok (.getfield 9, 3) := by decide +kernel
theorem dX2_put_11 : decode cX2_put 11 = .ok (.iload_n 3, 1) := by decide +kernel
theorem dX2_put_12 : decode cX2_put 12 = .ok (.aload_n 0, 1) := by decide +kernel
theorem dX2_put_13 : decode cX2_put 13 = .ok (.getfield 15, 3) := by decide +kernel
theorem dX2_put_16 : decode cX2_put 16 = .ok (.iload_n 3, 1) := by decide +kernel
theorem dX2_put_17 : decode cX2_put 17 = .ok (.iaload, 1) := by decide +kernel
theorem dX2_put_18 : decode cX2_put 18 = .ok (.aload_n 2, 1) := by decide +kernel
theorem dX2_put_19 : decode cX2_put 19 = .ok (.getfield 39, 3) := by decide +kernel
theorem dX2_put_22 : decode cX2_put 22 = .ok (.iload_n 3, 1) := by decide +kernel
theorem dX2_put_23 : decode cX2_put 23 = .ok (.iaload, 1) := by decide +kernel
theorem dX2_put_24 : decode cX2_put 24 = .ok (.iadd, 1) := by decide +kernel
theorem dX2_put_25 : decode cX2_put 25 = .ok (.iastore, 1) := by decide +kernel
theorem dX2_put_26 : decode cX2_put 26 = .ok (.aload_n 1, 1) := by decide +kernel
theorem dX2_put_27 : decode cX2_put 27 = .ok (.iload_n 3, 1) := by decide +kernel
theorem dX2_put_28 : decode cX2_put 28 = .ok (.invokevirtual 44, 3) := by decide +kernel
theorem dX2_put_31 : decode cX2_put 31 = .ok (.astore 4, 2) := by decide +kernel
theorem dX2_put_33 : decode cX2_put 33 = .ok (.aload_n 0, 1) := by decide +kernel
theorem dX2_put_34 : decode cX2_put 34 = .ok (.getfield 21, 3) := by decide +kernel
theorem dX2_put_37 : decode cX2_put 37 = .ok (.iload_n 3, 1) := by decide +kernel
theorem dX2_put_38 : decode cX2_put 38 = .ok (.iaload, 1) := by decide +kernel
theorem dX2_put_39 : decode cX2_put 39 = .ok (.aload_n 0, 1) := by decide +kernel
theorem dX2_put_40 : decode cX2_put 40 = .ok (.getfield 24, 3) := by decide +kernel
theorem dX2_put_43 : decode cX2_put 43 = .ok (.iload_n 3, 1) := by decide +kernel
theorem dX2_put_44 : decode cX2_put 44 = .ok (.iaload, 1) := by decide +kernel
theorem dX2_put_45 : decode cX2_put 45 = .ok (.iadd, 1) := by decide +kernel
theorem dX2_put_46 : decode cX2_put 46 = .ok (.istore 5, 2) := by decide +kernel
theorem dX2_put_48 : decode cX2_put 48 = .ok (.aload 4, 2) := by decide +kernel
theorem dX2_put_50 : decode cX2_put 50 = .ok (.iload 5, 2) := by decide +kernel
theorem dX2_put_52 : decode cX2_put 52 = .ok (.aload_n 2, 1) := by decide +kernel
theorem dX2_put_53 : decode cX2_put 53 = .ok (.getfield 49, 3) := by decide +kernel
theorem dX2_put_56 : decode cX2_put 56 = .ok (.aload_n 2, 1) := by decide +kernel
theorem dX2_put_57 : decode cX2_put 57 = .ok (.getfield 53, 3) := by decide +kernel
theorem dX2_put_60 : decode cX2_put 60 = .ok (.iload_n 3, 1) := by decide +kernel
theorem dX2_put_61 : decode cX2_put 61 = .ok (.iaload, 1) := by decide +kernel
theorem dX2_put_62 : decode cX2_put 62 = .ok (.aload_n 2, 1) := by decide +kernel
theorem dX2_put_63 : decode cX2_put 63 = .ok (.getfield 39, 3) := by decide +kernel
theorem dX2_put_66 : decode cX2_put 66 = .ok (.iload_n 3, 1) := by decide +kernel
theorem dX2_put_67 : decode cX2_put 67 = .ok (.iaload, 1) := by decide +kernel
theorem dX2_put_68 : decode cX2_put 68 = .ok (.iadd, 1) := by decide +kernel
theorem dX2_put_69 : decode cX2_put 69 = .ok (.invokevirtual 56, 3) := by decide +kernel
theorem dX2_put_72 : decode cX2_put 72 = .ok (.istore 6, 2) := by decide +kernel
theorem dX2_put_74 : decode cX2_put 74 = .ok (.iload 5, 2) := by decide +kernel
theorem dX2_put_76 : decode cX2_put 76 = .ok (.istore 7, 2) := by decide +kernel
theorem dX2_put_78 : decode cX2_put 78 = .ok (.iload 7, 2) := by decide +kernel
theorem dX2_put_80 : decode cX2_put 80 = .ok (.iload 6, 2) := by decide +kernel
theorem dX2_put_82 : decode cX2_put 82 = .ok (.if_icmp .ge 40, 3) := by decide +kernel
theorem dX2_put_85 : decode cX2_put 85 = .ok (.aload_n 0, 1) := by decide +kernel
theorem dX2_put_86 : decode cX2_put 86 = .ok (.getfield 30, 3) := by decide +kernel
theorem dX2_put_89 : decode cX2_put 89 = .ok (.iload_n 3, 1) := by decide +kernel
theorem dX2_put_90 : decode cX2_put 90 = .ok (.aload 4, 2) := by decide +kernel
theorem dX2_put_92 : decode cX2_put 92 = .ok (.getfield 62, 3) := by decide +kernel
theorem dX2_put_95 : decode cX2_put 95 = .ok (.iconst 2, 1) := by decide +kernel
theorem dX2_put_96 : decode cX2_put 96 = .ok (.aaload, 1) := by decide +kernel
theorem dX2_put_97 : decode cX2_put 97 = .ok (.iload 7, 2) := by decide +kernel
theorem dX2_put_99 : decode cX2_put 99 = .ok (.iaload, 1) := by decide +kernel
theorem dX2_put_100 : decode cX2_put 100 = .ok (.iastore, 1) := by decide +kernel
theorem dX2_put_101 : decode cX2_put 101 = .ok (.aload_n 0, 1) := by decide +kernel
theorem dX2_put_102 : decode cX2_put 102 = .ok (.getfield 27, 3) := by decide +kernel
theorem dX2_put_105 : decode cX2_put 105 = .ok (.iload_n 3, 1) := by decide +kernel
theorem dX2_put_106 : decode cX2_put 106 = .ok (.dup2, 1) := by decide +kernel
theorem dX2_put_107 : decode cX2_put 107 = .ok (.iaload, 1) := by decide +kernel
theorem dX2_put_108 : decode cX2_put 108 = .ok (.aload_n 0, 1) := by decide +kernel
theorem dX2_put_109 : decode cX2_put 109 = .ok (.getfield 30, 3) := by decide +kernel
theorem dX2_put_112 : decode cX2_put 112 = .ok (.iload_n 3, 1) := by decide +kernel
theorem dX2_put_113 : decode cX2_put 113 = .ok (.iaload, 1) := by decide +kernel
theorem dX2_put_114 : decode cX2_put 114 = .ok (.iadd, 1) := by decide +kernel
theorem dX2_put_115 : decode cX2_put 115 = .ok (.iastore, 1) := by decide +kernel
theorem dX2_put_116 : decode cX2_put 116 = .ok (.iinc 7 1, 3) := by decide +kernel
theorem dX2_put_119 : decode cX2_put 119 = .ok (.goto (-41), 3) := by decide +kernel
theorem dX2_put_122 : decode cX2_put 122 = .ok (.aload_n 0, 1) := by decide +kernel
theorem dX2_put_123 : decode cX2_put 123 = .ok (.getfield 24, 3) := by decide +kernel
theorem dX2_put_126 : decode cX2_put 126 = .ok (.iload_n 3, 1) := by decide +kernel
theorem dX2_put_127 : decode cX2_put 127 = .ok (.iload 6, 2) := by decide +kernel
theorem dX2_put_129 : decode cX2_put 129 = .ok (.aload_n 0, 1) := by decide +kernel
theorem dX2_put_130 : decode cX2_put 130 = .ok (.getfield 21, 3) := by decide +kernel
theorem dX2_put_133 : decode cX2_put 133 = .ok (.iload_n 3, 1) := by decide +kernel
theorem dX2_put_134 : decode cX2_put 134 = .ok (.iaload, 1) := by decide +kernel
theorem dX2_put_135 : decode cX2_put 135 = .ok (.isub, 1) := by decide +kernel
theorem dX2_put_136 : decode cX2_put 136 = .ok (.iastore, 1) := by decide +kernel
theorem dX2_put_137 : decode cX2_put 137 = .ok (.iinc 3 1, 3) := by decide +kernel
theorem dX2_put_140 : decode cX2_put 140 = .ok (.goto (-138), 3) := by decide +kernel
theorem dX2_put_143 : decode cX2_put 143 = .ok (.aload_n 1, 1) := by decide +kernel
theorem dX2_put_144 : decode cX2_put 144 = .ok (.getfield 66, 3) := by decide +kernel
theorem dX2_put_147 : decode cX2_put 147 = .ok (.iconst 5, 1) := by decide +kernel
theorem dX2_put_148 : decode cX2_put 148 = .ok (.iaload, 1) := by decide +kernel
theorem dX2_put_149 : decode cX2_put 149 = .ok (.iconst 1, 1) := by decide +kernel
theorem dX2_put_150 : decode cX2_put 150 = .ok (.if_icmp .ne 7, 3) := by decide +kernel
theorem dX2_put_153 : decode cX2_put 153 = .ok (.iconst 1, 1) := by decide +kernel
theorem dX2_put_154 : decode cX2_put 154 = .ok (.goto 4, 3) := by decide +kernel
theorem dX2_put_157 : decode cX2_put 157 = .ok (.iconst 0, 1) := by decide +kernel
theorem dX2_put_158 : decode cX2_put 158 = .ok (.istore_n 3, 1) := by decide +kernel
theorem dX2_put_159 : decode cX2_put 159 = .ok (.aload_n 0, 1) := by decide +kernel
theorem dX2_put_160 : decode cX2_put 160 = .ok (.getfield 9, 3) := by decide +kernel
theorem dX2_put_163 : decode cX2_put 163 = .ok (.iconst 0, 1) := by decide +kernel
theorem dX2_put_164 : decode cX2_put 164 = .ok (.iaload, 1) := by decide +kernel
theorem dX2_put_165 : decode cX2_put 165 = .ok (.aload_n 0, 1) := by decide +kernel
theorem dX2_put_166 : decode cX2_put 166 = .ok (.getfield 9, 3) := by decide +kernel
theorem dX2_put_169 : decode cX2_put 169 = .ok (.iconst 1, 1) := by decide +kernel
theorem dX2_put_170 : decode cX2_put 170 = .ok (.iaload, 1) := by decide +kernel
theorem dX2_put_171 : decode cX2_put 171 = .ok (.invokestatic 69, 3) := by decide +kernel
theorem dX2_put_174 : decode cX2_put 174 = .ok (.istore 4, 2) := by decide +kernel
theorem dX2_put_176 : decode cX2_put 176 = .ok (.iconst 0, 1) := by decide +kernel
theorem dX2_put_177 : decode cX2_put 177 = .ok (.istore 5, 2) := by decide +kernel
theorem dX2_put_179 : decode cX2_put 179 = .ok (.iload 5, 2) := by decide +kernel
theorem dX2_put_181 : decode cX2_put 181 = .ok (.iconst 2, 1) := by decide +kernel
theorem dX2_put_182 : decode cX2_put 182 = .ok (.if_icmp .ge 39, 3) := by decide +kernel
theorem dX2_put_185 : decode cX2_put 185 = .ok (.aload_n 0, 1) := by decide +kernel
theorem dX2_put_186 : decode cX2_put 186 = .ok (.getfield 15, 3) := by decide +kernel
theorem dX2_put_189 : decode cX2_put 189 = .ok (.iload 5, 2) := by decide +kernel
theorem dX2_put_191 : decode cX2_put 191 = .ok (.iload_n 3, 1) := by decide +kernel
theorem dX2_put_192 : decode cX2_put 192 = .ok (.ifCond .eq 8, 3) := by decide +kernel
theorem dX2_put_195 : decode cX2_put 195 = .ok (.iload 4, 2) := by decide +kernel
theorem dX2_put_197 : decode cX2_put 197 = .ok (.goto 10, 3) := by decide +kernel
theorem dX2_put_200 : decode cX2_put 200 = .ok (.aload_n 0, 1) := by decide +kernel
theorem dX2_put_201 : decode cX2_put 201 = .ok (.getfield 9, 3) := by decide +kernel
theorem dX2_put_204 : decode cX2_put 204 = .ok (.iload 5, 2) := by decide +kernel
theorem dX2_put_206 : decode cX2_put 206 = .ok (.iaload, 1) := by decide +kernel
theorem dX2_put_207 : decode cX2_put 207 = .ok (.aload_n 1, 1) := by decide +kernel
theorem dX2_put_208 : decode cX2_put 208 = .ok (.getfield 66, 3) := by decide +kernel
theorem dX2_put_211 : decode cX2_put 211 = .ok (.iconst 1, 1) := by decide +kernel
theorem dX2_put_212 : decode cX2_put 212 = .ok (.iaload, 1) := by decide +kernel
theorem dX2_put_213 : decode cX2_put 213 = .ok (.iadd, 1) := by decide +kernel
theorem dX2_put_214 : decode cX2_put 214 = .ok (.iastore, 1) := by decide +kernel
theorem dX2_put_215 : decode cX2_put 215 = .ok (.iinc 5 1, 3) := by decide +kernel
theorem dX2_put_218 : decode cX2_put 218 = .ok (.goto (-39), 3) := by decide +kernel
theorem dX2_put_221 : decode cX2_put 221 = .ok (.return_, 1) := by decide +kernel
theorem dX2_noteRows_0 : decode cX2_noteRows 0 = .ok (.aload_n 0, 1) := by decide +kernel
theorem dX2_noteRows_1 : decode cX2_noteRows 1 = .ok (.getfield 18, 3) := by decide +kernel
theorem dX2_noteRows_4 : decode cX2_noteRows 4 = .ok (.iload_n 1, 1) := by decide +kernel
theorem dX2_noteRows_5 : decode cX2_noteRows 5 = .ok (.iaload, 1) := by decide +kernel
theorem dX2_noteRows_6 : decode cX2_noteRows 6 = .ok (.aload_n 0, 1) := by decide +kernel
theorem dX2_noteRows_7 : decode cX2_noteRows 7 = .ok (.getfield 27, 3) := by decide +kernel
theorem dX2_noteRows_10 : decode cX2_noteRows 10 = .ok (.iload_n 1, 1) := by decide +kernel
theorem dX2_noteRows_11 : decode cX2_noteRows 11 = .ok (.iaload, 1) := by decide +kernel
theorem dX2_noteRows_12 : decode cX2_noteRows 12 = .ok (.iadd, 1) := by decide +kernel
theorem dX2_noteRows_13 : decode cX2_noteRows 13 = .ok (.iload_n 3, 1) := by decide +kernel
theorem dX2_noteRows_14 : decode cX2_noteRows 14 = .ok (.isub, 1) := by decide +kernel
theorem dX2_noteRows_15 : decode cX2_noteRows 15 = .ok (.istore 4, 2) := by decide +kernel
theorem dX2_noteRows_17 : decode cX2_noteRows 17 = .ok (.iload 4, 2) := by decide +kernel
theorem dX2_noteRows_19 : decode cX2_noteRows 19 = .ok (.ifCond .le 10, 3) := by decide +kernel
theorem dX2_noteRows_22 : decode cX2_noteRows 22 = .ok (.iload_n 2, 1) := by decide +kernel
theorem dX2_noteRows_23 : decode cX2_noteRows 23 = .ok (.iload 4, 2) := by decide +kernel
theorem dX2_noteRows_25 : decode cX2_noteRows 25 = .ok (.iadd, 1) := by decide +kernel
theorem dX2_noteRows_26 : decode cX2_noteRows 26 = .ok (.goto 4, 3) := by decide +kernel
theorem dX2_noteRows_29 : decode cX2_noteRows 29 = .ok (.iconst 0, 1) := by decide +kernel
theorem dX2_noteRows_30 : decode cX2_noteRows 30 = .ok (.ireturn, 1) := by decide +kernel
theorem dX2_mostCarried_0 : decode cX2_mostCarried 0 = .ok (.iconst 0, 1) := by decide +kernel
theorem dX2_mostCarried_1 : decode cX2_mostCarried 1 = .ok (.iload_n 2, 1) := by decide +kernel
theorem dX2_mostCarried_2 : decode cX2_mostCarried 2 = .ok (.aload_n 0, 1) := by decide +kernel
theorem dX2_mostCarried_3 : decode cX2_mostCarried 3 = .ok (.getfield 30, 3) := by decide +kernel
theorem dX2_mostCarried_6 : decode cX2_mostCarried 6 = .ok (.iload_n 1, 1) := by decide +kernel
theorem dX2_mostCarried_7 : decode cX2_mostCarried 7 = .ok (.iaload, 1) := by decide +kernel
theorem dX2_mostCarried_8 : decode cX2_mostCarried 8 = .ok (.iconst 1, 1) := by decide +kernel
theorem dX2_mostCarried_9 : decode cX2_mostCarried 9 = .ok (.isub, 1) := by decide +kernel
theorem dX2_mostCarried_10 : decode cX2_mostCarried 10 = .ok (.invokestatic 75, 3) := by decide +kernel
theorem dX2_mostCarried_13 : decode cX2_mostCarried 13 = .ok (.invokestatic 69, 3) := by decide +kernel
theorem dX2_mostCarried_16 : decode cX2_mostCarried 16 = .ok (.ireturn, 1) := by decide +kernel
theorem dX2_fits_0 : decode cX2_fits 0 = .ok (.iconst 0, 1) := by decide +kernel
theorem dX2_fits_1 : decode cX2_fits 1 = .ok (.istore 4, 2) := by decide +kernel
theorem dX2_fits_3 : decode cX2_fits 3 = .ok (.iload 4, 2) := by decide +kernel
theorem dX2_fits_5 : decode cX2_fits 5 = .ok (.iconst 2, 1) := by decide +kernel
theorem dX2_fits_6 : decode cX2_fits 6 = .ok (.if_icmp .ge 37, 3) := by decide +kernel
theorem dX2_fits_9 : decode cX2_fits 9 = .ok (.aload_n 0, 1) := by decide +kernel
theorem dX2_fits_10 : decode cX2_fits 10 = .ok (.getfield 9, 3) := by decide +kernel
theorem dX2_fits_13 : decode cX2_fits 13 = .ok (.iload 4, 2) := by decide +kernel
theorem dX2_fits_15 : decode cX2_fits 15 = .ok (.iaload, 1) := by decide +kernel
theorem dX2_fits_16 : decode cX2_fits 16 = .ok (.aload_n 0, 1) := by decide +kernel
theorem dX2_fits_17 : decode cX2_fits 17 = .ok (.iload 4, 2) := by decide +kernel
theorem dX2_fits_19 : decode cX2_fits 19 = .ok (.iload_n 2, 1) := by decide +kernel
theorem dX2_fits_20 : decode cX2_fits 20 = .ok (.aload_n 0, 1) := by decide +kernel
theorem dX2_fits_21 : decode cX2_fits 21 = .ok (.iload 4, 2) := by decide +kernel
theorem dX2_fits_23 : decode cX2_fits 23 = .ok (.iload_n 3, 1) := by decide +kernel
theorem dX2_fits_24 : decode cX2_fits 24 = .ok (.invokevirtual 78, 3) := by decide +kernel
theorem dX2_fits_27 : decode cX2_fits 27 = .ok (.invokevirtual 81, 3) := by decide +kernel
theorem dX2_fits_30 : decode cX2_fits 30 = .ok (.iadd, 1) := by decide +kernel
theorem dX2_fits_31 : decode cX2_fits 31 = .ok (.iload_n 1, 1) := by decide +kernel
theorem dX2_fits_32 : decode cX2_fits 32 = .ok (.if_icmp .le 5, 3) := by decide +kernel
theorem dX2_fits_35 : decode cX2_fits 35 = .ok (.iconst 0, 1) := by decide +kernel
theorem dX2_fits_36 : decode cX2_fits 36 = .ok (.ireturn, 1) := by decide +kernel
theorem dX2_fits_37 : decode cX2_fits 37 = .ok (.iinc 4 1, 3) := by decide +kernel
theorem dX2_fits_40 : decode cX2_fits 40 = .ok (.goto (-37), 3) := by decide +kernel
theorem dX2_fits_43 : decode cX2_fits 43 = .ok (.iconst 1, 1) := by decide +kernel
theorem dX2_fits_44 : decode cX2_fits 44 = .ok (.ireturn, 1) := by decide +kernel
theorem dX2_carriedFrom_0 : decode cX2_carriedFrom 0 = .ok (.aload_n 0, 1) := by decide +kernel
theorem dX2_carriedFrom_1 : decode cX2_carriedFrom 1 = .ok (.iload_n 1, 1) := by decide +kernel
theorem dX2_carriedFrom_2 : decode cX2_carriedFrom 2 = .ok (.aload_n 2, 1) := by decide +kernel
theorem dX2_carriedFrom_3 : decode cX2_carriedFrom 3 = .ok (.getfield 66, 3) := by decide +kernel
theorem dX2_carriedFrom_6 : decode cX2_carriedFrom 6 = .ok (.iconst 4, 1) := by decide +kernel
theorem dX2_carriedFrom_7 : decode cX2_carriedFrom 7 = .ok (.iaload, 1) := by decide +kernel
theorem dX2_carriedFrom_8 : decode cX2_carriedFrom 8 = .ok (.invokevirtual 78, 3) := by decide +kernel
theorem dX2_carriedFrom_11 : decode cX2_carriedFrom 11 = .ok (.istore 4, 2) := by decide +kernel
theorem dX2_carriedFrom_13 : decode cX2_carriedFrom 13 = .ok (.iconst 0, 1) := by decide +kernel
theorem dX2_carriedFrom_14 : decode cX2_carriedFrom 14 = .ok (.istore 5, 2) := by decide +kernel
theorem dX2_carriedFrom_16 : decode cX2_carriedFrom 16 = .ok (.iload 5, 2) := by decide +kernel
theorem dX2_carriedFrom_18 : decode cX2_carriedFrom 18 = .ok (.iload 4, 2) := by decide +kernel
theorem dX2_carriedFrom_20 : decode cX2_carriedFrom 20 = .ok (.if_icmp .ge 33, 3) := by decide +kernel
theorem dX2_carriedFrom_23 : decode cX2_carriedFrom 23 = .ok (.aload_n 0, 1) := by decide +kernel
theorem dX2_carriedFrom_24 : decode cX2_carriedFrom 24 = .ok (.getfield 9, 3) := by decide +kernel
theorem dX2_carriedFrom_27 : decode cX2_carriedFrom 27 = .ok (.iload_n 1, 1) := by decide +kernel
theorem dX2_carriedFrom_28 : decode cX2_carriedFrom 28 = .ok (.iaload, 1) := by decide +kernel
theorem dX2_carriedFrom_29 : decode cX2_carriedFrom 29 = .ok (.aload_n 0, 1) := by decide +kernel
theorem dX2_carriedFrom_30 : decode cX2_carriedFrom 30 = .ok (.iload_n 1, 1) := by decide +kernel
theorem dX2_carriedFrom_31 : decode cX2_carriedFrom 31 = .ok (.aload_n 2, 1) := by decide +kernel
theorem dX2_carriedFrom_32 : decode cX2_carriedFrom 32 = .ok (.getfield 66, 3) := by decide +kernel
theorem dX2_carriedFrom_35 : decode cX2_carriedFrom 35 = .ok (.iconst 2, 1) := by decide +kernel
theorem dX2_carriedFrom_36 : decode cX2_carriedFrom 36 = .ok (.iaload, 1) := by decide +kernel
theorem dX2_carriedFrom_37 : decode cX2_carriedFrom 37 = .ok (.iload 5, 2) := by decide +kernel
theorem dX2_carriedFrom_39 : decode cX2_carriedFrom 39 = .ok (.invokevirtual 81, 3) := by decide +kernel
theorem dX2_carriedFrom_42 : decode cX2_carriedFrom 42 = .ok (.iadd, 1) := by decide +kernel
theorem dX2_carriedFrom_43 : decode cX2_carriedFrom 43 = .ok (.iload_n 3, 1) := by decide +kernel
theorem dX2_carriedFrom_44 : decode cX2_carriedFrom 44 = .ok (.if_icmp .le 9, 3) := by decide +kernel
theorem dX2_carriedFrom_47 : decode cX2_carriedFrom 47 = .ok (.iinc 5 1, 3) := by decide +kernel
theorem dX2_carriedFrom_50 : decode cX2_carriedFrom 50 = .ok (.goto (-34), 3) := by decide +kernel
theorem dX2_carriedFrom_53 : decode cX2_carriedFrom 53 = .ok (.iload 5, 2) := by decide +kernel
theorem dX2_carriedFrom_55 : decode cX2_carriedFrom 55 = .ok (.ireturn, 1) := by decide +kernel
theorem dX3_init_0 : decode cX3_init 0 = .ok (.aload_n 0, 1) := by decide +kernel
theorem dX3_init_1 : decode cX3_init 1 = .ok (.invokespecial 3, 3) := by decide +kernel
theorem dX3_init_4 : decode cX3_init 4 = .ok (.aload_n 0, 1) := by decide +kernel
theorem dX3_init_5 : decode cX3_init 5 = .ok (.bipush 6, 2) := by decide +kernel
theorem dX3_init_7 : decode cX3_init 7 = .ok (.anewarray 9, 3) := by decide +kernel
theorem dX3_init_10 : decode cX3_init 10 = .ok (.putfield 11, 3) := by decide +kernel
theorem dX3_init_13 : decode cX3_init 13 = .ok (.iconst 0, 1) := by decide +kernel
theorem dX3_init_14 : decode cX3_init 14 = .ok (.istore_n 1, 1) := by decide +kernel
theorem dX3_init_15 : decode cX3_init 15 = .ok (.iload_n 1, 1) := by decide +kernel
theorem dX3_init_16 : decode cX3_init 16 = .ok (.bipush 6, 2) := by decide +kernel
theorem dX3_init_18 : decode cX3_init 18 = .ok (.if_icmp .ge 22, 3) := by decide +kernel
theorem dX3_init_21 : decode cX3_init 21 = .ok (.aload_n 0, 1) := by decide +kernel
theorem dX3_init_22 : decode cX3_init 22 = .ok (.getfield 11, 3) := by decide +kernel
theorem dX3_init_25 : decode cX3_init 25 = .ok (.iload_n 1, 1) := by decide +kernel
theorem dX3_init_26 : decode cX3_init 26 = .ok (.new 9, 3) := by decide +kernel
theorem dX3_init_29 : decode cX3_init 29 = .ok (.dup, 1) := by decide +kernel
theorem dX3_init_30 : decode cX3_init 30 = .ok (.invokespecial 17, 3) := by decide +kernel
theorem dX3_init_33 : decode cX3_init 33 = .ok (.aastore, 1) := by decide +kernel
theorem dX3_init_34 : decode cX3_init 34 = .ok (.iinc 1 1, 3) := by decide +kernel
theorem dX3_init_37 : decode cX3_init 37 = .ok (.goto (-22), 3) := by decide +kernel
theorem dX3_init_40 : decode cX3_init 40 = .ok (.return_, 1) := by decide +kernel
theorem dX3_record_0 : decode cX3_record 0 = .ok (.aload_n 0, 1) := by decide +kernel
theorem dX3_record_1 : decode cX3_record 1 = .ok (.getfield 11, 3) := by decide +kernel
theorem dX3_record_4 : decode cX3_record 4 = .ok (.aload_n 0, 1) := by decide +kernel
theorem dX3_record_5 : decode cX3_record 5 = .ok (.getfield 18, 3) := by decide +kernel
theorem dX3_record_8 : decode cX3_record 8 = .ok (.aaload, 1) := by decide +kernel
theorem dX3_record_9 : decode cX3_record 9 = .ok (.astore_n 2, 1) := by decide +kernel
theorem dX3_record_10 : decode cX3_record 10 = .ok (.aload_n 2, 1) := by decide +kernel
theorem dX3_record_11 : decode cX3_record 11 = .ok (.ifnull 8, 3) := by decide +kernel
theorem dX3_record_14 : decode cX3_record 14 = .ok (.aload_n 2, 1) := by decide +kernel
theorem dX3_record_15 : decode cX3_record 15 = .ok (.aload_n 1, 1) := by decide +kernel
theorem dX3_record_16 : decode cX3_record 16 = .ok (.invokevirtual 22, 3) := by decide +kernel
theorem dX3_record_19 : decode cX3_record 19 = .ok (.aload_n 0, 1) := by decide +kernel
theorem dX3_record_20 : decode cX3_record 20 = .ok (.aload_n 0, 1) := by decide +kernel
theorem dX3_record_21 : decode cX3_record 21 = .ok (.getfield 18, 3) := by decide +kernel
theorem dX3_record_24 : decode cX3_record 24 = .ok (.iconst 1, 1) := by decide +kernel
theorem dX3_record_25 : decode cX3_record 25 = .ok (.iadd, 1) := by decide +kernel
theorem dX3_record_26 : decode cX3_record 26 = .ok (.bipush 6, 2) := by decide +kernel
theorem dX3_record_28 : decode cX3_record 28 = .ok (.if_icmp .ge 12, 3) := by decide +kernel
theorem dX3_record_31 : decode cX3_record 31 = .ok (.aload_n 0, 1) := by decide +kernel
theorem dX3_record_32 : decode cX3_record 32 = .ok (.getfield 18, 3) := by decide +kernel
theorem dX3_record_35 : decode cX3_record 35 = .ok (.iconst 1, 1) := by decide +kernel
theorem dX3_record_36 : decode cX3_record 36 = .ok (.iadd, 1) := by decide +kernel
theorem dX3_record_37 : decode cX3_record 37 = .ok (.goto 4, 3) := by decide +kernel
theorem dX3_record_40 : decode cX3_record 40 = .ok (.iconst 0, 1) := by decide +kernel
theorem dX3_record_41 : decode cX3_record 41 = .ok (.putfield 18, 3) := by decide +kernel
theorem dX3_record_44 : decode cX3_record 44 = .ok (.aload_n 0, 1) := by decide +kernel
theorem dX3_record_45 : decode cX3_record 45 = .ok (.aload_n 0, 1) := by decide +kernel
theorem dX3_record_46 : decode cX3_record 46 = .ok (.getfield 26, 3) := by decide +kernel
theorem dX3_record_49 : decode cX3_record 49 = .ok (.iconst 1, 1) := by decide +kernel
theorem dX3_record_50 : decode cX3_record 50 = .ok (.iadd, 1) := by decide +kernel
theorem dX3_record_51 : decode cX3_record 51 = .ok (.bipush 6, 2) := by decide +kernel
theorem dX3_record_53 : decode cX3_record 53 = .ok (.invokestatic 29, 3) := by decide +kernel
theorem dX3_record_56 : decode cX3_record 56 = .ok (.putfield 26, 3) := by decide +kernel
theorem dX3_record_59 : decode cX3_record 59 = .ok (.return_, 1) := by decide +kernel
theorem dX3_restore_0 : decode cX3_restore 0 = .ok (.aload_n 0, 1) := by decide +kernel
theorem dX3_restore_1 : decode cX3_restore 1 = .ok (.aload_n 0, 1) := by decide +kernel
theorem dX3_restore_2 : decode cX3_restore 2 = .ok (.getfield 18, 3) := by decide +kernel
theorem dX3_restore_5 : decode cX3_restore 5 = .ok (.ifCond .le 12, 3) := by decide +kernel
theorem dX3_restore_8 : decode cX3_restore 8 = .ok (.aload_n 0, 1) := by decide +kernel
theorem dX3_restore_9 : decode cX3_restore 9 = .ok (.getfield 18, 3) := by decide +kernel
theorem dX3_restore_12 : decode cX3_restore 12 = .ok (.iconst 1, 1) := by decide +kernel
theorem dX3_restore_13 : decode cX3_restore 13 = .ok (.isub, 1) := by decide +kernel
theorem dX3_restore_14 : decode cX3_restore 14 = .ok (.goto 4, 3) := by decide +kernel
theorem dX3_restore_17 : decode cX3_restore 17 = .ok (.iconst 5, 1) := by decide +kernel
theorem dX3_restore_18 : decode cX3_restore 18 = .ok (.putfield 18, 3) := by decide +kernel
theorem dX3_restore_21 : decode cX3_restore 21 = .ok (.aload_n 0, 1) := by decide +kernel
theorem dX3_restore_22 : decode cX3_restore 22 = .ok (.dup, 1) := by decide +kernel
theorem dX3_restore_23 : decode cX3_restore 23 = .ok (.getfield 26, 3) := by decide +kernel
theorem dX3_restore_26 : decode cX3_restore 26 = .ok (.iconst 1, 1) := by decide +kernel
theorem dX3_restore_27 : decode cX3_restore 27 = .ok (.isub, 1) := by decide +kernel
theorem dX3_restore_28 : decode cX3_restore 28 = .ok (.putfield 26, 3) := by decide +kernel
theorem dX3_restore_31 : decode cX3_restore 31 = .ok (.aload_n 0, 1) := by decide +kernel
theorem dX3_restore_32 : decode cX3_restore 32 = .ok (.getfield 11, 3) := by decide +kernel
theorem dX3_restore_35 : decode cX3_restore 35 = .ok (.aload_n 0, 1) := by decide +kernel
theorem dX3_restore_36 : decode cX3_restore 36 = .ok (.getfield 18, 3) := by decide +kernel
theorem dX3_restore_39 : decode cX3_restore 39 = .ok (.aaload, 1) := by decide +kernel
theorem dX3_restore_40 : decode cX3_restore 40 = .ok (.astore_n 2, 1) := by decide +kernel
theorem dX3_restore_41 : decode cX3_restore 41 = .ok (.aload_n 2, 1) := by decide +kernel
theorem dX3_restore_42 : decode cX3_restore 42 = .ok (.ifnull 8, 3) := by decide +kernel
theorem dX3_restore_45 : decode cX3_restore 45 = .ok (.aload_n 1, 1) := by decide +kernel
theorem dX3_restore_46 : decode cX3_restore 46 = .ok (.aload_n 2, 1) := by decide +kernel
theorem dX3_restore_47 : decode cX3_restore 47 = .ok (.invokevirtual 22, 3) := by decide +kernel
theorem dX3_restore_50 : decode cX3_restore 50 = .ok (.return_, 1) := by decide +kernel
theorem dX4_init_0 : decode cX4_init 0 = .ok (.aload_n 0, 1) := by decide +kernel
theorem dX4_init_1 : decode cX4_init 1 = .ok (.invokespecial 3, 3) := by decide +kernel
theorem dX4_init_4 : decode cX4_init 4 = .ok (.aload_n 0, 1) := by decide +kernel
theorem dX4_init_5 : decode cX4_init 5 = .ok (.iconst 3, 1) := by decide +kernel
theorem dX4_init_6 : decode cX4_init 6 = .ok (.bipush 40, 2) := by decide +kernel
theorem dX4_init_8 : decode cX4_init 8 = .ok (.multianewarray 9 2, 4) := by decide +kernel
theorem dX4_init_12 : decode cX4_init 12 = .ok (.putfield 11, 3) := by decide +kernel
theorem dX4_init_15 : decode cX4_init 15 = .ok (.return_, 1) := by decide +kernel
theorem dX4_before_0 : decode cX4_before 0 = .ok (.aload_n 0, 1) := by decide +kernel
theorem dX4_before_1 : decode cX4_before 1 = .ok (.iconst 0, 1) := by decide +kernel
theorem dX4_before_2 : decode cX4_before 2 = .ok (.iload_n 1, 1) := by decide +kernel
theorem dX4_before_3 : decode cX4_before 3 = .ok (.iload_n 2, 1) := by decide +kernel
theorem dX4_before_4 : decode cX4_before 4 = .ok (.invokevirtual 16, 3) := by decide +kernel
theorem dX4_before_7 : decode cX4_before 7 = .ok (.ireturn, 1) := by decide +kernel
theorem dX4_endBefore_0 : decode cX4_endBefore 0 = .ok (.aload_n 0, 1) := by decide +kernel
theorem dX4_endBefore_1 : decode cX4_endBefore 1 = .ok (.getfield 11, 3) := by decide +kernel
theorem dX4_endBefore_4 : decode cX4_endBefore 4 = .ok (.iconst 0, 1) := by decide +kernel
theorem dX4_endBefore_5 : decode cX4_endBefore 5 = .ok (.aaload, 1) := by decide +kernel
theorem dX4_endBefore_6 : decode cX4_endBefore 6 = .ok (.astore 4, 2) := by decide +kernel
theorem dX4_endBefore_8 : decode cX4_endBefore 8 = .ok (.iload_n 1, 1) := by decide +kernel
theorem dX4_endBefore_9 : decode cX4_endBefore 9 = .ok (.istore 5, 2) := by decide +kernel
theorem dX4_endBefore_11 : decode cX4_endBefore 11 = .ok (.iload 5, 2) := by decide +kernel
theorem dX4_endBefore_13 : decode cX4_endBefore 13 = .ok (.aload_n 0, 1) := by decide +kernel
theorem dX4_endBefore_14 : decode cX4_endBefore 14 = .ok (.getfield 20, 3) := by decide +kernel
theorem dX4_endBefore_17 : decode cX4_endBefore 17 = .ok (.if_icmp .ge 40, 3) := by decide +kernel
theorem dX4_endBefore_20 : decode cX4_endBefore 20 = .ok (.aload 4, 2) := by decide +kernel
theorem dX4_endBefore_22 : decode cX4_endBefore 22 = .ok (.iload 5, 2) := by decide +kernel
theorem dX4_endBefore_24 : decode cX4_endBefore 24 = .ok (.iaload, 1) := by decide +kernel
theorem dX4_endBefore_25 : decode cX4_endBefore 25 = .ok (.iload_n 2, 1) := by decide +kernel
theorem dX4_endBefore_26 : decode cX4_endBefore 26 = .ok (.if_icmp .lt 25, 3) := by decide +kernel
theorem dX4_endBefore_29 : decode cX4_endBefore 29 = .ok (.aload 4, 2) := by decide +kernel
theorem dX4_endBefore_31 : decode cX4_endBefore 31 = .ok (.iload 5, 2) := by decide +kernel
theorem dX4_endBefore_33 : decode cX4_endBefore 33 = .ok (.iaload, 1) := by decide +kernel
theorem dX4_endBefore_34 : decode cX4_endBefore 34 = .ok (.iload_n 2, 1) := by decide +kernel
theorem dX4_endBefore_35 : decode cX4_endBefore 35 = .ok (.if_icmp .ne 22, 3) := by decide +kernel
theorem dX4_endBefore_38 : decode cX4_endBefore 38 = .ok (.aload_n 0, 1) := by decide +kernel
theorem dX4_endBefore_39 : decode cX4_endBefore 39 = .ok (.getfield 11, 3) := by decide +kernel
theorem dX4_endBefore_42 : decode cX4_endBefore 42 = .ok (.iconst 1, 1) := by decide +kernel
theorem dX4_endBefore_43 : decode cX4_endBefore 43 = .ok (.aaload, 1) := by decide +kernel
theorem dX4_endBefore_44 : decode cX4_endBefore 44 = .ok (.iload 5, 2) := by decide +kernel
theorem dX4_endBefore_46 : decode cX4_endBefore 46 = .ok (.iaload, 1) := by decide +kernel
theorem dX4_endBefore_47 : decode cX4_endBefore 47 = .ok (.iload_n 3, 1) := by decide +kernel
theorem dX4_endBefore_48 : decode cX4_endBefore 48 = .ok (.if_icmp .ge 9, 3) := by decide +kernel
theorem dX4_endBefore_51 : decode cX4_endBefore 51 = .ok (.iinc 5 1, 3) := by decide +kernel
theorem dX4_endBefore_54 : decode cX4_endBefore 54 = .ok (.goto (-43), 3) := by decide +kernel
theorem dX4_endBefore_57 : decode cX4_endBefore 57 = .ok (.iload 5, 2) := by decide +kernel
theorem dX4_endBefore_59 : decode cX4_endBefore 59 = .ok (.ireturn, 1) := by decide +kernel
theorem dX4_place_0 : decode cX4_place 0 = .ok (.aload_n 0, 1) := by decide +kernel
theorem dX4_place_1 : decode cX4_place 1 = .ok (.iload_n 1, 1) := by decide +kernel
theorem dX4_place_2 : decode cX4_place 2 = .ok (.iload_n 2, 1) := by decide +kernel
theorem dX4_place_3 : decode cX4_place 3 = .ok (.iconst 1, 1) := by decide +kernel
theorem dX4_place_4 : decode cX4_place 4 = .ok (.iadd, 1) := by decide +kernel
theorem dX4_place_5 : decode cX4_place 5 = .ok (.invokevirtual 24, 3) := by decide +kernel
theorem dX4_place_8 : decode cX4_place 8 = .ok (.istore 4, 2) := by decide +kernel
theorem dX4_place_10 : decode cX4_place 10 = .ok (.aload_n 0, 1) := by decide +kernel
theorem dX4_place_11 : decode cX4_place 11 = .ok (.getfield 20, 3) := by decide +kernel
theorem dX4_place_14 : decode cX4_place 14 = .ok (.bipush 40, 2) := by decide +kernel
theorem dX4_place_16 : decode cX4_place 16 = .ok (.if_icmp .lt 6, 3) := by decide +kernel
theorem dX4_place_19 : decode cX4_place 19 = .ok (.iload 4, 2) := by decide +kernel
theorem dX4_place_21 : decode cX4_place 21 = .ok (.ireturn, 1) := by decide +kernel
theorem dX4_place_22 : decode cX4_place 22 = .ok (.iconst 0, 1) := by decide +kernel
theorem dX4_place_23 : decode cX4_place 23 = .ok (.istore 5, 2) := by decide +kernel
theorem dX4_place_25 : decode cX4_place 25 = .ok (.iload 5, 2) := by decide +kernel
theorem dX4_place_27 : decode cX4_place 27 = .ok (.iconst 3, 1) := by decide +kernel
theorem dX4_place_28 : decode cX4_place 28 = .ok (.if_icmp .ge 25, 3) := by decide +kernel
theorem dX4_place_31 : decode cX4_place 31 = .ok (.aload_n 0, 1) := by decide +kernel
theorem dX4_place_32 : decode cX4_place 32 = .ok (.getfield 11, 3) := by decide +kernel
theorem dX4_place_35 : decode cX4_place 35 = .ok (.iload 5, 2) := by decide +kernel
theorem dX4_place_37 : decode cX4_place 37 = .ok (.aaload, 1) := by decide +kernel
theorem dX4_place_38 : decode cX4_place 38 = .ok (.iload 4, 2) := by decide +kernel
theorem dX4_place_40 : decode cX4_place 40 = .ok (.aload_n 0, 1) := by decide +kernel
theorem dX4_place_41 : decode cX4_place 41 = .ok (.getfield 20, 3) := by decide +kernel
theorem dX4_place_44 : decode cX4_place 44 = .ok (.invokestatic 28, 3) := by decide +kernel
theorem dX4_place_47 : decode cX4_place 47 = .ok (.iinc 5 1, 3) := by decide +kernel
theorem dX4_place_50 : decode cX4_place 50 = .ok (.goto (-25), 3) := by decide +kernel
theorem dX4_place_53 : decode cX4_place 53 = .ok (.aload_n 0, 1) := by decide +kernel
theorem dX4_place_54 : decode cX4_place 54 = .ok (.getfield 11, 3) := by decide +kernel
theorem dX4_place_57 : decode cX4_place 57 = .ok (.iconst 0, 1) := by decide +kernel
theorem dX4_place_58 : decode cX4_place 58 = .ok (.aaload, 1) := by decide +kernel
theorem dX4_place_59 : decode cX4_place 59 = .ok (.iload 4, 2) := by decide +kernel
theorem dX4_place_61 : decode cX4_place 61 = .ok (.iload_n 1, 1) := by decide +kernel
theorem dX4_place_62 : decode cX4_place 62 = .ok (.iastore, 1) := by decide +kernel
theorem dX4_place_63 : decode cX4_place 63 = .ok (.aload_n 0, 1) := by decide +kernel
theorem dX4_place_64 : decode cX4_place 64 = .ok (.getfield 11, 3) := by decide +kernel
theorem dX4_place_67 : decode cX4_place 67 = .ok (.iconst 1, 1) := by decide +kernel
theorem dX4_place_68 : decode cX4_place 68 = .ok (.aaload, 1) := by decide +kernel
theorem dX4_place_69 : decode cX4_place 69 = .ok (.iload 4, 2) := by decide +kernel
theorem dX4_place_71 : decode cX4_place 71 = .ok (.iload_n 2, 1) := by decide +kernel
theorem dX4_place_72 : decode cX4_place 72 = .ok (.iastore, 1) := by decide +kernel
theorem dX4_place_73 : decode cX4_place 73 = .ok (.aload_n 0, 1) := by decide +kernel
theorem dX4_place_74 : decode cX4_place 74 = .ok (.getfield 11, 3) := by decide +kernel
theorem dX4_place_77 : decode cX4_place 77 = .ok (.iconst 2, 1) := by decide +kernel
theorem dX4_place_78 : decode cX4_place 78 = .ok (.aaload, 1) := by decide +kernel
theorem dX4_place_79 : decode cX4_place 79 = .ok (.iload 4, 2) := by decide +kernel
theorem dX4_place_81 : decode cX4_place 81 = .ok (.iload_n 3, 1) := by decide +kernel
theorem dX4_place_82 : decode cX4_place 82 = .ok (.iastore, 1) := by decide +kernel
theorem dX4_place_83 : decode cX4_place 83 = .ok (.aload_n 0, 1) := by decide +kernel
theorem dX4_place_84 : decode cX4_place 84 = .ok (.dup, 1) := by decide +kernel
theorem dX4_place_85 : decode cX4_place 85 = .ok (.getfield 20, 3) := by decide +kernel
theorem dX4_place_88 : decode cX4_place 88 = .ok (.iconst 1, 1) := by decide +kernel
theorem dX4_place_89 : decode cX4_place 89 = .ok (.iadd, 1) := by decide +kernel
theorem dX4_place_90 : decode cX4_place 90 = .ok (.putfield 20, 3) := by decide +kernel
theorem dX4_place_93 : decode cX4_place 93 = .ok (.iload 4, 2) := by decide +kernel
theorem dX4_place_95 : decode cX4_place 95 = .ok (.ireturn, 1) := by decide +kernel
theorem dX4_drop_0 : decode cX4_drop 0 = .ok (.iconst 0, 1) := by decide +kernel
theorem dX4_drop_1 : decode cX4_drop 1 = .ok (.istore_n 2, 1) := by decide +kernel
theorem dX4_drop_2 : decode cX4_drop 2 = .ok (.iload_n 2, 1) := by decide +kernel
theorem dX4_drop_3 : decode cX4_drop 3 = .ok (.iconst 3, 1) := by decide +kernel
theorem dX4_drop_4 : decode cX4_drop 4 = .ok (.if_icmp .ge 23, 3) := by decide +kernel
theorem dX4_drop_7 : decode cX4_drop 7 = .ok (.aload_n 0, 1) := by decide +kernel
theorem dX4_drop_8 : decode cX4_drop 8 = .ok (.getfield 11, 3) := by decide +kernel
theorem dX4_drop_11 : decode cX4_drop 11 = .ok (.iload_n 2, 1) := by decide +kernel
theorem dX4_drop_12 : decode cX4_drop 12 = .ok (.aaload, 1) := by decide +kernel
theorem dX4_drop_13 : decode cX4_drop 13 = .ok (.iload_n 1, 1) := by decide +kernel
theorem dX4_drop_14 : decode cX4_drop 14 = .ok (.aload_n 0, 1) := by decide +kernel
theorem dX4_drop_15 : decode cX4_drop 15 = .ok (.getfield 20, 3) := by decide +kernel
theorem dX4_drop_18 : decode cX4_drop 18 = .ok (.invokestatic 32, 3) := by decide +kernel
theorem dX4_drop_21 : decode cX4_drop 21 = .ok (.iinc 2 1, 3) := by decide +kernel
theorem dX4_drop_24 : decode cX4_drop 24 = .ok (.goto (-22), 3) := by decide +kernel
theorem dX4_drop_27 : decode cX4_drop 27 = .ok (.aload_n 0, 1) := by decide +kernel
theorem dX4_drop_28 : decode cX4_drop 28 = .ok (.dup, 1) := by decide +kernel
theorem dX4_drop_29 : decode cX4_drop 29 = .ok (.getfield 20, 3) := by decide +kernel
theorem dX4_drop_32 : decode cX4_drop 32 = .ok (.iconst 1, 1) := by decide +kernel
theorem dX4_drop_33 : decode cX4_drop 33 = .ok (.isub, 1) := by decide +kernel
theorem dX4_drop_34 : decode cX4_drop 34 = .ok (.putfield 20, 3) := by decide +kernel
theorem dX4_drop_37 : decode cX4_drop 37 = .ok (.return_, 1) := by decide +kernel
theorem dX4_movePairs_0 : decode cX4_movePairs 0 = .ok (.aload_n 0, 1) := by decide +kernel
theorem dX4_movePairs_1 : decode cX4_movePairs 1 = .ok (.iload_n 1, 1) := by decide +kernel
theorem dX4_movePairs_2 : decode cX4_movePairs 2 = .ok (.iconst 0, 1) := by decide +kernel
theorem dX4_movePairs_3 : decode cX4_movePairs 3 = .ok (.invokevirtual 24, 3) := by decide +kernel
theorem dX4_movePairs_6 : decode cX4_movePairs 6 = .ok (.istore_n 3, 1) := by decide +kernel
theorem dX4_movePairs_7 : decode cX4_movePairs 7 = .ok (.iload_n 3, 1) := by decide +kernel
theorem dX4_movePairs_8 : decode cX4_movePairs 8 = .ok (.aload_n 0, 1) := by decide +kernel
theorem dX4_movePairs_9 : decode cX4_movePairs 9 = .ok (.getfield 20, 3) := by decide +kernel
theorem dX4_movePairs_12 : decode cX4_movePairs 12 = .ok (.if_icmp .ge 21, 3) := by decide +kernel
theorem dX4_movePairs_15 : decode cX4_movePairs 15 = .ok (.aload_n 0, 1) := by decide +kernel
theorem dX4_movePairs_16 : decode cX4_movePairs 16 = .ok (.getfield 11, 3) := by decide +kernel
theorem dX4_movePairs_19 : decode cX4_movePairs 19 = .ok (.iconst 0, 1) := by decide +kernel
theorem dX4_movePairs_20 : decode cX4_movePairs 20 = .ok (.aaload, 1) := by decide +kernel
theorem dX4_movePairs_21 : decode cX4_movePairs 21 = .ok (.iload_n 3, 1) := by decide +kernel
theorem dX4_movePairs_22 : decode cX4_movePairs 22 = .ok (.dup2, 1) := by decide +kernel
theorem dX4_movePairs_23 : decode cX4_movePairs 23 = .ok (.iaload, 1) := by decide +kernel
theorem dX4_movePairs_24 : decode cX4_movePairs 24 = .ok (.iload_n 2, 1) := by decide +kernel
theorem dX4_movePairs_25 : decode cX4_movePairs 25 = .ok (.iadd, 1) := by decide +kernel
theorem dX4_movePairs_26 : decode cX4_movePairs 26 = .ok (.iastore, 1) := by decide +kernel
theorem dX4_movePairs_27 : decode cX4_movePairs 27 = .ok (.iinc 3 1, 3) := by decide +kernel
theorem dX4_movePairs_30 : decode cX4_movePairs 30 = .ok (.goto (-23), 3) := by decide +kernel
theorem dX4_movePairs_33 : decode cX4_movePairs 33 = .ok (.return_, 1) := by decide +kernel
theorem dX4_copyFrom_0 : decode cX4_copyFrom 0 = .ok (.aload_n 0, 1) := by decide +kernel
theorem dX4_copyFrom_1 : decode cX4_copyFrom 1 = .ok (.aload_n 1, 1) := by decide +kernel
theorem dX4_copyFrom_2 : decode cX4_copyFrom 2 = .ok (.getfield 20, 3) := by decide +kernel
theorem dX4_copyFrom_5 : decode cX4_copyFrom 5 = .ok (.putfield 20, 3) := by decide +kernel
theorem dX4_copyFrom_8 : decode cX4_copyFrom 8 = .ok (.aload_n 1, 1) := by decide +kernel
theorem dX4_copyFrom_9 : decode cX4_copyFrom 9 = .ok (.getfield 11, 3) := by decide +kernel
theorem dX4_copyFrom_12 : decode cX4_copyFrom 12 = .ok (.aload_n 0, 1) := by decide +kernel
theorem dX4_copyFrom_13 : decode cX4_copyFrom 13 = .ok (.getfield 11, 3) := by decide +kernel
theorem dX4_copyFrom_16 : decode cX4_copyFrom 16 = .ok (.invokestatic 43, 3) := by decide +kernel
theorem dX4_copyFrom_19 : decode cX4_copyFrom 19 = .ok (.return_, 1) := by decide +kernel
theorem dX5_init_0 : decode cX5_init 0 = .ok (.aload_n 0, 1) := by decide +kernel
theorem dX5_init_1 : decode cX5_init 1 = .ok (.invokespecial 3, 3) := by decide +kernel
theorem dX5_init_4 : decode cX5_init 4 = .ok (.aload_n 0, 1) := by decide +kernel
theorem dX5_init_5 : decode cX5_init 5 = .ok (.iconst 2, 1) := by decide +kernel
theorem dX5_init_6 : decode cX5_init 6 = .ok (.newarray .int, 2) := by decide +kernel
theorem dX5_init_8 : decode cX5_init 8 = .ok (.putfield 9, 3) := by decide +kernel
theorem dX5_init_11 : decode cX5_init 11 = .ok (.aload_n 0, 1) := by decide +kernel
theorem dX5_init_12 : decode cX5_init 12 = .ok (.iconst 2, 1) := by decide +kernel
theorem dX5_init_13 : decode cX5_init 13 = .ok (.newarray .int, 2) := by decide +kernel
theorem dX5_init_15 : decode cX5_init 15 = .ok (.putfield 15, 3) := by decide +kernel
theorem dX5_init_18 : decode cX5_init 18 = .ok (.return_, 1) := by decide +kernel
theorem dX5_takePair_0 : decode cX5_takePair 0 = .ok (.aload_n 0, 1) := by decide +kernel
theorem dX5_takePair_1 : decode cX5_takePair 1 = .ok (.iload_n 2, 1) := by decide +kernel
theorem dX5_takePair_2 : decode cX5_takePair 2 = .ok (.putfield 18, 3) := by decide +kernel
theorem dX5_takePair_5 : decode cX5_takePair 5 = .ok (.iconst 0, 1) := by decide +kernel
theorem dX5_takePair_6 : decode cX5_takePair 6 = .ok (.istore_n 3, 1) := by decide +kernel
theorem dX5_takePair_7 : decode cX5_takePair 7 = .ok (.iload_n 3, 1) := by decide +kernel
theorem dX5_takePair_8 : decode cX5_takePair 8 = .ok (.iconst 2, 1) := by decide +kernel
theorem dX5_takePair_9 : decode cX5_takePair 9 = .ok (.if_icmp .ge 42, 3) := by decide +kernel
theorem dX5_takePair_12 : decode cX5_takePair 12 = .ok (.aload_n 0, 1) := by decide +kernel
theorem dX5_takePair_13 : decode cX5_takePair 13 = .ok (.getfield 9, 3) := by decide +kernel
theorem dX5_takePair_16 : decode cX5_takePair 16 = .ok (.iload_n 3, 1) := by decide +kernel
theorem dX5_takePair_17 : decode cX5_takePair 17 = .ok (.iconst 0, 1) := by decide +kernel
theorem dX5_takePair_18 : decode cX5_takePair 18 = .ok (.iastore, 1) := by decide +kernel
theorem dX5_takePair_19 : decode cX5_takePair 19 = .ok (.aload_n 0, 1) := by decide +kernel
theorem dX5_takePair_20 : decode cX5_takePair 20 = .ok (.getfield 15, 3) := by decide +kernel
theorem dX5_takePair_23 : decode cX5_takePair 23 = .ok (.iload_n 3, 1) := by decide +kernel
theorem dX5_takePair_24 : decode cX5_takePair 24 = .ok (.aload_n 1, 1) := by decide +kernel
theorem dX5_takePair_25 : decode cX5_takePair 25 = .ok (.iload_n 2, 1) := by decide +kernel
theorem dX5_takePair_26 : decode cX5_takePair 26 = .ok (.invokevirtual 22, 3) := by decide +kernel
theorem dX5_takePair_29 : decode cX5_takePair 29 = .ok (.ifCond .eq 14, 3) := by decide +kernel
theorem dX5_takePair_32 : decode cX5_takePair 32 = .ok (.aload_n 1, 1) := by decide +kernel
theorem dX5_takePair_33 : decode cX5_takePair 33 = .ok (.getfield 28, 3) := by decide +kernel
theorem dX5_takePair_36 : decode cX5_takePair 36 = .ok (.iload_n 3, 1) := by decide +kernel
theorem dX5_takePair_37 : decode cX5_takePair 37 = .ok (.aaload, 1) := by decide +kernel
theorem dX5_takePair_38 : decode cX5_takePair 38 = .ok (.iload_n 2, 1) := by decide +kernel
theorem dX5_takePair_39 : decode cX5_takePair 39 = .ok (.iaload, 1) := by decide +kernel
theorem dX5_takePair_40 : decode cX5_takePair 40 = .ok (.goto 4, 3) := by decide +kernel
theorem dX5_takePair_43 : decode cX5_takePair 43 = .ok (.iconst 0, 1) := by decide +kernel
theorem dX5_takePair_44 : decode cX5_takePair 44 = .ok (.iastore, 1) := by decide +kernel
theorem dX5_takePair_45 : decode cX5_takePair 45 = .ok (.iinc 3 1, 3) := by decide +kernel
theorem dX5_takePair_48 : decode cX5_takePair 48 = .ok (.goto (-41), 3) := by decide +kernel
theorem dX5_takePair_51 : decode cX5_takePair 51 = .ok (.return_, 1) := by decide +kernel
theorem dX5_takeStart_0 : decode cX5_takeStart 0 = .ok (.aload_n 0, 1) := by decide +kernel
theorem dX5_takeStart_1 : decode cX5_takeStart 1 = .ok (.aload_n 1, 1) := by decide +kernel
theorem dX5_takeStart_2 : decode cX5_takeStart 2 = .ok (.getfield 18, 3) := by decide +kernel
theorem dX5_takeStart_5 : decode cX5_takeStart 5 = .ok (.putfield 18, 3) := by decide +kernel
theorem dX5_takeStart_8 : decode cX5_takeStart 8 = .ok (.aload_n 1, 1) := by decide +kernel
theorem dX5_takeStart_9 : decode cX5_takeStart 9 = .ok (.getfield 9, 3) := by decide +kernel
theorem dX5_takeStart_12 : decode cX5_takeStart 12 = .ok (.iconst 0, 1) := by decide +kernel
theorem dX5_takeStart_13 : decode cX5_takeStart 13 = .ok (.aload_n 0, 1) := by decide +kernel
theorem dX5_takeStart_14 : decode cX5_takeStart 14 = .ok (.getfield 9, 3) := by decide +kernel
theorem dX5_takeStart_17 : decode cX5_takeStart 17 = .ok (.iconst 0, 1) := by decide +kernel
theorem dX5_takeStart_18 : decode cX5_takeStart 18 = .ok (.iconst 2, 1) := by decide +kernel
theorem dX5_takeStart_19 : decode cX5_takeStart 19 = .ok (.invokestatic 32, 3) := by decide +kernel
theorem dX5_takeStart_22 : decode cX5_takeStart 22 = .ok (.aload_n 0, 1) := by decide +kernel
theorem dX5_takeStart_23 : decode cX5_takeStart 23 = .ok (.getfield 15, 3) := by decide +kernel
theorem dX5_takeStart_26 : decode cX5_takeStart 26 = .ok (.iconst 0, 1) := by decide +kernel
theorem dX5_takeStart_27 : decode cX5_takeStart 27 = .ok (.iload_n 2, 1) := by decide +kernel
theorem dX5_takeStart_28 : decode cX5_takeStart 28 = .ok (.iastore, 1) := by decide +kernel
theorem dX5_takeStart_29 : decode cX5_takeStart 29 = .ok (.aload_n 0, 1) := by decide +kernel
theorem dX5_takeStart_30 : decode cX5_takeStart 30 = .ok (.getfield 15, 3) := by decide +kernel
theorem dX5_takeStart_33 : decode cX5_takeStart 33 = .ok (.iconst 1, 1) := by decide +kernel
theorem dX5_takeStart_34 : decode cX5_takeStart 34 = .ok (.iload_n 3, 1) := by decide +kernel
theorem dX5_takeStart_35 : decode cX5_takeStart 35 = .ok (.iastore, 1) := by decide +kernel
theorem dX5_takeStart_36 : decode cX5_takeStart 36 = .ok (.return_, 1) := by decide +kernel
theorem dX5_dropStart_0 : decode cX5_dropStart 0 = .ok (.iconst 0, 1) := by decide +kernel
theorem dX5_dropStart_1 : decode cX5_dropStart 1 = .ok (.istore_n 2, 1) := by decide +kernel
theorem dX5_dropStart_2 : decode cX5_dropStart 2 = .ok (.iload_n 2, 1) := by decide +kernel
theorem dX5_dropStart_3 : decode cX5_dropStart 3 = .ok (.iconst 2, 1) := by decide +kernel
theorem dX5_dropStart_4 : decode cX5_dropStart 4 = .ok (.if_icmp .ge 39, 3) := by decide +kernel
theorem dX5_dropStart_7 : decode cX5_dropStart 7 = .ok (.aload_n 0, 1) := by decide +kernel
theorem dX5_dropStart_8 : decode cX5_dropStart 8 = .ok (.getfield 9, 3) := by decide +kernel
theorem dX5_dropStart_11 : decode cX5_dropStart 11 = .ok (.iload_n 2, 1) := by decide +kernel
theorem dX5_dropStart_12 : decode cX5_dropStart 12 = .ok (.dup2, 1) := by decide +kernel
theorem dX5_dropStart_13 : decode cX5_dropStart 13 = .ok (.iaload, 1) := by decide +kernel
theorem dX5_dropStart_14 : decode cX5_dropStart 14 = .ok (.aload_n 1, 1) := by decide +kernel
theorem dX5_dropStart_15 : decode cX5_dropStart 15 = .ok (.getfield 15, 3) := by decide +kernel
theorem dX5_dropStart_18 : decode cX5_dropStart 18 = .ok (.iload_n 2, 1) := by decide +kernel
theorem dX5_dropStart_19 : decode cX5_dropStart 19 = .ok (.iaload, 1) := by decide +kernel
theorem dX5_dropStart_20 : decode cX5_dropStart 20 = .ok (.iadd, 1) := by decide +kernel
theorem dX5_dropStart_21 : decode cX5_dropStart 21 = .ok (.iastore, 1) := by decide +kernel
theorem dX5_dropStart_22 : decode cX5_dropStart 22 = .ok (.aload_n 0, 1) := by decide +kernel
theorem dX5_dropStart_23 : decode cX5_dropStart 23 = .ok (.getfield 15, 3) := by decide +kernel
theorem dX5_dropStart_26 : decode cX5_dropStart 26 = .ok (.iload_n 2, 1) := by decide +kernel
theorem dX5_dropStart_27 : decode cX5_dropStart 27 = .ok (.dup2, 1) := by decide +kernel
theorem dX5_dropStart_28 : decode cX5_dropStart 28 = .ok (.iaload, 1) := by decide +kernel
theorem dX5_dropStart_29 : decode cX5_dropStart 29 = .ok (.aload_n 1, 1) := by decide +kernel
theorem dX5_dropStart_30 : decode cX5_dropStart 30 = .ok (.getfield 15, 3) := by decide +kernel
theorem dX5_dropStart_33 : decode cX5_dropStart 33 = .ok (.iload_n 2, 1) := by decide +kernel
theorem dX5_dropStart_34 : decode cX5_dropStart 34 = .ok (.iaload, 1) := by decide +kernel
theorem dX5_dropStart_35 : decode cX5_dropStart 35 = .ok (.isub, 1) := by decide +kernel
theorem dX5_dropStart_36 : decode cX5_dropStart 36 = .ok (.iastore, 1) := by decide +kernel
theorem dX5_dropStart_37 : decode cX5_dropStart 37 = .ok (.iinc 2 1, 3) := by decide +kernel
theorem dX5_dropStart_40 : decode cX5_dropStart 40 = .ok (.goto (-38), 3) := by decide +kernel
theorem dX5_dropStart_43 : decode cX5_dropStart 43 = .ok (.return_, 1) := by decide +kernel
theorem dX5_isBegun_0 : decode cX5_isBegun 0 = .ok (.aload_n 0, 1) := by decide +kernel
theorem dX5_isBegun_1 : decode cX5_isBegun 1 = .ok (.getfield 9, 3) := by decide +kernel
theorem dX5_isBegun_4 : decode cX5_isBegun 4 = .ok (.iconst 0, 1) := by decide +kernel
theorem dX5_isBegun_5 : decode cX5_isBegun 5 = .ok (.iaload, 1) := by decide +kernel
theorem dX5_isBegun_6 : decode cX5_isBegun 6 = .ok (.ifCond .le 7, 3) := by decide +kernel
theorem dX5_isBegun_9 : decode cX5_isBegun 9 = .ok (.iconst 1, 1) := by decide +kernel
theorem dX5_isBegun_10 : decode cX5_isBegun 10 = .ok (.goto 4, 3) := by decide +kernel
theorem dX5_isBegun_13 : decode cX5_isBegun 13 = .ok (.iconst 0, 1) := by decide +kernel
theorem dX5_isBegun_14 : decode cX5_isBegun 14 = .ok (.ireturn, 1) := by decide +kernel
theorem dX6_init_0 : decode cX6_init 0 = .ok (.aload_n 0, 1) := by decide +kernel
theorem dX6_init_1 : decode cX6_init 1 = .ok (.invokespecial 3, 3) := by decide +kernel
theorem dX6_init_4 : decode cX6_init 4 = .ok (.aload_n 0, 1) := by decide +kernel
theorem dX6_init_5 : decode cX6_init 5 = .ok (.iconst 0, 1) := by decide +kernel
theorem dX6_init_6 : decode cX6_init 6 = .ok (.putfield 11, 3) := by decide +kernel
theorem dX6_init_9 : decode cX6_init 9 = .ok (.aload_n 0, 1) := by decide +kernel
theorem dX6_init_10 : decode cX6_init 10 = .ok (.sipush 602, 3) := by decide +kernel
theorem dX6_init_13 : decode cX6_init 13 = .ok (.newarray .int, 2) := by decide +kernel
theorem dX6_init_15 : decode cX6_init 15 = .ok (.putfield 15, 3) := by decide +kernel
theorem dX6_init_18 : decode cX6_init 18 = .ok (.aload_n 0, 1) := by decide +kernel
theorem dX6_init_19 : decode cX6_init 19 = .ok (.sipush 601, 3) := by decide +kernel
theorem dX6_init_22 : decode cX6_init 22 = .ok (.newarray .int, 2) := by decide +kernel
theorem dX6_init_24 : decode cX6_init 24 = .ok (.putfield 19, 3) := by decide +kernel
theorem dX6_init_27 : decode cX6_init 27 = .ok (.aload_n 0, 1) := by decide +kernel
theorem dX6_init_28 : decode cX6_init 28 = .ok (.bipush 8, 2) := by decide +kernel
theorem dX6_init_30 : decode cX6_init 30 = .ok (.sipush 600, 3) := by decide +kernel
theorem dX6_init_33 : decode cX6_init 33 = .ok (.multianewarray 22 2, 4) := by decide +kernel
theorem dX6_init_37 : decode cX6_init 37 = .ok (.putfield 24, 3) := by decide +kernel
theorem dX6_init_40 : decode cX6_init 40 = .ok (.aload_n 0, 1) := by decide +kernel
theorem dX6_init_41 : decode cX6_init 41 = .ok (.bipush 7, 2) := by decide +kernel
theorem dX6_init_43 : decode cX6_init 43 = .ok (.sipush 1202, 3) := by decide +kernel
theorem dX6_init_46 : decode cX6_init 46 = .ok (.multianewarray 22 2, 4) := by decide +kernel
theorem dX6_init_50 : decode cX6_init 50 = .ok (.putfield 27, 3) := by decide +kernel
theorem dX6_init_53 : decode cX6_init 53 = .ok (.aload_n 0, 1) := by decide +kernel
theorem dX6_init_54 : decode cX6_init 54 = .ok (.new 30, 3) := by decide +kernel
theorem dX6_init_57 : decode cX6_init 57 = .ok (.dup, 1) := by decide +kernel
theorem dX6_init_58 : decode cX6_init 58 = .ok (.invokespecial 32, 3) := by decide +kernel
theorem dX6_init_61 : decode cX6_init 61 = .ok (.putfield 33, 3) := by decide +kernel
theorem dX6_init_64 : decode cX6_init 64 = .ok (.aload_n 0, 1) := by decide +kernel
theorem dX6_init_65 : decode cX6_init 65 = .ok (.new 30, 3) := by decide +kernel
theorem dX6_init_68 : decode cX6_init 68 = .ok (.dup, 1) := by decide +kernel
theorem dX6_init_69 : decode cX6_init 69 = .ok (.invokespecial 32, 3) := by decide +kernel
theorem dX6_init_72 : decode cX6_init 72 = .ok (.putfield 37, 3) := by decide +kernel
theorem dX6_init_75 : decode cX6_init 75 = .ok (.aload_n 0, 1) := by decide +kernel
theorem dX6_init_76 : decode cX6_init 76 = .ok (.new 40, 3) := by decide +kernel
theorem dX6_init_79 : decode cX6_init 79 = .ok (.dup, 1) := by decide +kernel
theorem dX6_init_80 : decode cX6_init 80 = .ok (.invokespecial 42, 3) := by decide +kernel
theorem dX6_init_83 : decode cX6_init 83 = .ok (.putfield 43, 3) := by decide +kernel
theorem dX6_init_86 : decode cX6_init 86 = .ok (.aload_n 0, 1) := by decide +kernel
theorem dX6_init_87 : decode cX6_init 87 = .ok (.new 40, 3) := by decide +kernel
theorem dX6_init_90 : decode cX6_init 90 = .ok (.dup, 1) := by decide +kernel
theorem dX6_init_91 : decode cX6_init 91 = .ok (.invokespecial 42, 3) := by decide +kernel
theorem dX6_init_94 : decode cX6_init 94 = .ok (.putfield 47, 3) := by decide +kernel
theorem dX6_init_97 : decode cX6_init 97 = .ok (.return_, 1) := by decide +kernel
theorem dX6_arrange_0 : decode cX6_arrange 0 = .ok (.aload_n 0, 1) := by decide +kernel
theorem dX6_arrange_1 : decode cX6_arrange 1 = .ok (.getfield 11, 3) := by decide +kernel
theorem dX6_arrange_4 : decode cX6_arrange 4 = .ok (.iload_n 2, 1) := by decide +kernel
theorem dX6_arrange_5 : decode cX6_arrange 5 = .ok (.if_icmp .ne 4, 3) := by decide +kernel
theorem dX6_arrange_8 : decode cX6_arrange 8 = .ok (.return_, 1) := by decide +kernel
theorem dX6_arrange_9 : decode cX6_arrange 9 = .ok (.aload_n 0, 1) := by decide +kernel
theorem dX6_arrange_10 : decode cX6_arrange 10 = .ok (.iload_n 2, 1) := by decide +kernel
theorem dX6_arrange_11 : decode cX6_arrange 11 = .ok (.putfield 11, 3) := by decide +kernel
theorem dX6_arrange_14 : decode cX6_arrange 14 = .ok (.aload_n 0, 1) := by decide +kernel
theorem dX6_arrange_15 : decode cX6_arrange 15 = .ok (.iconst 0, 1) := by decide +kernel
theorem dX6_arrange_16 : decode cX6_arrange 16 = .ok (.putfield 50, 3) := by decide +kernel
theorem dX6_arrange_19 : decode cX6_arrange 19 = .ok (.aload_n 0, 1) := by decide +kernel
theorem dX6_arrange_20 : decode cX6_arrange 20 = .ok (.iconst 0, 1) := by decide +kernel
theorem dX6_arrange_21 : decode cX6_arrange 21 = .ok (.putfield 53, 3) := by decide +kernel
theorem dX6_arrange_24 : decode cX6_arrange 24 = .ok (.aload_n 0, 1) := by decide +kernel
theorem dX6_arrange_25 : decode cX6_arrange 25 = .ok (.getfield 43, 3) := by decide +kernel
theorem dX6_arrange_28 : decode cX6_arrange 28 = .ok (.aload_n 1, 1) := by decide +kernel
theorem dX6_arrange_29 : decode cX6_arrange 29 = .ok (.iconst 0, 1) := by decide +kernel
theorem dX6_arrange_30 : decode cX6_arrange 30 = .ok (.invokevirtual 56, 3) := by decide +kernel
theorem dX6_arrange_33 : decode cX6_arrange 33 = .ok (.aload_n 0, 1) := by decide +kernel
theorem dX6_arrange_34 : decode cX6_arrange 34 = .ok (.getfield 33, 3) := by decide +kernel
theorem dX6_arrange_37 : decode cX6_arrange 37 = .ok (.iconst 0, 1) := by decide +kernel
theorem dX6_arrange_38 : decode cX6_arrange 38 = .ok (.iconst 0, 1) := by decide +kernel
theorem dX6_arrange_39 : decode cX6_arrange 39 = .ok (.iconst 0, 1) := by decide +kernel
theorem dX6_arrange_40 : decode cX6_arrange 40 = .ok (.invokevirtual 60, 3) := by decide +kernel
theorem dX6_arrange_43 : decode cX6_arrange 43 = .ok (.aload_n 0, 1) := by decide +kernel
theorem dX6_arrange_44 : decode cX6_arrange 44 = .ok (.getfield 33, 3) := by decide +kernel
theorem dX6_arrange_47 : decode cX6_arrange 47 = .ok (.iconst 1, 1) := by decide +kernel
theorem dX6_arrange_48 : decode cX6_arrange 48 = .ok (.iconst 0, 1) := by decide +kernel
theorem dX6_arrange_49 : decode cX6_arrange 49 = .ok (.iconst 0, 1) := by decide +kernel
theorem dX6_arrange_50 : decode cX6_arrange 50 = .ok (.invokevirtual 60, 3) := by decide +kernel
theorem dX6_arrange_53 : decode cX6_arrange 53 = .ok (.iconst 0, 1) := by decide +kernel
theorem dX6_arrange_54 : decode cX6_arrange 54 = .ok (.istore_n 3, 1) := by decide +kernel
theorem dX6_arrange_55 : decode cX6_arrange 55 = .ok (.iload_n 3, 1) := by decide +kernel
theorem dX6_arrange_56 : decode cX6_arrange 56 = .ok (.sipush 601, 3) := by decide +kernel
theorem dX6_arrange_59 : decode cX6_arrange 59 = .ok (.if_icmp .ge 76, 3) := by decide +kernel
theorem dX6_arrange_62 : decode cX6_arrange 62 = .ok (.aload_n 1, 1) := by decide +kernel
theorem dX6_arrange_63 : decode cX6_arrange 63 = .ok (.aload_n 0, 1) := by decide +kernel
theorem dX6_arrange_64 : decode cX6_arrange 64 = .ok (.getfield 43, 3) := by decide +kernel
theorem dX6_arrange_67 : decode cX6_arrange 67 = .ok (.getfield 64, 3) := by decide +kernel
theorem dX6_arrange_70 : decode cX6_arrange 70 = .ok (.invokevirtual 67, 3) := by decide +kernel
theorem dX6_arrange_73 : decode cX6_arrange 73 = .ok (.ifCond .ne 10, 3) := by decide +kernel
theorem dX6_arrange_76 : decode cX6_arrange 76 = .ok (.aload_n 0, 1) := by decide +kernel
theorem dX6_arrange_77 : decode cX6_arrange 77 = .ok (.invokevirtual 73, 3) := by decide +kernel
theorem dX6_arrange_80 : decode cX6_arrange 80 = .ok (.ifCond .eq 55, 3) := by decide +kernel
theorem dX6_arrange_83 : decode cX6_arrange 83 = .ok (.aload_n 0, 1) := by decide +kernel
theorem dX6_arrange_84 : decode cX6_arrange 84 = .ok (.getfield 19, 3) := by decide +kernel
theorem dX6_arrange_87 : decode cX6_arrange 87 = .ok (.aload_n 0, 1) := by decide +kernel
theorem dX6_arrange_88 : decode cX6_arrange 88 = .ok (.getfield 50, 3) := by decide +kernel
theorem dX6_arrange_91 : decode cX6_arrange 91 = .ok (.iconst 0, 1) := by decide +kernel
theorem dX6_arrange_92 : decode cX6_arrange 92 = .ok (.iastore, 1) := by decide +kernel
theorem dX6_arrange_93 : decode cX6_arrange 93 = .ok (.iconst 1, 1) := by decide +kernel
theorem dX6_arrange_94 : decode cX6_arrange 94 = .ok (.istore 4, 2) := by decide +kernel
theorem dX6_arrange_96 : decode cX6_arrange 96 = .ok (.iconst 0, 1) := by decide +kernel
theorem dX6_arrange_97 : decode cX6_arrange 97 = .ok (.istore 5, 2) := by decide +kernel
theorem dX6_arrange_99 : decode cX6_arrange 99 = .ok (.iload 4, 2) := by decide +kernel
theorem dX6_arrange_101 : decode cX6_arrange 101 = .ok (.ifCond .eq 23, 3) := by decide +kernel
theorem dX6_arrange_104 : decode cX6_arrange 104 = .ok (.iload 5, 2) := by decide +kernel
theorem dX6_arrange_106 : decode cX6_arrange 106 = .ok (.bipush 20, 2) := by decide +kernel
theorem dX6_arrange_108 : decode cX6_arrange 108 = .ok (.if_icmp .ge 16, 3) := by decide +kernel
theorem dX6_arrange_111 : decode cX6_arrange 111 = .ok (.aload_n 0, 1) := by decide +kernel
theorem dX6_arrange_112 : decode cX6_arrange 112 = .ok (.aload_n 1, 1) := by decide +kernel
theorem dX6_arrange_113 : decode cX6_arrange 113 = .ok (.invokevirtual 77, 3) := by decide +kernel
theorem dX6_arrange_116 : decode cX6_arrange 116 = .ok (.istore 4, 2) := by decide +kernel
theorem dX6_arrange_118 : decode cX6_arrange 118 = .ok (.iinc 5 1, 3) := by decide +kernel
theorem dX6_arrange_121 : decode cX6_arrange 121 = .ok (.goto (-22), 3) := by decide +kernel
theorem dX6_arrange_124 : decode cX6_arrange 124 = .ok (.aload_n 0, 1) := by decide +kernel
theorem dX6_arrange_125 : decode cX6_arrange 125 = .ok (.aload_n 1, 1) := by decide +kernel
theorem dX6_arrange_126 : decode cX6_arrange 126 = .ok (.invokevirtual 81, 3) := by decide +kernel
theorem dX6_arrange_129 : decode cX6_arrange 129 = .ok (.iinc 3 1, 3) := by decide +kernel
theorem dX6_arrange_132 : decode cX6_arrange 132 = .ok (.goto (-77), 3) := by decide +kernel
theorem dX6_arrange_135 : decode cX6_arrange 135 = .ok (.return_, 1) := by decide +kernel
theorem dX6_isCarried_0 : decode cX6_isCarried 0 = .ok (.aload_n 0, 1) := by decide +kernel
theorem dX6_isCarried_1 : decode cX6_isCarried 1 = .ok (.getfield 33, 3) := by decide +kernel
theorem dX6_isCarried_4 : decode cX6_isCarried 4 = .ok (.getfield 85, 3) := by decide +kernel
theorem dX6_isCarried_7 : decode cX6_isCarried 7 = .ok (.iconst 0, 1) := by decide +kernel
theorem dX6_isCarried_8 : decode cX6_isCarried 8 = .ok (.iaload, 1) := by decide +kernel
theorem dX6_isCarried_9 : decode cX6_isCarried 9 = .ok (.aload_n 0, 1) := by decide +kernel
theorem dX6_isCarried_10 : decode cX6_isCarried 10 = .ok (.getfield 33, 3) := by decide +kernel
theorem dX6_isCarried_13 : decode cX6_isCarried 13 = .ok (.getfield 85, 3) := by decide +kernel
theorem dX6_isCarried_16 : decode cX6_isCarried 16 = .ok (.iconst 1, 1) := by decide +kernel
theorem dX6_isCarried_17 : decode cX6_isCarried 17 = .ok (.iaload, 1) := by decide +kernel
theorem dX6_isCarried_18 : decode cX6_isCarried 18 = .ok (.iadd, 1) := by decide +kernel
theorem dX6_isCarried_19 : decode cX6_isCarried 19 = .ok (.ifCond .le 7, 3) := by decide +kernel
theorem dX6_isCarried_22 : decode cX6_isCarried 22 = .ok (.iconst 1, 1) := by decide +kernel
theorem dX6_isCarried_23 : decode cX6_isCarried 23 = .ok (.goto 4, 3) := by decide +kernel
theorem dX6_isCarried_26 : decode cX6_isCarried 26 = .ok (.iconst 0, 1) := by decide +kernel
theorem dX6_isCarried_27 : decode cX6_isCarried 27 = .ok (.ireturn, 1) := by decide +kernel
theorem dX6_putNext_0 : decode cX6_putNext 0 = .ok (.aload_n 1, 1) := by decide +kernel
theorem dX6_putNext_1 : decode cX6_putNext 1 = .ok (.aload_n 0, 1) := by decide +kernel
theorem dX6_putNext_2 : decode cX6_putNext 2 = .ok (.getfield 43, 3) := by decide +kernel
theorem dX6_putNext_5 : decode cX6_putNext 5 = .ok (.getfield 64, 3) := by decide +kernel
theorem dX6_putNext_8 : decode cX6_putNext 8 = .ok (.invokevirtual 67, 3) := by decide +kernel
theorem dX6_putNext_11 : decode cX6_putNext 11 = .ok (.ifCond .ne 5, 3) := by decide +kernel
theorem dX6_putNext_14 : decode cX6_putNext 14 = .ok (.iconst 0, 1) := by decide +kernel
theorem dX6_putNext_15 : decode cX6_putNext 15 = .ok (.ireturn, 1) := by decide +kernel
theorem dX6_putNext_16 : decode cX6_putNext 16 = .ok (.aload_n 0, 1) := by decide +kernel
theorem dX6_putNext_17 : decode cX6_putNext 17 = .ok (.getfield 53, 3) := by decide +kernel
theorem dX6_putNext_20 : decode cX6_putNext 20 = .ok (.aload_n 0, 1) := by decide +kernel
theorem dX6_putNext_21 : decode cX6_putNext 21 = .ok (.getfield 15, 3) := by decide +kernel
theorem dX6_putNext_24 : decode cX6_putNext 24 = .ok (.aload_n 0, 1) := by decide +kernel
theorem dX6_putNext_25 : decode cX6_putNext 25 = .ok (.getfield 50, 3) := by decide +kernel
theorem dX6_putNext_28 : decode cX6_putNext 28 = .ok (.iaload, 1) := by decide +kernel
theorem dX6_putNext_29 : decode cX6_putNext 29 = .ok (.if_icmp .ne 7, 3) := by decide +kernel
theorem dX6_putNext_32 : decode cX6_putNext 32 = .ok (.iconst 1, 1) := by decide +kernel
theorem dX6_putNext_33 : decode cX6_putNext 33 = .ok (.goto 4, 3) := by decide +kernel
theorem dX6_putNext_36 : decode cX6_putNext 36 = .ok (.iconst 0, 1) := by decide +kernel
theorem dX6_putNext_37 : decode cX6_putNext 37 = .ok (.istore_n 2, 1) := by decide +kernel
theorem dX6_putNext_38 : decode cX6_putNext 38 = .ok (.iload_n 2, 1) := by decide +kernel
theorem dX6_putNext_39 : decode cX6_putNext 39 = .ok (.ifCond .ne 33, 3) := by decide +kernel
theorem dX6_putNext_42 : decode cX6_putNext 42 = .ok (.aload_n 0, 1) := by decide +kernel
theorem dX6_putNext_43 : decode cX6_putNext 43 = .ok (.getfield 43, 3) := by decide +kernel
theorem dX6_putNext_46 : decode cX6_putNext 46 = .ok (.invokevirtual 88, 3) := by decide +kernel
theorem dX6_putNext_49 : decode cX6_putNext 49 = .ok (.ifCond .ne 23, 3) := by decide +kernel
theorem dX6_putNext_52 : decode cX6_putNext 52 = .ok (.aload_n 1, 1) := by decide +kernel
theorem dX6_putNext_53 : decode cX6_putNext 53 = .ok (.getfield 91, 3) := by decide +kernel
theorem dX6_putNext_56 : decode cX6_putNext 56 = .ok (.iconst 3, 1) := by decide +kernel
theorem dX6_putNext_57 : decode cX6_putNext 57 = .ok (.aaload, 1) := by decide +kernel
theorem dX6_putNext_58 : decode cX6_putNext 58 = .ok (.aload_n 0, 1) := by decide +kernel
theorem dX6_putNext_59 : decode cX6_putNext 59 = .ok (.getfield 43, 3) := by decide +kernel
theorem dX6_putNext_62 : decode cX6_putNext 62 = .ok (.getfield 64, 3) := by decide +kernel
theorem dX6_putNext_65 : decode cX6_putNext 65 = .ok (.iaload, 1) := by decide +kernel
theorem dX6_putNext_66 : decode cX6_putNext 66 = .ok (.iconst 1, 1) := by decide +kernel
theorem dX6_putNext_67 : decode cX6_putNext 67 = .ok (.if_icmp .ne 5, 3) := by decide +kernel
theorem dX6_putNext_70 : decode cX6_putNext 70 = .ok (.iconst 0, 1) := by decide +kernel
theorem dX6_putNext_71 : decode cX6_putNext 71 = .ok (.ireturn, 1) := by decide +kernel
theorem dX6_putNext_72 : decode cX6_putNext 72 = .ok (.aload_n 0, 1) := by decide +kernel
theorem dX6_putNext_73 : decode cX6_putNext 73 = .ok (.aload_n 1, 1) := by decide +kernel
theorem dX6_putNext_74 : decode cX6_putNext 74 = .ok (.aload_n 0, 1) := by decide +kernel
theorem dX6_putNext_75 : decode cX6_putNext 75 = .ok (.getfield 43, 3) := by decide +kernel
theorem dX6_putNext_78 : decode cX6_putNext 78 = .ok (.invokevirtual 94, 3) := by decide +kernel
theorem dX6_putNext_81 : decode cX6_putNext 81 = .ok (.ifCond .eq 10, 3) := by decide +kernel
theorem dX6_putNext_84 : decode cX6_putNext 84 = .ok (.aload_n 0, 1) := by decide +kernel
theorem dX6_putNext_85 : decode cX6_putNext 85 = .ok (.aload_n 1, 1) := by decide +kernel
theorem dX6_putNext_86 : decode cX6_putNext 86 = .ok (.invokevirtual 98, 3) := by decide +kernel
theorem dX6_putNext_89 : decode cX6_putNext 89 = .ok (.iconst 1, 1) := by decide +kernel
theorem dX6_putNext_90 : decode cX6_putNext 90 = .ok (.ireturn, 1) := by decide +kernel
theorem dX6_putNext_91 : decode cX6_putNext 91 = .ok (.aload_n 1, 1) := by decide +kernel
theorem dX6_putNext_92 : decode cX6_putNext 92 = .ok (.getfield 91, 3) := by decide +kernel
theorem dX6_putNext_95 : decode cX6_putNext 95 = .ok (.iconst 2, 1) := by decide +kernel
theorem dX6_putNext_96 : decode cX6_putNext 96 = .ok (.aaload, 1) := by decide +kernel
theorem dX6_putNext_97 : decode cX6_putNext 97 = .ok (.aload_n 0, 1) := by decide +kernel
theorem dX6_putNext_98 : decode cX6_putNext 98 = .ok (.getfield 43, 3) := by decide +kernel
theorem dX6_putNext_101 : decode cX6_putNext 101 = .ok (.getfield 64, 3) := by decide +kernel
theorem dX6_putNext_104 : decode cX6_putNext 104 = .ok (.iaload, 1) := by decide +kernel
theorem dX6_putNext_105 : decode cX6_putNext 105 = .ok (.ifCond .ne 35, 3) := by decide +kernel
theorem dX6_putNext_108 : decode cX6_putNext 108 = .ok (.aload_n 0, 1) := by decide +kernel
theorem dX6_putNext_109 : decode cX6_putNext 109 = .ok (.aload_n 1, 1) := by decide +kernel
theorem dX6_putNext_110 : decode cX6_putNext 110 = .ok (.invokevirtual 101, 3) := by decide +kernel
theorem dX6_putNext_113 : decode cX6_putNext 113 = .ok (.ifCond .eq 27, 3) := by decide +kernel
theorem dX6_putNext_116 : decode cX6_putNext 116 = .ok (.aload_n 0, 1) := by decide +kernel
theorem dX6_putNext_117 : decode cX6_putNext 117 = .ok (.aload_n 1, 1) := by decide +kernel
theorem dX6_putNext_118 : decode cX6_putNext 118 = .ok (.aload_n 0, 1) := by decide +kernel
theorem dX6_putNext_119 : decode cX6_putNext 119 = .ok (.getfield 47, 3) := by decide +kernel
theorem dX6_putNext_122 : decode cX6_putNext 122 = .ok (.iconst 1, 1) := by decide +kernel
theorem dX6_putNext_123 : decode cX6_putNext 123 = .ok (.invokevirtual 104, 3) := by decide +kernel
theorem dX6_putNext_126 : decode cX6_putNext 126 = .ok (.aload_n 0, 1) := by decide +kernel
theorem dX6_putNext_127 : decode cX6_putNext 127 = .ok (.getfield 43, 3) := by decide +kernel
theorem dX6_putNext_130 : decode cX6_putNext 130 = .ok (.aload_n 0, 1) := by decide +kernel
theorem dX6_putNext_131 : decode cX6_putNext 131 = .ok (.getfield 47, 3) := by decide +kernel
theorem dX6_putNext_134 : decode cX6_putNext 134 = .ok (.invokevirtual 108, 3) := by decide +kernel
theorem dX6_putNext_137 : decode cX6_putNext 137 = .ok (.goto 22, 3) := by decide +kernel
theorem dX6_putNext_140 : decode cX6_putNext 140 = .ok (.iload_n 2, 1) := by decide +kernel
theorem dX6_putNext_141 : decode cX6_putNext 141 = .ok (.ifCond .eq 18, 3) := by decide +kernel
theorem dX6_putNext_144 : decode cX6_putNext 144 = .ok (.aload_n 0, 1) := by decide +kernel
theorem dX6_putNext_145 : decode cX6_putNext 145 = .ok (.getfield 19, 3) := by decide +kernel
theorem dX6_putNext_148 : decode cX6_putNext 148 = .ok (.aload_n 0, 1) := by decide +kernel
theorem dX6_putNext_149 : decode cX6_putNext 149 = .ok (.getfield 50, 3) := by decide +kernel
theorem dX6_putNext_152 : decode cX6_putNext 152 = .ok (.iconst 1, 1) := by decide +kernel
theorem dX6_putNext_153 : decode cX6_putNext 153 = .ok (.iastore, 1) := by decide +kernel
theorem dX6_putNext_154 : decode cX6_putNext 154 = .ok (.aload_n 0, 1) := by decide +kernel
theorem dX6_putNext_155 : decode cX6_putNext 155 = .ok (.aload_n 1, 1) := by decide +kernel
theorem dX6_putNext_156 : decode cX6_putNext 156 = .ok (.invokevirtual 98, 3) := by decide +kernel
theorem dX6_putNext_159 : decode cX6_putNext 159 = .ok (.iconst 0, 1) := by decide +kernel
theorem dX6_putNext_160 : decode cX6_putNext 160 = .ok (.ireturn, 1) := by decide +kernel
theorem dX6_putRest_0 : decode cX6_putRest 0 = .ok (.aload_n 0, 1) := by decide +kernel
theorem dX6_putRest_1 : decode cX6_putRest 1 = .ok (.aload_n 1, 1) := by decide +kernel
theorem dX6_putRest_2 : decode cX6_putRest 2 = .ok (.aload_n 0, 1) := by decide +kernel
theorem dX6_putRest_3 : decode cX6_putRest 3 = .ok (.getfield 43, 3) := by decide +kernel
theorem dX6_putRest_6 : decode cX6_putRest 6 = .ok (.iconst 0, 1) := by decide +kernel
theorem dX6_putRest_7 : decode cX6_putRest 7 = .ok (.invokevirtual 104, 3) := by decide +kernel
theorem dX6_putRest_10 : decode cX6_putRest 10 = .ok (.aload_n 0, 1) := by decide +kernel
theorem dX6_putRest_11 : decode cX6_putRest 11 = .ok (.getfield 43, 3) := by decide +kernel
theorem dX6_putRest_14 : decode cX6_putRest 14 = .ok (.aload_n 1, 1) := by decide +kernel
theorem dX6_putRest_15 : decode cX6_putRest 15 = .ok (.aload_n 0, 1) := by decide +kernel
theorem dX6_putRest_16 : decode cX6_putRest 16 = .ok (.getfield 43, 3) := by decide +kernel
theorem dX6_putRest_19 : decode cX6_putRest 19 = .ok (.getfield 64, 3) := by decide +kernel
theorem dX6_putRest_22 : decode cX6_putRest 22 = .ok (.iconst 1, 1) := by decide +kernel
theorem dX6_putRest_23 : decode cX6_putRest 23 = .ok (.iadd, 1) := by decide +kernel
theorem dX6_putRest_24 : decode cX6_putRest 24 = .ok (.invokevirtual 56, 3) := by decide +kernel
theorem dX6_putRest_27 : decode cX6_putRest 27 = .ok (.return_, 1) := by decide +kernel
theorem dX6_fits_0 : decode cX6_fits 0 = .ok (.aload_n 0, 1) := by decide +kernel
theorem dX6_fits_1 : decode cX6_fits 1 = .ok (.getfield 37, 3) := by decide +kernel
theorem dX6_fits_4 : decode cX6_fits 4 = .ok (.aload_n 0, 1) := by decide +kernel
theorem dX6_fits_5 : decode cX6_fits 5 = .ok (.getfield 33, 3) := by decide +kernel
theorem dX6_fits_8 : decode cX6_fits 8 = .ok (.invokevirtual 112, 3) := by decide +kernel
theorem dX6_fits_11 : decode cX6_fits 11 = .ok (.aload_n 0, 1) := by decide +kernel
theorem dX6_fits_12 : decode cX6_fits 12 = .ok (.getfield 37, 3) := by decide +kernel
theorem dX6_fits_15 : decode cX6_fits 15 = .ok (.aload_n 1, 1) := by decide +kernel
theorem dX6_fits_16 : decode cX6_fits 16 = .ok (.aload_n 2, 1) := by decide +kernel
theorem dX6_fits_17 : decode cX6_fits 17 = .ok (.invokevirtual 116, 3) := by decide +kernel
theorem dX6_fits_20 : decode cX6_fits 20 = .ok (.aload_n 0, 1) := by decide +kernel
theorem dX6_fits_21 : decode cX6_fits 21 = .ok (.getfield 37, 3) := by decide +kernel
theorem dX6_fits_24 : decode cX6_fits 24 = .ok (.aload_n 0, 1) := by decide +kernel
theorem dX6_fits_25 : decode cX6_fits 25 = .ok (.getfield 11, 3) := by decide +kernel
theorem dX6_fits_28 : decode cX6_fits 28 = .ok (.aload_n 1, 1) := by decide +kernel
theorem dX6_fits_29 : decode cX6_fits 29 = .ok (.getfield 120, 3) := by decide +kernel
theorem dX6_fits_32 : decode cX6_fits 32 = .ok (.iconst 2, 1) := by decide +kernel
theorem dX6_fits_33 : decode cX6_fits 33 = .ok (.iaload, 1) := by decide +kernel
theorem dX6_fits_34 : decode cX6_fits 34 = .ok (.aload_n 1, 1) := by decide +kernel
theorem dX6_fits_35 : decode cX6_fits 35 = .ok (.getfield 120, 3) := by decide +kernel
theorem dX6_fits_38 : decode cX6_fits 38 = .ok (.iconst 4, 1) := by decide +kernel
theorem dX6_fits_39 : decode cX6_fits 39 = .ok (.iaload, 1) := by decide +kernel
theorem dX6_fits_40 : decode cX6_fits 40 = .ok (.invokevirtual 123, 3) := by decide +kernel
theorem dX6_fits_43 : decode cX6_fits 43 = .ok (.ireturn, 1) := by decide +kernel
theorem dX6_findStart_0 : decode cX6_findStart 0 = .ok (.aload_n 1, 1) := by decide +kernel
theorem dX6_findStart_1 : decode cX6_findStart 1 = .ok (.getfield 120, 3) := by decide +kernel
theorem dX6_findStart_4 : decode cX6_findStart 4 = .ok (.iconst 3, 1) := by decide +kernel
theorem dX6_findStart_5 : decode cX6_findStart 5 = .ok (.iaload, 1) := by decide +kernel
theorem dX6_findStart_6 : decode cX6_findStart 6 = .ok (.istore_n 2, 1) := by decide +kernel
theorem dX6_findStart_7 : decode cX6_findStart 7 = .ok (.aload_n 0, 1) := by decide +kernel
theorem dX6_findStart_8 : decode cX6_findStart 8 = .ok (.getfield 43, 3) := by decide +kernel
theorem dX6_findStart_11 : decode cX6_findStart 11 = .ok (.getfield 126, 3) := by decide +kernel
theorem dX6_findStart_14 : decode cX6_findStart 14 = .ok (.iconst 0, 1) := by decide +kernel
theorem dX6_findStart_15 : decode cX6_findStart 15 = .ok (.iaload, 1) := by decide +kernel
theorem dX6_findStart_16 : decode cX6_findStart 16 = .ok (.istore_n 3, 1) := by decide +kernel
theorem dX6_findStart_17 : decode cX6_findStart 17 = .ok (.aload_n 0, 1) := by decide +kernel
theorem dX6_findStart_18 : decode cX6_findStart 18 = .ok (.getfield 43, 3) := by decide +kernel
theorem dX6_findStart_21 : decode cX6_findStart 21 = .ok (.getfield 126, 3) := by decide +kernel
theorem dX6_findStart_24 : decode cX6_findStart 24 = .ok (.iconst 1, 1) := by decide +kernel
theorem dX6_findStart_25 : decode cX6_findStart 25 = .ok (.iaload, 1) := by decide +kernel
theorem dX6_findStart_26 : decode cX6_findStart 26 = .ok (.istore 4, 2) := by decide +kernel
theorem dX6_findStart_28 : decode cX6_findStart 28 = .ok (.iload_n 3, 1) := by decide +kernel
theorem dX6_findStart_29 : decode cX6_findStart 29 = .ok (.ifCond .gt 5, 3) := by decide +kernel
theorem dX6_findStart_32 : decode cX6_findStart 32 = .ok (.iconst 0, 1) := by decide +kernel
theorem dX6_findStart_33 : decode cX6_findStart 33 = .ok (.ireturn, 1) := by decide +kernel
theorem dX6_findStart_34 : decode cX6_findStart 34 = .ok (.iload_n 3, 1) := by decide +kernel
theorem dX6_findStart_35 : decode cX6_findStart 35 = .ok (.iload_n 2, 1) := by decide +kernel
theorem dX6_findStart_36 : decode cX6_findStart 36 = .ok (.isub, 1) := by decide +kernel
theorem dX6_findStart_37 : decode cX6_findStart 37 = .ok (.aload_n 0, 1) := by decide +kernel
theorem dX6_findStart_38 : decode cX6_findStart 38 = .ok (.getfield 11, 3) := by decide +kernel
theorem dX6_findStart_41 : decode cX6_findStart 41 = .ok (.aload_n 0, 1) := by decide +kernel
theorem dX6_findStart_42 : decode cX6_findStart 42 = .ok (.getfield 33, 3) := by decide +kernel
theorem dX6_findStart_45 : decode cX6_findStart 45 = .ok (.getfield 129, 3) := by decide +kernel
theorem dX6_findStart_48 : decode cX6_findStart 48 = .ok (.iconst 0, 1) := by decide +kernel
theorem dX6_findStart_49 : decode cX6_findStart 49 = .ok (.iaload, 1) := by decide +kernel
theorem dX6_findStart_50 : decode cX6_findStart 50 = .ok (.isub, 1) := by decide +kernel
theorem dX6_findStart_51 : decode cX6_findStart 51 = .ok (.invokestatic 132, 3) := by decide +kernel
theorem dX6_findStart_54 : decode cX6_findStart 54 = .ok (.istore 5, 2) := by decide +kernel
theorem dX6_findStart_56 : decode cX6_findStart 56 = .ok (.iload 5, 2) := by decide +kernel
theorem dX6_findStart_58 : decode cX6_findStart 58 = .ok (.istore 6, 2) := by decide +kernel
theorem dX6_findStart_60 : decode cX6_findStart 60 = .ok (.iload 6, 2) := by decide +kernel
theorem dX6_findStart_62 : decode cX6_findStart 62 = .ok (.iload_n 2, 1) := by decide +kernel
theorem dX6_findStart_63 : decode cX6_findStart 63 = .ok (.if_icmp .lt 68, 3) := by decide +kernel
theorem dX6_findStart_66 : decode cX6_findStart 66 = .ok (.iconst 2, 1) := by decide +kernel
theorem dX6_findStart_67 : decode cX6_findStart 67 = .ok (.iload 6, 2) := by decide +kernel
theorem dX6_findStart_69 : decode cX6_findStart 69 = .ok (.imul, 1) := by decide +kernel
theorem dX6_findStart_70 : decode cX6_findStart 70 = .ok (.iload 4, 2) := by decide +kernel
theorem dX6_findStart_72 : decode cX6_findStart 72 = .ok (.imul, 1) := by decide +kernel
theorem dX6_findStart_73 : decode cX6_findStart 73 = .ok (.iload_n 3, 1) := by decide +kernel
theorem dX6_findStart_74 : decode cX6_findStart 74 = .ok (.iadd, 1) := by decide +kernel
theorem dX6_findStart_75 : decode cX6_findStart 75 = .ok (.iconst 2, 1) := by decide +kernel
theorem dX6_findStart_76 : decode cX6_findStart 76 = .ok (.iload_n 3, 1) := by decide +kernel
theorem dX6_findStart_77 : decode cX6_findStart 77 = .ok (.imul, 1) := by decide +kernel
theorem dX6_findStart_78 : decode cX6_findStart 78 = .ok (.idiv, 1) := by decide +kernel
theorem dX6_findStart_79 : decode cX6_findStart 79 = .ok (.istore 7, 2) := by decide +kernel
theorem dX6_findStart_81 : decode cX6_findStart 81 = .ok (.iload 7, 2) := by decide +kernel
theorem dX6_findStart_83 : decode cX6_findStart 83 = .ok (.iload_n 2, 1) := by decide +kernel
theorem dX6_findStart_84 : decode cX6_findStart 84 = .ok (.if_icmp .lt 41, 3) := by decide +kernel
theorem dX6_findStart_87 : decode cX6_findStart 87 = .ok (.iload 4, 2) := by decide +kernel
theorem dX6_findStart_89 : decode cX6_findStart 89 = .ok (.iload 7, 2) := by decide +kernel
theorem dX6_findStart_91 : decode cX6_findStart 91 = .ok (.isub, 1) := by decide +kernel
theorem dX6_findStart_92 : decode cX6_findStart 92 = .ok (.iload_n 2, 1) := by decide +kernel
theorem dX6_findStart_93 : decode cX6_findStart 93 = .ok (.if_icmp .lt 32, 3) := by decide +kernel
theorem dX6_findStart_96 : decode cX6_findStart 96 = .ok (.aload_n 0, 1) := by decide +kernel
theorem dX6_findStart_97 : decode cX6_findStart 97 = .ok (.getfield 47, 3) := by decide +kernel
theorem dX6_findStart_100 : decode cX6_findStart 100 = .ok (.aload_n 0, 1) := by decide +kernel
theorem dX6_findStart_101 : decode cX6_findStart 101 = .ok (.getfield 43, 3) := by decide +kernel
theorem dX6_findStart_104 : decode cX6_findStart 104 = .ok (.iload 6, 2) := by decide +kernel
theorem dX6_findStart_106 : decode cX6_findStart 106 = .ok (.iload 7, 2) := by decide +kernel
theorem dX6_findStart_108 : decode cX6_findStart 108 = .ok (.invokevirtual 138, 3) := by decide +kernel
theorem dX6_findStart_111 : decode cX6_findStart 111 = .ok (.aload_n 0, 1) := by decide +kernel
theorem dX6_findStart_112 : decode cX6_findStart 112 = .ok (.aload_n 1, 1) := by decide +kernel
theorem dX6_findStart_113 : decode cX6_findStart 113 = .ok (.aload_n 0, 1) := by decide +kernel
theorem dX6_findStart_114 : decode cX6_findStart 114 = .ok (.getfield 47, 3) := by decide +kernel
theorem dX6_findStart_117 : decode cX6_findStart 117 = .ok (.invokevirtual 94, 3) := by decide +kernel
theorem dX6_findStart_120 : decode cX6_findStart 120 = .ok (.ifCond .eq 5, 3) := by decide +kernel
theorem dX6_findStart_123 : decode cX6_findStart 123 = .ok (.iconst 1, 1) := by decide +kernel
theorem dX6_findStart_124 : decode cX6_findStart 124 = .ok (.ireturn, 1) := by decide +kernel
theorem dX6_findStart_125 : decode cX6_findStart 125 = .ok (.iinc 6 (-1), 3) := by decide +kernel
theorem dX6_findStart_128 : decode cX6_findStart 128 = .ok (.goto (-68), 3) := by decide +kernel
theorem dX6_findStart_131 : decode cX6_findStart 131 = .ok (.iconst 0, 1) := by decide +kernel
theorem dX6_findStart_132 : decode cX6_findStart 132 = .ok (.ireturn, 1) := by decide +kernel
theorem dX6_addSegment_0 : decode cX6_addSegment 0 = .ok (.aload_n 0, 1) := by decide +kernel
theorem dX6_addSegment_1 : decode cX6_addSegment 1 = .ok (.getfield 53, 3) := by decide +kernel
theorem dX6_addSegment_4 : decode cX6_addSegment 4 = .ok (.sipush 600, 3) := by decide +kernel
theorem dX6_addSegment_7 : decode cX6_addSegment 7 = .ok (.if_icmp .lt 4, 3) := by decide +kernel
theorem dX6_addSegment_10 : decode cX6_addSegment 10 = .ok (.return_, 1) := by decide +kernel
theorem dX6_addSegment_11 : decode cX6_addSegment 11 = .ok (.aload_n 0, 1) := by decide +kernel
theorem dX6_addSegment_12 : decode cX6_addSegment 12 = .ok (.getfield 24, 3) := by decide +kernel
theorem dX6_addSegment_15 : decode cX6_addSegment 15 = .ok (.iconst 0, 1) := by decide +kernel
theorem dX6_addSegment_16 : decode cX6_addSegment 16 = .ok (.aaload, 1) := by decide +kernel
theorem dX6_addSegment_17 : decode cX6_addSegment 17 = .ok (.aload_n 0, 1) := by decide +kernel
theorem dX6_addSegment_18 : decode cX6_addSegment 18 = .ok (.getfield 53, 3) := by decide +kernel
theorem dX6_addSegment_21 : decode cX6_addSegment 21 = .ok (.aload_n 2, 1) := by decide +kernel
theorem dX6_addSegment_22 : decode cX6_addSegment 22 = .ok (.getfield 64, 3) := by decide +kernel
theorem dX6_addSegment_25 : decode cX6_addSegment 25 = .ok (.iastore, 1) := by decide +kernel
theorem dX6_addSegment_26 : decode cX6_addSegment 26 = .ok (.aload_n 0, 1) := by decide +kernel
theorem dX6_addSegment_27 : decode cX6_addSegment 27 = .ok (.getfield 24, 3) := by decide +kernel
theorem dX6_addSegment_30 : decode cX6_addSegment 30 = .ok (.bipush 7, 2) := by decide +kernel
theorem dX6_addSegment_32 : decode cX6_addSegment 32 = .ok (.aaload, 1) := by decide +kernel
theorem dX6_addSegment_33 : decode cX6_addSegment 33 = .ok (.aload_n 0, 1) := by decide +kernel
theorem dX6_addSegment_34 : decode cX6_addSegment 34 = .ok (.getfield 53, 3) := by decide +kernel
theorem dX6_addSegment_37 : decode cX6_addSegment 37 = .ok (.iload_n 3, 1) := by decide +kernel
theorem dX6_addSegment_38 : decode cX6_addSegment 38 = .ok (.iastore, 1) := by decide +kernel
theorem dX6_addSegment_39 : decode cX6_addSegment 39 = .ok (.iconst 0, 1) := by decide +kernel
theorem dX6_addSegment_40 : decode cX6_addSegment 40 = .ok (.istore 4, 2) := by decide +kernel
theorem dX6_addSegment_42 : decode cX6_addSegment 42 = .ok (.iload 4, 2) := by decide +kernel
theorem dX6_addSegment_44 : decode cX6_addSegment 44 = .ok (.iconst 2, 1) := by decide +kernel
theorem dX6_addSegment_45 : decode cX6_addSegment 45 = .ok (.if_icmp .ge 81, 3) := by decide +kernel
theorem dX6_addSegment_48 : decode cX6_addSegment 48 = .ok (.aload_n 0, 1) := by decide +kernel
theorem dX6_addSegment_49 : decode cX6_addSegment 49 = .ok (.getfield 24, 3) := by decide +kernel
theorem dX6_addSegment_52 : decode cX6_addSegment 52 = .ok (.getstatic 142, 3) := by decide +kernel
theorem dX6_addSegment_55 : decode cX6_addSegment 55 = .ok (.iload 4, 2) := by decide +kernel
theorem dX6_addSegment_57 : decode cX6_addSegment 57 = .ok (.iaload, 1) := by decide +kernel
theorem dX6_addSegment_58 : decode cX6_addSegment 58 = .ok (.aaload, 1) := by decide +kernel
theorem dX6_addSegment_59 : decode cX6_addSegment 59 = .ok (.aload_n 0, 1) := by decide +kernel
theorem dX6_addSegment_60 : decode cX6_addSegment 60 = .ok (.getfield 53, 3) := by decide +kernel
theorem dX6_addSegment_63 : decode cX6_addSegment 63 = .ok (.aload_n 2, 1) := by decide +kernel
theorem dX6_addSegment_64 : decode cX6_addSegment 64 = .ok (.getfield 145, 3) := by decide +kernel
theorem dX6_addSegment_67 : decode cX6_addSegment 67 = .ok (.iload 4, 2) := by decide +kernel
theorem dX6_addSegment_69 : decode cX6_addSegment 69 = .ok (.iaload, 1) := by decide +kernel
theorem dX6_addSegment_70 : decode cX6_addSegment 70 = .ok (.iastore, 1) := by decide +kernel
theorem dX6_addSegment_71 : decode cX6_addSegment 71 = .ok (.aload_n 0, 1) := by decide +kernel
theorem dX6_addSegment_72 : decode cX6_addSegment 72 = .ok (.getfield 24, 3) := by decide +kernel
theorem dX6_addSegment_75 : decode cX6_addSegment 75 = .ok (.getstatic 148, 3) := by decide +kernel
theorem dX6_addSegment_78 : decode cX6_addSegment 78 = .ok (.iload 4, 2) := by decide +kernel
theorem dX6_addSegment_80 : decode cX6_addSegment 80 = .ok (.iaload, 1) := by decide +kernel
theorem dX6_addSegment_81 : decode cX6_addSegment 81 = .ok (.aaload, 1) := by decide +kernel
theorem dX6_addSegment_82 : decode cX6_addSegment 82 = .ok (.aload_n 0, 1) := by decide +kernel
theorem dX6_addSegment_83 : decode cX6_addSegment 83 = .ok (.getfield 53, 3) := by decide +kernel
theorem dX6_addSegment_86 : decode cX6_addSegment 86 = .ok (.aload_n 2, 1) := by decide +kernel
theorem dX6_addSegment_87 : decode cX6_addSegment 87 = .ok (.getfield 126, 3) := by decide +kernel
theorem dX6_addSegment_90 : decode cX6_addSegment 90 = .ok (.iload 4, 2) := by decide +kernel
theorem dX6_addSegment_92 : decode cX6_addSegment 92 = .ok (.iaload, 1) := by decide +kernel
theorem dX6_addSegment_93 : decode cX6_addSegment 93 = .ok (.iastore, 1) := by decide +kernel
theorem dX6_addSegment_94 : decode cX6_addSegment 94 = .ok (.aload_n 0, 1) := by decide +kernel
theorem dX6_addSegment_95 : decode cX6_addSegment 95 = .ok (.getfield 24, 3) := by decide +kernel
theorem dX6_addSegment_98 : decode cX6_addSegment 98 = .ok (.getstatic 151, 3) := by decide +kernel
theorem dX6_addSegment_101 : decode cX6_addSegment 101 = .ok (.iload 4, 2) := by decide +kernel
theorem dX6_addSegment_103 : decode cX6_addSegment 103 = .ok (.iaload, 1) := by decide +kernel
theorem dX6_addSegment_104 : decode cX6_addSegment 104 = .ok (.aaload, 1) := by decide +kernel
theorem dX6_addSegment_105 : decode cX6_addSegment 105 = .ok (.aload_n 0, 1) := by decide +kernel
theorem dX6_addSegment_106 : decode cX6_addSegment 106 = .ok (.getfield 53, 3) := by decide +kernel
theorem dX6_addSegment_109 : decode cX6_addSegment 109 = .ok (.aload_n 0, 1) := by decide +kernel
theorem dX6_addSegment_110 : decode cX6_addSegment 110 = .ok (.getfield 33, 3) := by decide +kernel
theorem dX6_addSegment_113 : decode cX6_addSegment 113 = .ok (.getfield 129, 3) := by decide +kernel
theorem dX6_addSegment_116 : decode cX6_addSegment 116 = .ok (.iload 4, 2) := by decide +kernel
theorem dX6_addSegment_118 : decode cX6_addSegment 118 = .ok (.iaload, 1) := by decide +kernel
theorem dX6_addSegment_119 : decode cX6_addSegment 119 = .ok (.iastore, 1) := by decide +kernel
theorem dX6_addSegment_120 : decode cX6_addSegment 120 = .ok (.iinc 4 1, 3) := by decide +kernel
theorem dX6_addSegment_123 : decode cX6_addSegment 123 = .ok (.goto (-81), 3) := by decide +kernel
theorem dX6_addSegment_126 : decode cX6_addSegment 126 = .ok (.aload_n 0, 1) := by decide +kernel
theorem dX6_addSegment_127 : decode cX6_addSegment 127 = .ok (.dup, 1) := by decide +kernel
theorem dX6_addSegment_128 : decode cX6_addSegment 128 = .ok (.getfield 53, 3) := by decide +kernel
theorem dX6_addSegment_131 : decode cX6_addSegment 131 = .ok (.iconst 1, 1) := by decide +kernel
theorem dX6_addSegment_132 : decode cX6_addSegment 132 = .ok (.iadd, 1) := by decide +kernel
theorem dX6_addSegment_133 : decode cX6_addSegment 133 = .ok (.putfield 53, 3) := by decide +kernel
theorem dX6_addSegment_136 : decode cX6_addSegment 136 = .ok (.aload_n 0, 1) := by decide +kernel
theorem dX6_addSegment_137 : decode cX6_addSegment 137 = .ok (.getfield 33, 3) := by decide +kernel
theorem dX6_addSegment_140 : decode cX6_addSegment 140 = .ok (.aload_n 1, 1) := by decide +kernel
theorem dX6_addSegment_141 : decode cX6_addSegment 141 = .ok (.aload_n 2, 1) := by decide +kernel
theorem dX6_addSegment_142 : decode cX6_addSegment 142 = .ok (.invokevirtual 116, 3) := by decide +kernel
theorem dX6_addSegment_145 : decode cX6_addSegment 145 = .ok (.return_, 1) := by decide +kernel
theorem dX6_endSpread_0 : decode cX6_endSpread 0 = .ok (.iconst 0, 1) := by decide +kernel
theorem dX6_endSpread_1 : decode cX6_endSpread 1 = .ok (.istore_n 2, 1) := by decide +kernel
theorem dX6_endSpread_2 : decode cX6_endSpread 2 = .ok (.iload_n 2, 1) := by decide +kernel
theorem dX6_endSpread_3 : decode cX6_endSpread 3 = .ok (.iconst 2, 1) := by decide +kernel
theorem dX6_endSpread_4 : decode cX6_endSpread 4 = .ok (.if_icmp .ge 198, 3) := by decide +kernel
theorem dX6_endSpread_7 : decode cX6_endSpread 7 = .ok (.iconst 2, 1) := by decide +kernel
theorem dX6_endSpread_8 : decode cX6_endSpread 8 = .ok (.aload_n 0, 1) := by decide +kernel
theorem dX6_endSpread_9 : decode cX6_endSpread 9 = .ok (.getfield 50, 3) := by decide +kernel
theorem dX6_endSpread_12 : decode cX6_endSpread 12 = .ok (.imul, 1) := by decide +kernel
theorem dX6_endSpread_13 : decode cX6_endSpread 13 = .ok (.iload_n 2, 1) := by decide +kernel
theorem dX6_endSpread_14 : decode cX6_endSpread 14 = .ok (.iadd, 1) := by decide +kernel
theorem dX6_endSpread_15 : decode cX6_endSpread 15 = .ok (.istore_n 3, 1) := by decide +kernel
theorem dX6_endSpread_16 : decode cX6_endSpread 16 = .ok (.aload_n 0, 1) := by decide +kernel
theorem dX6_endSpread_17 : decode cX6_endSpread 17 = .ok (.getfield 33, 3) := by decide +kernel
theorem dX6_endSpread_20 : decode cX6_endSpread 20 = .ok (.iload_n 2, 1) := by decide +kernel
theorem dX6_endSpread_21 : decode cX6_endSpread 21 = .ok (.aload_n 1, 1) := by decide +kernel
theorem dX6_endSpread_22 : decode cX6_endSpread 22 = .ok (.aload_n 0, 1) := by decide +kernel
theorem dX6_endSpread_23 : decode cX6_endSpread 23 = .ok (.getfield 11, 3) := by decide +kernel
theorem dX6_endSpread_26 : decode cX6_endSpread 26 = .ok (.invokevirtual 154, 3) := by decide +kernel
theorem dX6_endSpread_29 : decode cX6_endSpread 29 = .ok (.istore 4, 2) := by decide +kernel
theorem dX6_endSpread_31 : decode cX6_endSpread 31 = .ok (.aload_n 0, 1) := by decide +kernel
theorem dX6_endSpread_32 : decode cX6_endSpread 32 = .ok (.getfield 33, 3) := by decide +kernel
theorem dX6_endSpread_35 : decode cX6_endSpread 35 = .ok (.iload_n 2, 1) := by decide +kernel
theorem dX6_endSpread_36 : decode cX6_endSpread 36 = .ok (.aload_n 1, 1) := by decide +kernel
theorem dX6_endSpread_37 : decode cX6_endSpread 37 = .ok (.getfield 120, 3) := by decide +kernel
theorem dX6_endSpread_40 : decode cX6_endSpread 40 = .ok (.iconst 2, 1) := by decide +kernel
theorem dX6_endSpread_41 : decode cX6_endSpread 41 = .ok (.iaload, 1) := by decide +kernel
theorem dX6_endSpread_42 : decode cX6_endSpread 42 = .ok (.iload 4, 2) := by decide +kernel
theorem dX6_endSpread_44 : decode cX6_endSpread 44 = .ok (.invokevirtual 158, 3) := by decide +kernel
theorem dX6_endSpread_47 : decode cX6_endSpread 47 = .ok (.istore 5, 2) := by decide +kernel
theorem dX6_endSpread_49 : decode cX6_endSpread 49 = .ok (.aload_n 0, 1) := by decide +kernel
theorem dX6_endSpread_50 : decode cX6_endSpread 50 = .ok (.getfield 27, 3) := by decide +kernel
theorem dX6_endSpread_53 : decode cX6_endSpread 53 = .ok (.iconst 0, 1) := by decide +kernel
theorem dX6_endSpread_54 : decode cX6_endSpread 54 = .ok (.aaload, 1) := by decide +kernel
theorem dX6_endSpread_55 : decode cX6_endSpread 55 = .ok (.iload_n 3, 1) := by decide +kernel
theorem dX6_endSpread_56 : decode cX6_endSpread 56 = .ok (.aload_n 0, 1) := by decide +kernel
theorem dX6_endSpread_57 : decode cX6_endSpread 57 = .ok (.getfield 33, 3) := by decide +kernel
theorem dX6_endSpread_60 : decode cX6_endSpread 60 = .ok (.getfield 162, 3) := by decide +kernel
theorem dX6_endSpread_63 : decode cX6_endSpread 63 = .ok (.iload_n 2, 1) := by decide +kernel
theorem dX6_endSpread_64 : decode cX6_endSpread 64 = .ok (.iaload, 1) := by decide +kernel
theorem dX6_endSpread_65 : decode cX6_endSpread 65 = .ok (.iastore, 1) := by decide +kernel
theorem dX6_endSpread_66 : decode cX6_endSpread 66 = .ok (.aload_n 0, 1) := by decide +kernel
theorem dX6_endSpread_67 : decode cX6_endSpread 67 = .ok (.getfield 27, 3) := by decide +kernel
theorem dX6_endSpread_70 : decode cX6_endSpread 70 = .ok (.iconst 1, 1) := by decide +kernel
theorem dX6_endSpread_71 : decode cX6_endSpread 71 = .ok (.aaload, 1) := by decide +kernel
theorem dX6_endSpread_72 : decode cX6_endSpread 72 = .ok (.iload_n 3, 1) := by decide +kernel
theorem dX6_endSpread_73 : decode cX6_endSpread 73 = .ok (.iload 5, 2) := by decide +kernel
theorem dX6_endSpread_75 : decode cX6_endSpread 75 = .ok (.iastore, 1) := by decide +kernel
theorem dX6_endSpread_76 : decode cX6_endSpread 76 = .ok (.aload_n 0, 1) := by decide +kernel
theorem dX6_endSpread_77 : decode cX6_endSpread 77 = .ok (.getfield 27, 3) := by decide +kernel
theorem dX6_endSpread_80 : decode cX6_endSpread 80 = .ok (.iconst 2, 1) := by decide +kernel
theorem dX6_endSpread_81 : decode cX6_endSpread 81 = .ok (.aaload, 1) := by decide +kernel
theorem dX6_endSpread_82 : decode cX6_endSpread 82 = .ok (.iload_n 3, 1) := by decide +kernel
theorem dX6_endSpread_83 : decode cX6_endSpread 83 = .ok (.iconst 0, 1) := by decide +kernel
theorem dX6_endSpread_84 : decode cX6_endSpread 84 = .ok (.aload_n 0, 1) := by decide +kernel
theorem dX6_endSpread_85 : decode cX6_endSpread 85 = .ok (.getfield 11, 3) := by decide +kernel
theorem dX6_endSpread_88 : decode cX6_endSpread 88 = .ok (.aload_n 0, 1) := by decide +kernel
theorem dX6_endSpread_89 : decode cX6_endSpread 89 = .ok (.getfield 33, 3) := by decide +kernel
theorem dX6_endSpread_92 : decode cX6_endSpread 92 = .ok (.getfield 162, 3) := by decide +kernel
theorem dX6_endSpread_95 : decode cX6_endSpread 95 = .ok (.iload_n 2, 1) := by decide +kernel
theorem dX6_endSpread_96 : decode cX6_endSpread 96 = .ok (.iaload, 1) := by decide +kernel
theorem dX6_endSpread_97 : decode cX6_endSpread 97 = .ok (.isub, 1) := by decide +kernel
theorem dX6_endSpread_98 : decode cX6_endSpread 98 = .ok (.iload 5, 2) := by decide +kernel
theorem dX6_endSpread_100 : decode cX6_endSpread 100 = .ok (.isub, 1) := by decide +kernel
theorem dX6_endSpread_101 : decode cX6_endSpread 101 = .ok (.invokestatic 165, 3) := by decide +kernel
theorem dX6_endSpread_104 : decode cX6_endSpread 104 = .ok (.iastore, 1) := by decide +kernel
theorem dX6_endSpread_105 : decode cX6_endSpread 105 = .ok (.aload_n 0, 1) := by decide +kernel
theorem dX6_endSpread_106 : decode cX6_endSpread 106 = .ok (.getfield 27, 3) := by decide +kernel
theorem dX6_endSpread_109 : decode cX6_endSpread 109 = .ok (.iconst 3, 1) := by decide +kernel
theorem dX6_endSpread_110 : decode cX6_endSpread 110 = .ok (.aaload, 1) := by decide +kernel
theorem dX6_endSpread_111 : decode cX6_endSpread 111 = .ok (.iload_n 3, 1) := by decide +kernel
theorem dX6_endSpread_112 : decode cX6_endSpread 112 = .ok (.aload_n 0, 1) := by decide +kernel
theorem dX6_endSpread_113 : decode cX6_endSpread 113 = .ok (.getfield 33, 3) := by decide +kernel
theorem dX6_endSpread_116 : decode cX6_endSpread 116 = .ok (.getfield 85, 3) := by decide +kernel
theorem dX6_endSpread_119 : decode cX6_endSpread 119 = .ok (.iload_n 2, 1) := by decide +kernel
theorem dX6_endSpread_120 : decode cX6_endSpread 120 = .ok (.iaload, 1) := by decide +kernel
theorem dX6_endSpread_121 : decode cX6_endSpread 121 = .ok (.iastore, 1) := by decide +kernel
theorem dX6_endSpread_122 : decode cX6_endSpread 122 = .ok (.aload_n 0, 1) := by decide +kernel
theorem dX6_endSpread_123 : decode cX6_endSpread 123 = .ok (.getfield 27, 3) := by decide +kernel
theorem dX6_endSpread_126 : decode cX6_endSpread 126 = .ok (.iconst 4, 1) := by decide +kernel
theorem dX6_endSpread_127 : decode cX6_endSpread 127 = .ok (.aaload, 1) := by decide +kernel
theorem dX6_endSpread_128 : decode cX6_endSpread 128 = .ok (.iload_n 3, 1) := by decide +kernel
theorem dX6_endSpread_129 : decode cX6_endSpread 129 = .ok (.iload 4, 2) := by decide +kernel
theorem dX6_endSpread_131 : decode cX6_endSpread 131 = .ok (.iastore, 1) := by decide +kernel
theorem dX6_endSpread_132 : decode cX6_endSpread 132 = .ok (.aload_n 0, 1) := by decide +kernel
theorem dX6_endSpread_133 : decode cX6_endSpread 133 = .ok (.getfield 27, 3) := by decide +kernel
theorem dX6_endSpread_136 : decode cX6_endSpread 136 = .ok (.iconst 5, 1) := by decide +kernel
theorem dX6_endSpread_137 : decode cX6_endSpread 137 = .ok (.aaload, 1) := by decide +kernel
theorem dX6_endSpread_138 : decode cX6_endSpread 138 = .ok (.iload_n 3, 1) := by decide +kernel
theorem dX6_endSpread_139 : decode cX6_endSpread 139 = .ok (.aload_n 0, 1) := by decide +kernel
theorem dX6_endSpread_140 : decode cX6_endSpread 140 = .ok (.getfield 33, 3) := by decide +kernel
theorem dX6_endSpread_143 : decode cX6_endSpread 143 = .ok (.getfield 168, 3) := by decide +kernel
theorem dX6_endSpread_146 : decode cX6_endSpread 146 = .ok (.iload_n 2, 1) := by decide +kernel
theorem dX6_endSpread_147 : decode cX6_endSpread 147 = .ok (.iaload, 1) := by decide +kernel
theorem dX6_endSpread_148 : decode cX6_endSpread 148 = .ok (.iastore, 1) := by decide +kernel
theorem dX6_endSpread_149 : decode cX6_endSpread 149 = .ok (.aload_n 0, 1) := by decide +kernel
theorem dX6_endSpread_150 : decode cX6_endSpread 150 = .ok (.getfield 27, 3) := by decide +kernel
theorem dX6_endSpread_153 : decode cX6_endSpread 153 = .ok (.bipush 6, 2) := by decide +kernel
theorem dX6_endSpread_155 : decode cX6_endSpread 155 = .ok (.aaload, 1) := by decide +kernel
theorem dX6_endSpread_156 : decode cX6_endSpread 156 = .ok (.iload_n 3, 1) := by decide +kernel
theorem dX6_endSpread_157 : decode cX6_endSpread 157 = .ok (.aload_n 0, 1) := by decide +kernel
theorem dX6_endSpread_158 : decode cX6_endSpread 158 = .ok (.getfield 33, 3) := by decide +kernel
theorem dX6_endSpread_161 : decode cX6_endSpread 161 = .ok (.getfield 171, 3) := by decide +kernel
theorem dX6_endSpread_164 : decode cX6_endSpread 164 = .ok (.iload_n 2, 1) := by decide +kernel
theorem dX6_endSpread_165 : decode cX6_endSpread 165 = .ok (.iaload, 1) := by decide +kernel
theorem dX6_endSpread_166 : decode cX6_endSpread 166 = .ok (.iastore, 1) := by decide +kernel
theorem dX6_endSpread_167 : decode cX6_endSpread 167 = .ok (.aload_n 0, 1) := by decide +kernel
theorem dX6_endSpread_168 : decode cX6_endSpread 168 = .ok (.getfield 33, 3) := by decide +kernel
theorem dX6_endSpread_171 : decode cX6_endSpread 171 = .ok (.iload_n 2, 1) := by decide +kernel
theorem dX6_endSpread_172 : decode cX6_endSpread 172 = .ok (.iload 4, 2) := by decide +kernel
theorem dX6_endSpread_174 : decode cX6_endSpread 174 = .ok (.aload_n 0, 1) := by decide +kernel
theorem dX6_endSpread_175 : decode cX6_endSpread 175 = .ok (.getfield 33, 3) := by decide +kernel
theorem dX6_endSpread_178 : decode cX6_endSpread 178 = .ok (.getfield 171, 3) := by decide +kernel
theorem dX6_endSpread_181 : decode cX6_endSpread 181 = .ok (.iload_n 2, 1) := by decide +kernel
theorem dX6_endSpread_182 : decode cX6_endSpread 182 = .ok (.iaload, 1) := by decide +kernel
theorem dX6_endSpread_183 : decode cX6_endSpread 183 = .ok (.aload_n 0, 1) := by decide +kernel
theorem dX6_endSpread_184 : decode cX6_endSpread 184 = .ok (.getfield 33, 3) := by decide +kernel
theorem dX6_endSpread_187 : decode cX6_endSpread 187 = .ok (.getfield 168, 3) := by decide +kernel
theorem dX6_endSpread_190 : decode cX6_endSpread 190 = .ok (.iload_n 2, 1) := by decide +kernel
theorem dX6_endSpread_191 : decode cX6_endSpread 191 = .ok (.iaload, 1) := by decide +kernel
theorem dX6_endSpread_192 : decode cX6_endSpread 192 = .ok (.iadd, 1) := by decide +kernel
theorem dX6_endSpread_193 : decode cX6_endSpread 193 = .ok (.invokevirtual 60, 3) := by decide +kernel
theorem dX6_endSpread_196 : decode cX6_endSpread 196 = .ok (.iinc 2 1, 3) := by decide +kernel
theorem dX6_endSpread_199 : decode cX6_endSpread 199 = .ok (.goto (-197), 3) := by decide +kernel
theorem dX6_endSpread_202 : decode cX6_endSpread 202 = .ok (.aload_n 0, 1) := by decide +kernel
theorem dX6_endSpread_203 : decode cX6_endSpread 203 = .ok (.dup, 1) := by decide +kernel
theorem dX6_endSpread_204 : decode cX6_endSpread 204 = .ok (.getfield 50, 3) := by decide +kernel
theorem dX6_endSpread_207 : decode cX6_endSpread 207 = .ok (.iconst 1, 1) := by decide +kernel
theorem dX6_endSpread_208 : decode cX6_endSpread 208 = .ok (.iadd, 1) := by decide +kernel
theorem dX6_endSpread_209 : decode cX6_endSpread 209 = .ok (.putfield 50, 3) := by decide +kernel
theorem dX6_endSpread_212 : decode cX6_endSpread 212 = .ok (.aload_n 0, 1) := by decide +kernel
theorem dX6_endSpread_213 : decode cX6_endSpread 213 = .ok (.getfield 15, 3) := by decide +kernel
theorem dX6_endSpread_216 : decode cX6_endSpread 216 = .ok (.aload_n 0, 1) := by decide +kernel
theorem dX6_endSpread_217 : decode cX6_endSpread 217 = .ok (.getfield 50, 3) := by decide +kernel
theorem dX6_endSpread_220 : decode cX6_endSpread 220 = .ok (.aload_n 0, 1) := by decide +kernel
theorem dX6_endSpread_221 : decode cX6_endSpread 221 = .ok (.getfield 53, 3) := by decide +kernel
theorem dX6_endSpread_224 : decode cX6_endSpread 224 = .ok (.iastore, 1) := by decide +kernel
theorem dX6_endSpread_225 : decode cX6_endSpread 225 = .ok (.return_, 1) := by decide +kernel
theorem dX6_has_0 : decode cX6_has 0 = .ok (.iload_n 1, 1) := by decide +kernel
theorem dX6_has_1 : decode cX6_has 1 = .ok (.iconst 0, 1) := by decide +kernel
theorem dX6_has_2 : decode cX6_has 2 = .ok (.aload_n 0, 1) := by decide +kernel
theorem dX6_has_3 : decode cX6_has 3 = .ok (.getfield 50, 3) := by decide +kernel
theorem dX6_has_6 : decode cX6_has 6 = .ok (.iconst 1, 1) := by decide +kernel
theorem dX6_has_7 : decode cX6_has 7 = .ok (.isub, 1) := by decide +kernel
theorem dX6_has_8 : decode cX6_has 8 = .ok (.invokestatic 174, 3) := by decide +kernel
theorem dX6_has_11 : decode cX6_has 11 = .ok (.ireturn, 1) := by decide +kernel
theorem dX6_segmentsOf_0 : decode cX6_segmentsOf 0 = .ok (.aload_n 0, 1) := by decide +kernel
theorem dX6_segmentsOf_1 : decode cX6_segmentsOf 1 = .ok (.getfield 15, 3) := by decide +kernel
theorem dX6_segmentsOf_4 : decode cX6_segmentsOf 4 = .ok (.iload_n 1, 1) := by decide +kernel
theorem dX6_segmentsOf_5 : decode cX6_segmentsOf 5 = .ok (.iconst 1, 1) := by decide +kernel
theorem dX6_segmentsOf_6 : decode cX6_segmentsOf 6 = .ok (.iadd, 1) := by decide +kernel
theorem dX6_segmentsOf_7 : decode cX6_segmentsOf 7 = .ok (.iaload, 1) := by decide +kernel
theorem dX6_segmentsOf_8 : decode cX6_segmentsOf 8 = .ok (.aload_n 0, 1) := by decide +kernel
theorem dX6_segmentsOf_9 : decode cX6_segmentsOf 9 = .ok (.getfield 15, 3) := by decide +kernel
theorem dX6_segmentsOf_12 : decode cX6_segmentsOf 12 = .ok (.iload_n 1, 1) := by decide +kernel
theorem dX6_segmentsOf_13 : decode cX6_segmentsOf 13 = .ok (.iaload, 1) := by decide +kernel
theorem dX6_segmentsOf_14 : decode cX6_segmentsOf 14 = .ok (.isub, 1) := by decide +kernel
theorem dX6_segmentsOf_15 : decode cX6_segmentsOf 15 = .ok (.ireturn, 1) := by decide +kernel
theorem dX6_segmentWith_0 : decode cX6_segmentWith 0 = .ok (.iconst 0, 1) := by decide +kernel
theorem dX6_segmentWith_1 : decode cX6_segmentWith 1 = .ok (.istore 4, 2) := by decide +kernel
theorem dX6_segmentWith_3 : decode cX6_segmentWith 3 = .ok (.iload 4, 2) := by decide +kernel
theorem dX6_segmentWith_5 : decode cX6_segmentWith 5 = .ok (.aload_n 0, 1) := by decide +kernel
theorem dX6_segmentWith_6 : decode cX6_segmentWith 6 = .ok (.getfield 53, 3) := by decide +kernel
theorem dX6_segmentWith_9 : decode cX6_segmentWith 9 = .ok (.iconst 1, 1) := by decide +kernel
theorem dX6_segmentWith_10 : decode cX6_segmentWith 10 = .ok (.isub, 1) := by decide +kernel
theorem dX6_segmentWith_11 : decode cX6_segmentWith 11 = .ok (.if_icmp .ge 21, 3) := by decide +kernel
theorem dX6_segmentWith_14 : decode cX6_segmentWith 14 = .ok (.aload_n 0, 1) := by decide +kernel
theorem dX6_segmentWith_15 : decode cX6_segmentWith 15 = .ok (.iload 4, 2) := by decide +kernel
theorem dX6_segmentWith_17 : decode cX6_segmentWith 17 = .ok (.iload_n 1, 1) := by decide +kernel
theorem dX6_segmentWith_18 : decode cX6_segmentWith 18 = .ok (.iload_n 2, 1) := by decide +kernel
theorem dX6_segmentWith_19 : decode cX6_segmentWith 19 = .ok (.iload_n 3, 1) := by decide +kernel
theorem dX6_segmentWith_20 : decode cX6_segmentWith 20 = .ok (.invokevirtual 177, 3) := by decide +kernel
theorem dX6_segmentWith_23 : decode cX6_segmentWith 23 = .ok (.ifCond .ne 9, 3) := by decide +kernel
theorem dX6_segmentWith_26 : decode cX6_segmentWith 26 = .ok (.iinc 4 1, 3) := by decide +kernel
theorem dX6_segmentWith_29 : decode cX6_segmentWith 29 = .ok (.goto (-26), 3) := by decide +kernel
theorem dX6_segmentWith_32 : decode cX6_segmentWith 32 = .ok (.iload 4, 2) := by decide +kernel
theorem dX6_segmentWith_34 : decode cX6_segmentWith 34 = .ok (.ireturn, 1) := by decide +kernel
theorem dX6_contains_0 : decode cX6_contains 0 = .ok (.iload 4, 2) := by decide +kernel
theorem dX6_contains_2 : decode cX6_contains 2 = .ok (.aload_n 0, 1) := by decide +kernel
theorem dX6_contains_3 : decode cX6_contains 3 = .ok (.getfield 24, 3) := by decide +kernel
theorem dX6_contains_6 : decode cX6_contains 6 = .ok (.getstatic 142, 3) := by decide +kernel
theorem dX6_contains_9 : decode cX6_contains 9 = .ok (.iload_n 3, 1) := by decide +kernel
theorem dX6_contains_10 : decode cX6_contains 10 = .ok (.iaload, 1) := by decide +kernel
theorem dX6_contains_11 : decode cX6_contains 11 = .ok (.aaload, 1) := by decide +kernel
theorem dX6_contains_12 : decode cX6_contains 12 = .ok (.iload_n 1, 1) := by decide +kernel
theorem dX6_contains_13 : decode cX6_contains 13 = .ok (.iaload, 1) := by decide +kernel
theorem dX6_contains_14 : decode cX6_contains 14 = .ok (.isub, 1) := by decide +kernel
theorem dX6_contains_15 : decode cX6_contains 15 = .ok (.istore 5, 2) := by decide +kernel
theorem dX6_contains_17 : decode cX6_contains 17 = .ok (.aload_n 0, 1) := by decide +kernel
theorem dX6_contains_18 : decode cX6_contains 18 = .ok (.getfield 24, 3) := by decide +kernel
theorem dX6_contains_21 : decode cX6_contains 21 = .ok (.iconst 0, 1) := by decide +kernel
theorem dX6_contains_22 : decode cX6_contains 22 = .ok (.aaload, 1) := by decide +kernel
theorem dX6_contains_23 : decode cX6_contains 23 = .ok (.iload_n 1, 1) := by decide +kernel
theorem dX6_contains_24 : decode cX6_contains 24 = .ok (.iaload, 1) := by decide +kernel
theorem dX6_contains_25 : decode cX6_contains 25 = .ok (.iload_n 2, 1) := by decide +kernel
theorem dX6_contains_26 : decode cX6_contains 26 = .ok (.if_icmp .ne 30, 3) := by decide +kernel
theorem dX6_contains_29 : decode cX6_contains 29 = .ok (.iload 5, 2) := by decide +kernel
theorem dX6_contains_31 : decode cX6_contains 31 = .ok (.iconst 0, 1) := by decide +kernel
theorem dX6_contains_32 : decode cX6_contains 32 = .ok (.aload_n 0, 1) := by decide +kernel
theorem dX6_contains_33 : decode cX6_contains 33 = .ok (.getfield 24, 3) := by decide +kernel
theorem dX6_contains_36 : decode cX6_contains 36 = .ok (.getstatic 148, 3) := by decide +kernel
theorem dX6_contains_39 : decode cX6_contains 39 = .ok (.iload_n 3, 1) := by decide +kernel
theorem dX6_contains_40 : decode cX6_contains 40 = .ok (.iaload, 1) := by decide +kernel
theorem dX6_contains_41 : decode cX6_contains 41 = .ok (.aaload, 1) := by decide +kernel
theorem dX6_contains_42 : decode cX6_contains 42 = .ok (.iload_n 1, 1) := by decide +kernel
theorem dX6_contains_43 : decode cX6_contains 43 = .ok (.iaload, 1) := by decide +kernel
theorem dX6_contains_44 : decode cX6_contains 44 = .ok (.iconst 1, 1) := by decide +kernel
theorem dX6_contains_45 : decode cX6_contains 45 = .ok (.isub, 1) := by decide +kernel
theorem dX6_contains_46 : decode cX6_contains 46 = .ok (.invokestatic 174, 3) := by decide +kernel
theorem dX6_contains_49 : decode cX6_contains 49 = .ok (.ifCond .eq 7, 3) := by decide +kernel
theorem dX6_contains_52 : decode cX6_contains 52 = .ok (.iconst 1, 1) := by decide +kernel
theorem dX6_contains_53 : decode cX6_contains 53 = .ok (.goto 4, 3) := by decide +kernel
theorem dX6_contains_56 : decode cX6_contains 56 = .ok (.iconst 0, 1) := by decide +kernel
theorem dX6_contains_57 : decode cX6_contains 57 = .ok (.ireturn, 1) := by decide +kernel
theorem dX6_spreadWith_0 : decode cX6_spreadWith 0 = .ok (.iconst 0, 1) := by decide +kernel
theorem dX6_spreadWith_1 : decode cX6_spreadWith 1 = .ok (.istore_n 2, 1) := by decide +kernel
theorem dX6_spreadWith_2 : decode cX6_spreadWith 2 = .ok (.iload_n 2, 1) := by decide +kernel
theorem dX6_spreadWith_3 : decode cX6_spreadWith 3 = .ok (.aload_n 0, 1) := by decide +kernel
theorem dX6_spreadWith_4 : decode cX6_spreadWith 4 = .ok (.getfield 50, 3) := by decide +kernel
theorem dX6_spreadWith_7 : decode cX6_spreadWith 7 = .ok (.iconst 1, 1) := by decide +kernel
theorem dX6_spreadWith_8 : decode cX6_spreadWith 8 = .ok (.isub, 1) := by decide +kernel
theorem dX6_spreadWith_9 : decode cX6_spreadWith 9 = .ok (.if_icmp .ge 21, 3) := by decide +kernel
theorem dX6_spreadWith_12 : decode cX6_spreadWith 12 = .ok (.aload_n 0, 1) := by decide +kernel
theorem dX6_spreadWith_13 : decode cX6_spreadWith 13 = .ok (.getfield 15, 3) := by decide +kernel
theorem dX6_spreadWith_16 : decode cX6_spreadWith 16 = .ok (.iload_n 2, 1) := by decide +kernel
theorem dX6_spreadWith_17 : decode cX6_spreadWith 17 = .ok (.iconst 1, 1) := by decide +kernel
theorem dX6_spreadWith_18 : decode cX6_spreadWith 18 = .ok (.iadd, 1) := by decide +kernel
theorem dX6_spreadWith_19 : decode cX6_spreadWith 19 = .ok (.iaload, 1) := by decide +kernel
theorem dX6_spreadWith_20 : decode cX6_spreadWith 20 = .ok (.iload_n 1, 1) := by decide +kernel
theorem dX6_spreadWith_21 : decode cX6_spreadWith 21 = .ok (.if_icmp .gt 9, 3) := by decide +kernel
theorem dX6_spreadWith_24 : decode cX6_spreadWith 24 = .ok (.iinc 2 1, 3) := by decide +kernel
theorem dX6_spreadWith_27 : decode cX6_spreadWith 27 = .ok (.goto (-25), 3) := by decide +kernel
theorem dX6_spreadWith_30 : decode cX6_spreadWith 30 = .ok (.iload_n 2, 1) := by decide +kernel
theorem dX6_spreadWith_31 : decode cX6_spreadWith 31 = .ok (.ireturn, 1) := by decide +kernel
theorem dX6_rowIn_0 : decode cX6_rowIn 0 = .ok (.aload_n 0, 1) := by decide +kernel
theorem dX6_rowIn_1 : decode cX6_rowIn 1 = .ok (.getfield 24, 3) := by decide +kernel
theorem dX6_rowIn_4 : decode cX6_rowIn 4 = .ok (.getstatic 151, 3) := by decide +kernel
theorem dX6_rowIn_7 : decode cX6_rowIn 7 = .ok (.iload_n 2, 1) := by decide +kernel
theorem dX6_rowIn_8 : decode cX6_rowIn 8 = .ok (.iaload, 1) := by decide +kernel
theorem dX6_rowIn_9 : decode cX6_rowIn 9 = .ok (.aaload, 1) := by decide +kernel
theorem dX6_rowIn_10 : decode cX6_rowIn 10 = .ok (.iload_n 1, 1) := by decide +kernel
theorem dX6_rowIn_11 : decode cX6_rowIn 11 = .ok (.iaload, 1) := by decide +kernel
theorem dX6_rowIn_12 : decode cX6_rowIn 12 = .ok (.iload_n 3, 1) := by decide +kernel
theorem dX6_rowIn_13 : decode cX6_rowIn 13 = .ok (.iadd, 1) := by decide +kernel
theorem dX6_rowIn_14 : decode cX6_rowIn 14 = .ok (.aload_n 0, 1) := by decide +kernel
theorem dX6_rowIn_15 : decode cX6_rowIn 15 = .ok (.getfield 24, 3) := by decide +kernel
theorem dX6_rowIn_18 : decode cX6_rowIn 18 = .ok (.getstatic 142, 3) := by decide +kernel
theorem dX6_rowIn_21 : decode cX6_rowIn 21 = .ok (.iload_n 2, 1) := by decide +kernel
theorem dX6_rowIn_22 : decode cX6_rowIn 22 = .ok (.iaload, 1) := by decide +kernel
theorem dX6_rowIn_23 : decode cX6_rowIn 23 = .ok (.aaload, 1) := by decide +kernel
theorem dX6_rowIn_24 : decode cX6_rowIn 24 = .ok (.iload_n 1, 1) := by decide +kernel
theorem dX6_rowIn_25 : decode cX6_rowIn 25 = .ok (.iaload, 1) := by decide +kernel
theorem dX6_rowIn_26 : decode cX6_rowIn 26 = .ok (.isub, 1) := by decide +kernel
theorem dX6_rowIn_27 : decode cX6_rowIn 27 = .ok (.ireturn, 1) := by decide +kernel
theorem dX6_textAt_0 : decode cX6_textAt 0 = .ok (.aload_n 0, 1) := by decide +kernel
theorem dX6_textAt_1 : decode cX6_textAt 1 = .ok (.getfield 15, 3) := by decide +kernel
theorem dX6_textAt_4 : decode cX6_textAt 4 = .ok (.iload_n 1, 1) := by decide +kernel
theorem dX6_textAt_5 : decode cX6_textAt 5 = .ok (.iaload, 1) := by decide +kernel
theorem dX6_textAt_6 : decode cX6_textAt 6 = .ok (.istore 4, 2) := by decide +kernel
theorem dX6_textAt_8 : decode cX6_textAt 8 = .ok (.iload 4, 2) := by decide +kernel
theorem dX6_textAt_10 : decode cX6_textAt 10 = .ok (.aload_n 0, 1) := by decide +kernel
theorem dX6_textAt_11 : decode cX6_textAt 11 = .ok (.getfield 15, 3) := by decide +kernel
theorem dX6_textAt_14 : decode cX6_textAt 14 = .ok (.iload_n 1, 1) := by decide +kernel
theorem dX6_textAt_15 : decode cX6_textAt 15 = .ok (.iconst 1, 1) := by decide +kernel
theorem dX6_textAt_16 : decode cX6_textAt 16 = .ok (.iadd, 1) := by decide +kernel
theorem dX6_textAt_17 : decode cX6_textAt 17 = .ok (.iaload, 1) := by decide +kernel
theorem dX6_textAt_18 : decode cX6_textAt 18 = .ok (.if_icmp .ge 88, 3) := by decide +kernel
theorem dX6_textAt_21 : decode cX6_textAt 21 = .ok (.iload_n 3, 1) := by decide +kernel
theorem dX6_textAt_22 : decode cX6_textAt 22 = .ok (.aload_n 0, 1) := by decide +kernel
theorem dX6_textAt_23 : decode cX6_textAt 23 = .ok (.getfield 24, 3) := by decide +kernel
theorem dX6_textAt_26 : decode cX6_textAt 26 = .ok (.getstatic 151, 3) := by decide +kernel
theorem dX6_textAt_29 : decode cX6_textAt 29 = .ok (.iload_n 2, 1) := by decide +kernel
theorem dX6_textAt_30 : decode cX6_textAt 30 = .ok (.iaload, 1) := by decide +kernel
theorem dX6_textAt_31 : decode cX6_textAt 31 = .ok (.aaload, 1) := by decide +kernel
theorem dX6_textAt_32 : decode cX6_textAt 32 = .ok (.iload 4, 2) := by decide +kernel
theorem dX6_textAt_34 : decode cX6_textAt 34 = .ok (.iaload, 1) := by decide +kernel
theorem dX6_textAt_35 : decode cX6_textAt 35 = .ok (.isub, 1) := by decide +kernel
theorem dX6_textAt_36 : decode cX6_textAt 36 = .ok (.istore 5, 2) := by decide +kernel
theorem dX6_textAt_38 : decode cX6_textAt 38 = .ok (.iload 5, 2) := by decide +kernel
theorem dX6_textAt_40 : decode cX6_textAt 40 = .ok (.iconst 0, 1) := by decide +kernel
theorem dX6_textAt_41 : decode cX6_textAt 41 = .ok (.aload_n 0, 1) := by decide +kernel
theorem dX6_textAt_42 : decode cX6_textAt 42 = .ok (.getfield 24, 3) := by decide +kernel
theorem dX6_textAt_45 : decode cX6_textAt 45 = .ok (.getstatic 148, 3) := by decide +kernel
theorem dX6_textAt_48 : decode cX6_textAt 48 = .ok (.iload_n 2, 1) := by decide +kernel
theorem dX6_textAt_49 : decode cX6_textAt 49 = .ok (.iaload, 1) := by decide +kernel
theorem dX6_textAt_50 : decode cX6_textAt 50 = .ok (.aaload, 1) := by decide +kernel
theorem dX6_textAt_51 : decode cX6_textAt 51 = .ok (.iload 4, 2) := by decide +kernel
theorem dX6_textAt_53 : decode cX6_textAt 53 = .ok (.iaload, 1) := by decide +kernel
theorem dX6_textAt_54 : decode cX6_textAt 54 = .ok (.iconst 1, 1) := by decide +kernel
theorem dX6_textAt_55 : decode cX6_textAt 55 = .ok (.isub, 1) := by decide +kernel
theorem dX6_textAt_56 : decode cX6_textAt 56 = .ok (.invokestatic 174, 3) := by decide +kernel
theorem dX6_textAt_59 : decode cX6_textAt 59 = .ok (.ifCond .eq 41, 3) := by decide +kernel
theorem dX6_textAt_62 : decode cX6_textAt 62 = .ok (.aload_n 0, 1) := by decide +kernel
theorem dX6_textAt_63 : decode cX6_textAt 63 = .ok (.getfield 24, 3) := by decide +kernel
theorem dX6_textAt_66 : decode cX6_textAt 66 = .ok (.getstatic 142, 3) := by decide +kernel
theorem dX6_textAt_69 : decode cX6_textAt 69 = .ok (.iload_n 2, 1) := by decide +kernel
theorem dX6_textAt_70 : decode cX6_textAt 70 = .ok (.iaload, 1) := by decide +kernel
theorem dX6_textAt_71 : decode cX6_textAt 71 = .ok (.aaload, 1) := by decide +kernel
theorem dX6_textAt_72 : decode cX6_textAt 72 = .ok (.iload 4, 2) := by decide +kernel
theorem dX6_textAt_74 : decode cX6_textAt 74 = .ok (.iaload, 1) := by decide +kernel
theorem dX6_textAt_75 : decode cX6_textAt 75 = .ok (.iload 5, 2) := by decide +kernel
theorem dX6_textAt_77 : decode cX6_textAt 77 = .ok (.iadd, 1) := by decide +kernel
theorem dX6_textAt_78 : decode cX6_textAt 78 = .ok (.istore 6, 2) := by decide +kernel
theorem dX6_textAt_80 : decode cX6_textAt 80 = .ok (.sipush 10000, 3) := by decide +kernel
theorem dX6_textAt_83 : decode cX6_textAt 83 = .ok (.bipush 100, 2) := by decide +kernel
theorem dX6_textAt_85 : decode cX6_textAt 85 = .ok (.aload_n 0, 1) := by decide +kernel
theorem dX6_textAt_86 : decode cX6_textAt 86 = .ok (.getfield 24, 3) := by decide +kernel
theorem dX6_textAt_89 : decode cX6_textAt 89 = .ok (.iconst 0, 1) := by decide +kernel
theorem dX6_textAt_90 : decode cX6_textAt 90 = .ok (.aaload, 1) := by decide +kernel
theorem dX6_textAt_91 : decode cX6_textAt 91 = .ok (.iload 4, 2) := by decide +kernel
theorem dX6_textAt_93 : decode cX6_textAt 93 = .ok (.iaload, 1) := by decide +kernel
theorem dX6_textAt_94 : decode cX6_textAt 94 = .ok (.imul, 1) := by decide +kernel
theorem dX6_textAt_95 : decode cX6_textAt 95 = .ok (.iadd, 1) := by decide +kernel
theorem dX6_textAt_96 : decode cX6_textAt 96 = .ok (.iload 6, 2) := by decide +kernel
theorem dX6_textAt_98 : decode cX6_textAt 98 = .ok (.iadd, 1) := by decide +kernel
theorem dX6_textAt_99 : decode cX6_textAt 99 = .ok (.ireturn, 1) := by decide +kernel
theorem dX6_textAt_100 : decode cX6_textAt 100 = .ok (.iinc 4 1, 3) := by decide +kernel
theorem dX6_textAt_103 : decode cX6_textAt 103 = .ok (.goto (-95), 3) := by decide +kernel
theorem dX6_textAt_106 : decode cX6_textAt 106 = .ok (.iconst 0, 1) := by decide +kernel
theorem dX6_textAt_107 : decode cX6_textAt 107 = .ok (.ireturn, 1) := by decide +kernel
theorem dX6_noteAt_0 : decode cX6_noteAt 0 = .ok (.iconst 2, 1) := by decide +kernel
theorem dX6_noteAt_1 : decode cX6_noteAt 1 = .ok (.iload_n 2, 1) := by decide +kernel
theorem dX6_noteAt_2 : decode cX6_noteAt 2 = .ok (.imul, 1) := by decide +kernel
theorem dX6_noteAt_3 : decode cX6_noteAt 3 = .ok (.iload_n 3, 1) := by decide +kernel
theorem dX6_noteAt_4 : decode cX6_noteAt 4 = .ok (.iadd, 1) := by decide +kernel
theorem dX6_noteAt_5 : decode cX6_noteAt 5 = .ok (.istore 5, 2) := by decide +kernel
theorem dX6_noteAt_7 : decode cX6_noteAt 7 = .ok (.aload_n 0, 1) := by decide +kernel
theorem dX6_noteAt_8 : decode cX6_noteAt 8 = .ok (.getfield 27, 3) := by decide +kernel
theorem dX6_noteAt_11 : decode cX6_noteAt 11 = .ok (.iconst 1, 1) := by decide +kernel
theorem dX6_noteAt_12 : decode cX6_noteAt 12 = .ok (.aaload, 1) := by decide +kernel
theorem dX6_noteAt_13 : decode cX6_noteAt 13 = .ok (.iload 5, 2) := by decide +kernel
theorem dX6_noteAt_15 : decode cX6_noteAt 15 = .ok (.iaload, 1) := by decide +kernel
theorem dX6_noteAt_16 : decode cX6_noteAt 16 = .ok (.istore 6, 2) := by decide +kernel
theorem dX6_noteAt_18 : decode cX6_noteAt 18 = .ok (.aload_n 0, 1) := by decide +kernel
theorem dX6_noteAt_19 : decode cX6_noteAt 19 = .ok (.getfield 11, 3) := by decide +kernel
theorem dX6_noteAt_22 : decode cX6_noteAt 22 = .ok (.iload 6, 2) := by decide +kernel
theorem dX6_noteAt_24 : decode cX6_noteAt 24 = .ok (.isub, 1) := by decide +kernel
theorem dX6_noteAt_25 : decode cX6_noteAt 25 = .ok (.aload_n 0, 1) := by decide +kernel
theorem dX6_noteAt_26 : decode cX6_noteAt 26 = .ok (.getfield 27, 3) := by decide +kernel
theorem dX6_noteAt_29 : decode cX6_noteAt 29 = .ok (.iconst 0, 1) := by decide +kernel
theorem dX6_noteAt_30 : decode cX6_noteAt 30 = .ok (.aaload, 1) := by decide +kernel
theorem dX6_noteAt_31 : decode cX6_noteAt 31 = .ok (.iload 5, 2) := by decide +kernel
theorem dX6_noteAt_33 : decode cX6_noteAt 33 = .ok (.iaload, 1) := by decide +kernel
theorem dX6_noteAt_34 : decode cX6_noteAt 34 = .ok (.invokestatic 165, 3) := by decide +kernel
theorem dX6_noteAt_37 : decode cX6_noteAt 37 = .ok (.istore 7, 2) := by decide +kernel
theorem dX6_noteAt_39 : decode cX6_noteAt 39 = .ok (.iload 4, 2) := by decide +kernel
theorem dX6_noteAt_41 : decode cX6_noteAt 41 = .ok (.iload 7, 2) := by decide +kernel
theorem dX6_noteAt_43 : decode cX6_noteAt 43 = .ok (.iload 7, 2) := by decide +kernel
theorem dX6_noteAt_45 : decode cX6_noteAt 45 = .ok (.iload 6, 2) := by decide +kernel
theorem dX6_noteAt_47 : decode cX6_noteAt 47 = .ok (.iadd, 1) := by decide +kernel
theorem dX6_noteAt_48 : decode cX6_noteAt 48 = .ok (.iconst 1, 1) := by decide +kernel
theorem dX6_noteAt_49 : decode cX6_noteAt 49 = .ok (.isub, 1) := by decide +kernel
theorem dX6_noteAt_50 : decode cX6_noteAt 50 = .ok (.invokestatic 174, 3) := by decide +kernel
theorem dX6_noteAt_53 : decode cX6_noteAt 53 = .ok (.ifCond .ne 5, 3) := by decide +kernel
theorem dX6_noteAt_56 : decode cX6_noteAt 56 = .ok (.iconst 0, 1) := by decide +kernel
theorem dX6_noteAt_57 : decode cX6_noteAt 57 = .ok (.ireturn, 1) := by decide +kernel
theorem dX6_noteAt_58 : decode cX6_noteAt 58 = .ok (.iload 4, 2) := by decide +kernel
theorem dX6_noteAt_60 : decode cX6_noteAt 60 = .ok (.iload 7, 2) := by decide +kernel
theorem dX6_noteAt_62 : decode cX6_noteAt 62 = .ok (.isub, 1) := by decide +kernel
theorem dX6_noteAt_63 : decode cX6_noteAt 63 = .ok (.aload_n 1, 1) := by decide +kernel
theorem dX6_noteAt_64 : decode cX6_noteAt 64 = .ok (.getfield 120, 3) := by decide +kernel
theorem dX6_noteAt_67 : decode cX6_noteAt 67 = .ok (.iconst 2, 1) := by decide +kernel
theorem dX6_noteAt_68 : decode cX6_noteAt 68 = .ok (.iaload, 1) := by decide +kernel
theorem dX6_noteAt_69 : decode cX6_noteAt 69 = .ok (.isub, 1) := by decide +kernel
theorem dX6_noteAt_70 : decode cX6_noteAt 70 = .ok (.istore 8, 2) := by decide +kernel
theorem dX6_noteAt_72 : decode cX6_noteAt 72 = .ok (.iload 8, 2) := by decide +kernel
theorem dX6_noteAt_74 : decode cX6_noteAt 74 = .ok (.ifCond .ge 9, 3) := by decide +kernel
theorem dX6_noteAt_77 : decode cX6_noteAt 77 = .ok (.sipush 30000, 3) := by decide +kernel
theorem dX6_noteAt_80 : decode cX6_noteAt 80 = .ok (.goto 16, 3) := by decide +kernel
theorem dX6_noteAt_83 : decode cX6_noteAt 83 = .ok (.aload_n 0, 1) := by decide +kernel
theorem dX6_noteAt_84 : decode cX6_noteAt 84 = .ok (.aload_n 1, 1) := by decide +kernel
theorem dX6_noteAt_85 : decode cX6_noteAt 85 = .ok (.iload_n 3, 1) := by decide +kernel
theorem dX6_noteAt_86 : decode cX6_noteAt 86 = .ok (.invokevirtual 181, 3) := by decide +kernel
theorem dX6_noteAt_89 : decode cX6_noteAt 89 = .ok (.iload 5, 2) := by decide +kernel
theorem dX6_noteAt_91 : decode cX6_noteAt 91 = .ok (.iload 8, 2) := by decide +kernel
theorem dX6_noteAt_93 : decode cX6_noteAt 93 = .ok (.invokevirtual 184, 3) := by decide +kernel
theorem dX6_noteAt_96 : decode cX6_noteAt 96 = .ok (.ireturn, 1) := by decide +kernel
theorem dX6_noteLine_0 : decode cX6_noteLine 0 = .ok (.aload_n 0, 1) := by decide +kernel
theorem dX6_noteLine_1 : decode cX6_noteLine 1 = .ok (.getfield 27, 3) := by decide +kernel
theorem dX6_noteLine_4 : decode cX6_noteLine 4 = .ok (.iconst 3, 1) := by decide +kernel
theorem dX6_noteLine_5 : decode cX6_noteLine 5 = .ok (.aaload, 1) := by decide +kernel
theorem dX6_noteLine_6 : decode cX6_noteLine 6 = .ok (.iload_n 2, 1) := by decide +kernel
theorem dX6_noteLine_7 : decode cX6_noteLine 7 = .ok (.iaload, 1) := by decide +kernel
theorem dX6_noteLine_8 : decode cX6_noteLine 8 = .ok (.istore 4, 2) := by decide +kernel
theorem dX6_noteLine_10 : decode cX6_noteLine 10 = .ok (.aload_n 0, 1) := by decide +kernel
theorem dX6_noteLine_11 : decode cX6_noteLine 11 = .ok (.getfield 27, 3) := by decide +kernel
theorem dX6_noteLine_14 : decode cX6_noteLine 14 = .ok (.bipush 6, 2) := by decide +kernel
theorem dX6_noteLine_16 : decode cX6_noteLine 16 = .ok (.aaload, 1) := by decide +kernel
theorem dX6_noteLine_17 : decode cX6_noteLine 17 = .ok (.iload_n 2, 1) := by decide +kernel
theorem dX6_noteLine_18 : decode cX6_noteLine 18 = .ok (.iaload, 1) := by decide +kernel
theorem dX6_noteLine_19 : decode cX6_noteLine 19 = .ok (.istore 5, 2) := by decide +kernel
theorem dX6_noteLine_21 : decode cX6_noteLine 21 = .ok (.iload_n 3, 1) := by decide +kernel
theorem dX6_noteLine_22 : decode cX6_noteLine 22 = .ok (.iload 4, 2) := by decide +kernel
theorem dX6_noteLine_24 : decode cX6_noteLine 24 = .ok (.if_icmp .ge 41, 3) := by decide +kernel
theorem dX6_noteLine_27 : decode cX6_noteLine 27 = .ok (.iload 5, 2) := by decide +kernel
theorem dX6_noteLine_29 : decode cX6_noteLine 29 = .ok (.ifCond .le 36, 3) := by decide +kernel
theorem dX6_noteLine_32 : decode cX6_noteLine 32 = .ok (.aload_n 1, 1) := by decide +kernel
theorem dX6_noteLine_33 : decode cX6_noteLine 33 = .ok (.getfield 188, 3) := by decide +kernel
theorem dX6_noteLine_36 : decode cX6_noteLine 36 = .ok (.iconst 2, 1) := by decide +kernel
theorem dX6_noteLine_37 : decode cX6_noteLine 37 = .ok (.aaload, 1) := by decide +kernel
theorem dX6_noteLine_38 : decode cX6_noteLine 38 = .ok (.iload 5, 2) := by decide +kernel
theorem dX6_noteLine_40 : decode cX6_noteLine 40 = .ok (.iconst 1, 1) := by decide +kernel
theorem dX6_noteLine_41 : decode cX6_noteLine 41 = .ok (.isub, 1) := by decide +kernel
theorem dX6_noteLine_42 : decode cX6_noteLine 42 = .ok (.iaload, 1) := by decide +kernel
theorem dX6_noteLine_43 : decode cX6_noteLine 43 = .ok (.iload 4, 2) := by decide +kernel
theorem dX6_noteLine_45 : decode cX6_noteLine 45 = .ok (.isub, 1) := by decide +kernel
theorem dX6_noteLine_46 : decode cX6_noteLine 46 = .ok (.istore 6, 2) := by decide +kernel
theorem dX6_noteLine_48 : decode cX6_noteLine 48 = .ok (.sipush 20000, 3) := by decide +kernel
theorem dX6_noteLine_51 : decode cX6_noteLine 51 = .ok (.bipush 100, 2) := by decide +kernel
theorem dX6_noteLine_53 : decode cX6_noteLine 53 = .ok (.iload 5, 2) := by decide +kernel
theorem dX6_noteLine_55 : decode cX6_noteLine 55 = .ok (.iconst 1, 1) := by decide +kernel
theorem dX6_noteLine_56 : decode cX6_noteLine 56 = .ok (.isub, 1) := by decide +kernel
theorem dX6_noteLine_57 : decode cX6_noteLine 57 = .ok (.imul, 1) := by decide +kernel
theorem dX6_noteLine_58 : decode cX6_noteLine 58 = .ok (.iadd, 1) := by decide +kernel
theorem dX6_noteLine_59 : decode cX6_noteLine 59 = .ok (.iload 6, 2) := by decide +kernel
theorem dX6_noteLine_61 : decode cX6_noteLine 61 = .ok (.iadd, 1) := by decide +kernel
theorem dX6_noteLine_62 : decode cX6_noteLine 62 = .ok (.iload_n 3, 1) := by decide +kernel
theorem dX6_noteLine_63 : decode cX6_noteLine 63 = .ok (.iadd, 1) := by decide +kernel
theorem dX6_noteLine_64 : decode cX6_noteLine 64 = .ok (.ireturn, 1) := by decide +kernel
theorem dX6_noteLine_65 : decode cX6_noteLine 65 = .ok (.iload_n 3, 1) := by decide +kernel
theorem dX6_noteLine_66 : decode cX6_noteLine 66 = .ok (.iload 4, 2) := by decide +kernel
theorem dX6_noteLine_68 : decode cX6_noteLine 68 = .ok (.isub, 1) := by decide +kernel
theorem dX6_noteLine_69 : decode cX6_noteLine 69 = .ok (.istore 6, 2) := by decide +kernel
theorem dX6_noteLine_71 : decode cX6_noteLine 71 = .ok (.iload 5, 2) := by decide +kernel
theorem dX6_noteLine_73 : decode cX6_noteLine 73 = .ok (.istore 7, 2) := by decide +kernel
theorem dX6_noteLine_75 : decode cX6_noteLine 75 = .ok (.iload 7, 2) := by decide +kernel
theorem dX6_noteLine_77 : decode cX6_noteLine 77 = .ok (.aload_n 1, 1) := by decide +kernel
theorem dX6_noteLine_78 : decode cX6_noteLine 78 = .ok (.getfield 193, 3) := by decide +kernel
theorem dX6_noteLine_81 : decode cX6_noteLine 81 = .ok (.if_icmp .ge 47, 3) := by decide +kernel
theorem dX6_noteLine_84 : decode cX6_noteLine 84 = .ok (.aload_n 1, 1) := by decide +kernel
theorem dX6_noteLine_85 : decode cX6_noteLine 85 = .ok (.getfield 188, 3) := by decide +kernel
theorem dX6_noteLine_88 : decode cX6_noteLine 88 = .ok (.iconst 2, 1) := by decide +kernel
theorem dX6_noteLine_89 : decode cX6_noteLine 89 = .ok (.aaload, 1) := by decide +kernel
theorem dX6_noteLine_90 : decode cX6_noteLine 90 = .ok (.iload 7, 2) := by decide +kernel
theorem dX6_noteLine_92 : decode cX6_noteLine 92 = .ok (.iaload, 1) := by decide +kernel
theorem dX6_noteLine_93 : decode cX6_noteLine 93 = .ok (.istore 8, 2) := by decide +kernel
theorem dX6_noteLine_95 : decode cX6_noteLine 95 = .ok (.iload 6, 2) := by decide +kernel
theorem dX6_noteLine_97 : decode cX6_noteLine 97 = .ok (.iload 8, 2) := by decide +kernel
theorem dX6_noteLine_99 : decode cX6_noteLine 99 = .ok (.if_icmp .ge 16, 3) := by decide +kernel
theorem dX6_noteLine_102 : decode cX6_noteLine 102 = .ok (.sipush 20000, 3) := by decide +kernel
theorem dX6_noteLine_105 : decode cX6_noteLine 105 = .ok (.bipush 100, 2) := by decide +kernel
theorem dX6_noteLine_107 : decode cX6_noteLine 107 = .ok (.iload 7, 2) := by decide +kernel
theorem dX6_noteLine_109 : decode cX6_noteLine 109 = .ok (.imul, 1) := by decide +kernel
theorem dX6_noteLine_110 : decode cX6_noteLine 110 = .ok (.iadd, 1) := by decide +kernel
theorem dX6_noteLine_111 : decode cX6_noteLine 111 = .ok (.iload 6, 2) := by decide +kernel
theorem dX6_noteLine_113 : decode cX6_noteLine 113 = .ok (.iadd, 1) := by decide +kernel
theorem dX6_noteLine_114 : decode cX6_noteLine 114 = .ok (.ireturn, 1) := by decide +kernel
theorem dX6_noteLine_115 : decode cX6_noteLine 115 = .ok (.iload 6, 2) := by decide +kernel
theorem dX6_noteLine_117 : decode cX6_noteLine 117 = .ok (.iload 8, 2) := by decide +kernel
theorem dX6_noteLine_119 : decode cX6_noteLine 119 = .ok (.isub, 1) := by decide +kernel
theorem dX6_noteLine_120 : decode cX6_noteLine 120 = .ok (.istore 6, 2) := by decide +kernel
theorem dX6_noteLine_122 : decode cX6_noteLine 122 = .ok (.iinc 7 1, 3) := by decide +kernel
theorem dX6_noteLine_125 : decode cX6_noteLine 125 = .ok (.goto (-50), 3) := by decide +kernel
theorem dX6_noteLine_128 : decode cX6_noteLine 128 = .ok (.iconst 0, 1) := by decide +kernel
theorem dX6_noteLine_129 : decode cX6_noteLine 129 = .ok (.ireturn, 1) := by decide +kernel
theorem dX6_blankSquares_0 : decode cX6_blankSquares 0 = .ok (.iconst 0, 1) := by decide +kernel
theorem dX6_blankSquares_1 : decode cX6_blankSquares 1 = .ok (.istore_n 1, 1) := by decide +kernel
theorem dX6_blankSquares_2 : decode cX6_blankSquares 2 = .ok (.iconst 0, 1) := by decide +kernel
theorem dX6_blankSquares_3 : decode cX6_blankSquares 3 = .ok (.istore_n 2, 1) := by decide +kernel
theorem dX6_blankSquares_4 : decode cX6_blankSquares 4 = .ok (.iload_n 2, 1) := by decide +kernel
theorem dX6_blankSquares_5 : decode cX6_blankSquares 5 = .ok (.iconst 2, 1) := by decide +kernel
theorem dX6_blankSquares_6 : decode cX6_blankSquares 6 = .ok (.aload_n 0, 1) := by decide +kernel
theorem dX6_blankSquares_7 : decode cX6_blankSquares 7 = .ok (.getfield 50, 3) := by decide +kernel
theorem dX6_blankSquares_10 : decode cX6_blankSquares 10 = .ok (.iconst 1, 1) := by decide +kernel
theorem dX6_blankSquares_11 : decode cX6_blankSquares 11 = .ok (.isub, 1) := by decide +kernel
theorem dX6_blankSquares_12 : decode cX6_blankSquares 12 = .ok (.imul, 1) := by decide +kernel
theorem dX6_blankSquares_13 : decode cX6_blankSquares 13 = .ok (.if_icmp .ge 29, 3) := by decide +kernel
theorem dX6_blankSquares_16 : decode cX6_blankSquares 16 = .ok (.iload_n 1, 1) := by decide +kernel
theorem dX6_blankSquares_17 : decode cX6_blankSquares 17 = .ok (.aload_n 0, 1) := by decide +kernel
theorem dX6_blankSquares_18 : decode cX6_blankSquares 18 = .ok (.getfield 27, 3) := by decide +kernel
theorem dX6_blankSquares_21 : decode cX6_blankSquares 21 = .ok (.iconst 2, 1) := by decide +kernel
theorem dX6_blankSquares_22 : decode cX6_blankSquares 22 = .ok (.aaload, 1) := by decide +kernel
theorem dX6_blankSquares_23 : decode cX6_blankSquares 23 = .ok (.iload_n 2, 1) := by decide +kernel
theorem dX6_blankSquares_24 : decode cX6_blankSquares 24 = .ok (.iaload, 1) := by decide +kernel
theorem dX6_blankSquares_25 : decode cX6_blankSquares 25 = .ok (.aload_n 0, 1) := by decide +kernel
theorem dX6_blankSquares_26 : decode cX6_blankSquares 26 = .ok (.getfield 27, 3) := by decide +kernel
theorem dX6_blankSquares_29 : decode cX6_blankSquares 29 = .ok (.iconst 2, 1) := by decide +kernel
theorem dX6_blankSquares_30 : decode cX6_blankSquares 30 = .ok (.aaload, 1) := by decide +kernel
theorem dX6_blankSquares_31 : decode cX6_blankSquares 31 = .ok (.iload_n 2, 1) := by decide +kernel
theorem dX6_blankSquares_32 : decode cX6_blankSquares 32 = .ok (.iaload, 1) := by decide +kernel
theorem dX6_blankSquares_33 : decode cX6_blankSquares 33 = .ok (.imul, 1) := by decide +kernel
theorem dX6_blankSquares_34 : decode cX6_blankSquares 34 = .ok (.iadd, 1) := by decide +kernel
theorem dX6_blankSquares_35 : decode cX6_blankSquares 35 = .ok (.istore_n 1, 1) := by decide +kernel
theorem dX6_blankSquares_36 : decode cX6_blankSquares 36 = .ok (.iinc 2 1, 3) := by decide +kernel
theorem dX6_blankSquares_39 : decode cX6_blankSquares 39 = .ok (.goto (-35), 3) := by decide +kernel
theorem dX6_blankSquares_42 : decode cX6_blankSquares 42 = .ok (.iload_n 1, 1) := by decide +kernel
theorem dX6_blankSquares_43 : decode cX6_blankSquares 43 = .ok (.ireturn, 1) := by decide +kernel
theorem dX7_init_0 : decode cX7_init 0 = .ok (.aload_n 0, 1) := by decide +kernel
theorem dX7_init_1 : decode cX7_init 1 = .ok (.invokespecial 1, 3) := by decide +kernel
theorem dX7_init_4 : decode cX7_init 4 = .ok (.aload_n 0, 1) := by decide +kernel
theorem dX7_init_5 : decode cX7_init 5 = .ok (.new 7, 3) := by decide +kernel
theorem dX7_init_8 : decode cX7_init 8 = .ok (.dup, 1) := by decide +kernel
theorem dX7_init_9 : decode cX7_init 9 = .ok (.invokespecial 9, 3) := by decide +kernel
theorem dX7_init_12 : decode cX7_init 12 = .ok (.putfield 10, 3) := by decide +kernel
theorem dX7_init_15 : decode cX7_init 15 = .ok (.aload_n 0, 1) := by decide +kernel
theorem dX7_init_16 : decode cX7_init 16 = .ok (.new 16, 3) := by decide +kernel
theorem dX7_init_19 : decode cX7_init 19 = .ok (.dup, 1) := by decide +kernel
theorem dX7_init_20 : decode cX7_init 20 = .ok (.invokespecial 18, 3) := by decide +kernel
theorem dX7_init_23 : decode cX7_init 23 = .ok (.putfield 19, 3) := by decide +kernel
theorem dX7_init_26 : decode cX7_init 26 = .ok (.aload_n 0, 1) := by decide +kernel
theorem dX7_init_27 : decode cX7_init 27 = .ok (.new 23, 3) := by decide +kernel
theorem dX7_init_30 : decode cX7_init 30 = .ok (.dup, 1) := by decide +kernel
theorem dX7_init_31 : decode cX7_init 31 = .ok (.invokespecial 25, 3) := by decide +kernel
theorem dX7_init_34 : decode cX7_init 34 = .ok (.putfield 26, 3) := by decide +kernel
theorem dX7_init_37 : decode cX7_init 37 = .ok (.aload_n 0, 1) := by decide +kernel
theorem dX7_init_38 : decode cX7_init 38 = .ok (.new 30, 3) := by decide +kernel
theorem dX7_init_41 : decode cX7_init 41 = .ok (.dup, 1) := by decide +kernel
theorem dX7_init_42 : decode cX7_init 42 = .ok (.invokespecial 32, 3) := by decide +kernel
theorem dX7_init_45 : decode cX7_init 45 = .ok (.putfield 33, 3) := by decide +kernel
theorem dX7_init_48 : decode cX7_init 48 = .ok (.return_, 1) := by decide +kernel
theorem dX7_insert_0 : decode cX7_insert 0 = .ok (.iload_n 1, 1) := by decide +kernel
theorem dX7_insert_1 : decode cX7_insert 1 = .ok (.iconst 0, 1) := by decide +kernel
theorem dX7_insert_2 : decode cX7_insert 2 = .ok (.aload_n 0, 1) := by decide +kernel
theorem dX7_insert_3 : decode cX7_insert 3 = .ok (.getfield 10, 3) := by decide +kernel
theorem dX7_insert_6 : decode cX7_insert 6 = .ok (.getfield 37, 3) := by decide +kernel
theorem dX7_insert_9 : decode cX7_insert 9 = .ok (.invokestatic 41, 3) := by decide +kernel
theorem dX7_insert_12 : decode cX7_insert 12 = .ok (.ifCond .eq 23, 3) := by decide +kernel
theorem dX7_insert_15 : decode cX7_insert 15 = .ok (.iload_n 2, 1) := by decide +kernel
theorem dX7_insert_16 : decode cX7_insert 16 = .ok (.iconst 1, 1) := by decide +kernel
theorem dX7_insert_17 : decode cX7_insert 17 = .ok (.bipush 30, 2) := by decide +kernel
theorem dX7_insert_19 : decode cX7_insert 19 = .ok (.invokestatic 41, 3) := by decide +kernel
theorem dX7_insert_22 : decode cX7_insert 22 = .ok (.ifCond .eq 13, 3) := by decide +kernel
theorem dX7_insert_25 : decode cX7_insert 25 = .ok (.iload_n 3, 1) := by decide +kernel
theorem dX7_insert_26 : decode cX7_insert 26 = .ok (.iconst 1, 1) := by decide +kernel
theorem dX7_insert_27 : decode cX7_insert 27 = .ok (.bipush 30, 2) := by decide +kernel
theorem dX7_insert_29 : decode cX7_insert 29 = .ok (.invokestatic 41, 3) := by decide +kernel
theorem dX7_insert_32 : decode cX7_insert 32 = .ok (.ifCond .ne 5, 3) := by decide +kernel
theorem dX7_insert_35 : decode cX7_insert 35 = .ok (.iconst (-1), 1) := by decide +kernel
theorem dX7_insert_36 : decode cX7_insert 36 = .ok (.ireturn, 1) := by decide +kernel
theorem dX7_insert_37 : decode cX7_insert 37 = .ok (.aload_n 0, 1) := by decide +kernel
theorem dX7_insert_38 : decode cX7_insert 38 = .ok (.getfield 10, 3) := by decide +kernel
theorem dX7_insert_41 : decode cX7_insert 41 = .ok (.getfield 37, 3) := by decide +kernel
theorem dX7_insert_44 : decode cX7_insert 44 = .ok (.bipush 20, 2) := by decide +kernel
theorem dX7_insert_46 : decode cX7_insert 46 = .ok (.if_icmp .lt 6, 3) := by decide +kernel
theorem dX7_insert_49 : decode cX7_insert 49 = .ok (.bipush (-3), 2) := by decide +kernel
theorem dX7_insert_51 : decode cX7_insert 51 = .ok (.ireturn, 1) := by decide +kernel
theorem dX7_insert_52 : decode cX7_insert 52 = .ok (.aload_n 0, 1) := by decide +kernel
theorem dX7_insert_53 : decode cX7_insert 53 = .ok (.invokevirtual 45, 3) := by decide +kernel
theorem dX7_insert_56 : decode cX7_insert 56 = .ok (.aload_n 0, 1) := by decide +kernel
theorem dX7_insert_57 : decode cX7_insert 57 = .ok (.getfield 10, 3) := by decide +kernel
theorem dX7_insert_60 : decode cX7_insert 60 = .ok (.iload_n 1, 1) := by decide +kernel
theorem dX7_insert_61 : decode cX7_insert 61 = .ok (.iload_n 2, 1) := by decide +kernel
theorem dX7_insert_62 : decode cX7_insert 62 = .ok (.iload_n 3, 1) := by decide +kernel
theorem dX7_insert_63 : decode cX7_insert 63 = .ok (.invokevirtual 48, 3) := by decide +kernel
theorem dX7_insert_66 : decode cX7_insert 66 = .ok (.aload_n 0, 1) := by decide +kernel
theorem dX7_insert_67 : decode cX7_insert 67 = .ok (.getfield 10, 3) := by decide +kernel
theorem dX7_insert_70 : decode cX7_insert 70 = .ok (.getfield 37, 3) := by decide +kernel
theorem dX7_insert_73 : decode cX7_insert 73 = .ok (.ireturn, 1) := by decide +kernel
theorem dX7_setFlag_0 : decode cX7_setFlag 0 = .ok (.aload_n 0, 1) := by decide +kernel
theorem dX7_setFlag_1 : decode cX7_setFlag 1 = .ok (.getfield 10, 3) := by decide +kernel
theorem dX7_setFlag_4 : decode cX7_setFlag 4 = .ok (.iload_n 1, 1) := by decide +kernel
theorem dX7_setFlag_5 : decode cX7_setFlag 5 = .ok (.invokevirtual 52, 3) := by decide +kernel
theorem dX7_setFlag_8 : decode cX7_setFlag 8 = .ok (.ifCond .eq 21, 3) := by decide +kernel
theorem dX7_setFlag_11 : decode cX7_setFlag 11 = .ok (.iload_n 2, 1) := by decide +kernel
theorem dX7_setFlag_12 : decode cX7_setFlag 12 = .ok (.iconst 0, 1) := by decide +kernel
theorem dX7_setFlag_13 : decode cX7_setFlag 13 = .ok (.iconst 1, 1) := by decide +kernel
theorem dX7_setFlag_14 : decode cX7_setFlag 14 = .ok (.invokestatic 41, 3) := by decide +kernel
theorem dX7_setFlag_17 : decode cX7_setFlag 17 = .ok (.ifCond .eq 12, 3) := by decide +kernel
theorem dX7_setFlag_20 : decode cX7_setFlag 20 = .ok (.iload_n 3, 1) := by decide +kernel
theorem dX7_setFlag_21 : decode cX7_setFlag 21 = .ok (.iconst 0, 1) := by decide +kernel
theorem dX7_setFlag_22 : decode cX7_setFlag 22 = .ok (.iconst 1, 1) := by decide +kernel
theorem dX7_setFlag_23 : decode cX7_setFlag 23 = .ok (.invokestatic 41, 3) := by decide +kernel
theorem dX7_setFlag_26 : decode cX7_setFlag 26 = .ok (.ifCond .ne 5, 3) := by decide +kernel
theorem dX7_setFlag_29 : decode cX7_setFlag 29 = .ok (.iconst (-1), 1) := by decide +kernel
theorem dX7_setFlag_30 : decode cX7_setFlag 30 = .ok (.ireturn, 1) := by decide +kernel
theorem dX7_setFlag_31 : decode cX7_setFlag 31 = .ok (.aload_n 0, 1) := by decide +kernel
theorem dX7_setFlag_32 : decode cX7_setFlag 32 = .ok (.iload_n 1, 1) := by decide +kernel
theorem dX7_setFlag_33 : decode cX7_setFlag 33 = .ok (.iconst 2, 1) := by decide +kernel
theorem dX7_setFlag_34 : decode cX7_setFlag 34 = .ok (.iload_n 2, 1) := by decide +kernel
theorem dX7_setFlag_35 : decode cX7_setFlag 35 = .ok (.iadd, 1) := by decide +kernel
theorem dX7_setFlag_36 : decode cX7_setFlag 36 = .ok (.iload_n 3, 1) := by decide +kernel
theorem dX7_setFlag_37 : decode cX7_setFlag 37 = .ok (.invokevirtual 73, 3) := by decide +kernel
theorem dX7_setFlag_40 : decode cX7_setFlag 40 = .ok (.ireturn, 1) := by decide +kernel
theorem dX7_addNote_0 : decode cX7_addNote 0 = .ok (.aload_n 0, 1) := by decide +kernel
theorem dX7_addNote_1 : decode cX7_addNote 1 = .ok (.getfield 10, 3) := by decide +kernel
theorem dX7_addNote_4 : decode cX7_addNote 4 = .ok (.iload_n 1, 1) := by decide +kernel
theorem dX7_addNote_5 : decode cX7_addNote 5 = .ok (.iload_n 2, 1) := by decide +kernel
theorem dX7_addNote_6 : decode cX7_addNote 6 = .ok (.iload_n 3, 1) := by decide +kernel
theorem dX7_addNote_7 : decode cX7_addNote 7 = .ok (.invokevirtual 77, 3) := by decide +kernel
theorem dX7_addNote_10 : decode cX7_addNote 10 = .ok (.ifCond .eq 14, 3) := by decide +kernel
theorem dX7_addNote_13 : decode cX7_addNote 13 = .ok (.iload 4, 2) := by decide +kernel
theorem dX7_addNote_15 : decode cX7_addNote 15 = .ok (.iconst 1, 1) := by decide +kernel
theorem dX7_addNote_16 : decode cX7_addNote 16 = .ok (.bipush 10, 2) := by decide +kernel
theorem dX7_addNote_18 : decode cX7_addNote 18 = .ok (.invokestatic 41, 3) := by decide +kernel
theorem dX7_addNote_21 : decode cX7_addNote 21 = .ok (.ifCond .ne 5, 3) := by decide +kernel
theorem dX7_addNote_24 : decode cX7_addNote 24 = .ok (.iconst (-1), 1) := by decide +kernel
theorem dX7_addNote_25 : decode cX7_addNote 25 = .ok (.ireturn, 1) := by decide +kernel
theorem dX7_addNote_26 : decode cX7_addNote 26 = .ok (.aload_n 0, 1) := by decide +kernel
theorem dX7_addNote_27 : decode cX7_addNote 27 = .ok (.getfield 10, 3) := by decide +kernel
theorem dX7_addNote_30 : decode cX7_addNote 30 = .ok (.getfield 80, 3) := by decide +kernel
theorem dX7_addNote_33 : decode cX7_addNote 33 = .ok (.getfield 84, 3) := by decide +kernel
theorem dX7_addNote_36 : decode cX7_addNote 36 = .ok (.aload_n 0, 1) := by decide +kernel
theorem dX7_addNote_37 : decode cX7_addNote 37 = .ok (.getfield 10, 3) := by decide +kernel
theorem dX7_addNote_40 : decode cX7_addNote 40 = .ok (.getfield 85, 3) := by decide +kernel
theorem dX7_addNote_43 : decode cX7_addNote 43 = .ok (.getfield 84, 3) := by decide +kernel
theorem dX7_addNote_46 : decode cX7_addNote 46 = .ok (.iadd, 1) := by decide +kernel
theorem dX7_addNote_47 : decode cX7_addNote 47 = .ok (.bipush 40, 2) := by decide +kernel
theorem dX7_addNote_49 : decode cX7_addNote 49 = .ok (.if_icmp .lt 6, 3) := by decide +kernel
theorem dX7_addNote_52 : decode cX7_addNote 52 = .ok (.bipush (-3), 2) := by decide +kernel
theorem dX7_addNote_54 : decode cX7_addNote 54 = .ok (.ireturn, 1) := by decide +kernel
theorem dX7_addNote_55 : decode cX7_addNote 55 = .ok (.aload_n 0, 1) := by decide +kernel
theorem dX7_addNote_56 : decode cX7_addNote 56 = .ok (.invokevirtual 45, 3) := by decide +kernel
theorem dX7_addNote_59 : decode cX7_addNote 59 = .ok (.aload_n 0, 1) := by decide +kernel
theorem dX7_addNote_60 : decode cX7_addNote 60 = .ok (.getfield 10, 3) := by decide +kernel
theorem dX7_addNote_63 : decode cX7_addNote 63 = .ok (.iload_n 2, 1) := by decide +kernel
theorem dX7_addNote_64 : decode cX7_addNote 64 = .ok (.invokevirtual 63, 3) := by decide +kernel
theorem dX7_addNote_67 : decode cX7_addNote 67 = .ok (.iload_n 1, 1) := by decide +kernel
theorem dX7_addNote_68 : decode cX7_addNote 68 = .ok (.iload_n 3, 1) := by decide +kernel
theorem dX7_addNote_69 : decode cX7_addNote 69 = .ok (.iload 4, 2) := by decide +kernel
theorem dX7_addNote_71 : decode cX7_addNote 71 = .ok (.invokevirtual 88, 3) := by decide +kernel
theorem dX7_addNote_74 : decode cX7_addNote 74 = .ok (.ireturn, 1) := by decide +kernel
theorem dX7_removeNote_0 : decode cX7_removeNote 0 = .ok (.iload_n 1, 1) := by decide +kernel
theorem dX7_removeNote_1 : decode cX7_removeNote 1 = .ok (.invokestatic 60, 3) := by decide +kernel
theorem dX7_removeNote_4 : decode cX7_removeNote 4 = .ok (.ifCond .eq 7, 3) := by decide +kernel
theorem dX7_removeNote_7 : decode cX7_removeNote 7 = .ok (.iload_n 2, 1) := by decide +kernel
theorem dX7_removeNote_8 : decode cX7_removeNote 8 = .ok (.ifCond .ge 5, 3) := by decide +kernel
theorem dX7_removeNote_11 : decode cX7_removeNote 11 = .ok (.iconst (-1), 1) := by decide +kernel
theorem dX7_removeNote_12 : decode cX7_removeNote 12 = .ok (.ireturn, 1) := by decide +kernel
theorem dX7_removeNote_13 : decode cX7_removeNote 13 = .ok (.aload_n 0, 1) := by decide +kernel
theorem dX7_removeNote_14 : decode cX7_removeNote 14 = .ok (.getfield 10, 3) := by decide +kernel
theorem dX7_removeNote_17 : decode cX7_removeNote 17 = .ok (.iload_n 1, 1) := by decide +kernel
theorem dX7_removeNote_18 : decode cX7_removeNote 18 = .ok (.invokevirtual 63, 3) := by decide +kernel
theorem dX7_removeNote_21 : decode cX7_removeNote 21 = .ok (.astore_n 3, 1) := by decide +kernel
theorem dX7_removeNote_22 : decode cX7_removeNote 22 = .ok (.iload_n 2, 1) := by decide +kernel
theorem dX7_removeNote_23 : decode cX7_removeNote 23 = .ok (.aload_n 3, 1) := by decide +kernel
theorem dX7_removeNote_24 : decode cX7_removeNote 24 = .ok (.getfield 84, 3) := by decide +kernel
theorem dX7_removeNote_27 : decode cX7_removeNote 27 = .ok (.if_icmp .lt 6, 3) := by decide +kernel
theorem dX7_removeNote_30 : decode cX7_removeNote 30 = .ok (.bipush (-4), 2) := by decide +kernel
theorem dX7_removeNote_32 : decode cX7_removeNote 32 = .ok (.ireturn, 1) := by decide +kernel
theorem dX7_removeNote_33 : decode cX7_removeNote 33 = .ok (.aload_n 0, 1) := by decide +kernel
theorem dX7_removeNote_34 : decode cX7_removeNote 34 = .ok (.invokevirtual 45, 3) := by decide +kernel
theorem dX7_removeNote_37 : decode cX7_removeNote 37 = .ok (.aload_n 3, 1) := by decide +kernel
theorem dX7_removeNote_38 : decode cX7_removeNote 38 = .ok (.iload_n 2, 1) := by decide +kernel
theorem dX7_removeNote_39 : decode cX7_removeNote 39 = .ok (.invokevirtual 91, 3) := by decide +kernel
theorem dX7_removeNote_42 : decode cX7_removeNote 42 = .ok (.aload_n 3, 1) := by decide +kernel
theorem dX7_removeNote_43 : decode cX7_removeNote 43 = .ok (.getfield 84, 3) := by decide +kernel
theorem dX7_removeNote_46 : decode cX7_removeNote 46 = .ok (.ireturn, 1) := by decide +kernel
theorem dX7_set_0 : decode cX7_set 0 = .ok (.iload_n 1, 1) := by decide +kernel
theorem dX7_set_1 : decode cX7_set 1 = .ok (.iconst 0, 1) := by decide +kernel
theorem dX7_set_2 : decode cX7_set 2 = .ok (.iconst 5, 1) := by decide +kernel
theorem dX7_set_3 : decode cX7_set 3 = .ok (.invokestatic 41, 3) := by decide +kernel
theorem dX7_set_6 : decode cX7_set 6 = .ok (.ifCond .eq 20, 3) := by decide +kernel
theorem dX7_set_9 : decode cX7_set 9 = .ok (.iload_n 2, 1) := by decide +kernel
theorem dX7_set_10 : decode cX7_set 10 = .ok (.getstatic 94, 3) := by decide +kernel
theorem dX7_set_13 : decode cX7_set 13 = .ok (.iload_n 1, 1) := by decide +kernel
theorem dX7_set_14 : decode cX7_set 14 = .ok (.iaload, 1) := by decide +kernel
theorem dX7_set_15 : decode cX7_set 15 = .ok (.getstatic 98, 3) := by decide +kernel
theorem dX7_set_18 : decode cX7_set 18 = .ok (.iload_n 1, 1) := by decide +kernel
theorem dX7_set_19 : decode cX7_set 19 = .ok (.iaload, 1) := by decide +kernel
theorem dX7_set_20 : decode cX7_set 20 = .ok (.invokestatic 41, 3) := by decide +kernel
theorem dX7_set_23 : decode cX7_set 23 = .ok (.ifCond .ne 5, 3) := by decide +kernel
theorem dX7_set_26 : decode cX7_set 26 = .ok (.iconst (-1), 1) := by decide +kernel
theorem dX7_set_27 : decode cX7_set 27 = .ok (.ireturn, 1) := by decide +kernel
theorem dX7_set_28 : decode cX7_set 28 = .ok (.aload_n 0, 1) := by decide +kernel
theorem dX7_set_29 : decode cX7_set 29 = .ok (.invokevirtual 45, 3) := by decide +kernel
theorem dX7_set_32 : decode cX7_set 32 = .ok (.aload_n 0, 1) := by decide +kernel
theorem dX7_set_33 : decode cX7_set 33 = .ok (.getfield 10, 3) := by decide +kernel
theorem dX7_set_36 : decode cX7_set 36 = .ok (.getfield 101, 3) := by decide +kernel
theorem dX7_set_39 : decode cX7_set 39 = .ok (.iload_n 1, 1) := by decide +kernel
theorem dX7_set_40 : decode cX7_set 40 = .ok (.iaload, 1) := by decide +kernel
theorem dX7_set_41 : decode cX7_set 41 = .ok (.istore_n 3, 1) := by decide +kernel
theorem dX7_set_42 : decode cX7_set 42 = .ok (.aload_n 0, 1) := by decide +kernel
theorem dX7_set_43 : decode cX7_set 43 = .ok (.getfield 10, 3) := by decide +kernel
theorem dX7_set_46 : decode cX7_set 46 = .ok (.getfield 101, 3) := by decide +kernel
theorem dX7_set_49 : decode cX7_set 49 = .ok (.iload_n 1, 1) := by decide +kernel
theorem dX7_set_50 : decode cX7_set 50 = .ok (.iload_n 2, 1) := by decide +kernel
theorem dX7_set_51 : decode cX7_set 51 = .ok (.iastore, 1) := by decide +kernel
theorem dX7_set_52 : decode cX7_set 52 = .ok (.iload_n 3, 1) := by decide +kernel
theorem dX7_set_53 : decode cX7_set 53 = .ok (.ireturn, 1) := by decide +kernel
theorem dX7_undo_0 : decode cX7_undo 0 = .ok (.aload_n 0, 1) := by decide +kernel
theorem dX7_undo_1 : decode cX7_undo 1 = .ok (.getfield 19, 3) := by decide +kernel
theorem dX7_undo_4 : decode cX7_undo 4 = .ok (.getfield 104, 3) := by decide +kernel
theorem dX7_undo_7 : decode cX7_undo 7 = .ok (.ifCond .gt 6, 3) := by decide +kernel
theorem dX7_undo_10 : decode cX7_undo 10 = .ok (.bipush (-2), 2) := by decide +kernel
theorem dX7_undo_12 : decode cX7_undo 12 = .ok (.ireturn, 1) := by decide +kernel
theorem dX7_undo_13 : decode cX7_undo 13 = .ok (.aload_n 0, 1) := by decide +kernel
theorem dX7_undo_14 : decode cX7_undo 14 = .ok (.getfield 19, 3) := by decide +kernel
theorem dX7_undo_17 : decode cX7_undo 17 = .ok (.aload_n 0, 1) := by decide +kernel
theorem dX7_undo_18 : decode cX7_undo 18 = .ok (.getfield 10, 3) := by decide +kernel
theorem dX7_undo_21 : decode cX7_undo 21 = .ok (.invokevirtual 105, 3) := by decide +kernel
theorem dX7_undo_24 : decode cX7_undo 24 = .ok (.aload_n 0, 1) := by decide +kernel
theorem dX7_undo_25 : decode cX7_undo 25 = .ok (.invokevirtual 109, 3) := by decide +kernel
theorem dX7_undo_28 : decode cX7_undo 28 = .ok (.aload_n 0, 1) := by decide +kernel
theorem dX7_undo_29 : decode cX7_undo 29 = .ok (.getfield 19, 3) := by decide +kernel
theorem dX7_undo_32 : decode cX7_undo 32 = .ok (.getfield 104, 3) := by decide +kernel
theorem dX7_undo_35 : decode cX7_undo 35 = .ok (.ireturn, 1) := by decide +kernel
theorem dX7_pairCount_0 : decode cX7_pairCount 0 = .ok (.aload_n 0, 1) := by decide +kernel
theorem dX7_pairCount_1 : decode cX7_pairCount 1 = .ok (.getfield 10, 3) := by decide +kernel
theorem dX7_pairCount_4 : decode cX7_pairCount 4 = .ok (.getfield 37, 3) := by decide +kernel
theorem dX7_pairCount_7 : decode cX7_pairCount 7 = .ok (.ireturn, 1) := by decide +kernel
theorem dX7_pairInfo_0 : decode cX7_pairInfo 0 = .ok (.aload_n 0, 1) := by decide +kernel
theorem dX7_pairInfo_1 : decode cX7_pairInfo 1 = .ok (.getfield 10, 3) := by decide +kernel
theorem dX7_pairInfo_4 : decode cX7_pairInfo 4 = .ok (.iload_n 1, 1) := by decide +kernel
theorem dX7_pairInfo_5 : decode cX7_pairInfo 5 = .ok (.invokevirtual 52, 3) := by decide +kernel
theorem dX7_pairInfo_8 : decode cX7_pairInfo 8 = .ok (.ifCond .eq 12, 3) := by decide +kernel
theorem dX7_pairInfo_11 : decode cX7_pairInfo 11 = .ok (.iload_n 2, 1) := by decide +kernel
theorem dX7_pairInfo_12 : decode cX7_pairInfo 12 = .ok (.iconst 0, 1) := by decide +kernel
theorem dX7_pairInfo_13 : decode cX7_pairInfo 13 = .ok (.iconst 3, 1) := by decide +kernel
theorem dX7_pairInfo_14 : decode cX7_pairInfo 14 = .ok (.invokestatic 41, 3) := by decide +kernel
theorem dX7_pairInfo_17 : decode cX7_pairInfo 17 = .ok (.ifCond .ne 5, 3) := by decide +kernel
theorem dX7_pairInfo_20 : decode cX7_pairInfo 20 = .ok (.iconst (-1), 1) := by decide +kernel
theorem dX7_pairInfo_21 : decode cX7_pairInfo 21 = .ok (.ireturn, 1) := by decide +kernel
theorem dX7_pairInfo_22 : decode cX7_pairInfo 22 = .ok (.aload_n 0, 1) := by decide +kernel
theorem dX7_pairInfo_23 : decode cX7_pairInfo 23 = .ok (.getfield 10, 3) := by decide +kernel
theorem dX7_pairInfo_26 : decode cX7_pairInfo 26 = .ok (.getfield 112, 3) := by decide +kernel
theorem dX7_pairInfo_29 : decode cX7_pairInfo 29 = .ok (.iload_n 2, 1) := by decide +kernel
theorem dX7_pairInfo_30 : decode cX7_pairInfo 30 = .ok (.aaload, 1) := by decide +kernel
theorem dX7_pairInfo_31 : decode cX7_pairInfo 31 = .ok (.iload_n 1, 1) := by decide +kernel
theorem dX7_pairInfo_32 : decode cX7_pairInfo 32 = .ok (.iaload, 1) := by decide +kernel
theorem dX7_pairInfo_33 : decode cX7_pairInfo 33 = .ok (.ireturn, 1) := by decide +kernel
theorem dX7_noteCount_0 : decode cX7_noteCount 0 = .ok (.iload_n 1, 1) := by decide +kernel
theorem dX7_noteCount_1 : decode cX7_noteCount 1 = .ok (.invokestatic 60, 3) := by decide +kernel
theorem dX7_noteCount_4 : decode cX7_noteCount 4 = .ok (.ifCond .eq 17, 3) := by decide +kernel
theorem dX7_noteCount_7 : decode cX7_noteCount 7 = .ok (.aload_n 0, 1) := by decide +kernel
theorem dX7_noteCount_8 : decode cX7_noteCount 8 = .ok (.getfield 10, 3) := by decide +kernel
theorem dX7_noteCount_11 : decode cX7_noteCount 11 = .ok (.iload_n 1, 1) := by decide +kernel
theorem dX7_noteCount_12 : decode cX7_noteCount 12 = .ok (.invokevirtual 63, 3) := by decide +kernel
theorem dX7_noteCount_15 : decode cX7_noteCount 15 = .ok (.getfield 84, 3) := by decide +kernel
theorem dX7_noteCount_18 : decode cX7_noteCount 18 = .ok (.goto 4, 3) := by decide +kernel
theorem dX7_noteCount_21 : decode cX7_noteCount 21 = .ok (.iconst (-1), 1) := by decide +kernel
theorem dX7_noteCount_22 : decode cX7_noteCount 22 = .ok (.ireturn, 1) := by decide +kernel
theorem dX7_noteInfo_0 : decode cX7_noteInfo 0 = .ok (.iload_n 1, 1) := by decide +kernel
theorem dX7_noteInfo_1 : decode cX7_noteInfo 1 = .ok (.invokestatic 60, 3) := by decide +kernel
theorem dX7_noteInfo_4 : decode cX7_noteInfo 4 = .ok (.ifCond .eq 16, 3) := by decide +kernel
theorem dX7_noteInfo_7 : decode cX7_noteInfo 7 = .ok (.iload_n 2, 1) := by decide +kernel
theorem dX7_noteInfo_8 : decode cX7_noteInfo 8 = .ok (.ifCond .lt 12, 3) := by decide +kernel
theorem dX7_noteInfo_11 : decode cX7_noteInfo 11 = .ok (.iload_n 3, 1) := by decide +kernel
theorem dX7_noteInfo_12 : decode cX7_noteInfo 12 = .ok (.iconst 0, 1) := by decide +kernel
theorem dX7_noteInfo_13 : decode cX7_noteInfo 13 = .ok (.iconst 2, 1) := by decide +kernel
theorem dX7_noteInfo_14 : decode cX7_noteInfo 14 = .ok (.invokestatic 41, 3) := by decide +kernel
theorem dX7_noteInfo_17 : decode cX7_noteInfo 17 = .ok (.ifCond .ne 5, 3) := by decide +kernel
theorem dX7_noteInfo_20 : decode cX7_noteInfo 20 = .ok (.iconst (-1), 1) := by decide +kernel
theorem dX7_noteInfo_21 : decode cX7_noteInfo 21 = .ok (.ireturn, 1) := by decide +kernel
theorem dX7_noteInfo_22 : decode cX7_noteInfo 22 = .ok (.aload_n 0, 1) := by decide +kernel
theorem dX7_noteInfo_23 : decode cX7_noteInfo 23 = .ok (.getfield 10, 3) := by decide +kernel
theorem dX7_noteInfo_26 : decode cX7_noteInfo 26 = .ok (.iload_n 1, 1) := by decide +kernel
theorem dX7_noteInfo_27 : decode cX7_noteInfo 27 = .ok (.invokevirtual 63, 3) := by decide +kernel
theorem dX7_noteInfo_30 : decode cX7_noteInfo 30 = .ok (.astore 4, 2) := by decide +kernel
theorem dX7_noteInfo_32 : decode cX7_noteInfo 32 = .ok (.iload_n 2, 1) := by decide +kernel
theorem dX7_noteInfo_33 : decode cX7_noteInfo 33 = .ok (.aload 4, 2) := by decide +kernel
theorem dX7_noteInfo_35 : decode cX7_noteInfo 35 = .ok (.getfield 84, 3) := by decide +kernel
theorem dX7_noteInfo_38 : decode cX7_noteInfo 38 = .ok (.if_icmp .ge 15, 3) := by decide +kernel
theorem dX7_noteInfo_41 : decode cX7_noteInfo 41 = .ok (.aload 4, 2) := by decide +kernel
theorem dX7_noteInfo_43 : decode cX7_noteInfo 43 = .ok (.getfield 116, 3) := by decide +kernel
theorem dX7_noteInfo_46 : decode cX7_noteInfo 46 = .ok (.iload_n 3, 1) := by decide +kernel
theorem dX7_noteInfo_47 : decode cX7_noteInfo 47 = .ok (.aaload, 1) := by decide +kernel
theorem dX7_noteInfo_48 : decode cX7_noteInfo 48 = .ok (.iload_n 2, 1) := by decide +kernel
theorem dX7_noteInfo_49 : decode cX7_noteInfo 49 = .ok (.iaload, 1) := by decide +kernel
theorem dX7_noteInfo_50 : decode cX7_noteInfo 50 = .ok (.goto 5, 3) := by decide +kernel
theorem dX7_noteInfo_53 : decode cX7_noteInfo 53 = .ok (.bipush (-4), 2) := by decide +kernel
theorem dX7_noteInfo_55 : decode cX7_noteInfo 55 = .ok (.ireturn, 1) := by decide +kernel
theorem dX7_spreadCount_0 : decode cX7_spreadCount 0 = .ok (.aload_n 0, 1) := by decide +kernel
theorem dX7_spreadCount_1 : decode cX7_spreadCount 1 = .ok (.getfield 26, 3) := by decide +kernel
theorem dX7_spreadCount_4 : decode cX7_spreadCount 4 = .ok (.aload_n 0, 1) := by decide +kernel
theorem dX7_spreadCount_5 : decode cX7_spreadCount 5 = .ok (.getfield 10, 3) := by decide +kernel
theorem dX7_spreadCount_8 : decode cX7_spreadCount 8 = .ok (.aload_n 0, 1) := by decide +kernel
theorem dX7_spreadCount_9 : decode cX7_spreadCount 9 = .ok (.getfield 10, 3) := by decide +kernel
theorem dX7_spreadCount_12 : decode cX7_spreadCount 12 = .ok (.getfield 101, 3) := by decide +kernel
theorem dX7_spreadCount_15 : decode cX7_spreadCount 15 = .ok (.iconst 0, 1) := by decide +kernel
theorem dX7_spreadCount_16 : decode cX7_spreadCount 16 = .ok (.iaload, 1) := by decide +kernel
theorem dX7_spreadCount_17 : decode cX7_spreadCount 17 = .ok (.invokevirtual 119, 3) := by decide +kernel
theorem dX7_spreadCount_20 : decode cX7_spreadCount 20 = .ok (.aload_n 0, 1) := by decide +kernel
theorem dX7_spreadCount_21 : decode cX7_spreadCount 21 = .ok (.getfield 26, 3) := by decide +kernel
theorem dX7_spreadCount_24 : decode cX7_spreadCount 24 = .ok (.getfield 123, 3) := by decide +kernel
theorem dX7_spreadCount_27 : decode cX7_spreadCount 27 = .ok (.ireturn, 1) := by decide +kernel
theorem dX7_segmentCount_0 : decode cX7_segmentCount 0 = .ok (.aload_n 0, 1) := by decide +kernel
theorem dX7_segmentCount_1 : decode cX7_segmentCount 1 = .ok (.getfield 26, 3) := by decide +kernel
theorem dX7_segmentCount_4 : decode cX7_segmentCount 4 = .ok (.aload_n 0, 1) := by decide +kernel
theorem dX7_segmentCount_5 : decode cX7_segmentCount 5 = .ok (.getfield 10, 3) := by decide +kernel
theorem dX7_segmentCount_8 : decode cX7_segmentCount 8 = .ok (.aload_n 0, 1) := by decide +kernel
theorem dX7_segmentCount_9 : decode cX7_segmentCount 9 = .ok (.getfield 10, 3) := by decide +kernel
theorem dX7_segmentCount_12 : decode cX7_segmentCount 12 = .ok (.getfield 101, 3) := by decide +kernel
theorem dX7_segmentCount_15 : decode cX7_segmentCount 15 = .ok (.iconst 0, 1) := by decide +kernel
theorem dX7_segmentCount_16 : decode cX7_segmentCount 16 = .ok (.iaload, 1) := by decide +kernel
theorem dX7_segmentCount_17 : decode cX7_segmentCount 17 = .ok (.invokevirtual 119, 3) := by decide +kernel
theorem dX7_segmentCount_20 : decode cX7_segmentCount 20 = .ok (.aload_n 0, 1) := by decide +kernel
theorem dX7_segmentCount_21 : decode cX7_segmentCount 21 = .ok (.getfield 26, 3) := by decide +kernel
theorem dX7_segmentCount_24 : decode cX7_segmentCount 24 = .ok (.iload_n 1, 1) := by decide +kernel
theorem dX7_segmentCount_25 : decode cX7_segmentCount 25 = .ok (.invokevirtual 124, 3) := by decide +kernel
theorem dX7_segmentCount_28 : decode cX7_segmentCount 28 = .ok (.ifCond .eq 14, 3) := by decide +kernel
theorem dX7_segmentCount_31 : decode cX7_segmentCount 31 = .ok (.aload_n 0, 1) := by decide +kernel
theorem dX7_segmentCount_32 : decode cX7_segmentCount 32 = .ok (.getfield 26, 3) := by decide +kernel
theorem dX7_segmentCount_35 : decode cX7_segmentCount 35 = .ok (.iload_n 1, 1) := by decide +kernel
theorem dX7_segmentCount_36 : decode cX7_segmentCount 36 = .ok (.invokevirtual 127, 3) := by decide +kernel
theorem dX7_segmentCount_39 : decode cX7_segmentCount 39 = .ok (.goto 4, 3) := by decide +kernel
theorem dX7_segmentCount_42 : decode cX7_segmentCount 42 = .ok (.iconst (-1), 1) := by decide +kernel
theorem dX7_segmentCount_43 : decode cX7_segmentCount 43 = .ok (.ireturn, 1) := by decide +kernel
theorem dX7_pageInfo_0 : decode cX7_pageInfo 0 = .ok (.aload_n 0, 1) := by decide +kernel
theorem dX7_pageInfo_1 : decode cX7_pageInfo 1 = .ok (.getfield 26, 3) := by decide +kernel
theorem dX7_pageInfo_4 : decode cX7_pageInfo 4 = .ok (.aload_n 0, 1) := by decide +kernel
theorem dX7_pageInfo_5 : decode cX7_pageInfo 5 = .ok (.getfield 10, 3) := by decide +kernel
theorem dX7_pageInfo_8 : decode cX7_pageInfo 8 = .ok (.aload_n 0, 1) := by decide +kernel
theorem dX7_pageInfo_9 : decode cX7_pageInfo 9 = .ok (.getfield 10, 3) := by decide +kernel
theorem dX7_pageInfo_12 : decode cX7_pageInfo 12 = .ok (.getfield 101, 3) := by decide +kernel
theorem dX7_pageInfo_15 : decode cX7_pageInfo 15 = .ok (.iconst 0, 1) := by decide +kernel
theorem dX7_pageInfo_16 : decode cX7_pageInfo 16 = .ok (.iaload, 1) := by decide +kernel
theorem dX7_pageInfo_17 : decode cX7_pageInfo 17 = .ok (.invokevirtual 119, 3) := by decide +kernel
theorem dX7_pageInfo_20 : decode cX7_pageInfo 20 = .ok (.aload_n 0, 1) := by decide +kernel
theorem dX7_pageInfo_21 : decode cX7_pageInfo 21 = .ok (.getfield 26, 3) := by decide +kernel
theorem dX7_pageInfo_24 : decode cX7_pageInfo 24 = .ok (.iload_n 1, 1) := by decide +kernel
theorem dX7_pageInfo_25 : decode cX7_pageInfo 25 = .ok (.invokevirtual 124, 3) := by decide +kernel
theorem dX7_pageInfo_28 : decode cX7_pageInfo 28 = .ok (.ifCond .eq 19, 3) := by decide +kernel
theorem dX7_pageInfo_31 : decode cX7_pageInfo 31 = .ok (.iload_n 2, 1) := by decide +kernel
theorem dX7_pageInfo_32 : decode cX7_pageInfo 32 = .ok (.invokestatic 60, 3) := by decide +kernel
theorem dX7_pageInfo_35 : decode cX7_pageInfo 35 = .ok (.ifCond .eq 12, 3) := by decide +kernel
theorem dX7_pageInfo_38 : decode cX7_pageInfo 38 = .ok (.iload_n 3, 1) := by decide +kernel
theorem dX7_pageInfo_39 : decode cX7_pageInfo 39 = .ok (.iconst 0, 1) := by decide +kernel
theorem dX7_pageInfo_40 : decode cX7_pageInfo 40 = .ok (.iconst 5, 1) := by decide +kernel
theorem dX7_pageInfo_41 : decode cX7_pageInfo 41 = .ok (.invokestatic 41, 3) := by decide +kernel
theorem dX7_pageInfo_44 : decode cX7_pageInfo 44 = .ok (.ifCond .ne 5, 3) := by decide +kernel
theorem dX7_pageInfo_47 : decode cX7_pageInfo 47 = .ok (.iconst (-1), 1) := by decide +kernel
theorem dX7_pageInfo_48 : decode cX7_pageInfo 48 = .ok (.ireturn, 1) := by decide +kernel
theorem dX7_pageInfo_49 : decode cX7_pageInfo 49 = .ok (.aload_n 0, 1) := by decide +kernel
theorem dX7_pageInfo_50 : decode cX7_pageInfo 50 = .ok (.getfield 26, 3) := by decide +kernel
theorem dX7_pageInfo_53 : decode cX7_pageInfo 53 = .ok (.getfield 137, 3) := by decide +kernel
theorem dX7_pageInfo_56 : decode cX7_pageInfo 56 = .ok (.iload_n 3, 1) := by decide +kernel
theorem dX7_pageInfo_57 : decode cX7_pageInfo 57 = .ok (.aaload, 1) := by decide +kernel
theorem dX7_pageInfo_58 : decode cX7_pageInfo 58 = .ok (.iconst 2, 1) := by decide +kernel
theorem dX7_pageInfo_59 : decode cX7_pageInfo 59 = .ok (.iload_n 1, 1) := by decide +kernel
theorem dX7_pageInfo_60 : decode cX7_pageInfo 60 = .ok (.imul, 1) := by decide +kernel
theorem dX7_pageInfo_61 : decode cX7_pageInfo 61 = .ok (.iload_n 2, 1) := by decide +kernel
theorem dX7_pageInfo_62 : decode cX7_pageInfo 62 = .ok (.iadd, 1) := by decide +kernel
theorem dX7_pageInfo_63 : decode cX7_pageInfo 63 = .ok (.iaload, 1) := by decide +kernel
theorem dX7_pageInfo_64 : decode cX7_pageInfo 64 = .ok (.ireturn, 1) := by decide +kernel
theorem dX7_isOverfull_0 : decode cX7_isOverfull 0 = .ok (.aload_n 0, 1) := by decide +kernel
theorem dX7_isOverfull_1 : decode cX7_isOverfull 1 = .ok (.getfield 26, 3) := by decide +kernel
theorem dX7_isOverfull_4 : decode cX7_isOverfull 4 = .ok (.aload_n 0, 1) := by decide +kernel
theorem dX7_isOverfull_5 : decode cX7_isOverfull 5 = .ok (.getfield 10, 3) := by decide +kernel
theorem dX7_isOverfull_8 : decode cX7_isOverfull 8 = .ok (.aload_n 0, 1) := by decide +kernel
theorem dX7_isOverfull_9 : decode cX7_isOverfull 9 = .ok (.getfield 10, 3) := by decide +kernel
theorem dX7_isOverfull_12 : decode cX7_isOverfull 12 = .ok (.getfield 101, 3) := by decide +kernel
theorem dX7_isOverfull_15 : decode cX7_isOverfull 15 = .ok (.iconst 0, 1) := by decide +kernel
theorem dX7_isOverfull_16 : decode cX7_isOverfull 16 = .ok (.iaload, 1) := by decide +kernel
theorem dX7_isOverfull_17 : decode cX7_isOverfull 17 = .ok (.invokevirtual 119, 3) := by decide +kernel
theorem dX7_isOverfull_20 : decode cX7_isOverfull 20 = .ok (.aload_n 0, 1) := by decide +kernel
theorem dX7_isOverfull_21 : decode cX7_isOverfull 21 = .ok (.getfield 26, 3) := by decide +kernel
theorem dX7_isOverfull_24 : decode cX7_isOverfull 24 = .ok (.iload_n 1, 1) := by decide +kernel
theorem dX7_isOverfull_25 : decode cX7_isOverfull 25 = .ok (.invokevirtual 124, 3) := by decide +kernel
theorem dX7_isOverfull_28 : decode cX7_isOverfull 28 = .ok (.ifCond .eq 15, 3) := by decide +kernel
theorem dX7_isOverfull_31 : decode cX7_isOverfull 31 = .ok (.aload_n 0, 1) := by decide +kernel
theorem dX7_isOverfull_32 : decode cX7_isOverfull 32 = .ok (.getfield 26, 3) := by decide +kernel
theorem dX7_isOverfull_35 : decode cX7_isOverfull 35 = .ok (.getfield 140, 3) := by decide +kernel
theorem dX7_isOverfull_38 : decode cX7_isOverfull 38 = .ok (.iload_n 1, 1) := by decide +kernel
theorem dX7_isOverfull_39 : decode cX7_isOverfull 39 = .ok (.iaload, 1) := by decide +kernel
theorem dX7_isOverfull_40 : decode cX7_isOverfull 40 = .ok (.goto 4, 3) := by decide +kernel
theorem dX7_isOverfull_43 : decode cX7_isOverfull 43 = .ok (.iconst (-1), 1) := by decide +kernel
theorem dX7_isOverfull_44 : decode cX7_isOverfull 44 = .ok (.ireturn, 1) := by decide +kernel
theorem dX7_spreadOf_0 : decode cX7_spreadOf 0 = .ok (.aload_n 0, 1) := by decide +kernel
theorem dX7_spreadOf_1 : decode cX7_spreadOf 1 = .ok (.getfield 10, 3) := by decide +kernel
theorem dX7_spreadOf_4 : decode cX7_spreadOf 4 = .ok (.iload_n 1, 1) := by decide +kernel
theorem dX7_spreadOf_5 : decode cX7_spreadOf 5 = .ok (.iload_n 2, 1) := by decide +kernel
theorem dX7_spreadOf_6 : decode cX7_spreadOf 6 = .ok (.iload_n 3, 1) := by decide +kernel
theorem dX7_spreadOf_7 : decode cX7_spreadOf 7 = .ok (.invokevirtual 77, 3) := by decide +kernel
theorem dX7_spreadOf_10 : decode cX7_spreadOf 10 = .ok (.ifCond .ne 5, 3) := by decide +kernel
theorem dX7_spreadOf_13 : decode cX7_spreadOf 13 = .ok (.iconst (-1), 1) := by decide +kernel
theorem dX7_spreadOf_14 : decode cX7_spreadOf 14 = .ok (.ireturn, 1) := by decide +kernel
theorem dX7_spreadOf_15 : decode cX7_spreadOf 15 = .ok (.aload_n 0, 1) := by decide +kernel
theorem dX7_spreadOf_16 : decode cX7_spreadOf 16 = .ok (.getfield 26, 3) := by decide +kernel
theorem dX7_spreadOf_19 : decode cX7_spreadOf 19 = .ok (.aload_n 0, 1) := by decide +kernel
theorem dX7_spreadOf_20 : decode cX7_spreadOf 20 = .ok (.getfield 10, 3) := by decide +kernel
theorem dX7_spreadOf_23 : decode cX7_spreadOf 23 = .ok (.aload_n 0, 1) := by decide +kernel
theorem dX7_spreadOf_24 : decode cX7_spreadOf 24 = .ok (.getfield 10, 3) := by decide +kernel
theorem dX7_spreadOf_27 : decode cX7_spreadOf 27 = .ok (.getfield 101, 3) := by decide +kernel
theorem dX7_spreadOf_30 : decode cX7_spreadOf 30 = .ok (.iconst 0, 1) := by decide +kernel
theorem dX7_spreadOf_31 : decode cX7_spreadOf 31 = .ok (.iaload, 1) := by decide +kernel
theorem dX7_spreadOf_32 : decode cX7_spreadOf 32 = .ok (.invokevirtual 119, 3) := by decide +kernel
theorem dX7_spreadOf_35 : decode cX7_spreadOf 35 = .ok (.aload_n 0, 1) := by decide +kernel
theorem dX7_spreadOf_36 : decode cX7_spreadOf 36 = .ok (.getfield 26, 3) := by decide +kernel
theorem dX7_spreadOf_39 : decode cX7_spreadOf 39 = .ok (.aload_n 0, 1) := by decide +kernel
theorem dX7_spreadOf_40 : decode cX7_spreadOf 40 = .ok (.getfield 26, 3) := by decide +kernel
theorem dX7_spreadOf_43 : decode cX7_spreadOf 43 = .ok (.iload_n 1, 1) := by decide +kernel
theorem dX7_spreadOf_44 : decode cX7_spreadOf 44 = .ok (.iload_n 2, 1) := by decide +kernel
theorem dX7_spreadOf_45 : decode cX7_spreadOf 45 = .ok (.iload_n 3, 1) := by decide +kernel
theorem dX7_spreadOf_46 : decode cX7_spreadOf 46 = .ok (.invokevirtual 143, 3) := by decide +kernel
theorem dX7_spreadOf_49 : decode cX7_spreadOf 49 = .ok (.invokevirtual 146, 3) := by decide +kernel
theorem dX7_spreadOf_52 : decode cX7_spreadOf 52 = .ok (.ireturn, 1) := by decide +kernel
theorem dX7_rowOf_0 : decode cX7_rowOf 0 = .ok (.aload_n 0, 1) := by decide +kernel
theorem dX7_rowOf_1 : decode cX7_rowOf 1 = .ok (.getfield 10, 3) := by decide +kernel
theorem dX7_rowOf_4 : decode cX7_rowOf 4 = .ok (.iload_n 1, 1) := by decide +kernel
theorem dX7_rowOf_5 : decode cX7_rowOf 5 = .ok (.iload_n 2, 1) := by decide +kernel
theorem dX7_rowOf_6 : decode cX7_rowOf 6 = .ok (.iload_n 3, 1) := by decide +kernel
theorem dX7_rowOf_7 : decode cX7_rowOf 7 = .ok (.invokevirtual 77, 3) := by decide +kernel
theorem dX7_rowOf_10 : decode cX7_rowOf 10 = .ok (.ifCond .ne 5, 3) := by decide +kernel
theorem dX7_rowOf_13 : decode cX7_rowOf 13 = .ok (.iconst (-1), 1) := by decide +kernel
theorem dX7_rowOf_14 : decode cX7_rowOf 14 = .ok (.ireturn, 1) := by decide +kernel
theorem dX7_rowOf_15 : decode cX7_rowOf 15 = .ok (.aload_n 0, 1) := by decide +kernel
theorem dX7_rowOf_16 : decode cX7_rowOf 16 = .ok (.getfield 26, 3) := by decide +kernel
theorem dX7_rowOf_19 : decode cX7_rowOf 19 = .ok (.aload_n 0, 1) := by decide +kernel
theorem dX7_rowOf_20 : decode cX7_rowOf 20 = .ok (.getfield 10, 3) := by decide +kernel
theorem dX7_rowOf_23 : decode cX7_rowOf 23 = .ok (.aload_n 0, 1) := by decide +kernel
theorem dX7_rowOf_24 : decode cX7_rowOf 24 = .ok (.getfield 10, 3) := by decide +kernel
theorem dX7_rowOf_27 : decode cX7_rowOf 27 = .ok (.getfield 101, 3) := by decide +kernel
theorem dX7_rowOf_30 : decode cX7_rowOf 30 = .ok (.iconst 0, 1) := by decide +kernel
theorem dX7_rowOf_31 : decode cX7_rowOf 31 = .ok (.iaload, 1) := by decide +kernel
theorem dX7_rowOf_32 : decode cX7_rowOf 32 = .ok (.invokevirtual 119, 3) := by decide +kernel
theorem dX7_rowOf_35 : decode cX7_rowOf 35 = .ok (.aload_n 0, 1) := by decide +kernel
theorem dX7_rowOf_36 : decode cX7_rowOf 36 = .ok (.getfield 26, 3) := by decide +kernel
theorem dX7_rowOf_39 : decode cX7_rowOf 39 = .ok (.aload_n 0, 1) := by decide +kernel
theorem dX7_rowOf_40 : decode cX7_rowOf 40 = .ok (.getfield 26, 3) := by decide +kernel
theorem dX7_rowOf_43 : decode cX7_rowOf 43 = .ok (.iload_n 1, 1) := by decide +kernel
theorem dX7_rowOf_44 : decode cX7_rowOf 44 = .ok (.iload_n 2, 1) := by decide +kernel
theorem dX7_rowOf_45 : decode cX7_rowOf 45 = .ok (.iload_n 3, 1) := by decide +kernel
theorem dX7_rowOf_46 : decode cX7_rowOf 46 = .ok (.invokevirtual 143, 3) := by decide +kernel
theorem dX7_rowOf_49 : decode cX7_rowOf 49 = .ok (.iload_n 2, 1) := by decide +kernel
theorem dX7_rowOf_50 : decode cX7_rowOf 50 = .ok (.iload_n 3, 1) := by decide +kernel
theorem dX7_rowOf_51 : decode cX7_rowOf 51 = .ok (.invokevirtual 149, 3) := by decide +kernel
theorem dX7_rowOf_54 : decode cX7_rowOf 54 = .ok (.ireturn, 1) := by decide +kernel
theorem dX7_shown_0 : decode cX7_shown 0 = .ok (.aload_n 0, 1) := by decide +kernel
theorem dX7_shown_1 : decode cX7_shown 1 = .ok (.getfield 26, 3) := by decide +kernel
theorem dX7_shown_4 : decode cX7_shown 4 = .ok (.aload_n 0, 1) := by decide +kernel
theorem dX7_shown_5 : decode cX7_shown 5 = .ok (.getfield 10, 3) := by decide +kernel
theorem dX7_shown_8 : decode cX7_shown 8 = .ok (.aload_n 0, 1) := by decide +kernel
theorem dX7_shown_9 : decode cX7_shown 9 = .ok (.getfield 10, 3) := by decide +kernel
theorem dX7_shown_12 : decode cX7_shown 12 = .ok (.getfield 101, 3) := by decide +kernel
theorem dX7_shown_15 : decode cX7_shown 15 = .ok (.iconst 0, 1) := by decide +kernel
theorem dX7_shown_16 : decode cX7_shown 16 = .ok (.iaload, 1) := by decide +kernel
theorem dX7_shown_17 : decode cX7_shown 17 = .ok (.invokevirtual 119, 3) := by decide +kernel
theorem dX7_shown_20 : decode cX7_shown 20 = .ok (.aload_n 0, 1) := by decide +kernel
theorem dX7_shown_21 : decode cX7_shown 21 = .ok (.getfield 26, 3) := by decide +kernel
theorem dX7_shown_24 : decode cX7_shown 24 = .ok (.iload_n 1, 1) := by decide +kernel
theorem dX7_shown_25 : decode cX7_shown 25 = .ok (.invokevirtual 124, 3) := by decide +kernel
theorem dX7_shown_28 : decode cX7_shown 28 = .ok (.ifCond .eq 20, 3) := by decide +kernel
theorem dX7_shown_31 : decode cX7_shown 31 = .ok (.iload_n 2, 1) := by decide +kernel
theorem dX7_shown_32 : decode cX7_shown 32 = .ok (.invokestatic 60, 3) := by decide +kernel
theorem dX7_shown_35 : decode cX7_shown 35 = .ok (.ifCond .eq 13, 3) := by decide +kernel
theorem dX7_shown_38 : decode cX7_shown 38 = .ok (.iload_n 3, 1) := by decide +kernel
theorem dX7_shown_39 : decode cX7_shown 39 = .ok (.iconst 0, 1) := by decide +kernel
theorem dX7_shown_40 : decode cX7_shown 40 = .ok (.bipush 99, 2) := by decide +kernel
theorem dX7_shown_42 : decode cX7_shown 42 = .ok (.invokestatic 41, 3) := by decide +kernel
theorem dX7_shown_45 : decode cX7_shown 45 = .ok (.ifCond .ne 5, 3) := by decide +kernel
theorem dX7_shown_48 : decode cX7_shown 48 = .ok (.iconst (-1), 1) := by decide +kernel
theorem dX7_shown_49 : decode cX7_shown 49 = .ok (.ireturn, 1) := by decide +kernel
theorem dX7_shown_50 : decode cX7_shown 50 = .ok (.aload_n 0, 1) := by decide +kernel
theorem dX7_shown_51 : decode cX7_shown 51 = .ok (.getfield 26, 3) := by decide +kernel
theorem dX7_shown_54 : decode cX7_shown 54 = .ok (.iload_n 1, 1) := by decide +kernel
theorem dX7_shown_55 : decode cX7_shown 55 = .ok (.iload_n 2, 1) := by decide +kernel
theorem dX7_shown_56 : decode cX7_shown 56 = .ok (.iload_n 3, 1) := by decide +kernel
theorem dX7_shown_57 : decode cX7_shown 57 = .ok (.invokevirtual 152, 3) := by decide +kernel
theorem dX7_shown_60 : decode cX7_shown 60 = .ok (.istore 4, 2) := by decide +kernel
theorem dX7_shown_62 : decode cX7_shown 62 = .ok (.iload 4, 2) := by decide +kernel
theorem dX7_shown_64 : decode cX7_shown 64 = .ok (.ifCond .eq 8, 3) := by decide +kernel
theorem dX7_shown_67 : decode cX7_shown 67 = .ok (.iload 4, 2) := by decide +kernel
theorem dX7_shown_69 : decode cX7_shown 69 = .ok (.goto 17, 3) := by decide +kernel
theorem dX7_shown_72 : decode cX7_shown 72 = .ok (.aload_n 0, 1) := by decide +kernel
theorem dX7_shown_73 : decode cX7_shown 73 = .ok (.getfield 26, 3) := by decide +kernel
theorem dX7_shown_76 : decode cX7_shown 76 = .ok (.aload_n 0, 1) := by decide +kernel
theorem dX7_shown_77 : decode cX7_shown 77 = .ok (.getfield 10, 3) := by decide +kernel
theorem dX7_shown_80 : decode cX7_shown 80 = .ok (.iload_n 1, 1) := by decide +kernel
theorem dX7_shown_81 : decode cX7_shown 81 = .ok (.iload_n 2, 1) := by decide +kernel
theorem dX7_shown_82 : decode cX7_shown 82 = .ok (.iload_n 3, 1) := by decide +kernel
theorem dX7_shown_83 : decode cX7_shown 83 = .ok (.invokevirtual 155, 3) := by decide +kernel
theorem dX7_shown_86 : decode cX7_shown 86 = .ok (.ireturn, 1) := by decide +kernel
theorem dX7_cost_0 : decode cX7_cost 0 = .ok (.aload_n 0, 1) := by decide +kernel
theorem dX7_cost_1 : decode cX7_cost 1 = .ok (.getfield 26, 3) := by decide +kernel
theorem dX7_cost_4 : decode cX7_cost 4 = .ok (.aload_n 0, 1) := by decide +kernel
theorem dX7_cost_5 : decode cX7_cost 5 = .ok (.getfield 10, 3) := by decide +kernel
theorem dX7_cost_8 : decode cX7_cost 8 = .ok (.aload_n 0, 1) := by decide +kernel
theorem dX7_cost_9 : decode cX7_cost 9 = .ok (.getfield 10, 3) := by decide +kernel
theorem dX7_cost_12 : decode cX7_cost 12 = .ok (.getfield 101, 3) := by decide +kernel
theorem dX7_cost_15 : decode cX7_cost 15 = .ok (.iconst 0, 1) := by decide +kernel
theorem dX7_cost_16 : decode cX7_cost 16 = .ok (.iaload, 1) := by decide +kernel
theorem dX7_cost_17 : decode cX7_cost 17 = .ok (.invokevirtual 119, 3) := by decide +kernel
theorem dX7_cost_20 : decode cX7_cost 20 = .ok (.aload_n 0, 1) := by decide +kernel
theorem dX7_cost_21 : decode cX7_cost 21 = .ok (.getfield 26, 3) := by decide +kernel
theorem dX7_cost_24 : decode cX7_cost 24 = .ok (.invokevirtual 159, 3) := by decide +kernel
theorem dX7_cost_27 : decode cX7_cost 27 = .ok (.ireturn, 1) := by decide +kernel
theorem dX7_bestCost_0 : decode cX7_bestCost 0 = .ok (.aload_n 0, 1) := by decide +kernel
theorem dX7_bestCost_1 : decode cX7_bestCost 1 = .ok (.getfield 33, 3) := by decide +kernel
theorem dX7_bestCost_4 : decode cX7_bestCost 4 = .ok (.aload_n 0, 1) := by decide +kernel
theorem dX7_bestCost_5 : decode cX7_bestCost 5 = .ok (.getfield 10, 3) := by decide +kernel
theorem dX7_bestCost_8 : decode cX7_bestCost 8 = .ok (.invokevirtual 163, 3) := by decide +kernel
theorem dX7_bestCost_11 : decode cX7_bestCost 11 = .ok (.aload_n 0, 1) := by decide +kernel
theorem dX7_bestCost_12 : decode cX7_bestCost 12 = .ok (.getfield 33, 3) := by decide +kernel
theorem dX7_bestCost_15 : decode cX7_bestCost 15 = .ok (.invokevirtual 166, 3) := by decide +kernel
theorem dX7_bestCost_18 : decode cX7_bestCost 18 = .ok (.ifCond .eq 15, 3) := by decide +kernel
theorem dX7_bestCost_21 : decode cX7_bestCost 21 = .ok (.aload_n 0, 1) := by decide +kernel
theorem dX7_bestCost_22 : decode cX7_bestCost 22 = .ok (.getfield 33, 3) := by decide +kernel
theorem dX7_bestCost_25 : decode cX7_bestCost 25 = .ok (.getfield 170, 3) := by decide +kernel
theorem dX7_bestCost_28 : decode cX7_bestCost 28 = .ok (.iconst 0, 1) := by decide +kernel
theorem dX7_bestCost_29 : decode cX7_bestCost 29 = .ok (.iaload, 1) := by decide +kernel
theorem dX7_bestCost_30 : decode cX7_bestCost 30 = .ok (.goto 5, 3) := by decide +kernel
theorem dX7_bestCost_33 : decode cX7_bestCost 33 = .ok (.bipush (-4), 2) := by decide +kernel
theorem dX7_bestCost_35 : decode cX7_bestCost 35 = .ok (.ireturn, 1) := by decide +kernel
theorem dX7_bestBreak_0 : decode cX7_bestBreak 0 = .ok (.iload_n 1, 1) := by decide +kernel
theorem dX7_bestBreak_1 : decode cX7_bestBreak 1 = .ok (.ifCond .ge 5, 3) := by decide +kernel
theorem dX7_bestBreak_4 : decode cX7_bestBreak 4 = .ok (.iconst (-1), 1) := by decide +kernel
theorem dX7_bestBreak_5 : decode cX7_bestBreak 5 = .ok (.ireturn, 1) := by decide +kernel
theorem dX7_bestBreak_6 : decode cX7_bestBreak 6 = .ok (.aload_n 0, 1) := by decide +kernel
theorem dX7_bestBreak_7 : decode cX7_bestBreak 7 = .ok (.getfield 33, 3) := by decide +kernel
theorem dX7_bestBreak_10 : decode cX7_bestBreak 10 = .ok (.aload_n 0, 1) := by decide +kernel
theorem dX7_bestBreak_11 : decode cX7_bestBreak 11 = .ok (.getfield 10, 3) := by decide +kernel
theorem dX7_bestBreak_14 : decode cX7_bestBreak 14 = .ok (.invokevirtual 163, 3) := by decide +kernel
theorem dX7_bestBreak_17 : decode cX7_bestBreak 17 = .ok (.iload_n 1, 1) := by decide +kernel
theorem dX7_bestBreak_18 : decode cX7_bestBreak 18 = .ok (.aload_n 0, 1) := by decide +kernel
theorem dX7_bestBreak_19 : decode cX7_bestBreak 19 = .ok (.getfield 33, 3) := by decide +kernel
theorem dX7_bestBreak_22 : decode cX7_bestBreak 22 = .ok (.getfield 173, 3) := by decide +kernel
theorem dX7_bestBreak_25 : decode cX7_bestBreak 25 = .ok (.if_icmp .ge 15, 3) := by decide +kernel
theorem dX7_bestBreak_28 : decode cX7_bestBreak 28 = .ok (.aload_n 0, 1) := by decide +kernel
theorem dX7_bestBreak_29 : decode cX7_bestBreak 29 = .ok (.getfield 33, 3) := by decide +kernel
theorem dX7_bestBreak_32 : decode cX7_bestBreak 32 = .ok (.getfield 176, 3) := by decide +kernel
theorem dX7_bestBreak_35 : decode cX7_bestBreak 35 = .ok (.iload_n 1, 1) := by decide +kernel
theorem dX7_bestBreak_36 : decode cX7_bestBreak 36 = .ok (.iaload, 1) := by decide +kernel
theorem dX7_bestBreak_37 : decode cX7_bestBreak 37 = .ok (.goto 5, 3) := by decide +kernel
theorem dX7_bestBreak_40 : decode cX7_bestBreak 40 = .ok (.bipush (-4), 2) := by decide +kernel
theorem dX7_bestBreak_42 : decode cX7_bestBreak 42 = .ok (.ireturn, 1) := by decide +kernel
theorem dX7_leastHeight_0 : decode cX7_leastHeight 0 = .ok (.iload_n 1, 1) := by decide +kernel
theorem dX7_leastHeight_1 : decode cX7_leastHeight 1 = .ok (.iconst 1, 1) := by decide +kernel
theorem dX7_leastHeight_2 : decode cX7_leastHeight 2 = .ok (.bipush 40, 2) := by decide +kernel
theorem dX7_leastHeight_4 : decode cX7_leastHeight 4 = .ok (.invokestatic 41, 3) := by decide +kernel
theorem dX7_leastHeight_7 : decode cX7_leastHeight 7 = .ok (.ifCond .ne 5, 3) := by decide +kernel
theorem dX7_leastHeight_10 : decode cX7_leastHeight 10 = .ok (.iconst (-1), 1) := by decide +kernel
theorem dX7_leastHeight_11 : decode cX7_leastHeight 11 = .ok (.ireturn, 1) := by decide +kernel
theorem dX7_leastHeight_12 : decode cX7_leastHeight 12 = .ok (.getstatic 94, 3) := by decide +kernel
theorem dX7_leastHeight_15 : decode cX7_leastHeight 15 = .ok (.iconst 0, 1) := by decide +kernel
theorem dX7_leastHeight_16 : decode cX7_leastHeight 16 = .ok (.iaload, 1) := by decide +kernel
theorem dX7_leastHeight_17 : decode cX7_leastHeight 17 = .ok (.istore_n 2, 1) := by decide +kernel
theorem dX7_leastHeight_18 : decode cX7_leastHeight 18 = .ok (.iload_n 2, 1) := by decide +kernel
theorem dX7_leastHeight_19 : decode cX7_leastHeight 19 = .ok (.getstatic 98, 3) := by decide +kernel
theorem dX7_leastHeight_22 : decode cX7_leastHeight 22 = .ok (.iconst 0, 1) := by decide +kernel
theorem dX7_leastHeight_23 : decode cX7_leastHeight 23 = .ok (.iaload, 1) := by decide +kernel
theorem dX7_leastHeight_24 : decode cX7_leastHeight 24 = .ok (.if_icmp .gt 34, 3) := by decide +kernel
theorem dX7_leastHeight_27 : decode cX7_leastHeight 27 = .ok (.aload_n 0, 1) := by decide +kernel
theorem dX7_leastHeight_28 : decode cX7_leastHeight 28 = .ok (.getfield 26, 3) := by decide +kernel
theorem dX7_leastHeight_31 : decode cX7_leastHeight 31 = .ok (.aload_n 0, 1) := by decide +kernel
theorem dX7_leastHeight_32 : decode cX7_leastHeight 32 = .ok (.getfield 10, 3) := by decide +kernel
theorem dX7_leastHeight_35 : decode cX7_leastHeight 35 = .ok (.iload_n 2, 1) := by decide +kernel
theorem dX7_leastHeight_36 : decode cX7_leastHeight 36 = .ok (.invokevirtual 119, 3) := by decide +kernel
theorem dX7_leastHeight_39 : decode cX7_leastHeight 39 = .ok (.aload_n 0, 1) := by decide +kernel
theorem dX7_leastHeight_40 : decode cX7_leastHeight 40 = .ok (.getfield 26, 3) := by decide +kernel
theorem dX7_leastHeight_43 : decode cX7_leastHeight 43 = .ok (.getfield 123, 3) := by decide +kernel
theorem dX7_leastHeight_46 : decode cX7_leastHeight 46 = .ok (.iload_n 1, 1) := by decide +kernel
theorem dX7_leastHeight_47 : decode cX7_leastHeight 47 = .ok (.if_icmp .gt 5, 3) := by decide +kernel
theorem dX7_leastHeight_50 : decode cX7_leastHeight 50 = .ok (.iload_n 2, 1) := by decide +kernel
theorem dX7_leastHeight_51 : decode cX7_leastHeight 51 = .ok (.ireturn, 1) := by decide +kernel
theorem dX7_leastHeight_52 : decode cX7_leastHeight 52 = .ok (.iinc 2 1, 3) := by decide +kernel
theorem dX7_leastHeight_55 : decode cX7_leastHeight 55 = .ok (.goto (-37), 3) := by decide +kernel
theorem dX7_leastHeight_58 : decode cX7_leastHeight 58 = .ok (.bipush (-4), 2) := by decide +kernel
theorem dX7_leastHeight_60 : decode cX7_leastHeight 60 = .ok (.ireturn, 1) := by decide +kernel
theorem dX7_changePair_0 : decode cX7_changePair 0 = .ok (.aload_n 0, 1) := by decide +kernel
theorem dX7_changePair_1 : decode cX7_changePair 1 = .ok (.invokevirtual 45, 3) := by decide +kernel
theorem dX7_changePair_4 : decode cX7_changePair 4 = .ok (.aload_n 0, 1) := by decide +kernel
theorem dX7_changePair_5 : decode cX7_changePair 5 = .ok (.getfield 10, 3) := by decide +kernel
theorem dX7_changePair_8 : decode cX7_changePair 8 = .ok (.getfield 112, 3) := by decide +kernel
theorem dX7_changePair_11 : decode cX7_changePair 11 = .ok (.iload_n 2, 1) := by decide +kernel
theorem dX7_changePair_12 : decode cX7_changePair 12 = .ok (.aaload, 1) := by decide +kernel
theorem dX7_changePair_13 : decode cX7_changePair 13 = .ok (.iload_n 1, 1) := by decide +kernel
theorem dX7_changePair_14 : decode cX7_changePair 14 = .ok (.iaload, 1) := by decide +kernel
theorem dX7_changePair_15 : decode cX7_changePair 15 = .ok (.istore 4, 2) := by decide +kernel
theorem dX7_changePair_17 : decode cX7_changePair 17 = .ok (.aload_n 0, 1) := by decide +kernel
theorem dX7_changePair_18 : decode cX7_changePair 18 = .ok (.getfield 10, 3) := by decide +kernel
theorem dX7_changePair_21 : decode cX7_changePair 21 = .ok (.getfield 112, 3) := by decide +kernel
theorem dX7_changePair_24 : decode cX7_changePair 24 = .ok (.iload_n 2, 1) := by decide +kernel
theorem dX7_changePair_25 : decode cX7_changePair 25 = .ok (.aaload, 1) := by decide +kernel
theorem dX7_changePair_26 : decode cX7_changePair 26 = .ok (.iload_n 1, 1) := by decide +kernel
theorem dX7_changePair_27 : decode cX7_changePair 27 = .ok (.iload_n 3, 1) := by decide +kernel
theorem dX7_changePair_28 : decode cX7_changePair 28 = .ok (.iastore, 1) := by decide +kernel
theorem dX7_changePair_29 : decode cX7_changePair 29 = .ok (.iload 4, 2) := by decide +kernel
theorem dX7_changePair_31 : decode cX7_changePair 31 = .ok (.ireturn, 1) := by decide +kernel
theorem dX7_beginChange_0 : decode cX7_beginChange 0 = .ok (.aload_n 0, 1) := by decide +kernel
theorem dX7_beginChange_1 : decode cX7_beginChange 1 = .ok (.getfield 19, 3) := by decide +kernel
theorem dX7_beginChange_4 : decode cX7_beginChange 4 = .ok (.aload_n 0, 1) := by decide +kernel
theorem dX7_beginChange_5 : decode cX7_beginChange 5 = .ok (.getfield 10, 3) := by decide +kernel
theorem dX7_beginChange_8 : decode cX7_beginChange 8 = .ok (.invokevirtual 185, 3) := by decide +kernel
theorem dX7_beginChange_11 : decode cX7_beginChange 11 = .ok (.aload_n 0, 1) := by decide +kernel
theorem dX7_beginChange_12 : decode cX7_beginChange 12 = .ok (.invokevirtual 109, 3) := by decide +kernel
theorem dX7_beginChange_15 : decode cX7_beginChange 15 = .ok (.return_, 1) := by decide +kernel
theorem dX7_forgetResults_0 : decode cX7_forgetResults 0 = .ok (.aload_n 0, 1) := by decide +kernel
theorem dX7_forgetResults_1 : decode cX7_forgetResults 1 = .ok (.getfield 26, 3) := by decide +kernel
theorem dX7_forgetResults_4 : decode cX7_forgetResults 4 = .ok (.iconst 0, 1) := by decide +kernel
theorem dX7_forgetResults_5 : decode cX7_forgetResults 5 = .ok (.putfield 188, 3) := by decide +kernel
theorem dX7_forgetResults_8 : decode cX7_forgetResults 8 = .ok (.aload_n 0, 1) := by decide +kernel
theorem dX7_forgetResults_9 : decode cX7_forgetResults 9 = .ok (.getfield 33, 3) := by decide +kernel
theorem dX7_forgetResults_12 : decode cX7_forgetResults 12 = .ok (.iconst 0, 1) := by decide +kernel
theorem dX7_forgetResults_13 : decode cX7_forgetResults 13 = .ok (.putfield 191, 3) := by decide +kernel
theorem dX7_forgetResults_16 : decode cX7_forgetResults 16 = .ok (.return_, 1) := by decide +kernel
theorem dX7_isIn_0 : decode cX7_isIn 0 = .ok (.iload_n 0, 1) := by decide +kernel
theorem dX7_isIn_1 : decode cX7_isIn 1 = .ok (.iload_n 1, 1) := by decide +kernel
theorem dX7_isIn_2 : decode cX7_isIn 2 = .ok (.if_icmp .lt 12, 3) := by decide +kernel
theorem dX7_isIn_5 : decode cX7_isIn 5 = .ok (.iload_n 0, 1) := by decide +kernel
theorem dX7_isIn_6 : decode cX7_isIn 6 = .ok (.iload_n 2, 1) := by decide +kernel
theorem dX7_isIn_7 : decode cX7_isIn 7 = .ok (.if_icmp .gt 7, 3) := by decide +kernel
theorem dX7_isIn_10 : decode cX7_isIn 10 = .ok (.iconst 1, 1) := by decide +kernel
theorem dX7_isIn_11 : decode cX7_isIn 11 = .ok (.goto 4, 3) := by decide +kernel
theorem dX7_isIn_14 : decode cX7_isIn 14 = .ok (.iconst 0, 1) := by decide +kernel
theorem dX7_isIn_15 : decode cX7_isIn 15 = .ok (.ireturn, 1) := by decide +kernel
theorem dX7_isSide_0 : decode cX7_isSide 0 = .ok (.iload_n 0, 1) := by decide +kernel
theorem dX7_isSide_1 : decode cX7_isSide 1 = .ok (.iconst 0, 1) := by decide +kernel
theorem dX7_isSide_2 : decode cX7_isSide 2 = .ok (.iconst 1, 1) := by decide +kernel
theorem dX7_isSide_3 : decode cX7_isSide 3 = .ok (.invokestatic 41, 3) := by decide +kernel
theorem dX7_isSide_6 : decode cX7_isSide 6 = .ok (.ireturn, 1) := by decide +kernel
theorem dX7_openPlace_0 : decode cX7_openPlace 0 = .ok (.iload_n 1, 1) := by decide +kernel
theorem dX7_openPlace_1 : decode cX7_openPlace 1 = .ok (.iconst 0, 1) := by decide +kernel
theorem dX7_openPlace_2 : decode cX7_openPlace 2 = .ok (.iload_n 2, 1) := by decide +kernel
theorem dX7_openPlace_3 : decode cX7_openPlace 3 = .ok (.invokestatic 41, 3) := by decide +kernel
theorem dX7_openPlace_6 : decode cX7_openPlace 6 = .ok (.ifCond .eq 21, 3) := by decide +kernel
theorem dX7_openPlace_9 : decode cX7_openPlace 9 = .ok (.iload_n 2, 1) := by decide +kernel
theorem dX7_openPlace_10 : decode cX7_openPlace 10 = .ok (.aload_n 0, 1) := by decide +kernel
theorem dX7_openPlace_11 : decode cX7_openPlace 11 = .ok (.arraylength, 1) := by decide +kernel
theorem dX7_openPlace_12 : decode cX7_openPlace 12 = .ok (.if_icmp .ge 15, 3) := by decide +kernel
theorem dX7_openPlace_15 : decode cX7_openPlace 15 = .ok (.aload_n 0, 1) := by decide +kernel
theorem dX7_openPlace_16 : decode cX7_openPlace 16 = .ok (.iload_n 1, 1) := by decide +kernel
theorem dX7_openPlace_17 : decode cX7_openPlace 17 = .ok (.aload_n 0, 1) := by decide +kernel
theorem dX7_openPlace_18 : decode cX7_openPlace 18 = .ok (.iload_n 1, 1) := by decide +kernel
theorem dX7_openPlace_19 : decode cX7_openPlace 19 = .ok (.iconst 1, 1) := by decide +kernel
theorem dX7_openPlace_20 : decode cX7_openPlace 20 = .ok (.iadd, 1) := by decide +kernel
theorem dX7_openPlace_21 : decode cX7_openPlace 21 = .ok (.iload_n 2, 1) := by decide +kernel
theorem dX7_openPlace_22 : decode cX7_openPlace 22 = .ok (.iload_n 1, 1) := by decide +kernel
theorem dX7_openPlace_23 : decode cX7_openPlace 23 = .ok (.isub, 1) := by decide +kernel
theorem dX7_openPlace_24 : decode cX7_openPlace 24 = .ok (.invokestatic 195, 3) := by decide +kernel
theorem dX7_openPlace_27 : decode cX7_openPlace 27 = .ok (.return_, 1) := by decide +kernel
theorem dX7_closePlace_0 : decode cX7_closePlace 0 = .ok (.iload_n 1, 1) := by decide +kernel
theorem dX7_closePlace_1 : decode cX7_closePlace 1 = .ok (.iconst 0, 1) := by decide +kernel
theorem dX7_closePlace_2 : decode cX7_closePlace 2 = .ok (.iload_n 2, 1) := by decide +kernel
theorem dX7_closePlace_3 : decode cX7_closePlace 3 = .ok (.iconst 1, 1) := by decide +kernel
theorem dX7_closePlace_4 : decode cX7_closePlace 4 = .ok (.isub, 1) := by decide +kernel
theorem dX7_closePlace_5 : decode cX7_closePlace 5 = .ok (.invokestatic 41, 3) := by decide +kernel
theorem dX7_closePlace_8 : decode cX7_closePlace 8 = .ok (.ifCond .eq 23, 3) := by decide +kernel
theorem dX7_closePlace_11 : decode cX7_closePlace 11 = .ok (.iload_n 2, 1) := by decide +kernel
theorem dX7_closePlace_12 : decode cX7_closePlace 12 = .ok (.aload_n 0, 1) := by decide +kernel
theorem dX7_closePlace_13 : decode cX7_closePlace 13 = .ok (.arraylength, 1) := by decide +kernel
theorem dX7_closePlace_14 : decode cX7_closePlace 14 = .ok (.if_icmp .gt 17, 3) := by decide +kernel
theorem dX7_closePlace_17 : decode cX7_closePlace 17 = .ok (.aload_n 0, 1) := by decide +kernel
theorem dX7_closePlace_18 : decode cX7_closePlace 18 = .ok (.iload_n 1, 1) := by decide +kernel
theorem dX7_closePlace_19 : decode cX7_closePlace 19 = .ok (.iconst 1, 1) := by decide +kernel
theorem dX7_closePlace_20 : decode cX7_closePlace 20 = .ok (.iadd, 1) := by decide +kernel
theorem dX7_closePlace_21 : decode cX7_closePlace 21 = .ok (.aload_n 0, 1) := by decide +kernel
theorem dX7_closePlace_22 : decode cX7_closePlace 22 = .ok (.iload_n 1, 1) := by decide +kernel
theorem dX7_closePlace_23 : decode cX7_closePlace 23 = .ok (.iload_n 2, 1) := by decide +kernel
theorem dX7_closePlace_24 : decode cX7_closePlace 24 = .ok (.iload_n 1, 1) := by decide +kernel
theorem dX7_closePlace_25 : decode cX7_closePlace 25 = .ok (.isub, 1) := by decide +kernel
theorem dX7_closePlace_26 : decode cX7_closePlace 26 = .ok (.iconst 1, 1) := by decide +kernel
theorem dX7_closePlace_27 : decode cX7_closePlace 27 = .ok (.isub, 1) := by decide +kernel
theorem dX7_closePlace_28 : decode cX7_closePlace 28 = .ok (.invokestatic 195, 3) := by decide +kernel
theorem dX7_closePlace_31 : decode cX7_closePlace 31 = .ok (.return_, 1) := by decide +kernel
theorem dX7_copyTable_0 : decode cX7_copyTable 0 = .ok (.iconst 0, 1) := by decide +kernel
theorem dX7_copyTable_1 : decode cX7_copyTable 1 = .ok (.istore_n 2, 1) := by decide +kernel
theorem dX7_copyTable_2 : decode cX7_copyTable 2 = .ok (.iload_n 2, 1) := by decide +kernel
theorem dX7_copyTable_3 : decode cX7_copyTable 3 = .ok (.aload_n 0, 1) := by decide +kernel
theorem dX7_copyTable_4 : decode cX7_copyTable 4 = .ok (.arraylength, 1) := by decide +kernel
theorem dX7_copyTable_5 : decode cX7_copyTable 5 = .ok (.if_icmp .ge 37, 3) := by decide +kernel
theorem dX7_copyTable_8 : decode cX7_copyTable 8 = .ok (.iload_n 2, 1) := by decide +kernel
theorem dX7_copyTable_9 : decode cX7_copyTable 9 = .ok (.aload_n 1, 1) := by decide +kernel
theorem dX7_copyTable_10 : decode cX7_copyTable 10 = .ok (.arraylength, 1) := by decide +kernel
theorem dX7_copyTable_11 : decode cX7_copyTable 11 = .ok (.if_icmp .ge 31, 3) := by decide +kernel
theorem dX7_copyTable_14 : decode cX7_copyTable 14 = .ok (.aload_n 0, 1) := by decide +kernel
theorem dX7_copyTable_15 : decode cX7_copyTable 15 = .ok (.iload_n 2, 1) := by decide +kernel
theorem dX7_copyTable_16 : decode cX7_copyTable 16 = .ok (.aaload, 1) := by decide +kernel
theorem dX7_copyTable_17 : decode cX7_copyTable 17 = .ok (.iconst 0, 1) := by decide +kernel
theorem dX7_copyTable_18 : decode cX7_copyTable 18 = .ok (.aload_n 1, 1) := by decide +kernel
theorem dX7_copyTable_19 : decode cX7_copyTable 19 = .ok (.iload_n 2, 1) := by decide +kernel
theorem dX7_copyTable_20 : decode cX7_copyTable 20 = .ok (.aaload, 1) := by decide +kernel
theorem dX7_copyTable_21 : decode cX7_copyTable 21 = .ok (.iconst 0, 1) := by decide +kernel
theorem dX7_copyTable_22 : decode cX7_copyTable 22 = .ok (.aload_n 0, 1) := by decide +kernel
theorem dX7_copyTable_23 : decode cX7_copyTable 23 = .ok (.iload_n 2, 1) := by decide +kernel
theorem dX7_copyTable_24 : decode cX7_copyTable 24 = .ok (.aaload, 1) := by decide +kernel
theorem dX7_copyTable_25 : decode cX7_copyTable 25 = .ok (.arraylength, 1) := by decide +kernel
theorem dX7_copyTable_26 : decode cX7_copyTable 26 = .ok (.aload_n 1, 1) := by decide +kernel
theorem dX7_copyTable_27 : decode cX7_copyTable 27 = .ok (.iload_n 2, 1) := by decide +kernel
theorem dX7_copyTable_28 : decode cX7_copyTable 28 = .ok (.aaload, 1) := by decide +kernel
theorem dX7_copyTable_29 : decode cX7_copyTable 29 = .ok (.arraylength, 1) := by decide +kernel
theorem dX7_copyTable_30 : decode cX7_copyTable 30 = .ok (.invokestatic 201, 3) := by decide +kernel
theorem dX7_copyTable_33 : decode cX7_copyTable 33 = .ok (.invokestatic 195, 3) := by decide +kernel
theorem dX7_copyTable_36 : decode cX7_copyTable 36 = .ok (.iinc 2 1, 3) := by decide +kernel
theorem dX7_copyTable_39 : decode cX7_copyTable 39 = .ok (.goto (-37), 3) := by decide +kernel
theorem dX7_copyTable_42 : decode cX7_copyTable 42 = .ok (.return_, 1) := by decide +kernel
theorem dL_cell_0 : decode cL_cell 0 = .ok (.iload_n 1, 1) := by decide +kernel
theorem dL_cell_1 : decode cL_cell 1 = .ok (.aload_n 0, 1) := by decide +kernel
theorem dL_cell_2 : decode cL_cell 2 = .ok (.arraylength, 1) := by decide +kernel
theorem dL_cell_3 : decode cL_cell 3 = .ok (.if_icmp .ge 9, 3) := by decide +kernel
theorem dL_cell_6 : decode cL_cell 6 = .ok (.aload_n 0, 1) := by decide +kernel
theorem dL_cell_7 : decode cL_cell 7 = .ok (.iload_n 1, 1) := by decide +kernel
theorem dL_cell_8 : decode cL_cell 8 = .ok (.iaload, 1) := by decide +kernel
theorem dL_cell_9 : decode cL_cell 9 = .ok (.goto 10, 3) := by decide +kernel
theorem dL_cell_12 : decode cL_cell 12 = .ok (.ldc 7, 2) := by decide +kernel
theorem dL_cell_14 : decode cL_cell 14 = .ok (.iload_n 1, 1) := by decide +kernel
theorem dL_cell_15 : decode cL_cell 15 = .ok (.imul, 1) := by decide +kernel
theorem dL_cell_16 : decode cL_cell 16 = .ok (.bipush 109, 2) := by decide +kernel
theorem dL_cell_18 : decode cL_cell 18 = .ok (.iadd, 1) := by decide +kernel
theorem dL_cell_19 : decode cL_cell 19 = .ok (.ldc 8, 2) := by decide +kernel
theorem dL_cell_21 : decode cL_cell 21 = .ok (.iand, 1) := by decide +kernel
theorem dL_cell_22 : decode cL_cell 22 = .ok (.ireturn, 1) := by decide +kernel
theorem dL_acts_0 : decode cL_acts 0 = .ok (.iload_n 1, 1) := by decide +kernel
theorem dL_acts_1 : decode cL_acts 1 = .ok (.iconst 4, 1) := by decide +kernel
theorem dL_acts_2 : decode cL_acts 2 = .ok (.ishr, 1) := by decide +kernel
theorem dL_acts_3 : decode cL_acts 3 = .ok (.istore_n 2, 1) := by decide +kernel
theorem dL_acts_4 : decode cL_acts 4 = .ok (.aload_n 0, 1) := by decide +kernel
theorem dL_acts_5 : decode cL_acts 5 = .ok (.invokevirtual 9, 3) := by decide +kernel
theorem dL_acts_8 : decode cL_acts 8 = .ok (.istore_n 3, 1) := by decide +kernel
theorem dL_acts_9 : decode cL_acts 9 = .ok (.iload_n 1, 1) := by decide +kernel
theorem dL_acts_10 : decode cL_acts 10 = .ok (.bipush 12, 2) := by decide +kernel
theorem dL_acts_12 : decode cL_acts 12 = .ok (.irem, 1) := by decide +kernel
theorem dL_acts_13 : decode cL_acts 13 = .ok (.tableswitch 253 0 10 #[59, 59, 59, 100, 100, 100, 100, 154, 178, 206, 230], 59) := by decide +kernel
theorem dL_acts_72 : decode cL_acts 72 = .ok (.iload_n 3, 1) := by decide +kernel
theorem dL_acts_73 : decode cL_acts 73 = .ok (.bipush 9, 2) := by decide +kernel
theorem dL_acts_75 : decode cL_acts 75 = .ok (.if_icmp .gt 32, 3) := by decide +kernel
theorem dL_acts_78 : decode cL_acts 78 = .ok (.aload_n 0, 1) := by decide +kernel
theorem dL_acts_79 : decode cL_acts 79 = .ok (.iload_n 2, 1) := by decide +kernel
theorem dL_acts_80 : decode cL_acts 80 = .ok (.iload_n 3, 1) := by decide +kernel
theorem dL_acts_81 : decode cL_acts 81 = .ok (.iconst 1, 1) := by decide +kernel
theorem dL_acts_82 : decode cL_acts 82 = .ok (.iadd, 1) := by decide +kernel
theorem dL_acts_83 : decode cL_acts 83 = .ok (.irem, 1) := by decide +kernel
theorem dL_acts_84 : decode cL_acts 84 = .ok (.iconst 1, 1) := by decide +kernel
theorem dL_acts_85 : decode cL_acts 85 = .ok (.iload_n 2, 1) := by decide +kernel
theorem dL_acts_86 : decode cL_acts 86 = .ok (.bipush 17, 2) := by decide +kernel
theorem dL_acts_88 : decode cL_acts 88 = .ok (.irem, 1) := by decide +kernel
theorem dL_acts_89 : decode cL_acts 89 = .ok (.iadd, 1) := by decide +kernel
theorem dL_acts_90 : decode cL_acts 90 = .ok (.iconst 1, 1) := by decide +kernel
theorem dL_acts_91 : decode cL_acts 91 = .ok (.iload_n 2, 1) := by decide +kernel
theorem dL_acts_92 : decode cL_acts 92 = .ok (.iconst 5, 1) := by decide +kernel
theorem dL_acts_93 : decode cL_acts 93 = .ok (.ishr, 1) := by decide +kernel
theorem dL_acts_94 : decode cL_acts 94 = .ok (.bipush 17, 2) := by decide +kernel
theorem dL_acts_96 : decode cL_acts 96 = .ok (.irem, 1) := by decide +kernel
theorem dL_acts_97 : decode cL_acts 97 = .ok (.iadd, 1) := by decide +kernel
theorem dL_acts_98 : decode cL_acts 98 = .ok (.invokevirtual 15, 3) := by decide +kernel
theorem dL_acts_101 : decode cL_acts 101 = .ok (.iload_n 3, 1) := by decide +kernel
theorem dL_acts_102 : decode cL_acts 102 = .ok (.iconst 1, 1) := by decide +kernel
theorem dL_acts_103 : decode cL_acts 103 = .ok (.iadd, 1) := by decide +kernel
theorem dL_acts_104 : decode cL_acts 104 = .ok (.if_icmp .ne 7, 3) := by decide +kernel
theorem dL_acts_107 : decode cL_acts 107 = .ok (.iconst 1, 1) := by decide +kernel
theorem dL_acts_108 : decode cL_acts 108 = .ok (.goto 4, 3) := by decide +kernel
theorem dL_acts_111 : decode cL_acts 111 = .ok (.iconst 0, 1) := by decide +kernel
theorem dL_acts_112 : decode cL_acts 112 = .ok (.ireturn, 1) := by decide +kernel
theorem dL_acts_113 : decode cL_acts 113 = .ok (.aload_n 0, 1) := by decide +kernel
theorem dL_acts_114 : decode cL_acts 114 = .ok (.iconst 0, 1) := by decide +kernel
theorem dL_acts_115 : decode cL_acts 115 = .ok (.invokevirtual 19, 3) := by decide +kernel
theorem dL_acts_118 : decode cL_acts 118 = .ok (.aload_n 0, 1) := by decide +kernel
theorem dL_acts_119 : decode cL_acts 119 = .ok (.iconst 1, 1) := by decide +kernel
theorem dL_acts_120 : decode cL_acts 120 = .ok (.invokevirtual 19, 3) := by decide +kernel
theorem dL_acts_123 : decode cL_acts 123 = .ok (.iadd, 1) := by decide +kernel
theorem dL_acts_124 : decode cL_acts 124 = .ok (.bipush 18, 2) := by decide +kernel
theorem dL_acts_126 : decode cL_acts 126 = .ok (.if_icmp .gt 35, 3) := by decide +kernel
theorem dL_acts_129 : decode cL_acts 129 = .ok (.aload_n 0, 1) := by decide +kernel
theorem dL_acts_130 : decode cL_acts 130 = .ok (.iload_n 2, 1) := by decide +kernel
theorem dL_acts_131 : decode cL_acts 131 = .ok (.bipush 10, 2) := by decide +kernel
theorem dL_acts_133 : decode cL_acts 133 = .ok (.irem, 1) := by decide +kernel
theorem dL_acts_134 : decode cL_acts 134 = .ok (.iload_n 2, 1) := by decide +kernel
theorem dL_acts_135 : decode cL_acts 135 = .ok (.iconst 4, 1) := by decide +kernel
theorem dL_acts_136 : decode cL_acts 136 = .ok (.ishr, 1) := by decide +kernel
theorem dL_acts_137 : decode cL_acts 137 = .ok (.iconst 2, 1) := by decide +kernel
theorem dL_acts_138 : decode cL_acts 138 = .ok (.irem, 1) := by decide +kernel
theorem dL_acts_139 : decode cL_acts 139 = .ok (.iload_n 2, 1) := by decide +kernel
theorem dL_acts_140 : decode cL_acts 140 = .ok (.iconst 5, 1) := by decide +kernel
theorem dL_acts_141 : decode cL_acts 141 = .ok (.ishr, 1) := by decide +kernel
theorem dL_acts_142 : decode cL_acts 142 = .ok (.bipush 12, 2) := by decide +kernel
theorem dL_acts_144 : decode cL_acts 144 = .ok (.irem, 1) := by decide +kernel
theorem dL_acts_145 : decode cL_acts 145 = .ok (.iconst 1, 1) := by decide +kernel
theorem dL_acts_146 : decode cL_acts 146 = .ok (.iload_n 2, 1) := by decide +kernel
theorem dL_acts_147 : decode cL_acts 147 = .ok (.bipush 9, 2) := by decide +kernel
theorem dL_acts_149 : decode cL_acts 149 = .ok (.ishr, 1) := by decide +kernel
theorem dL_acts_150 : decode cL_acts 150 = .ok (.bipush 8, 2) := by decide +kernel
theorem dL_acts_152 : decode cL_acts 152 = .ok (.irem, 1) := by decide +kernel
theorem dL_acts_153 : decode cL_acts 153 = .ok (.iadd, 1) := by decide +kernel
theorem dL_acts_154 : decode cL_acts 154 = .ok (.invokevirtual 23, 3) := by decide +kernel
theorem dL_acts_157 : decode cL_acts 157 = .ok (.iconst (-1), 1) := by decide +kernel
theorem dL_acts_158 : decode cL_acts 158 = .ok (.if_icmp .lt 7, 3) := by decide +kernel
theorem dL_acts_161 : decode cL_acts 161 = .ok (.iconst 1, 1) := by decide +kernel
theorem dL_acts_162 : decode cL_acts 162 = .ok (.goto 4, 3) := by decide +kernel
theorem dL_acts_165 : decode cL_acts 165 = .ok (.iconst 0, 1) := by decide +kernel
theorem dL_acts_166 : decode cL_acts 166 = .ok (.ireturn, 1) := by decide +kernel
theorem dL_acts_167 : decode cL_acts 167 = .ok (.aload_n 0, 1) := by decide +kernel
theorem dL_acts_168 : decode cL_acts 168 = .ok (.iload_n 2, 1) := by decide +kernel
theorem dL_acts_169 : decode cL_acts 169 = .ok (.iconst 2, 1) := by decide +kernel
theorem dL_acts_170 : decode cL_acts 170 = .ok (.irem, 1) := by decide +kernel
theorem dL_acts_171 : decode cL_acts 171 = .ok (.iload_n 2, 1) := by decide +kernel
theorem dL_acts_172 : decode cL_acts 172 = .ok (.iconst 1, 1) := by decide +kernel
theorem dL_acts_173 : decode cL_acts 173 = .ok (.ishr, 1) := by decide +kernel
theorem dL_acts_174 : decode cL_acts 174 = .ok (.bipush 6, 2) := by decide +kernel
theorem dL_acts_176 : decode cL_acts 176 = .ok (.irem, 1) := by decide +kernel
theorem dL_acts_177 : decode cL_acts 177 = .ok (.invokevirtual 27, 3) := by decide +kernel
theorem dL_acts_180 : decode cL_acts 180 = .ok (.bipush (-4), 2) := by decide +kernel
theorem dL_acts_182 : decode cL_acts 182 = .ok (.if_icmp .lt 7, 3) := by decide +kernel
theorem dL_acts_185 : decode cL_acts 185 = .ok (.iconst 1, 1) := by decide +kernel
theorem dL_acts_186 : decode cL_acts 186 = .ok (.goto 4, 3) := by decide +kernel
theorem dL_acts_189 : decode cL_acts 189 = .ok (.iconst 0, 1) := by decide +kernel
theorem dL_acts_190 : decode cL_acts 190 = .ok (.ireturn, 1) := by decide +kernel
theorem dL_acts_191 : decode cL_acts 191 = .ok (.aload_n 0, 1) := by decide +kernel
theorem dL_acts_192 : decode cL_acts 192 = .ok (.iload_n 2, 1) := by decide +kernel
theorem dL_acts_193 : decode cL_acts 193 = .ok (.bipush 10, 2) := by decide +kernel
theorem dL_acts_195 : decode cL_acts 195 = .ok (.irem, 1) := by decide +kernel
theorem dL_acts_196 : decode cL_acts 196 = .ok (.iload_n 2, 1) := by decide +kernel
theorem dL_acts_197 : decode cL_acts 197 = .ok (.iconst 4, 1) := by decide +kernel
theorem dL_acts_198 : decode cL_acts 198 = .ok (.ishr, 1) := by decide +kernel
theorem dL_acts_199 : decode cL_acts 199 = .ok (.iconst 2, 1) := by decide +kernel
theorem dL_acts_200 : decode cL_acts 200 = .ok (.irem, 1) := by decide +kernel
theorem dL_acts_201 : decode cL_acts 201 = .ok (.iload_n 2, 1) := by decide +kernel
theorem dL_acts_202 : decode cL_acts 202 = .ok (.iconst 5, 1) := by decide +kernel
theorem dL_acts_203 : decode cL_acts 203 = .ok (.ishr, 1) := by decide +kernel
theorem dL_acts_204 : decode cL_acts 204 = .ok (.iconst 2, 1) := by decide +kernel
theorem dL_acts_205 : decode cL_acts 205 = .ok (.irem, 1) := by decide +kernel
theorem dL_acts_206 : decode cL_acts 206 = .ok (.invokevirtual 31, 3) := by decide +kernel
theorem dL_acts_209 : decode cL_acts 209 = .ok (.iconst (-1), 1) := by decide +kernel
theorem dL_acts_210 : decode cL_acts 210 = .ok (.if_icmp .lt 7, 3) := by decide +kernel
theorem dL_acts_213 : decode cL_acts 213 = .ok (.iconst 1, 1) := by decide +kernel
theorem dL_acts_214 : decode cL_acts 214 = .ok (.goto 4, 3) := by decide +kernel
theorem dL_acts_217 : decode cL_acts 217 = .ok (.iconst 0, 1) := by decide +kernel
theorem dL_acts_218 : decode cL_acts 218 = .ok (.ireturn, 1) := by decide +kernel
theorem dL_acts_219 : decode cL_acts 219 = .ok (.aload_n 0, 1) := by decide +kernel
theorem dL_acts_220 : decode cL_acts 220 = .ok (.iconst 1, 1) := by decide +kernel
theorem dL_acts_221 : decode cL_acts 221 = .ok (.iload_n 2, 1) := by decide +kernel
theorem dL_acts_222 : decode cL_acts 222 = .ok (.iconst 5, 1) := by decide +kernel
theorem dL_acts_223 : decode cL_acts 223 = .ok (.irem, 1) := by decide +kernel
theorem dL_acts_224 : decode cL_acts 224 = .ok (.iadd, 1) := by decide +kernel
theorem dL_acts_225 : decode cL_acts 225 = .ok (.iload_n 2, 1) := by decide +kernel
theorem dL_acts_226 : decode cL_acts 226 = .ok (.iconst 3, 1) := by decide +kernel
theorem dL_acts_227 : decode cL_acts 227 = .ok (.ishr, 1) := by decide +kernel
theorem dL_acts_228 : decode cL_acts 228 = .ok (.iconst 3, 1) := by decide +kernel
theorem dL_acts_229 : decode cL_acts 229 = .ok (.irem, 1) := by decide +kernel
theorem dL_acts_230 : decode cL_acts 230 = .ok (.invokevirtual 34, 3) := by decide +kernel
theorem dL_acts_233 : decode cL_acts 233 = .ok (.iconst (-1), 1) := by decide +kernel
theorem dL_acts_234 : decode cL_acts 234 = .ok (.if_icmp .lt 7, 3) := by decide +kernel
theorem dL_acts_237 : decode cL_acts 237 = .ok (.iconst 1, 1) := by decide +kernel
theorem dL_acts_238 : decode cL_acts 238 = .ok (.goto 4, 3) := by decide +kernel
theorem dL_acts_241 : decode cL_acts 241 = .ok (.iconst 0, 1) := by decide +kernel
theorem dL_acts_242 : decode cL_acts 242 = .ok (.ireturn, 1) := by decide +kernel
theorem dL_acts_243 : decode cL_acts 243 = .ok (.aload_n 0, 1) := by decide +kernel
theorem dL_acts_244 : decode cL_acts 244 = .ok (.iconst 0, 1) := by decide +kernel
theorem dL_acts_245 : decode cL_acts 245 = .ok (.bipush 8, 2) := by decide +kernel
theorem dL_acts_247 : decode cL_acts 247 = .ok (.iload_n 2, 1) := by decide +kernel
theorem dL_acts_248 : decode cL_acts 248 = .ok (.bipush 30, 2) := by decide +kernel
theorem dL_acts_250 : decode cL_acts 250 = .ok (.irem, 1) := by decide +kernel
theorem dL_acts_251 : decode cL_acts 251 = .ok (.iadd, 1) := by decide +kernel
theorem dL_acts_252 : decode cL_acts 252 = .ok (.invokevirtual 34, 3) := by decide +kernel
theorem dL_acts_255 : decode cL_acts 255 = .ok (.bipush 8, 2) := by decide +kernel
theorem dL_acts_257 : decode cL_acts 257 = .ok (.if_icmp .lt 7, 3) := by decide +kernel
theorem dL_acts_260 : decode cL_acts 260 = .ok (.iconst 1, 1) := by decide +kernel
theorem dL_acts_261 : decode cL_acts 261 = .ok (.goto 4, 3) := by decide +kernel
theorem dL_acts_264 : decode cL_acts 264 = .ok (.iconst 0, 1) := by decide +kernel
theorem dL_acts_265 : decode cL_acts 265 = .ok (.ireturn, 1) := by decide +kernel
theorem dL_acts_266 : decode cL_acts 266 = .ok (.iload_n 2, 1) := by decide +kernel
theorem dL_acts_267 : decode cL_acts 267 = .ok (.iconst 3, 1) := by decide +kernel
theorem dL_acts_268 : decode cL_acts 268 = .ok (.irem, 1) := by decide +kernel
theorem dL_acts_269 : decode cL_acts 269 = .ok (.ifCond .gt 12, 3) := by decide +kernel
theorem dL_acts_272 : decode cL_acts 272 = .ok (.aload_n 0, 1) := by decide +kernel
theorem dL_acts_273 : decode cL_acts 273 = .ok (.invokevirtual 37, 3) := by decide +kernel
theorem dL_acts_276 : decode cL_acts 276 = .ok (.bipush (-2), 2) := by decide +kernel
theorem dL_acts_278 : decode cL_acts 278 = .ok (.if_icmp .lt 7, 3) := by decide +kernel
theorem dL_acts_281 : decode cL_acts 281 = .ok (.iconst 1, 1) := by decide +kernel
theorem dL_acts_282 : decode cL_acts 282 = .ok (.goto 4, 3) := by decide +kernel
theorem dL_acts_285 : decode cL_acts 285 = .ok (.iconst 0, 1) := by decide +kernel
theorem dL_acts_286 : decode cL_acts 286 = .ok (.ireturn, 1) := by decide +kernel
theorem dL_shows_0 : decode cL_shows 0 = .ok (.iconst 1, 1) := by decide +kernel
theorem dL_shows_1 : decode cL_shows 1 = .ok (.istore_n 2, 1) := by decide +kernel
theorem dL_shows_2 : decode cL_shows 2 = .ok (.iconst 0, 1) := by decide +kernel
theorem dL_shows_3 : decode cL_shows 3 = .ok (.istore_n 3, 1) := by decide +kernel
theorem dL_shows_4 : decode cL_shows 4 = .ok (.iload_n 3, 1) := by decide +kernel
theorem dL_shows_5 : decode cL_shows 5 = .ok (.iconst 2, 1) := by decide +kernel
theorem dL_shows_6 : decode cL_shows 6 = .ok (.if_icmp .ge 473, 3) := by decide +kernel
theorem dL_shows_9 : decode cL_shows 9 = .ok (.iload_n 2, 1) := by decide +kernel
theorem dL_shows_10 : decode cL_shows 10 = .ok (.ifCond .eq 469, 3) := by decide +kernel
theorem dL_shows_13 : decode cL_shows 13 = .ok (.iconst 0, 1) := by decide +kernel
theorem dL_shows_14 : decode cL_shows 14 = .ok (.istore 4, 2) := by decide +kernel
theorem dL_shows_16 : decode cL_shows 16 = .ok (.iconst 0, 1) := by decide +kernel
theorem dL_shows_17 : decode cL_shows 17 = .ok (.istore 5, 2) := by decide +kernel
theorem dL_shows_19 : decode cL_shows 19 = .ok (.iconst 0, 1) := by decide +kernel
theorem dL_shows_20 : decode cL_shows 20 = .ok (.istore 6, 2) := by decide +kernel
theorem dL_shows_22 : decode cL_shows 22 = .ok (.iconst 0, 1) := by decide +kernel
theorem dL_shows_23 : decode cL_shows 23 = .ok (.istore 7, 2) := by decide +kernel
theorem dL_shows_25 : decode cL_shows 25 = .ok (.iconst 0, 1) := by decide +kernel
theorem dL_shows_26 : decode cL_shows 26 = .ok (.istore 8, 2) := by decide +kernel
theorem dL_shows_28 : decode cL_shows 28 = .ok (.iload 8, 2) := by decide +kernel
theorem dL_shows_30 : decode cL_shows 30 = .ok (.iload_n 1, 1) := by decide +kernel
theorem dL_shows_31 : decode cL_shows 31 = .ok (.if_icmp .ge 403, 3) := by decide +kernel
theorem dL_shows_34 : decode cL_shows 34 = .ok (.iload_n 2, 1) := by decide +kernel
theorem dL_shows_35 : decode cL_shows 35 = .ok (.ifCond .eq 399, 3) := by decide +kernel
theorem dL_shows_38 : decode cL_shows 38 = .ok (.iconst 0, 1) := by decide +kernel
theorem dL_shows_39 : decode cL_shows 39 = .ok (.istore 9, 2) := by decide +kernel
theorem dL_shows_41 : decode cL_shows 41 = .ok (.iconst 0, 1) := by decide +kernel
theorem dL_shows_42 : decode cL_shows 42 = .ok (.istore 10, 2) := by decide +kernel
theorem dL_shows_44 : decode cL_shows 44 = .ok (.iconst 0, 1) := by decide +kernel
theorem dL_shows_45 : decode cL_shows 45 = .ok (.istore 11, 2) := by decide +kernel
theorem dL_shows_47 : decode cL_shows 47 = .ok (.iload 11, 2) := by decide +kernel
theorem dL_shows_49 : decode cL_shows 49 = .ok (.bipush 100, 2) := by decide +kernel
theorem dL_shows_51 : decode cL_shows 51 = .ok (.if_icmp .ge 277, 3) := by decide +kernel
theorem dL_shows_54 : decode cL_shows 54 = .ok (.iload_n 2, 1) := by decide +kernel
theorem dL_shows_55 : decode cL_shows 55 = .ok (.ifCond .eq 273, 3) := by decide +kernel
theorem dL_shows_58 : decode cL_shows 58 = .ok (.aload_n 0, 1) := by decide +kernel
theorem dL_shows_59 : decode cL_shows 59 = .ok (.iload 8, 2) := by decide +kernel
theorem dL_shows_61 : decode cL_shows 61 = .ok (.iload_n 3, 1) := by decide +kernel
theorem dL_shows_62 : decode cL_shows 62 = .ok (.iload 11, 2) := by decide +kernel
theorem dL_shows_64 : decode cL_shows 64 = .ok (.invokevirtual 40, 3) := by decide +kernel
theorem dL_shows_67 : decode cL_shows 67 = .ok (.istore 12, 2) := by decide +kernel
theorem dL_shows_69 : decode cL_shows 69 = .ok (.iload 12, 2) := by decide +kernel
theorem dL_shows_71 : decode cL_shows 71 = .ok (.sipush 20000, 3) := by decide +kernel
theorem dL_shows_74 : decode cL_shows 74 = .ok (.if_icmp .lt 121, 3) := by decide +kernel
theorem dL_shows_77 : decode cL_shows 77 = .ok (.iload 12, 2) := by decide +kernel
theorem dL_shows_79 : decode cL_shows 79 = .ok (.sipush 30000, 3) := by decide +kernel
theorem dL_shows_82 : decode cL_shows 82 = .ok (.if_icmp .ge 113, 3) := by decide +kernel
theorem dL_shows_85 : decode cL_shows 85 = .ok (.iload 12, 2) := by decide +kernel
theorem dL_shows_87 : decode cL_shows 87 = .ok (.sipush 20000, 3) := by decide +kernel
theorem dL_shows_90 : decode cL_shows 90 = .ok (.bipush 100, 2) := by decide +kernel
theorem dL_shows_92 : decode cL_shows 92 = .ok (.iload 6, 2) := by decide +kernel
theorem dL_shows_94 : decode cL_shows 94 = .ok (.imul, 1) := by decide +kernel
theorem dL_shows_95 : decode cL_shows 95 = .ok (.iadd, 1) := by decide +kernel
theorem dL_shows_96 : decode cL_shows 96 = .ok (.iload 7, 2) := by decide +kernel
theorem dL_shows_98 : decode cL_shows 98 = .ok (.iadd, 1) := by decide +kernel
theorem dL_shows_99 : decode cL_shows 99 = .ok (.if_icmp .ne 33, 3) := by decide +kernel
theorem dL_shows_102 : decode cL_shows 102 = .ok (.aload_n 0, 1) := by decide +kernel
theorem dL_shows_103 : decode cL_shows 103 = .ok (.aload_n 0, 1) := by decide +kernel
theorem dL_shows_104 : decode cL_shows 104 = .ok (.iload_n 3, 1) := by decide +kernel
theorem dL_shows_105 : decode cL_shows 105 = .ok (.iload 6, 2) := by decide +kernel
theorem dL_shows_107 : decode cL_shows 107 = .ok (.iconst 0, 1) := by decide +kernel
theorem dL_shows_108 : decode cL_shows 108 = .ok (.invokevirtual 43, 3) := by decide +kernel
theorem dL_shows_111 : decode cL_shows 111 = .ok (.iload_n 3, 1) := by decide +kernel
theorem dL_shows_112 : decode cL_shows 112 = .ok (.aload_n 0, 1) := by decide +kernel
theorem dL_shows_113 : decode cL_shows 113 = .ok (.iload_n 3, 1) := by decide +kernel
theorem dL_shows_114 : decode cL_shows 114 = .ok (.iload 6, 2) := by decide +kernel
theorem dL_shows_116 : decode cL_shows 116 = .ok (.iconst 1, 1) := by decide +kernel
theorem dL_shows_117 : decode cL_shows 117 = .ok (.invokevirtual 43, 3) := by decide +kernel
theorem dL_shows_120 : decode cL_shows 120 = .ok (.invokevirtual 46, 3) := by decide +kernel
theorem dL_shows_123 : decode cL_shows 123 = .ok (.iload 8, 2) := by decide +kernel
theorem dL_shows_125 : decode cL_shows 125 = .ok (.if_icmp .gt 7, 3) := by decide +kernel
theorem dL_shows_128 : decode cL_shows 128 = .ok (.iconst 1, 1) := by decide +kernel
theorem dL_shows_129 : decode cL_shows 129 = .ok (.goto 4, 3) := by decide +kernel
theorem dL_shows_132 : decode cL_shows 132 = .ok (.iconst 0, 1) := by decide +kernel
theorem dL_shows_133 : decode cL_shows 133 = .ok (.istore_n 2, 1) := by decide +kernel
theorem dL_shows_134 : decode cL_shows 134 = .ok (.iinc 7 1, 3) := by decide +kernel
theorem dL_shows_137 : decode cL_shows 137 = .ok (.iload_n 2, 1) := by decide +kernel
theorem dL_shows_138 : decode cL_shows 138 = .ok (.ifCond .eq 20, 3) := by decide +kernel
theorem dL_shows_141 : decode cL_shows 141 = .ok (.iload 7, 2) := by decide +kernel
theorem dL_shows_143 : decode cL_shows 143 = .ok (.aload_n 0, 1) := by decide +kernel
theorem dL_shows_144 : decode cL_shows 144 = .ok (.iload_n 3, 1) := by decide +kernel
theorem dL_shows_145 : decode cL_shows 145 = .ok (.iload 6, 2) := by decide +kernel
theorem dL_shows_147 : decode cL_shows 147 = .ok (.iconst 2, 1) := by decide +kernel
theorem dL_shows_148 : decode cL_shows 148 = .ok (.invokevirtual 43, 3) := by decide +kernel
theorem dL_shows_151 : decode cL_shows 151 = .ok (.if_icmp .ne 7, 3) := by decide +kernel
theorem dL_shows_154 : decode cL_shows 154 = .ok (.iconst 1, 1) := by decide +kernel
theorem dL_shows_155 : decode cL_shows 155 = .ok (.goto 4, 3) := by decide +kernel
theorem dL_shows_158 : decode cL_shows 158 = .ok (.iconst 0, 1) := by decide +kernel
theorem dL_shows_159 : decode cL_shows 159 = .ok (.istore 13, 2) := by decide +kernel
theorem dL_shows_161 : decode cL_shows 161 = .ok (.iload 6, 2) := by decide +kernel
theorem dL_shows_163 : decode cL_shows 163 = .ok (.iload 13, 2) := by decide +kernel
theorem dL_shows_165 : decode cL_shows 165 = .ok (.ifCond .eq 7, 3) := by decide +kernel
theorem dL_shows_168 : decode cL_shows 168 = .ok (.iconst 1, 1) := by decide +kernel
theorem dL_shows_169 : decode cL_shows 169 = .ok (.goto 4, 3) := by decide +kernel
theorem dL_shows_172 : decode cL_shows 172 = .ok (.iconst 0, 1) := by decide +kernel
theorem dL_shows_173 : decode cL_shows 173 = .ok (.iadd, 1) := by decide +kernel
theorem dL_shows_174 : decode cL_shows 174 = .ok (.istore 6, 2) := by decide +kernel
theorem dL_shows_176 : decode cL_shows 176 = .ok (.iload 13, 2) := by decide +kernel
theorem dL_shows_178 : decode cL_shows 178 = .ok (.ifCond .eq 7, 3) := by decide +kernel
theorem dL_shows_181 : decode cL_shows 181 = .ok (.iconst 0, 1) := by decide +kernel
theorem dL_shows_182 : decode cL_shows 182 = .ok (.goto 5, 3) := by decide +kernel
theorem dL_shows_185 : decode cL_shows 185 = .ok (.iload 7, 2) := by decide +kernel
theorem dL_shows_187 : decode cL_shows 187 = .ok (.istore 7, 2) := by decide +kernel
theorem dL_shows_189 : decode cL_shows 189 = .ok (.iinc 10 1, 3) := by decide +kernel
theorem dL_shows_192 : decode cL_shows 192 = .ok (.goto 130, 3) := by decide +kernel
theorem dL_shows_195 : decode cL_shows 195 = .ok (.iload 12, 2) := by decide +kernel
theorem dL_shows_197 : decode cL_shows 197 = .ok (.sipush 10000, 3) := by decide +kernel
theorem dL_shows_200 : decode cL_shows 200 = .ok (.if_icmp .lt 122, 3) := by decide +kernel
theorem dL_shows_203 : decode cL_shows 203 = .ok (.iload 12, 2) := by decide +kernel
theorem dL_shows_205 : decode cL_shows 205 = .ok (.sipush 20000, 3) := by decide +kernel
theorem dL_shows_208 : decode cL_shows 208 = .ok (.if_icmp .ge 114, 3) := by decide +kernel
theorem dL_shows_211 : decode cL_shows 211 = .ok (.iload 12, 2) := by decide +kernel
theorem dL_shows_213 : decode cL_shows 213 = .ok (.sipush 10000, 3) := by decide +kernel
theorem dL_shows_216 : decode cL_shows 216 = .ok (.bipush 100, 2) := by decide +kernel
theorem dL_shows_218 : decode cL_shows 218 = .ok (.iload 4, 2) := by decide +kernel
theorem dL_shows_220 : decode cL_shows 220 = .ok (.imul, 1) := by decide +kernel
theorem dL_shows_221 : decode cL_shows 221 = .ok (.iadd, 1) := by decide +kernel
theorem dL_shows_222 : decode cL_shows 222 = .ok (.iload 5, 2) := by decide +kernel
theorem dL_shows_224 : decode cL_shows 224 = .ok (.iadd, 1) := by decide +kernel
theorem dL_shows_225 : decode cL_shows 225 = .ok (.if_icmp .ne 35, 3) := by decide +kernel
theorem dL_shows_228 : decode cL_shows 228 = .ok (.aload_n 0, 1) := by decide +kernel
theorem dL_shows_229 : decode cL_shows 229 = .ok (.iload 4, 2) := by decide +kernel
theorem dL_shows_231 : decode cL_shows 231 = .ok (.iload_n 3, 1) := by decide +kernel
theorem dL_shows_232 : decode cL_shows 232 = .ok (.iload 5, 2) := by decide +kernel
theorem dL_shows_234 : decode cL_shows 234 = .ok (.invokevirtual 46, 3) := by decide +kernel
theorem dL_shows_237 : decode cL_shows 237 = .ok (.iload 8, 2) := by decide +kernel
theorem dL_shows_239 : decode cL_shows 239 = .ok (.if_icmp .ne 21, 3) := by decide +kernel
theorem dL_shows_242 : decode cL_shows 242 = .ok (.aload_n 0, 1) := by decide +kernel
theorem dL_shows_243 : decode cL_shows 243 = .ok (.iload 4, 2) := by decide +kernel
theorem dL_shows_245 : decode cL_shows 245 = .ok (.iload_n 3, 1) := by decide +kernel
theorem dL_shows_246 : decode cL_shows 246 = .ok (.iload 5, 2) := by decide +kernel
theorem dL_shows_248 : decode cL_shows 248 = .ok (.invokevirtual 49, 3) := by decide +kernel
theorem dL_shows_251 : decode cL_shows 251 = .ok (.iload 11, 2) := by decide +kernel
theorem dL_shows_253 : decode cL_shows 253 = .ok (.if_icmp .ne 7, 3) := by decide +kernel
theorem dL_shows_256 : decode cL_shows 256 = .ok (.iconst 1, 1) := by decide +kernel
theorem dL_shows_257 : decode cL_shows 257 = .ok (.goto 4, 3) := by decide +kernel
theorem dL_shows_260 : decode cL_shows 260 = .ok (.iconst 0, 1) := by decide +kernel
theorem dL_shows_261 : decode cL_shows 261 = .ok (.istore_n 2, 1) := by decide +kernel
theorem dL_shows_262 : decode cL_shows 262 = .ok (.iinc 5 1, 3) := by decide +kernel
theorem dL_shows_265 : decode cL_shows 265 = .ok (.iload_n 2, 1) := by decide +kernel
theorem dL_shows_266 : decode cL_shows 266 = .ok (.ifCond .eq 19, 3) := by decide +kernel
theorem dL_shows_269 : decode cL_shows 269 = .ok (.iload 5, 2) := by decide +kernel
theorem dL_shows_271 : decode cL_shows 271 = .ok (.aload_n 0, 1) := by decide +kernel
theorem dL_shows_272 : decode cL_shows 272 = .ok (.iload 4, 2) := by decide +kernel
theorem dL_shows_274 : decode cL_shows 274 = .ok (.iload_n 3, 1) := by decide +kernel
theorem dL_shows_275 : decode cL_shows 275 = .ok (.invokevirtual 52, 3) := by decide +kernel
theorem dL_shows_278 : decode cL_shows 278 = .ok (.if_icmp .ne 7, 3) := by decide +kernel
theorem dL_shows_281 : decode cL_shows 281 = .ok (.iconst 1, 1) := by decide +kernel
theorem dL_shows_282 : decode cL_shows 282 = .ok (.goto 4, 3) := by decide +kernel
theorem dL_shows_285 : decode cL_shows 285 = .ok (.iconst 0, 1) := by decide +kernel
theorem dL_shows_286 : decode cL_shows 286 = .ok (.istore 13, 2) := by decide +kernel
theorem dL_shows_288 : decode cL_shows 288 = .ok (.iload 4, 2) := by decide +kernel
theorem dL_shows_290 : decode cL_shows 290 = .ok (.iload 13, 2) := by decide +kernel
theorem dL_shows_292 : decode cL_shows 292 = .ok (.ifCond .eq 7, 3) := by decide +kernel
theorem dL_shows_295 : decode cL_shows 295 = .ok (.iconst 1, 1) := by decide +kernel
theorem dL_shows_296 : decode cL_shows 296 = .ok (.goto 4, 3) := by decide +kernel
theorem dL_shows_299 : decode cL_shows 299 = .ok (.iconst 0, 1) := by decide +kernel
theorem dL_shows_300 : decode cL_shows 300 = .ok (.iadd, 1) := by decide +kernel
theorem dL_shows_301 : decode cL_shows 301 = .ok (.istore 4, 2) := by decide +kernel
theorem dL_shows_303 : decode cL_shows 303 = .ok (.iload 13, 2) := by decide +kernel
theorem dL_shows_305 : decode cL_shows 305 = .ok (.ifCond .eq 7, 3) := by decide +kernel
theorem dL_shows_308 : decode cL_shows 308 = .ok (.iconst 0, 1) := by decide +kernel
theorem dL_shows_309 : decode cL_shows 309 = .ok (.goto 5, 3) := by decide +kernel
theorem dL_shows_312 : decode cL_shows 312 = .ok (.iload 5, 2) := by decide +kernel
theorem dL_shows_314 : decode cL_shows 314 = .ok (.istore 5, 2) := by decide +kernel
theorem dL_shows_316 : decode cL_shows 316 = .ok (.iload 11, 2) := by decide +kernel
theorem dL_shows_318 : decode cL_shows 318 = .ok (.iconst 1, 1) := by decide +kernel
theorem dL_shows_319 : decode cL_shows 319 = .ok (.iadd, 1) := by decide +kernel
theorem dL_shows_320 : decode cL_shows 320 = .ok (.istore 9, 2) := by decide +kernel
theorem dL_shows_322 : decode cL_shows 322 = .ok (.iinc 11 1, 3) := by decide +kernel
theorem dL_shows_325 : decode cL_shows 325 = .ok (.goto (-278), 3) := by decide +kernel
theorem dL_shows_328 : decode cL_shows 328 = .ok (.iload_n 2, 1) := by decide +kernel
theorem dL_shows_329 : decode cL_shows 329 = .ok (.ifCond .eq 49, 3) := by decide +kernel
theorem dL_shows_332 : decode cL_shows 332 = .ok (.aload_n 0, 1) := by decide +kernel
theorem dL_shows_333 : decode cL_shows 333 = .ok (.iload 8, 2) := by decide +kernel
theorem dL_shows_335 : decode cL_shows 335 = .ok (.iload_n 3, 1) := by decide +kernel
theorem dL_shows_336 : decode cL_shows 336 = .ok (.iconst 0, 1) := by decide +kernel
theorem dL_shows_337 : decode cL_shows 337 = .ok (.invokevirtual 55, 3) := by decide +kernel
theorem dL_shows_340 : decode cL_shows 340 = .ok (.iload 9, 2) := by decide +kernel
theorem dL_shows_342 : decode cL_shows 342 = .ok (.if_icmp .ne 36, 3) := by decide +kernel
theorem dL_shows_345 : decode cL_shows 345 = .ok (.iload 10, 2) := by decide +kernel
theorem dL_shows_347 : decode cL_shows 347 = .ok (.ifCond .ne 7, 3) := by decide +kernel
theorem dL_shows_350 : decode cL_shows 350 = .ok (.iconst 1, 1) := by decide +kernel
theorem dL_shows_351 : decode cL_shows 351 = .ok (.goto 4, 3) := by decide +kernel
theorem dL_shows_354 : decode cL_shows 354 = .ok (.iconst 0, 1) := by decide +kernel
theorem dL_shows_355 : decode cL_shows 355 = .ok (.aload_n 0, 1) := by decide +kernel
theorem dL_shows_356 : decode cL_shows 356 = .ok (.iload 8, 2) := by decide +kernel
theorem dL_shows_358 : decode cL_shows 358 = .ok (.iload_n 3, 1) := by decide +kernel
theorem dL_shows_359 : decode cL_shows 359 = .ok (.iconst 1, 1) := by decide +kernel
theorem dL_shows_360 : decode cL_shows 360 = .ok (.invokevirtual 55, 3) := by decide +kernel
theorem dL_shows_363 : decode cL_shows 363 = .ok (.ifCond .ne 7, 3) := by decide +kernel
theorem dL_shows_366 : decode cL_shows 366 = .ok (.iconst 1, 1) := by decide +kernel
theorem dL_shows_367 : decode cL_shows 367 = .ok (.goto 4, 3) := by decide +kernel
theorem dL_shows_370 : decode cL_shows 370 = .ok (.iconst 0, 1) := by decide +kernel
theorem dL_shows_371 : decode cL_shows 371 = .ok (.if_icmp .ne 7, 3) := by decide +kernel
theorem dL_shows_374 : decode cL_shows 374 = .ok (.iconst 1, 1) := by decide +kernel
theorem dL_shows_375 : decode cL_shows 375 = .ok (.goto 4, 3) := by decide +kernel
theorem dL_shows_378 : decode cL_shows 378 = .ok (.iconst 0, 1) := by decide +kernel
theorem dL_shows_379 : decode cL_shows 379 = .ok (.istore_n 2, 1) := by decide +kernel
theorem dL_shows_380 : decode cL_shows 380 = .ok (.iload_n 2, 1) := by decide +kernel
theorem dL_shows_381 : decode cL_shows 381 = .ok (.ifCond .eq 45, 3) := by decide +kernel
theorem dL_shows_384 : decode cL_shows 384 = .ok (.iload 8, 2) := by decide +kernel
theorem dL_shows_386 : decode cL_shows 386 = .ok (.ifCond .eq 24, 3) := by decide +kernel
theorem dL_shows_389 : decode cL_shows 389 = .ok (.aload_n 0, 1) := by decide +kernel
theorem dL_shows_390 : decode cL_shows 390 = .ok (.iload 8, 2) := by decide +kernel
theorem dL_shows_392 : decode cL_shows 392 = .ok (.iload_n 3, 1) := by decide +kernel
theorem dL_shows_393 : decode cL_shows 393 = .ok (.iconst 3, 1) := by decide +kernel
theorem dL_shows_394 : decode cL_shows 394 = .ok (.invokevirtual 55, 3) := by decide +kernel
theorem dL_shows_397 : decode cL_shows 397 = .ok (.aload_n 0, 1) := by decide +kernel
theorem dL_shows_398 : decode cL_shows 398 = .ok (.iload 8, 2) := by decide +kernel
theorem dL_shows_400 : decode cL_shows 400 = .ok (.iconst 1, 1) := by decide +kernel
theorem dL_shows_401 : decode cL_shows 401 = .ok (.isub, 1) := by decide +kernel
theorem dL_shows_402 : decode cL_shows 402 = .ok (.iload_n 3, 1) := by decide +kernel
theorem dL_shows_403 : decode cL_shows 403 = .ok (.iconst 4, 1) := by decide +kernel
theorem dL_shows_404 : decode cL_shows 404 = .ok (.invokevirtual 55, 3) := by decide +kernel
theorem dL_shows_407 : decode cL_shows 407 = .ok (.if_icmp .ne 19, 3) := by decide +kernel
theorem dL_shows_410 : decode cL_shows 410 = .ok (.aload_n 0, 1) := by decide +kernel
theorem dL_shows_411 : decode cL_shows 411 = .ok (.iload 8, 2) := by decide +kernel
theorem dL_shows_413 : decode cL_shows 413 = .ok (.iload_n 3, 1) := by decide +kernel
theorem dL_shows_414 : decode cL_shows 414 = .ok (.iconst 4, 1) := by decide +kernel
theorem dL_shows_415 : decode cL_shows 415 = .ok (.invokevirtual 55, 3) := by decide +kernel
theorem dL_shows_418 : decode cL_shows 418 = .ok (.iconst 5, 1) := by decide +kernel
theorem dL_shows_419 : decode cL_shows 419 = .ok (.if_icmp .gt 7, 3) := by decide +kernel
theorem dL_shows_422 : decode cL_shows 422 = .ok (.iconst 1, 1) := by decide +kernel
theorem dL_shows_423 : decode cL_shows 423 = .ok (.goto 4, 3) := by decide +kernel
theorem dL_shows_426 : decode cL_shows 426 = .ok (.iconst 0, 1) := by decide +kernel
theorem dL_shows_427 : decode cL_shows 427 = .ok (.istore_n 2, 1) := by decide +kernel
theorem dL_shows_428 : decode cL_shows 428 = .ok (.iinc 8 1, 3) := by decide +kernel
theorem dL_shows_431 : decode cL_shows 431 = .ok (.goto (-403), 3) := by decide +kernel
theorem dL_shows_434 : decode cL_shows 434 = .ok (.iload_n 2, 1) := by decide +kernel
theorem dL_shows_435 : decode cL_shows 435 = .ok (.ifCond .eq 36, 3) := by decide +kernel
theorem dL_shows_438 : decode cL_shows 438 = .ok (.iload 4, 2) := by decide +kernel
theorem dL_shows_440 : decode cL_shows 440 = .ok (.aload_n 0, 1) := by decide +kernel
theorem dL_shows_441 : decode cL_shows 441 = .ok (.invokevirtual 9, 3) := by decide +kernel
theorem dL_shows_444 : decode cL_shows 444 = .ok (.if_icmp .ne 27, 3) := by decide +kernel
theorem dL_shows_447 : decode cL_shows 447 = .ok (.iload 5, 2) := by decide +kernel
theorem dL_shows_449 : decode cL_shows 449 = .ok (.ifCond .ne 22, 3) := by decide +kernel
theorem dL_shows_452 : decode cL_shows 452 = .ok (.iload 6, 2) := by decide +kernel
theorem dL_shows_454 : decode cL_shows 454 = .ok (.aload_n 0, 1) := by decide +kernel
theorem dL_shows_455 : decode cL_shows 455 = .ok (.iload_n 3, 1) := by decide +kernel
theorem dL_shows_456 : decode cL_shows 456 = .ok (.invokevirtual 19, 3) := by decide +kernel
theorem dL_shows_459 : decode cL_shows 459 = .ok (.if_icmp .ne 12, 3) := by decide +kernel
theorem dL_shows_462 : decode cL_shows 462 = .ok (.iload 7, 2) := by decide +kernel
theorem dL_shows_464 : decode cL_shows 464 = .ok (.ifCond .ne 7, 3) := by decide +kernel
theorem dL_shows_467 : decode cL_shows 467 = .ok (.iconst 1, 1) := by decide +kernel
theorem dL_shows_468 : decode cL_shows 468 = .ok (.goto 4, 3) := by decide +kernel
theorem dL_shows_471 : decode cL_shows 471 = .ok (.iconst 0, 1) := by decide +kernel
theorem dL_shows_472 : decode cL_shows 472 = .ok (.istore_n 2, 1) := by decide +kernel
theorem dL_shows_473 : decode cL_shows 473 = .ok (.iinc 3 1, 3) := by decide +kernel
theorem dL_shows_476 : decode cL_shows 476 = .ok (.goto (-472), 3) := by decide +kernel
theorem dL_shows_479 : decode cL_shows 479 = .ok (.iload_n 2, 1) := by decide +kernel
theorem dL_shows_480 : decode cL_shows 480 = .ok (.ireturn, 1) := by decide +kernel
theorem dL_adds_0 : decode cL_adds 0 = .ok (.aload_n 0, 1) := by decide +kernel
theorem dL_adds_1 : decode cL_adds 1 = .ok (.invokevirtual 58, 3) := by decide +kernel
theorem dL_adds_4 : decode cL_adds 4 = .ok (.istore_n 1, 1) := by decide +kernel
theorem dL_adds_5 : decode cL_adds 5 = .ok (.iconst 0, 1) := by decide +kernel
theorem dL_adds_6 : decode cL_adds 6 = .ok (.istore_n 2, 1) := by decide +kernel
theorem dL_adds_7 : decode cL_adds 7 = .ok (.iconst 0, 1) := by decide +kernel
theorem dL_adds_8 : decode cL_adds 8 = .ok (.istore_n 3, 1) := by decide +kernel
theorem dL_adds_9 : decode cL_adds 9 = .ok (.iload_n 1, 1) := by decide +kernel
theorem dL_adds_10 : decode cL_adds 10 = .ok (.bipush 40, 2) := by decide +kernel
theorem dL_adds_12 : decode cL_adds 12 = .ok (.if_icmp .le 7, 3) := by decide +kernel
theorem dL_adds_15 : decode cL_adds 15 = .ok (.iconst 1, 1) := by decide +kernel
theorem dL_adds_16 : decode cL_adds 16 = .ok (.goto 4, 3) := by decide +kernel
theorem dL_adds_19 : decode cL_adds 19 = .ok (.iconst 0, 1) := by decide +kernel
theorem dL_adds_20 : decode cL_adds 20 = .ok (.istore 4, 2) := by decide +kernel
theorem dL_adds_22 : decode cL_adds 22 = .ok (.iconst 1, 1) := by decide +kernel
theorem dL_adds_23 : decode cL_adds 23 = .ok (.istore 5, 2) := by decide +kernel
theorem dL_adds_25 : decode cL_adds 25 = .ok (.iconst 0, 1) := by decide +kernel
theorem dL_adds_26 : decode cL_adds 26 = .ok (.istore 6, 2) := by decide +kernel
theorem dL_adds_28 : decode cL_adds 28 = .ok (.iload 6, 2) := by decide +kernel
theorem dL_adds_30 : decode cL_adds 30 = .ok (.iload_n 1, 1) := by decide +kernel
theorem dL_adds_31 : decode cL_adds 31 = .ok (.if_icmp .ge 179, 3) := by decide +kernel
theorem dL_adds_34 : decode cL_adds 34 = .ok (.iload 5, 2) := by decide +kernel
theorem dL_adds_36 : decode cL_adds 36 = .ok (.ifCond .eq 174, 3) := by decide +kernel
theorem dL_adds_39 : decode cL_adds 39 = .ok (.iload 4, 2) := by decide +kernel
theorem dL_adds_41 : decode cL_adds 41 = .ok (.ifCond .ne 47, 3) := by decide +kernel
theorem dL_adds_44 : decode cL_adds 44 = .ok (.aload_n 0, 1) := by decide +kernel
theorem dL_adds_45 : decode cL_adds 45 = .ok (.iload 6, 2) := by decide +kernel
theorem dL_adds_47 : decode cL_adds 47 = .ok (.iconst 0, 1) := by decide +kernel
theorem dL_adds_48 : decode cL_adds 48 = .ok (.iconst 0, 1) := by decide +kernel
theorem dL_adds_49 : decode cL_adds 49 = .ok (.invokevirtual 55, 3) := by decide +kernel
theorem dL_adds_52 : decode cL_adds 52 = .ok (.aload_n 0, 1) := by decide +kernel
theorem dL_adds_53 : decode cL_adds 53 = .ok (.iload 6, 2) := by decide +kernel
theorem dL_adds_55 : decode cL_adds 55 = .ok (.iconst 0, 1) := by decide +kernel
theorem dL_adds_56 : decode cL_adds 56 = .ok (.iconst 1, 1) := by decide +kernel
theorem dL_adds_57 : decode cL_adds 57 = .ok (.invokevirtual 55, 3) := by decide +kernel
theorem dL_adds_60 : decode cL_adds 60 = .ok (.iadd, 1) := by decide +kernel
theorem dL_adds_61 : decode cL_adds 61 = .ok (.bipush 99, 2) := by decide +kernel
theorem dL_adds_63 : decode cL_adds 63 = .ok (.if_icmp .gt 25, 3) := by decide +kernel
theorem dL_adds_66 : decode cL_adds 66 = .ok (.aload_n 0, 1) := by decide +kernel
theorem dL_adds_67 : decode cL_adds 67 = .ok (.iload 6, 2) := by decide +kernel
theorem dL_adds_69 : decode cL_adds 69 = .ok (.iconst 1, 1) := by decide +kernel
theorem dL_adds_70 : decode cL_adds 70 = .ok (.iconst 0, 1) := by decide +kernel
theorem dL_adds_71 : decode cL_adds 71 = .ok (.invokevirtual 55, 3) := by decide +kernel
theorem dL_adds_74 : decode cL_adds 74 = .ok (.aload_n 0, 1) := by decide +kernel
theorem dL_adds_75 : decode cL_adds 75 = .ok (.iload 6, 2) := by decide +kernel
theorem dL_adds_77 : decode cL_adds 77 = .ok (.iconst 1, 1) := by decide +kernel
theorem dL_adds_78 : decode cL_adds 78 = .ok (.iconst 1, 1) := by decide +kernel
theorem dL_adds_79 : decode cL_adds 79 = .ok (.invokevirtual 55, 3) := by decide +kernel
theorem dL_adds_82 : decode cL_adds 82 = .ok (.iadd, 1) := by decide +kernel
theorem dL_adds_83 : decode cL_adds 83 = .ok (.bipush 99, 2) := by decide +kernel
theorem dL_adds_85 : decode cL_adds 85 = .ok (.if_icmp .le 7, 3) := by decide +kernel
theorem dL_adds_88 : decode cL_adds 88 = .ok (.iconst 1, 1) := by decide +kernel
theorem dL_adds_89 : decode cL_adds 89 = .ok (.goto 4, 3) := by decide +kernel
theorem dL_adds_92 : decode cL_adds 92 = .ok (.iconst 0, 1) := by decide +kernel
theorem dL_adds_93 : decode cL_adds 93 = .ok (.istore 4, 2) := by decide +kernel
theorem dL_adds_95 : decode cL_adds 95 = .ok (.aload_n 0, 1) := by decide +kernel
theorem dL_adds_96 : decode cL_adds 96 = .ok (.iload 6, 2) := by decide +kernel
theorem dL_adds_98 : decode cL_adds 98 = .ok (.iconst 0, 1) := by decide +kernel
theorem dL_adds_99 : decode cL_adds 99 = .ok (.iconst 2, 1) := by decide +kernel
theorem dL_adds_100 : decode cL_adds 100 = .ok (.invokevirtual 55, 3) := by decide +kernel
theorem dL_adds_103 : decode cL_adds 103 = .ok (.istore 7, 2) := by decide +kernel
theorem dL_adds_105 : decode cL_adds 105 = .ok (.aload_n 0, 1) := by decide +kernel
theorem dL_adds_106 : decode cL_adds 106 = .ok (.iload 6, 2) := by decide +kernel
theorem dL_adds_108 : decode cL_adds 108 = .ok (.iconst 1, 1) := by decide +kernel
theorem dL_adds_109 : decode cL_adds 109 = .ok (.iconst 2, 1) := by decide +kernel
theorem dL_adds_110 : decode cL_adds 110 = .ok (.invokevirtual 55, 3) := by decide +kernel
theorem dL_adds_113 : decode cL_adds 113 = .ok (.istore 8, 2) := by decide +kernel
theorem dL_adds_115 : decode cL_adds 115 = .ok (.iload_n 2, 1) := by decide +kernel
theorem dL_adds_116 : decode cL_adds 116 = .ok (.iload 6, 2) := by decide +kernel
theorem dL_adds_118 : decode cL_adds 118 = .ok (.iload_n 1, 1) := by decide +kernel
theorem dL_adds_119 : decode cL_adds 119 = .ok (.iconst 1, 1) := by decide +kernel
theorem dL_adds_120 : decode cL_adds 120 = .ok (.isub, 1) := by decide +kernel
theorem dL_adds_121 : decode cL_adds 121 = .ok (.if_icmp .ge 17, 3) := by decide +kernel
theorem dL_adds_124 : decode cL_adds 124 = .ok (.iload 7, 2) := by decide +kernel
theorem dL_adds_126 : decode cL_adds 126 = .ok (.iload 7, 2) := by decide +kernel
theorem dL_adds_128 : decode cL_adds 128 = .ok (.imul, 1) := by decide +kernel
theorem dL_adds_129 : decode cL_adds 129 = .ok (.iload 8, 2) := by decide +kernel
theorem dL_adds_131 : decode cL_adds 131 = .ok (.iload 8, 2) := by decide +kernel
theorem dL_adds_133 : decode cL_adds 133 = .ok (.imul, 1) := by decide +kernel
theorem dL_adds_134 : decode cL_adds 134 = .ok (.iadd, 1) := by decide +kernel
theorem dL_adds_135 : decode cL_adds 135 = .ok (.goto 4, 3) := by decide +kernel
theorem dL_adds_138 : decode cL_adds 138 = .ok (.iconst 0, 1) := by decide +kernel
theorem dL_adds_139 : decode cL_adds 139 = .ok (.iadd, 1) := by decide +kernel
theorem dL_adds_140 : decode cL_adds 140 = .ok (.istore_n 2, 1) := by decide +kernel
theorem dL_adds_141 : decode cL_adds 141 = .ok (.iload_n 3, 1) := by decide +kernel
theorem dL_adds_142 : decode cL_adds 142 = .ok (.aload_n 0, 1) := by decide +kernel
theorem dL_adds_143 : decode cL_adds 143 = .ok (.iload 6, 2) := by decide +kernel
theorem dL_adds_145 : decode cL_adds 145 = .ok (.invokevirtual 61, 3) := by decide +kernel
theorem dL_adds_148 : decode cL_adds 148 = .ok (.iadd, 1) := by decide +kernel
theorem dL_adds_149 : decode cL_adds 149 = .ok (.istore_n 3, 1) := by decide +kernel
theorem dL_adds_150 : decode cL_adds 150 = .ok (.iload 7, 2) := by decide +kernel
theorem dL_adds_152 : decode cL_adds 152 = .ok (.ifCond .lt 49, 3) := by decide +kernel
theorem dL_adds_155 : decode cL_adds 155 = .ok (.iload 8, 2) := by decide +kernel
theorem dL_adds_157 : decode cL_adds 157 = .ok (.ifCond .lt 44, 3) := by decide +kernel
theorem dL_adds_160 : decode cL_adds 160 = .ok (.aload_n 0, 1) := by decide +kernel
theorem dL_adds_161 : decode cL_adds 161 = .ok (.iload 6, 2) := by decide +kernel
theorem dL_adds_163 : decode cL_adds 163 = .ok (.invokevirtual 64, 3) := by decide +kernel
theorem dL_adds_166 : decode cL_adds 166 = .ok (.ifCond .gt 31, 3) := by decide +kernel
theorem dL_adds_169 : decode cL_adds 169 = .ok (.iload 6, 2) := by decide +kernel
theorem dL_adds_171 : decode cL_adds 171 = .ok (.iload_n 1, 1) := by decide +kernel
theorem dL_adds_172 : decode cL_adds 172 = .ok (.iconst 1, 1) := by decide +kernel
theorem dL_adds_173 : decode cL_adds 173 = .ok (.isub, 1) := by decide +kernel
theorem dL_adds_174 : decode cL_adds 174 = .ok (.if_icmp .ne 27, 3) := by decide +kernel
theorem dL_adds_177 : decode cL_adds 177 = .ok (.aload_n 0, 1) := by decide +kernel
theorem dL_adds_178 : decode cL_adds 178 = .ok (.iload 6, 2) := by decide +kernel
theorem dL_adds_180 : decode cL_adds 180 = .ok (.iconst 0, 1) := by decide +kernel
theorem dL_adds_181 : decode cL_adds 181 = .ok (.iconst 3, 1) := by decide +kernel
theorem dL_adds_182 : decode cL_adds 182 = .ok (.invokevirtual 55, 3) := by decide +kernel
theorem dL_adds_185 : decode cL_adds 185 = .ok (.aload_n 0, 1) := by decide +kernel
theorem dL_adds_186 : decode cL_adds 186 = .ok (.iload 6, 2) := by decide +kernel
theorem dL_adds_188 : decode cL_adds 188 = .ok (.iconst 1, 1) := by decide +kernel
theorem dL_adds_189 : decode cL_adds 189 = .ok (.iconst 3, 1) := by decide +kernel
theorem dL_adds_190 : decode cL_adds 190 = .ok (.invokevirtual 55, 3) := by decide +kernel
theorem dL_adds_193 : decode cL_adds 193 = .ok (.iadd, 1) := by decide +kernel
theorem dL_adds_194 : decode cL_adds 194 = .ok (.ifCond .le 7, 3) := by decide +kernel
theorem dL_adds_197 : decode cL_adds 197 = .ok (.iconst 1, 1) := by decide +kernel
theorem dL_adds_198 : decode cL_adds 198 = .ok (.goto 4, 3) := by decide +kernel
theorem dL_adds_201 : decode cL_adds 201 = .ok (.iconst 0, 1) := by decide +kernel
theorem dL_adds_202 : decode cL_adds 202 = .ok (.istore 5, 2) := by decide +kernel
theorem dL_adds_204 : decode cL_adds 204 = .ok (.iinc 6 1, 3) := by decide +kernel
theorem dL_adds_207 : decode cL_adds 207 = .ok (.goto (-179), 3) := by decide +kernel
theorem dL_adds_210 : decode cL_adds 210 = .ok (.iload 5, 2) := by decide +kernel
theorem dL_adds_212 : decode cL_adds 212 = .ok (.ifCond .eq 33, 3) := by decide +kernel
theorem dL_adds_215 : decode cL_adds 215 = .ok (.aload_n 0, 1) := by decide +kernel
theorem dL_adds_216 : decode cL_adds 216 = .ok (.invokevirtual 67, 3) := by decide +kernel
theorem dL_adds_219 : decode cL_adds 219 = .ok (.iload_n 2, 1) := by decide +kernel
theorem dL_adds_220 : decode cL_adds 220 = .ok (.if_icmp .ne 25, 3) := by decide +kernel
theorem dL_adds_223 : decode cL_adds 223 = .ok (.iload 4, 2) := by decide +kernel
theorem dL_adds_225 : decode cL_adds 225 = .ok (.ifCond .ne 11, 3) := by decide +kernel
theorem dL_adds_228 : decode cL_adds 228 = .ok (.aload_n 0, 1) := by decide +kernel
theorem dL_adds_229 : decode cL_adds 229 = .ok (.iload_n 1, 1) := by decide +kernel
theorem dL_adds_230 : decode cL_adds 230 = .ok (.invokestatic 70, 3) := by decide +kernel
theorem dL_adds_233 : decode cL_adds 233 = .ok (.ifCond .eq 12, 3) := by decide +kernel
theorem dL_adds_236 : decode cL_adds 236 = .ok (.iload_n 3, 1) := by decide +kernel
theorem dL_adds_237 : decode cL_adds 237 = .ok (.iload_n 1, 1) := by decide +kernel
theorem dL_adds_238 : decode cL_adds 238 = .ok (.if_icmp .gt 7, 3) := by decide +kernel
theorem dL_adds_241 : decode cL_adds 241 = .ok (.iconst 1, 1) := by decide +kernel
theorem dL_adds_242 : decode cL_adds 242 = .ok (.goto 4, 3) := by decide +kernel
theorem dL_adds_245 : decode cL_adds 245 = .ok (.iconst 0, 1) := by decide +kernel
theorem dL_adds_246 : decode cL_adds 246 = .ok (.ireturn, 1) := by decide +kernel
theorem dL_law_0 : decode cL_law 0 = .ok (.new 10, 3) := by decide +kernel
theorem dL_law_3 : decode cL_law 3 = .ok (.dup, 1) := by decide +kernel
theorem dL_law_4 : decode cL_law 4 = .ok (.invokespecial 76, 3) := by decide +kernel
theorem dL_law_7 : decode cL_law 7 = .ok (.astore_n 1, 1) := by decide +kernel
theorem dL_law_8 : decode cL_law 8 = .ok (.iconst 1, 1) := by decide +kernel
theorem dL_law_9 : decode cL_law 9 = .ok (.istore_n 2, 1) := by decide +kernel
theorem dL_law_10 : decode cL_law 10 = .ok (.iconst 0, 1) := by decide +kernel
theorem dL_law_11 : decode cL_law 11 = .ok (.istore_n 3, 1) := by decide +kernel
theorem dL_law_12 : decode cL_law 12 = .ok (.iload_n 3, 1) := by decide +kernel
theorem dL_law_13 : decode cL_law 13 = .ok (.bipush 48, 2) := by decide +kernel
theorem dL_law_15 : decode cL_law 15 = .ok (.if_icmp .ge 46, 3) := by decide +kernel
theorem dL_law_18 : decode cL_law 18 = .ok (.iload_n 2, 1) := by decide +kernel
theorem dL_law_19 : decode cL_law 19 = .ok (.ifCond .eq 42, 3) := by decide +kernel
theorem dL_law_22 : decode cL_law 22 = .ok (.aload_n 1, 1) := by decide +kernel
theorem dL_law_23 : decode cL_law 23 = .ok (.aload_n 0, 1) := by decide +kernel
theorem dL_law_24 : decode cL_law 24 = .ok (.iload_n 3, 1) := by decide +kernel
theorem dL_law_25 : decode cL_law 25 = .ok (.invokestatic 77, 3) := by decide +kernel
theorem dL_law_28 : decode cL_law 28 = .ok (.invokestatic 81, 3) := by decide +kernel
theorem dL_law_31 : decode cL_law 31 = .ok (.ifCond .eq 22, 3) := by decide +kernel
theorem dL_law_34 : decode cL_law 34 = .ok (.iload_n 3, 1) := by decide +kernel
theorem dL_law_35 : decode cL_law 35 = .ok (.bipush 6, 2) := by decide +kernel
theorem dL_law_37 : decode cL_law 37 = .ok (.irem, 1) := by decide +kernel
theorem dL_law_38 : decode cL_law 38 = .ok (.iconst 5, 1) := by decide +kernel
theorem dL_law_39 : decode cL_law 39 = .ok (.if_icmp .lt 10, 3) := by decide +kernel
theorem dL_law_42 : decode cL_law 42 = .ok (.aload_n 1, 1) := by decide +kernel
theorem dL_law_43 : decode cL_law 43 = .ok (.invokestatic 84, 3) := by decide +kernel
theorem dL_law_46 : decode cL_law 46 = .ok (.ifCond .eq 7, 3) := by decide +kernel
theorem dL_law_49 : decode cL_law 49 = .ok (.iconst 1, 1) := by decide +kernel
theorem dL_law_50 : decode cL_law 50 = .ok (.goto 4, 3) := by decide +kernel
theorem dL_law_53 : decode cL_law 53 = .ok (.iconst 0, 1) := by decide +kernel
theorem dL_law_54 : decode cL_law 54 = .ok (.istore_n 2, 1) := by decide +kernel
theorem dL_law_55 : decode cL_law 55 = .ok (.iinc 3 1, 3) := by decide +kernel
theorem dL_law_58 : decode cL_law 58 = .ok (.goto (-46), 3) := by decide +kernel
theorem dL_law_61 : decode cL_law 61 = .ok (.iload_n 2, 1) := by decide +kernel
theorem dL_law_62 : decode cL_law 62 = .ok (.ifCond .eq 14, 3) := by decide +kernel
theorem dL_law_65 : decode cL_law 65 = .ok (.aload_n 1, 1) := by decide +kernel
theorem dL_law_66 : decode cL_law 66 = .ok (.invokestatic 84, 3) := by decide +kernel
theorem dL_law_69 : decode cL_law 69 = .ok (.ifCond .eq 7, 3) := by decide +kernel
theorem dL_law_72 : decode cL_law 72 = .ok (.iconst 1, 1) := by decide +kernel
theorem dL_law_73 : decode cL_law 73 = .ok (.goto 4, 3) := by decide +kernel
theorem dL_law_76 : decode cL_law 76 = .ok (.iconst 0, 1) := by decide +kernel
theorem dL_law_77 : decode cL_law 77 = .ok (.istore_n 2, 1) := by decide +kernel
theorem dL_law_78 : decode cL_law 78 = .ok (.iconst 1, 1) := by decide +kernel
theorem dL_law_79 : decode cL_law 79 = .ok (.aload_n 0, 1) := by decide +kernel
theorem dL_law_80 : decode cL_law 80 = .ok (.bipush 49, 2) := by decide +kernel
theorem dL_law_82 : decode cL_law 82 = .ok (.invokestatic 77, 3) := by decide +kernel
theorem dL_law_85 : decode cL_law 85 = .ok (.bipush 12, 2) := by decide +kernel
theorem dL_law_87 : decode cL_law 87 = .ok (.irem, 1) := by decide +kernel
theorem dL_law_88 : decode cL_law 88 = .ok (.iadd, 1) := by decide +kernel
theorem dL_law_89 : decode cL_law 89 = .ok (.istore_n 3, 1) := by decide +kernel
theorem dL_law_90 : decode cL_law 90 = .ok (.iload_n 2, 1) := by decide +kernel
theorem dL_law_91 : decode cL_law 91 = .ok (.ifCond .eq 11, 3) := by decide +kernel
theorem dL_law_94 : decode cL_law 94 = .ok (.aload_n 1, 1) := by decide +kernel
theorem dL_law_95 : decode cL_law 95 = .ok (.iload_n 3, 1) := by decide +kernel
theorem dL_law_96 : decode cL_law 96 = .ok (.invokevirtual 88, 3) := by decide +kernel
theorem dL_law_99 : decode cL_law 99 = .ok (.goto 5, 3) := by decide +kernel
theorem dL_law_102 : decode cL_law 102 = .ok (.bipush (-4), 2) := by decide +kernel
theorem dL_law_104 : decode cL_law 104 = .ok (.istore 4, 2) := by decide +kernel
theorem dL_law_106 : decode cL_law 106 = .ok (.iload_n 2, 1) := by decide +kernel
theorem dL_law_107 : decode cL_law 107 = .ok (.ifCond .eq 67, 3) := by decide +kernel
theorem dL_law_110 : decode cL_law 110 = .ok (.iload 4, 2) := by decide +kernel
theorem dL_law_112 : decode cL_law 112 = .ok (.ifCond .le 62, 3) := by decide +kernel
theorem dL_law_115 : decode cL_law 115 = .ok (.aload_n 1, 1) := by decide +kernel
theorem dL_law_116 : decode cL_law 116 = .ok (.iconst 0, 1) := by decide +kernel
theorem dL_law_117 : decode cL_law 117 = .ok (.iload 4, 2) := by decide +kernel
theorem dL_law_119 : decode cL_law 119 = .ok (.invokevirtual 34, 3) := by decide +kernel
theorem dL_law_122 : decode cL_law 122 = .ok (.istore 5, 2) := by decide +kernel
theorem dL_law_124 : decode cL_law 124 = .ok (.iload 5, 2) := by decide +kernel
theorem dL_law_126 : decode cL_law 126 = .ok (.bipush 8, 2) := by decide +kernel
theorem dL_law_128 : decode cL_law 128 = .ok (.if_icmp .lt 44, 3) := by decide +kernel
theorem dL_law_131 : decode cL_law 131 = .ok (.aload_n 1, 1) := by decide +kernel
theorem dL_law_132 : decode cL_law 132 = .ok (.invokevirtual 58, 3) := by decide +kernel
theorem dL_law_135 : decode cL_law 135 = .ok (.iload_n 3, 1) := by decide +kernel
theorem dL_law_136 : decode cL_law 136 = .ok (.if_icmp .gt 36, 3) := by decide +kernel
theorem dL_law_139 : decode cL_law 139 = .ok (.iload 4, 2) := by decide +kernel
theorem dL_law_141 : decode cL_law 141 = .ok (.bipush 8, 2) := by decide +kernel
theorem dL_law_143 : decode cL_law 143 = .ok (.if_icmp .eq 25, 3) := by decide +kernel
theorem dL_law_146 : decode cL_law 146 = .ok (.aload_n 1, 1) := by decide +kernel
theorem dL_law_147 : decode cL_law 147 = .ok (.iconst 0, 1) := by decide +kernel
theorem dL_law_148 : decode cL_law 148 = .ok (.iload 4, 2) := by decide +kernel
theorem dL_law_150 : decode cL_law 150 = .ok (.iconst 1, 1) := by decide +kernel
theorem dL_law_151 : decode cL_law 151 = .ok (.isub, 1) := by decide +kernel
theorem dL_law_152 : decode cL_law 152 = .ok (.invokevirtual 34, 3) := by decide +kernel
theorem dL_law_155 : decode cL_law 155 = .ok (.iload 4, 2) := by decide +kernel
theorem dL_law_157 : decode cL_law 157 = .ok (.if_icmp .ne 15, 3) := by decide +kernel
theorem dL_law_160 : decode cL_law 160 = .ok (.aload_n 1, 1) := by decide +kernel
theorem dL_law_161 : decode cL_law 161 = .ok (.invokevirtual 58, 3) := by decide +kernel
theorem dL_law_164 : decode cL_law 164 = .ok (.iload_n 3, 1) := by decide +kernel
theorem dL_law_165 : decode cL_law 165 = .ok (.if_icmp .le 7, 3) := by decide +kernel
theorem dL_law_168 : decode cL_law 168 = .ok (.iconst 1, 1) := by decide +kernel
theorem dL_law_169 : decode cL_law 169 = .ok (.goto 4, 3) := by decide +kernel
theorem dL_law_172 : decode cL_law 172 = .ok (.iconst 0, 1) := by decide +kernel
theorem dL_law_173 : decode cL_law 173 = .ok (.istore_n 2, 1) := by decide +kernel
theorem dL_law_174 : decode cL_law 174 = .ok (.iload_n 2, 1) := by decide +kernel
theorem dL_law_175 : decode cL_law 175 = .ok (.ifCond .eq 10, 3) := by decide +kernel
theorem dL_law_178 : decode cL_law 178 = .ok (.aload_n 1, 1) := by decide +kernel
theorem dL_law_179 : decode cL_law 179 = .ok (.invokevirtual 91, 3) := by decide +kernel
theorem dL_law_182 : decode cL_law 182 = .ok (.goto 5, 3) := by decide +kernel
theorem dL_law_185 : decode cL_law 185 = .ok (.bipush (-4), 2) := by decide +kernel
theorem dL_law_187 : decode cL_law 187 = .ok (.istore 5, 2) := by decide +kernel
theorem dL_law_189 : decode cL_law 189 = .ok (.iconst (-1), 1) := by decide +kernel
theorem dL_law_190 : decode cL_law 190 = .ok (.istore 6, 2) := by decide +kernel
theorem dL_law_192 : decode cL_law 192 = .ok (.iconst 0, 1) := by decide +kernel
theorem dL_law_193 : decode cL_law 193 = .ok (.istore 7, 2) := by decide +kernel
theorem dL_law_195 : decode cL_law 195 = .ok (.iload 7, 2) := by decide +kernel
theorem dL_law_197 : decode cL_law 197 = .ok (.bipush 21, 2) := by decide +kernel
theorem dL_law_199 : decode cL_law 199 = .ok (.if_icmp .ge 83, 3) := by decide +kernel
theorem dL_law_202 : decode cL_law 202 = .ok (.iload_n 2, 1) := by decide +kernel
theorem dL_law_203 : decode cL_law 203 = .ok (.ifCond .eq 79, 3) := by decide +kernel
theorem dL_law_206 : decode cL_law 206 = .ok (.iload 5, 2) := by decide +kernel
theorem dL_law_208 : decode cL_law 208 = .ok (.ifCond .lt 74, 3) := by decide +kernel
theorem dL_law_211 : decode cL_law 211 = .ok (.aload_n 1, 1) := by decide +kernel
theorem dL_law_212 : decode cL_law 212 = .ok (.iload 7, 2) := by decide +kernel
theorem dL_law_214 : decode cL_law 214 = .ok (.invokevirtual 94, 3) := by decide +kernel
theorem dL_law_217 : decode cL_law 217 = .ok (.istore 8, 2) := by decide +kernel
theorem dL_law_219 : decode cL_law 219 = .ok (.iload 8, 2) := by decide +kernel
theorem dL_law_221 : decode cL_law 221 = .ok (.bipush (-4), 2) := by decide +kernel
theorem dL_law_223 : decode cL_law 223 = .ok (.if_icmp .eq 29, 3) := by decide +kernel
theorem dL_law_226 : decode cL_law 226 = .ok (.iload 8, 2) := by decide +kernel
theorem dL_law_228 : decode cL_law 228 = .ok (.iload 6, 2) := by decide +kernel
theorem dL_law_230 : decode cL_law 230 = .ok (.if_icmp .le 26, 3) := by decide +kernel
theorem dL_law_233 : decode cL_law 233 = .ok (.iload 7, 2) := by decide +kernel
theorem dL_law_235 : decode cL_law 235 = .ok (.ifCond .gt 8, 3) := by decide +kernel
theorem dL_law_238 : decode cL_law 238 = .ok (.iload 8, 2) := by decide +kernel
theorem dL_law_240 : decode cL_law 240 = .ok (.ifCond .ne 16, 3) := by decide +kernel
theorem dL_law_243 : decode cL_law 243 = .ok (.iload 6, 2) := by decide +kernel
theorem dL_law_245 : decode cL_law 245 = .ok (.aload_n 1, 1) := by decide +kernel
theorem dL_law_246 : decode cL_law 246 = .ok (.invokevirtual 9, 3) := by decide +kernel
theorem dL_law_249 : decode cL_law 249 = .ok (.if_icmp .ge 7, 3) := by decide +kernel
theorem dL_law_252 : decode cL_law 252 = .ok (.iconst 1, 1) := by decide +kernel
theorem dL_law_253 : decode cL_law 253 = .ok (.goto 4, 3) := by decide +kernel
theorem dL_law_256 : decode cL_law 256 = .ok (.iconst 0, 1) := by decide +kernel
theorem dL_law_257 : decode cL_law 257 = .ok (.istore_n 2, 1) := by decide +kernel
theorem dL_law_258 : decode cL_law 258 = .ok (.iload 8, 2) := by decide +kernel
theorem dL_law_260 : decode cL_law 260 = .ok (.bipush (-4), 2) := by decide +kernel
theorem dL_law_262 : decode cL_law 262 = .ok (.if_icmp .ne 10, 3) := by decide +kernel
theorem dL_law_265 : decode cL_law 265 = .ok (.aload_n 1, 1) := by decide +kernel
theorem dL_law_266 : decode cL_law 266 = .ok (.invokevirtual 9, 3) := by decide +kernel
theorem dL_law_269 : decode cL_law 269 = .ok (.goto 5, 3) := by decide +kernel
theorem dL_law_272 : decode cL_law 272 = .ok (.iload 8, 2) := by decide +kernel
theorem dL_law_274 : decode cL_law 274 = .ok (.istore 6, 2) := by decide +kernel
theorem dL_law_276 : decode cL_law 276 = .ok (.iinc 7 1, 3) := by decide +kernel
theorem dL_law_279 : decode cL_law 279 = .ok (.goto (-84), 3) := by decide +kernel
theorem dL_law_282 : decode cL_law 282 = .ok (.iload_n 2, 1) := by decide +kernel
theorem dL_law_283 : decode cL_law 283 = .ok (.ifCond .eq 22, 3) := by decide +kernel
theorem dL_law_286 : decode cL_law 286 = .ok (.iload 5, 2) := by decide +kernel
theorem dL_law_288 : decode cL_law 288 = .ok (.ifCond .ge 13, 3) := by decide +kernel
theorem dL_law_291 : decode cL_law 291 = .ok (.aload_n 1, 1) := by decide +kernel
theorem dL_law_292 : decode cL_law 292 = .ok (.iconst 0, 1) := by decide +kernel
theorem dL_law_293 : decode cL_law 293 = .ok (.invokevirtual 94, 3) := by decide +kernel
theorem dL_law_296 : decode cL_law 296 = .ok (.bipush (-4), 2) := by decide +kernel
theorem dL_law_298 : decode cL_law 298 = .ok (.if_icmp .ne 7, 3) := by decide +kernel
theorem dL_law_301 : decode cL_law 301 = .ok (.iconst 1, 1) := by decide +kernel
theorem dL_law_302 : decode cL_law 302 = .ok (.goto 4, 3) := by decide +kernel
theorem dL_law_305 : decode cL_law 305 = .ok (.iconst 0, 1) := by decide +kernel
theorem dL_law_306 : decode cL_law 306 = .ok (.ireturn, 1) := by decide +kernel
abbrev vwCl : List vw_C := [(RX0, TX0, 7), (RX1, TX1, 5), (RX2, TX2, 7), (RX3, TX3, 3), (RX4, TX4, 2), (RX5, TX5, 3), (RX6, TX6, 11), (RX7, TX7, 4)]
end
section
/-! ===== the abstract layer: values, shapes, stores ===== -/
abbrev AV : Type := Sum Int Nat
abbrev LT : Type := List (Option AV)
abbrev Sto : Type := Nat → Int → Int
abbrev XF : Type := Option (Option Nat)
/-- a cell's shape: an object (its class, its fields: none a number, some a reference), a row of numbers (of booleans), a row of references (of editions, else of rows) -/
abbrev Sh : Type := Sum (Nat × List XF) (Sum (Bool × Nat) (Bool × List (Option Nat)))
/-- the run's constants: the kit's table of classes, the first own address, the classes of arrays, the addresses of the static rows -/
abbrev XT : Type := va_G × Nat × (Nat → ClassId) × (Nat → Nat)
/-- shapes, and what was made -/
abbrev GS : Type := List Sh × Nat × Nat
/-- a method: name, bytes, locals, answer, rank, cells and slots that it may make -/
abbrev MT : Type := MethodName × ByteArray × Nat × Option FieldType × Nat × Nat × Nat
abbrev QT : Type := Option AV → List Sh → Sto → Prop
abbrev KT : Type := Nat → LT → List AV → GS → Sto → Prop
abbrev Act : Type := LT → List AV → GS → Sto → KT → QT → Prop
abbrev m_y (M : MT) : MethodName := M.1
abbrev m_c (M : MT) : ByteArray := M.2.1
abbrev m_n (M : MT) : Nat := M.2.2.1
abbrev m_r (M : MT) : Option FieldType := M.2.2.2.1
abbrev m_k (M : MT) : Nat := M.2.2.2.2.1
abbrev m_mc (M : MT) : Nat := M.2.2.2.2.2.1
abbrev m_ms (M : MT) : Nat := M.2.2.2.2.2.2
abbrev xD (X : XT) : va_G := X.1
abbrev xb (X : XT) : Nat := X.2.1
abbrev xc (X : XT) : Nat → ClassId := X.2.2.1
abbrev xs (X : XT) : Nat → Nat := X.2.2.2
def InR (x : Int) : Prop := -2147483648 ≤ x ∧ x ≤ 2147483647
def up (σ : Sto) (a : Nat) (j v : Int) (b : Nat) (i : Int) : Int := if b = a ∧ i = j then v else σ b i
def cpy (σ : Sto) (a b : Nat) (sp dp n : Int) (c : Nat) (i : Int) : Int := if c = b ∧ dp ≤ i ∧ i < dp + n then σ a (sp + (i - dp)) else σ c i
def x_addr (X : XT) (i : Nat) : Nat := if i < 100000 then xb X + i else xs X (i - 100000)
def x_c (X : XT) : AV → Value
  | .inl x => .int (Int32.ofInt x)
  | .inr i => .ref (x_addr X i)
def okv : AV → Prop
  | .inl x => InR x
  | .inr _ => True
def lget : LT → Nat → Option AV
  | [], _ => none
  | v :: _, 0 => v
  | _ :: l, k + 1 => lget l k
def lset : LT → Nat → AV → LT
  | [], _, _ => []
  | _ :: l, 0, v => some v :: l
  | w :: l, k + 1, v => w :: lset l k v
def fget : List XF → Nat → Option XF
  | [], _ => none
  | v :: _, 0 => some v
  | _ :: l, k + 1 => fget l k
def rget : List (Option Nat) → Nat → Option Nat
  | [], _ => none
  | v :: _, 0 => v
  | _ :: l, k + 1 => rget l k
theorem fget_eq : ∀ (l : List XF) (k : Nat), fget l k = l[k]?
  | [], _ => by simp [fget]
  | _ :: _, 0 => by simp [fget]
  | _ :: l, k + 1 => by simp [fget, fget_eq l k]
theorem rget_eq : ∀ (l : List (Option Nat)) (k : Nat), rget l k = (l[k]?).join
  | [], _ => by simp [rget]
  | _ :: _, 0 => by simp [rget]
  | _ :: l, k + 1 => by simp [rget, rget_eq l k]
def shp (g : GS) (i : Nat) : Option Sh := g.1[i]?
/-- the static rows: 0 INITIAL, 1 LOWEST, 2 HIGHEST, 3 SEGMENT_FIRST, 4 SEGMENT_LINES, 5 SEGMENT_BEGIN -/
def st_nm : Nat → String
  | 0 => "INITIAL"
  | 1 => "LOWEST"
  | 2 => "HIGHEST"
  | 3 => "SEGMENT_FIRST"
  | 4 => "SEGMENT_LINES"
  | _ => "SEGMENT_BEGIN"
def st_n : Nat → Nat
  | 0 => 6
  | 1 => 6
  | 2 => 6
  | _ => 2
def st_v : Nat → Int → Int
  | 0, j => if j = 0 then 20 else if j = 1 then 1 else if j = 2 then 1 else if j = 3 then 2 else if j = 4 then 3 else 0
  | 1, j => if j = 0 then 8 else if j = 1 then 0 else if j = 2 then 0 else if j = 3 then 1 else if j = 4 then 0 else 0
  | 2, j => if j = 0 then 60 else if j = 1 then 3 else if j = 2 then 2 else if j = 3 then 4 else if j = 4 then 5 else 1
  | 3, j => if j = 0 then 1 else 3
  | 4, j => if j = 0 then 2 else 4
  | _, j => if j = 0 then 5 else 6
theorem st_in (k : Nat) (j : Int) : InR (st_v k j) := by
  unfold st_v InR
  split <;> (repeat' split) <;> omega
/-! ===== the heap of a store ===== -/
def x_fv (X : XT) (σ : Sto) (i : Nat) : Nat → List XF → List Value
  | _, [] => []
  | k, none :: fs => .int (Int32.ofInt (σ i k)) :: x_fv X σ i (k + 1) fs
  | k, some r :: fs => va_rf (r.map (fun j => xb X + j)) :: x_fv X σ i (k + 1) fs
def x_f1 (X : XT) (σ : Sto) (i k : Nat) : XF → Value
  | none => .int (Int32.ofInt (σ i k))
  | some r => va_rf (r.map (fun j => xb X + j))
theorem x_fv_get (X : XT) (σ : Sto) (i : Nat) : ∀ (fs : List XF) (k0 j : Nat), (x_fv X σ i k0 fs)[j]? = (fs[j]?).map (x_f1 X σ i (k0 + j))
  | [], k0, j => by simp [x_fv]
  | none :: fs, k0, 0 => by simp [x_fv, x_f1]
  | some r :: fs, k0, 0 => by simp [x_fv, x_f1]
  | none :: fs, k0, j + 1 => by
    simp only [x_fv, List.getElem?_cons_succ]
    rw [x_fv_get X σ i fs (k0 + 1) j, show k0 + 1 + j = k0 + (j + 1) by omega]
  | some r :: fs, k0, j + 1 => by
    simp only [x_fv, List.getElem?_cons_succ]
    rw [x_fv_get X σ i fs (k0 + 1) j, show k0 + 1 + j = k0 + (j + 1) by omega]
theorem x_fv_len (X : XT) (σ : Sto) (i : Nat) : ∀ (fs : List XF) (k0 : Nat), (x_fv X σ i k0 fs).length = fs.length
  | [], _ => rfl
  | none :: fs, k0 => by simp [x_fv, x_fv_len X σ i fs (k0 + 1)]
  | some _ :: fs, k0 => by simp [x_fv, x_fv_len X σ i fs (k0 + 1)]
theorem x_fv_put {X : XT} {σ : Sto} {i : Nat} {fs : List XF} {k : Nat} {v : Int} (h : fs[k]? = some none) : (x_fv X σ i 0 fs).set k (.int (Int32.ofInt v)) = x_fv X (up σ i k v) i 0 fs := by
  apply List.ext_getElem?
  intro j
  rw [List.getElem?_set, x_fv_get, x_fv_get, x_fv_len]
  simp only [Nat.zero_add]
  have hl := (List.getElem?_eq_some_iff.mp h).1
  by_cases e : k = j
  · subst e
    rw [if_pos rfl, if_pos hl, h]
    simp [x_f1, up]
  · rw [if_neg e]
    cases hj : fs[j]? with
    | none => rfl
    | some f =>
      cases f with
      | none => simp [x_f1, up, show ¬ ((j : Int) = (k : Int)) by omega]
      | some r => rfl
theorem x_fv_putr {X : XT} {σ : Sto} {i : Nat} {fs : List XF} {k r : Nat} (h : ∃ r0, fs[k]? = some (some r0)) : (x_fv X σ i 0 fs).set k (.ref (xb X + r)) = x_fv X σ i 0 (fs.set k (some (some r))) := by
  obtain ⟨r0, h⟩ := h
  apply List.ext_getElem?
  intro j
  rw [List.getElem?_set, x_fv_get, x_fv_get, x_fv_len, List.getElem?_set]
  simp only [Nat.zero_add]
  have hl := (List.getElem?_eq_some_iff.mp h).1
  by_cases e : k = j
  · subst e
    rw [if_pos rfl, if_pos hl, if_pos rfl, if_pos hl]
    simp [x_f1, va_rf]
  · rw [if_neg e, if_neg e]
def x_entS (X : XT) (σ : Sto) (i : Nat) : Sh → va_E
  | .inl (ci, fs) => .inr (ci, x_fv X σ i 0 fs)
  | .inr (.inl (z, n)) => .inl (xc X (if z then 1 else 0), n, .inl (fun j => Int32.ofInt (σ i j)))
  | .inr (.inr (z, l)) => .inl (xc X (if z then 2 else 3), l.length, .inr (.inr (.inr (.inr (fun j => ((l[j]?).join).map (fun k => xb X + k))))))
def x_ent (X : XT) (G : List Sh) (σ : Sto) (i : Nat) : va_E := match G[i]? with
  | some sh => x_entS X σ i sh
  | none => .inr (0, [])
def x_ws (X : XT) (G : List Sh) (σ : Sto) : va_W := (List.range G.length).map (fun i => (xb X + i, x_ent X G σ i))
theorem x_ws_len (X : XT) (G : List Sh) (σ : Sto) : (x_ws X G σ).length = G.length := by simp [x_ws]
theorem x_ws_get {X : XT} {G : List Sh} {σ : Sto} {i : Nat} {sh : Sh} (h : G[i]? = some sh) : (x_ws X G σ)[i]? = some (xb X + i, x_entS X σ i sh) := by
  have hl := (List.getElem?_eq_some_iff.mp h).1
  unfold x_ws
  rw [List.getElem?_map, List.getElem?_range hl]
  simp [x_ent, h]
theorem x_ws_at {X : XT} {G : List Sh} {σ : Sto} {k : Nat} {q : Nat × va_E} (h : (x_ws X G σ)[k]? = some q) : k < G.length ∧ q = (xb X + k, x_ent X G σ k) := by
  have hl := (List.getElem?_eq_some_iff.mp h).1
  rw [x_ws_len] at hl
  refine ⟨hl, ?_⟩
  unfold x_ws at h
  rw [List.getElem?_map, List.getElem?_range hl] at h
  exact (Option.some.inj h).symm
def x_A (X : XT) : Nat → Prop := fun q => xb X ≤ q
theorem x_D (X : XT) (G : List Sh) (σ : Sto) : va_D (x_A X) (x_ws X G σ) := by
  refine ⟨fun i j p q hi hj hpq => ?_, fun k q hk => ?_⟩
  · obtain ⟨-, rfl⟩ := x_ws_at hi
    obtain ⟨-, rfl⟩ := x_ws_at hj
    have : xb X + i = xb X + j := hpq
    omega
  · obtain ⟨-, rfl⟩ := x_ws_at hk
    show xb X ≤ xb X + k
    omega
theorem x_ws_set {X : XT} {G G' : List Sh} {σ σ' : Sto} {i : Nat} {e : va_E} (hl : G'.length = G.length) (hi : i < G.length) (hk : ∀ k, k < G.length → k ≠ i → x_ent X G' σ' k = x_ent X G σ k) (he : x_ent X G' σ' i = e) : (x_ws X G σ).set i (xb X + i, e) = x_ws X G' σ' := by
  apply List.ext_getElem?
  intro j
  rw [List.getElem?_set, x_ws_len]
  by_cases e1 : i = j
  · subst e1
    rw [if_pos rfl, if_pos hi]
    unfold x_ws
    rw [List.getElem?_map, List.getElem?_range (by omega)]
    simp [he]
  · rw [if_neg e1]
    unfold x_ws
    rw [List.getElem?_map, List.getElem?_map, hl]
    by_cases hj : j < G.length
    · rw [List.getElem?_range hj]
      simp [hk j hj (fun q => e1 q.symm)]
    · rw [List.getElem?_eq_none (by simp; omega)]
      rfl
theorem x_entS_up {X : XT} {σ σ' : Sto} {k : Nat} (h : σ' k = σ k) (sh : Sh) : x_entS X σ' k sh = x_entS X σ k sh := by
  have hf : ∀ (fs : List XF) (k0 : Nat), x_fv X σ' k k0 fs = x_fv X σ k k0 fs := by
    intro fs
    induction fs with
    | nil => intro _; rfl
    | cons f fs ih =>
      intro k0
      cases f with
      | none => simp [x_fv, ih, h]
      | some r => simp [x_fv, ih]
  match sh with
  | .inl (ci, fs) => simp [x_entS, hf]
  | .inr (.inl (z, n)) => simp [x_entS, h]
  | .inr (.inr (z, l)) => simp [x_entS]
theorem x_ent_up {X : XT} {G : List Sh} {σ σ' : Sto} {k : Nat} (h : σ' k = σ k) : x_ent X G σ' k = x_ent X G σ k := by
  unfold x_ent
  cases G[k]? with
  | none => rfl
  | some sh => exact x_entS_up h sh
theorem x_ent_some {X : XT} {G : List Sh} {σ : Sto} {i : Nat} {sh : Sh} (h : G[i]? = some sh) : x_ent X G σ i = x_entS X σ i sh := by simp [x_ent, h]
theorem up_other {σ : Sto} {a b : Nat} {j v : Int} (h : b ≠ a) : up σ a j v b = σ b := by
  funext i
  simp [up, h]
/-- a store changed at one object -/
theorem x_ws_put {X : XT} {G : List Sh} {σ σ' : Sto} {i : Nat} {sh : Sh} {e : va_E} (h : G[i]? = some sh) (ho : ∀ b, b ≠ i → σ' b = σ b) (he : x_entS X σ' i sh = e) : (x_ws X G σ).set i (xb X + i, e) = x_ws X G σ' :=
  x_ws_set rfl (List.getElem?_eq_some_iff.mp h).1 (fun k _ hk => x_ent_up (ho k hk)) (by rw [x_ent_some h]; exact he)
theorem x_ws_putP {X : XT} {G : List Sh} {σ σ' : Sto} {i : Nat} {sh : Sh} {e : va_E} {D : va_G} {cl : List vw_C} {H : Heap} (h : G[i]? = some sh) (ho : ∀ b, b ≠ i → σ' b = σ b) (he : x_entS X σ' i sh = e) (hP : va_P D cl ((x_ws X G σ).set i (xb X + i, e)) H) : va_P D cl (x_ws X G σ') H := by
  rw [x_ws_put h ho he] at hP
  exact hP
def sok (σ : Sto) : Prop := ∀ (a : Nat) (j : Int), InR (σ a j)
theorem sok_up {σ : Sto} {a : Nat} {j v : Int} (h : sok σ) (hv : InR v) : sok (up σ a j v) := by
  intro b i
  unfold up
  split
  · exact hv
  · exact h b i
theorem sok_cpy {σ : Sto} {a b : Nat} {sp dp n : Int} (h : sok σ) : sok (cpy σ a b sp dp n) := by
  intro c i
  unfold cpy
  split
  · exact h _ _
  · exact h c i
/-! ===== Int and Int32 ===== -/
theorem i_to {x : Int} (h : InR x) : (Int32.ofInt x).toInt = x := Int32.toInt_ofInt_of_le (by have := h.1; omega) (by have := h.2; omega)
theorem i_lt {x y : Int} (hx : InR x) (hy : InR y) : Int32.ofInt x < Int32.ofInt y ↔ x < y := by rw [Int32.lt_iff_toInt_lt, i_to hx, i_to hy]
theorem i_le {x y : Int} (hx : InR x) (hy : InR y) : Int32.ofInt x ≤ Int32.ofInt y ↔ x ≤ y := by rw [Int32.le_iff_toInt_le, i_to hx, i_to hy]
theorem i_eq {x y : Int} (hx : InR x) (hy : InR y) : Int32.ofInt x = Int32.ofInt y ↔ x = y := by rw [← Int32.toInt_inj, i_to hx, i_to hy]
theorem i_lt0 {x : Int} (hx : InR x) : Int32.ofInt x < 0 ↔ x < 0 := by
  have h := i_lt hx (y := 0) ⟨by decide, by decide⟩
  exact h
theorem i_le0 {x : Int} (hx : InR x) : Int32.ofInt x ≤ 0 ↔ x ≤ 0 := by
  have h := i_le hx (y := 0) ⟨by decide, by decide⟩
  exact h
theorem i_0le {x : Int} (hx : InR x) : 0 ≤ Int32.ofInt x ↔ 0 ≤ x := by
  have h := i_le (x := 0) (y := x) ⟨by decide, by decide⟩ hx
  exact h
theorem i_0lt {x : Int} (hx : InR x) : 0 < Int32.ofInt x ↔ 0 < x := by
  have h := i_lt (x := 0) (y := x) ⟨by decide, by decide⟩ hx
  exact h
theorem i_eq0 {x : Int} (hx : InR x) : Int32.ofInt x = 0 ↔ x = 0 := by
  have h := i_eq hx (y := 0) ⟨by decide, by decide⟩
  exact h
theorem i_nat {x : Int} (hx : InR x) : (Int32.ofInt x).toNatClampNeg = x.toNat := by rw [← Int32.toNat_toInt, i_to hx]
theorem i_in {x : Int} {n : Nat} (hx : InR x) (h0 : 0 ≤ x) (h1 : x < n) : vp_in (Int32.ofInt x) n := vp_in_iff.mpr (by rw [i_to hx]; exact ⟨h0, h1⟩)
/-! ===== the context ===== -/
def va_AOA (ty : FieldType) (U : State) : Prop := (Cond.arrayOver (.array ty)).before #[] U = true
theorem va_AOA.use {ty : FieldType} {A : Array Value} {U : State} (h : va_AOA ty U) : (Cond.arrayOver (.array ty)).before A U = true := h
theorem va_AOA.moved {ty : FieldType} {u U : State} (hvm : u.vm.Alike U.vm) (h : va_AOA ty u) : va_AOA ty U := arrayOver_alikeB hvm h
def x_tys (X : XT) : List (ClassId × FieldType) := [(xc X 0, .int), (xc X 1, .boolean), (xc X 2, .object RX1), (xc X 3, .array .int)]
abbrev W0 : List Cond := lw_tbl.filter goodWord
def x_rm (M : MT) : Room := { frames := m_k M, cells := m_mc M, slots := m_ms M, locals := (41 * m_k M + 4) }
def x_w (M : MT) : List Cond := .code (m_y M) (m_c M) (m_n M) (m_r M) :: W0
def NM : List (String × Nat × MethodName × String) := [("BilingualSetter", 9, ⟨"BilingualSetter$Edition", "<init>", "()V"⟩, "BilingualSetter"), ("BilingualSetter$Edition", 18, ⟨"BilingualSetter$Notes", "<init>", "()V"⟩, "BilingualSetter"), ("BilingualSetter$History", 17, ⟨"BilingualSetter$Edition", "<init>", "()V"⟩, "BilingualSetter"), ("BilingualSetter", 25, ⟨"BilingualSetter$Spreads", "<init>", "()V"⟩, "BilingualSetter"), ("BilingualSetter$Spreads", 32, ⟨"BilingualSetter$Facing", "<init>", "()V"⟩, "BilingualSetter"), ("BilingualSetter$Spreads", 42, ⟨"BilingualSetter$Part", "<init>", "()V"⟩, "BilingualSetter"), ("BilingualSetter", 32, ⟨"BilingualSetter$Division", "<init>", "()V"⟩, "BilingualSetter"), ("BilingualSetter$Division", 23, ⟨"BilingualSetter$Facing", "<init>", "()V"⟩, "BilingualSetter"), ("BilingualSetter$Division", 30, ⟨"BilingualSetter$Part", "<init>", "()V"⟩, "BilingualSetter"), ("BilingualSetter$Edition", 68, ⟨"BilingualSetter", "copyTable", "([[I[[I)V"⟩, "BilingualSetter"), ("BilingualSetter$Notes", 43, ⟨"BilingualSetter", "copyTable", "([[I[[I)V"⟩, "BilingualSetter"), ("BilingualSetter$Edition", 42, ⟨"BilingualSetter", "isIn", "(III)Z"⟩, "BilingualSetter"), ("BilingualSetter$Edition", 53, ⟨"BilingualSetter", "openPlace", "([III)V"⟩, "BilingualSetter"), ("BilingualSetter$Edition", 50, ⟨"BilingualSetter", "isSide", "(I)Z"⟩, "BilingualSetter"), ("BilingualSetter$Notes", 28, ⟨"BilingualSetter", "openPlace", "([III)V"⟩, "BilingualSetter"), ("BilingualSetter$Notes", 32, ⟨"BilingualSetter", "closePlace", "([III)V"⟩, "BilingualSetter"), ("BilingualSetter$Spreads", 174, ⟨"BilingualSetter", "isIn", "(III)Z"⟩, "BilingualSetter")]
def NF : List (String × Nat × String × String × String × String) := [("BilingualSetter$Edition", 26, "BilingualSetter", "INITIAL", "[I", "BilingualSetter"), ("BilingualSetter$Spreads", 142, "BilingualSetter", "SEGMENT_FIRST", "[I", "BilingualSetter"), ("BilingualSetter$Spreads", 148, "BilingualSetter", "SEGMENT_LINES", "[I", "BilingualSetter"), ("BilingualSetter$Spreads", 151, "BilingualSetter", "SEGMENT_BEGIN", "[I", "BilingualSetter")]
/-- what the tables say beside the words -/
def KU (X : XT) (U : State) : Prop := va_K (xD X) vwCl (x_tys X) U ∧ (∀ q ∈ NM, va_Nw (.methodLinkNest q.1 q.2.1 q.2.2.1 q.2.2.2) U) ∧ (∀ q ∈ NF, va_Nw (.fieldLinkNest q.1 q.2.1 q.2.2.1 q.2.2.2.1 q.2.2.2.2.1 q.2.2.2.2.2) U) ∧ va_Nw (.castable "[I" "java/lang/Cloneable") U ∧ va_AO RX1 U ∧ va_AOA .int U
theorem KU.warm {X : XT} {s U : State} (hW : s.WarmedH U.vm) (h : KU X s) : KU X U := by
  obtain ⟨h1, h2, h3, h4, h5, h6⟩ := h
  exact ⟨va_K.moved hW.alike h1, fun q hq => va_Nw.warmM hW (h2 q hq), fun q hq => va_Nw.warmF hW (h3 q hq), va_Nw.warmC hW h4, va_AO.moved hW.alike h5, va_AOA.moved hW.alike h6⟩
theorem KU.same {X : XT} {s U : State} (hv : s.vm = U.vm) (h : KU X s) : KU X U := by
  obtain ⟨h1, h2, h3, h4, h5, h6⟩ := h
  have ha : s.vm.Alike U.vm := by rw [hv]; exact Vm.Alike.refl _
  exact ⟨va_K.moved ha h1, fun q hq => va_Nw.same rfl hv (h2 q hq), fun q hq => va_Nw.same rfl hv (h3 q hq), va_Nw.same rfl hv h4, va_AO.moved ha h5, va_AOA.moved ha h6⟩
/-- the static rows -/
def StOK (X : XT) (U : State) (H : Heap) : Prop := (∀ k, k < 6 → va_Z "BilingualSetter" (st_nm k) "[I" (.ref (xs X k)) (x_A X) U H ∧ va_T .int (xs X k) (st_n k) (fun j => .int (Int32.ofInt (st_v k j))) (x_A X) U H) ∧ (∃ cell : Cell, H[xs X 0]? = some cell ∧ cell.cls = xc X 0 ∧ cell.slots = (arrV (xc X 0) 6 (fun j => .int (Int32.ofInt (st_v 0 j)))).slots ∧ cell.vm ≠ .unknown ∧ ∀ k, cell.vm ≠ .statics k) ∧ ¬ x_A X (xs X 0) ∧ (va_X (xs X 6) (xs X 7) (fun j => Int32.ofInt ((xs X (8 + j) : Int) - 2147483648)) U H ∧ ¬ x_A X (xs X 6) ∧ xs X 7 ≤ 2560 ∧ ∀ j, xs X (8 + j) < 4294967296)
theorem StOK.moved {X : XT} {s U : State} {H : Heap} (ha : s.vm.Alike U.vm) (h : StOK X s H) : StOK X U H := ⟨fun k hk => ⟨va_Z.moved ha (h.1 k hk).1, va_T.moved ha (h.1 k hk).2⟩, h.2.1, h.2.2.1, va_X.moved ha h.2.2.2.1, h.2.2.2.2⟩
theorem StOK.kept {X : XT} {s : State} {H H1 : Heap} (h : StOK X s H) (hq : ∀ a : Nat, a < H.size → ¬ x_A X a → H1[a]? = H[a]?) : StOK X s H1 := ⟨fun k hk => ⟨va_Z.kept (h.1 k hk).1 hq, va_T.kept (h.1 k hk).2 hq⟩, h.2.1.imp (fun cell c => ⟨(hq _ (Array.getElem?_eq_some_iff.mp c.1).1 h.2.2.1).trans c.1, c.2⟩), h.2.2.1, h.2.2.2.1.kept (hq _ (Array.getElem?_eq_some_iff.mp h.2.2.2.1.choose_spec.1).1 h.2.2.2.2.1), h.2.2.2.2⟩
def Rh (X : XT) (G : List Sh) (σ : Sto) (H : Heap) : Prop := va_P (xD X) vwCl (x_ws X G σ) H ∧ sok σ ∧ G.length < 100000
def Rp (X : XT) (G : List Sh) (σ : Sto) (U : State) : Prop := KU X U ∧ StOK X U U.heap ∧ Rh X G σ U.heap ∧ U.heap.size = xb X + G.length
def Cx (X : XT) (M : MT) (p : Program) (s : State) (m : MethodId) (args : Array Value) (meth : Method) (c : Code) : Prop :=
  p.tables.exec = Jvm.exec ∧ c.code = m_c M ∧ meth.sig.returnType = m_r M ∧ c.maxLocals = m_n M ∧ s.vm.findClass (m_y M).cls = some m.cls ∧ (∀ w ∈ W0, w.before args s = true) ∧ meth.locks = false ∧ KU X s ∧ StOK X s s.heap ∧ xb X ≤ s.heap.size ∧ meth.name = (m_y M).name
def Hp (X : XT) (g : GS) (σ : Sto) (s : State) (H : Heap) (locs : List Loc) : Prop := Rh X g.1 σ H ∧ va_S (x_A X) s.heap H locs ∧ s.heap.size + g.2.1 = xb X + g.1.length
def LH (X : XT) (ls : Array Slot) (n : Nat) (L : LT) : Prop := ls.size = n ∧ lv_wf ls ∧ ∀ k v, lget L k = some v → ls[k]? = some (.val (x_c X v)) ∧ okv v
def x_Qc (X : XT) (Q : QT) : Array Value → State → Outcome → State → Prop := fun _ st oc t => (∃ (r : Option AV) (G : List Sh) (σ : Sto), oc = .returned (r.map (x_c X)) ∧ Q r G σ ∧ (∀ v, r = some v → okv v) ∧ Rh X G σ t.heap) ∧ va_F (x_A X) st t
def WPc (X : XT) (M : MT) (Q : QT) (pc : Nat) (L : LT) (S : List AV) (g : GS) (σ : Sto) : Prop :=
  ∀ (p : Program) (l : Launch) (e : Env) (s : State) (m : MethodId) (args : Array Value) (below : List Frame) (meth : Method) (c : Code) (H : Heap) (locs : List Loc) (ls : Array Slot),
    Cx X M p s m args meth c → Hp X g σ s H locs → LH X ls (m_n M) L → (∀ v ∈ S, okv v) →
    W p l e (x_rm M) s m args below meth c H locs g.2.1 g.2.2 (MQ below (x_Qc X Q) args s (m_mc M) (m_ms M) (x_A X)) (F0 m pc ls (S.map (x_c X)))
def MS (X : XT) (M : MT) (args : List AV) (G : List Sh) (σ : Sto) (Q : QT) : Prop := ∃ Q0 : QT, (∀ r G σ, Q0 r G σ → Q r G σ) ∧
  ∀ l : Launch, Met l (m_y M) (x_w M) (x_rm M) (va_Pc (args.map (x_c X)) (fun U => Rp X G σ U ∧ ∀ v ∈ args, okv v)) (x_Qc X Q0) (m_mc M) (m_ms M) (x_A X)
theorem MS_mono {X : XT} {M : MT} {args : List AV} {G : List Sh} {σ : Sto} {Q Q' : QT} (h : MS X M args G σ Q) (hq : ∀ r G σ, Q r G σ → Q' r G σ) : MS X M args G σ Q' := by
  obtain ⟨Q0, h1, h2⟩ := h
  exact ⟨Q0, fun r G σ h => hq r G σ (h1 r G σ h), h2⟩
def Snd (X : XT) (M : MT) (pc : Nat) (a : Act) : Prop := ∀ (Q : QT) (k : KT) (L : LT) (S : List AV) (g : GS) (σ : Sto), (∀ pc' L' S' g' σ', k pc' L' S' g' σ' → WPc X M Q pc' L' S' g' σ') → a L S g σ k Q → WPc X M Q pc L S g σ
theorem WPc_L {X : XT} {M : MT} {Q : QT} {pc : Nat} {L L' : LT} {S : List AV} {g : GS} {σ : Sto} (h : ∀ k v, lget L' k = some v → lget L k = some v) (hw : WPc X M Q pc L' S g σ) : WPc X M Q pc L S g σ :=
  fun p l e s m args below meth c H locs ls C Hh hl hS => hw p l e s m args below meth c H locs ls C Hh ⟨hl.1, hl.2.1, fun k v q => hl.2.2 k v (h k v q)⟩ hS
/-! ===== running a table of acts ===== -/
abbrev Tab : Type := List (Nat × Bool × Act)
def tget : Tab → Nat → Option (Bool × Act)
  | [], _ => none
  | (k, a) :: l, pc => match Nat.beq pc k with
    | true => some a
    | false => tget l pc
def TabOK (X : XT) (M : MT) (t : Tab) : Prop := ∀ q ∈ t, Snd X M q.1 q.2.2
theorem tget_mem : ∀ (t : Tab) (pc : Nat) (a : Bool × Act), tget t pc = some a → (pc, a) ∈ t
  | [], _, _, h => by simp [tget] at h
  | (k, b) :: l, pc, a, h => by
    unfold tget at h
    split at h
    · rename_i e
      have e := Nat.eq_of_beq_eq_true e
      subst e
      cases h
      exact List.mem_cons_self
    · exact List.mem_cons_of_mem _ (tget_mem l pc a h)
def blk (X : XT) (M : MT) (t : Tab) (Q : QT) : Nat → KT
  | 0, pc, L, S, g, σ => WPc X M Q pc L S g σ
  | n + 1, pc, L, S, g, σ => match tget t pc with
    | some (false, a) => a L S g σ (blk X M t Q n) Q
    | _ => WPc X M Q pc L S g σ
theorem blk_wp {X : XT} {M : MT} {t : Tab} (ht : TabOK X M t) {Q : QT} : ∀ (n : Nat) (pc : Nat) (L : LT) (S : List AV) (g : GS) (σ : Sto), blk X M t Q n pc L S g σ → WPc X M Q pc L S g σ
  | 0, pc, L, S, g, σ, h => h
  | n + 1, pc, L, S, g, σ, h => by
    unfold blk at h
    split at h
    · rename_i a ha
      exact ht _ (tget_mem t pc _ ha) Q _ L S g σ (blk_wp ht n) h
    · exact h
/-- from a head on -/
theorem blk_at {X : XT} {M : MT} {t : Tab} (ht : TabOK X M t) {Q : QT} (n : Nat) {pc : Nat} {L : LT} {S : List AV} {g : GS} {σ : Sto} {b : Bool} {a : Act} (ha : tget t pc = some (b, a)) (h : a L S g σ (blk X M t Q n) Q) : WPc X M Q pc L S g σ := ht _ (tget_mem t pc _ ha) Q _ L S g σ (blk_wp ht n) h
end
section
/-! ===== the acts: what an instruction does to locals, stack and store ===== -/
def a_const (v : Int) (nx : Nat) : Act := fun L S g σ k _ => k nx L (.inl v :: S) g σ
def a_iload (i nx : Nat) : Act := fun L S g σ k _ => match lget L i with
  | some (.inl x) => k nx L (.inl x :: S) g σ
  | _ => False
def a_aload (i nx : Nat) : Act := fun L S g σ k _ => match lget L i with
  | some (.inr x) => k nx L (.inr x :: S) g σ
  | _ => False
def a_istore (i nx : Nat) : Act := fun L S g σ k _ => match S with
  | .inl x :: S => k nx (lset L i (.inl x)) S g σ
  | _ => False
def a_astore (i nx : Nat) : Act := fun L S g σ k _ => match S with
  | .inr x :: S => k nx (lset L i (.inr x)) S g σ
  | _ => False
def a_iinc (i : Nat) (n : Int) (nx : Nat) : Act := fun L S g σ k _ => match lget L i with
  | some (.inl x) => InR (x + n) ∧ k nx (lset L i (.inl (x + n))) S g σ
  | _ => False
def a_add (nx : Nat) : Act := fun L S g σ k _ => match S with
  | .inl y :: .inl x :: S => InR (x + y) ∧ k nx L (.inl (x + y) :: S) g σ
  | _ => False
def a_sub (nx : Nat) : Act := fun L S g σ k _ => match S with
  | .inl y :: .inl x :: S => InR (x - y) ∧ k nx L (.inl (x - y) :: S) g σ
  | _ => False
def a_mul (nx : Nat) : Act := fun L S g σ k _ => match S with
  | .inl y :: .inl x :: S => InR (x * y) ∧ k nx L (.inl (x * y) :: S) g σ
  | _ => False
def a_div (nx : Nat) : Act := fun L S g σ k _ => match S with
  | .inl y :: .inl x :: S => 0 ≤ x ∧ 0 < y ∧ k nx L (.inl (x / y) :: S) g σ
  | _ => False
def a_rem (nx : Nat) : Act := fun L S g σ k _ => match S with
  | .inl y :: .inl x :: S => 0 ≤ x ∧ 0 < y ∧ k nx L (.inl (x % y) :: S) g σ
  | _ => False
def a_dup (nx : Nat) : Act := fun L S g σ k _ => match S with
  | x :: S => k nx L (x :: x :: S) g σ
  | _ => False
def a_dup2 (nx : Nat) : Act := fun L S g σ k _ => match S with
  | x :: y :: S => k nx L (x :: y :: x :: y :: S) g σ
  | _ => False
def a_goto (nx : Nat) : Act := fun L S g σ k _ => k nx L S g σ
/-- comparisons: 0 eq, 1 ne, 2 lt, 3 ge, 4 gt, 5 le -/
def cmp (c : Nat) (x y : Int) : Prop := match c with
  | 0 => x = y
  | 1 => x ≠ y
  | 2 => x < y
  | 3 => y ≤ x
  | 4 => y < x
  | _ => x ≤ y
def a_icmp (c tg nx : Nat) : Act := fun L S g σ k _ => match S with
  | .inl y :: .inl x :: S => (cmp c x y → k tg L S g σ) ∧ (¬ cmp c x y → k nx L S g σ)
  | _ => False
def a_if (c tg nx : Nat) : Act := fun L S g σ k _ => match S with
  | .inl x :: S => (cmp c x 0 → k tg L S g σ) ∧ (¬ cmp c x 0 → k nx L S g σ)
  | _ => False
def a_ifnull (nx : Nat) : Act := fun L S g σ k _ => match S with
  | .inr _ :: S => k nx L S g σ
  | _ => False
def swl (x : Int) : List Nat → Int → (Nat → Prop) → Prop
  | [], _, _ => True
  | t :: ts, j, k => (x = j → k t) ∧ swl x ts (j + 1) k
def a_tsw (lo hi : Int) (ts : List Nat) (df : Nat) : Act := fun L S g σ k _ => match S with
  | .inl x :: S => swl x ts lo (fun t => k t L S g σ) ∧ ((x < lo ∨ hi < x) → k df L S g σ)
  | _ => False
def a_gi (ci f : Nat) (z : Int) (nx : Nat) : Act := fun L S g σ k _ => match S with
  | .inr i :: S => (match shp g i with
    | some (.inl (c, fs)) => c = ci ∧ fget fs f = some none ∧ k nx L (.inl (σ i z) :: S) g σ
    | _ => False)
  | _ => False
def a_gr (ci f : Nat) (nx : Nat) : Act := fun L S g σ k _ => match S with
  | .inr i :: S => (match shp g i with
    | some (.inl (c, fs)) => c = ci ∧ (match fget fs f with
      | some (some (some j)) => j < 100000 ∧ k nx L (.inr j :: S) g σ
      | _ => False)
    | _ => False)
  | _ => False
def a_pi (ci f : Nat) (z : Int) (bo : Bool) (nx : Nat) : Act := fun L S g σ k _ => match S with
  | .inl v :: .inr i :: S => (match shp g i with
    | some (.inl (c, fs)) => c = ci ∧ fget fs f = some none ∧ (bo = true → v = 0 ∨ v = 1) ∧ k nx L S g (up σ i z v)
    | _ => False)
  | _ => False
def a_ald (bo : Bool) (nx : Nat) : Act := fun L S g σ k _ => match S with
  | .inl j :: .inr a :: S => (match shp g a with
    | some (.inr (.inl (b, n))) => b = bo ∧ 0 ≤ j ∧ j < n ∧ k nx L (.inl (σ a j) :: S) g σ
    | _ => False)
  | _ => False
def a_sld (nx : Nat) : Act := fun L S g σ k _ => match S with
  | .inl j :: .inr a :: S => 100000 ≤ a ∧ a - 100000 < 6 ∧ 0 ≤ j ∧ j < st_n (a - 100000) ∧ k nx L (.inl (st_v (a - 100000) j) :: S) g σ
  | _ => False
def a_ast (bo : Bool) (nx : Nat) : Act := fun L S g σ k _ => match S with
  | .inl v :: .inl j :: .inr a :: S => (match shp g a with
    | some (.inr (.inl (b, n))) => b = bo ∧ 0 ≤ j ∧ j < n ∧ (bo = true → v = 0 ∨ v = 1) ∧ k nx L S g (up σ a j v)
    | _ => False)
  | _ => False
def a_aald (nx : Nat) : Act := fun L S g σ k _ => match S with
  | .inl j :: .inr a :: S => (match shp g a with
    | some (.inr (.inr (_, l))) => 0 ≤ j ∧ j < l.length ∧ (match rget l j.toNat with
      | some r => r < 100000 ∧ k nx L (.inr r :: S) g σ
      | none => False)
    | _ => False)
  | _ => False
def a_len (nx : Nat) : Act := fun L S g σ k _ => match S with
  | .inr a :: S => (match shp g a with
    | some (.inr (.inl (_, n))) => n < 100000 ∧ k nx L (.inl n :: S) g σ
    | some (.inr (.inr (_, l))) => l.length < 100000 ∧ k nx L (.inl l.length :: S) g σ
    | _ => False)
  | _ => False
def a_gst (q nx : Nat) : Act := fun L S g σ k _ => k nx L (.inr (100000 + q) :: S) g σ
def a_copy (nx : Nat) : Act := fun L S g σ k _ => match S with
  | .inl n :: .inl dp :: .inr b :: .inl sp :: .inr a :: S => S.length ≤ 8 ∧ (match shp g a, shp g b with
    | some (.inr (.inl (ba, na))), some (.inr (.inl (bb, nb))) => ba = false ∧ bb = false ∧ 0 ≤ sp ∧ 0 ≤ dp ∧ 0 ≤ n ∧ sp + n ≤ na ∧ dp + n ≤ nb ∧ k nx L S g (cpy σ a b sp dp n)
    | _, _ => False)
  | _ => False
def fitb (M : MT) (g : GS) : Prop := g.2.1 ≤ m_mc M ∧ g.2.2 ≤ m_ms M
def a_max (M : MT) (nx : Nat) : Act := fun L S g σ k _ => match S with
  | .inl y :: .inl x :: S => S.length ≤ 8 ∧ fitb M g ∧ k nx L (.inl (max x y) :: S) g σ
  | _ => False
def a_min (M : MT) (nx : Nat) : Act := fun L S g σ k _ => match S with
  | .inl y :: .inl x :: S => S.length ≤ 8 ∧ fitb M g ∧ k nx L (.inl (min x y) :: S) g σ
  | _ => False
def a_iret (M : MT) : Act := fun _ S g σ _ Q => match S with
  | [.inl v] => fitb M g ∧ Q (some (.inl v)) g.1 σ
  | _ => False
def a_zret (M : MT) : Act := fun _ S g σ _ Q => match S with
  | [.inl v] => fitb M g ∧ (v = 0 ∨ v = 1) ∧ Q (some (.inl v)) g.1 σ
  | _ => False
def a_aret (M : MT) : Act := fun _ S g σ _ Q => match S with
  | [.inr v] => fitb M g ∧ Q (some (.inr v)) g.1 σ
  | _ => False
def a_ret (M : MT) : Act := fun _ S g σ _ Q => match S with
  | [] => fitb M g ∧ Q none g.1 σ
  | _ => False
def apop : Nat → List AV → List AV → Option (List AV × List AV)
  | 0, as, S => some (as, S)
  | n + 1, as, v :: S => apop n (v :: as) S
  | _ + 1, _, [] => none
def isO (g : GS) (ci : Nat) : List AV → Prop
  | .inr i :: _ => i < 100000 ∧ (match shp g i with
    | some (.inl (c, _)) => c = ci
    | _ => False)
  | _ => False
/-- behind a call: with an answer, without one; nothing was made -/
def Kv (k : KT) (nx : Nat) (L : LT) (S : List AV) (g : GS) (r : Option AV) (G : List Sh) (σ : Sto) : Prop := G = g.1 ∧ (match r with
  | some v => k nx L (v :: S) g σ
  | none => False)
def Kn (k : KT) (nx : Nat) (L : LT) (S : List AV) (g : GS) (r : Option AV) (G : List Sh) (σ : Sto) : Prop := G = g.1 ∧ (match r with
  | none => k nx L S g σ
  | some _ => False)
/-- a virtual call (n: the arguments with the receiver), a static one -/
def a_cv (X : XT) (M M' : MT) (ci n nx : Nat) : Act := fun L S g σ k _ => match apop n [] S with
  | some (as, S) => isO g ci as ∧ S.length ≤ 8 ∧ fitb M g ∧ MS X M' as g.1 σ (Kv k nx L S g)
  | none => False
def a_cn (X : XT) (M M' : MT) (ci n nx : Nat) : Act := fun L S g σ k _ => match apop n [] S with
  | some (as, S) => isO g ci as ∧ S.length ≤ 8 ∧ fitb M g ∧ MS X M' as g.1 σ (Kn k nx L S g)
  | none => False
def a_sv (X : XT) (M M' : MT) (n nx : Nat) : Act := fun L S g σ k _ => match apop n [] S with
  | some (as, S) => S.length ≤ 8 ∧ fitb M g ∧ MS X M' as g.1 σ (Kv k nx L S g)
  | none => False
def a_sn (X : XT) (M M' : MT) (n nx : Nat) : Act := fun L S g σ k _ => match apop n [] S with
  | some (as, S) => S.length ≤ 8 ∧ fitb M g ∧ MS X M' as g.1 σ (Kn k nx L S g)
  | none => False
/-! ===== they are so ===== -/
section SND
variable {X : XT} {M : MT} {pc nx : Nat}
theorem cat1 (X : XT) (v : AV) : (x_c X v).category = 1 := by cases v <;> rfl
theorem mapc_cat (X : XT) : ∀ (S : List AV), ((S.map (x_c X)).map fun v => v.category).sum = S.length
  | [] => rfl
  | v :: S => by
    rw [List.map_cons, List.map_cons, List.sum_cons, mapc_cat X S, cat1, List.length_cons]
    omega
theorem okc {v : AV} {S : List AV} (h : okv v) (hS : ∀ w ∈ S, okv w) : ∀ w ∈ v :: S, okv w := fun w hw => (List.mem_cons.mp hw).elim (fun e => e ▸ h) (hS w)
theorem okh {v : AV} {S : List AV} (h : ∀ w ∈ v :: S, okv w) : okv v := h v List.mem_cons_self
theorem okt {v : AV} {S : List AV} (h : ∀ w ∈ v :: S, okv w) : ∀ w ∈ S, okv w := fun w hw => h w (List.mem_cons_of_mem _ hw)
theorem snd_iconst {n v : Int} (hd : decode (m_c M) pc = .ok (.iconst n, 1)) (hv : n = v) (hr : InR v) (hn : nx = pc + 1) : Snd X M pc (a_const v nx) := by
  subst hn hv
  intro Q k L S g σ hk ha p l e s m args below meth c H locs ls C Hh hl hS
  exact lv_iconst C.1 C.2.1 hd rfl (hk _ _ _ _ _ ha p l e s m args below meth c H locs ls C Hh hl (okc hr hS))
theorem snd_bipush {n v : Int} (hd : decode (m_c M) pc = .ok (.bipush n, 2)) (hv : (Int8.ofInt n).toInt32 = Int32.ofInt v) (hr : InR v) (hn : nx = pc + 2) : Snd X M pc (a_const v nx) := by
  subst hn
  intro Q k L S g σ hk ha p l e s m args below meth c H locs ls C Hh hl hS
  exact lv_bipush C.1 C.2.1 hd hv (hk _ _ _ _ _ ha p l e s m args below meth c H locs ls C Hh hl (okc hr hS))
theorem snd_sipush {n v : Int} (hd : decode (m_c M) pc = .ok (.sipush n, 3)) (hv : (Int16.ofInt n).toInt32 = Int32.ofInt v) (hr : InR v) (hn : nx = pc + 3) : Snd X M pc (a_const v nx) := by
  subst hn
  intro Q k L S g σ hk ha p l e s m args below meth c H locs ls C Hh hl hS
  exact lv_sipush C.1 C.2.1 hd hv (hk _ _ _ _ _ ha p l e s m args below meth c H locs ls C Hh hl (okc hr hS))
theorem snd_iload_n {f : Fin 4} {i : Nat} (hd : decode (m_c M) pc = .ok (.iload_n f, 1)) (hi : (f : Nat) = i) (hn : nx = pc + 1) : Snd X M pc (a_iload i nx) := by
  subst hn
  intro Q k L S g σ hk ha p l e s m args below meth c H locs ls C Hh hl hS
  unfold a_iload at ha
  split at ha
  · rename_i x hx
    have h := hl.2.2 _ _ hx
    exact lv_iload_n C.1 C.2.1 hd hi h.1 (hk _ _ _ _ _ ha p l e s m args below meth c H locs ls C Hh hl (okc h.2 hS))
  · exact ha.elim
theorem snd_iload {i : Nat} (hd : decode (m_c M) pc = .ok (.iload i, 2)) (hn : nx = pc + 2) : Snd X M pc (a_iload i nx) := by
  subst hn
  intro Q k L S g σ hk ha p l e s m args below meth c H locs ls C Hh hl hS
  unfold a_iload at ha
  split at ha
  · rename_i x hx
    have h := hl.2.2 _ _ hx
    exact lv_iload C.1 C.2.1 hd h.1 (hk _ _ _ _ _ ha p l e s m args below meth c H locs ls C Hh hl (okc h.2 hS))
  · exact ha.elim
theorem snd_aload_n {f : Fin 4} {i : Nat} (hd : decode (m_c M) pc = .ok (.aload_n f, 1)) (hi : (f : Nat) = i) (hn : nx = pc + 1) : Snd X M pc (a_aload i nx) := by
  subst hn
  intro Q k L S g σ hk ha p l e s m args below meth c H locs ls C Hh hl hS
  unfold a_aload at ha
  split at ha
  · rename_i x hx
    have h := hl.2.2 _ _ hx
    exact lv_aload_n C.1 C.2.1 hd hi h.1 (hk _ _ _ _ _ ha p l e s m args below meth c H locs ls C Hh hl (okc h.2 hS))
  · exact ha.elim
theorem snd_aload {i : Nat} (hd : decode (m_c M) pc = .ok (.aload i, 2)) (hn : nx = pc + 2) : Snd X M pc (a_aload i nx) := by
  subst hn
  intro Q k L S g σ hk ha p l e s m args below meth c H locs ls C Hh hl hS
  unfold a_aload at ha
  split at ha
  · rename_i x hx
    have h := hl.2.2 _ _ hx
    exact lv_aload C.1 C.2.1 hd h.1 (hk _ _ _ _ _ ha p l e s m args below meth c H locs ls C Hh hl (okc h.2 hS))
  · exact ha.elim
/-- the listed locals -/
def lvl (X : XT) : Nat → LT → List (Nat × Value)
  | _, [] => []
  | i, none :: l => lvl X (i + 1) l
  | i, some v :: l => (i, x_c X v) :: lvl X (i + 1) l
theorem lvl_in (X : XT) : ∀ (L : LT) (i : Nat) (q : Nat × Value), q ∈ lvl X i L → ∃ j v, q = (i + j, x_c X v) ∧ lget L j = some v
  | [], _, _, h => by simp [lvl] at h
  | none :: L, i, q, h => by
    obtain ⟨j, v, h1, h2⟩ := lvl_in X L (i + 1) q h
    exact ⟨j + 1, v, by rw [h1, show i + 1 + j = i + (j + 1) by omega], h2⟩
  | some w :: L, i, q, h => by
    rcases List.mem_cons.mp h with rfl | h
    · exact ⟨0, w, rfl, rfl⟩
    · obtain ⟨j, v, h1, h2⟩ := lvl_in X L (i + 1) q h
      exact ⟨j + 1, v, by rw [h1, show i + 1 + j = i + (j + 1) by omega], h2⟩
theorem lvl_of (X : XT) : ∀ (L : LT) (i j : Nat) (v : AV), lget L j = some v → (i + j, x_c X v) ∈ lvl X i L
  | [], _, _, _, h => by simp [lget] at h
  | none :: _, _, 0, _, h => by simp [lget] at h
  | some w :: L, i, 0, v, h => by
    have : w = v := by simpa [lget] using h
    subst this
    exact List.mem_cons_self
  | none :: L, i, j + 1, v, h => by
    have := lvl_of X L (i + 1) j v h
    rw [show i + (j + 1) = i + 1 + j by omega]
    exact this
  | some w :: L, i, j + 1, v, h => by
    have := lvl_of X L (i + 1) j v h
    rw [show i + (j + 1) = i + 1 + j by omega]
    exact List.mem_cons_of_mem _ this
theorem lget_lset : ∀ (L : LT) (i : Nat) (v : AV) (k : Nat) (w : AV), lget (lset L i v) k = some w → (k = i ∧ w = v) ∨ (k ≠ i ∧ lget L k = some w)
  | [], _, _, _, _, h => by simp [lset, lget] at h
  | _ :: _, 0, v, 0, w, h => by
    have : v = w := by simpa [lset, lget] using h
    exact Or.inl ⟨rfl, this.symm⟩
  | _ :: _, 0, _, k + 1, _, h => Or.inr ⟨by omega, h⟩
  | _ :: _, i + 1, _, 0, _, h => Or.inr ⟨by omega, h⟩
  | _ :: L, i + 1, v, k + 1, w, h => by
    rcases lget_lset L i v k w h with ⟨h1, h2⟩ | ⟨h1, h2⟩
    · exact Or.inl ⟨by omega, h2⟩
    · exact Or.inr ⟨by omega, h2⟩
theorem LH_has {X : XT} {ls : Array Slot} {n : Nat} {L : LT} (h : LH X ls n L) : lv_has ls n (lvl X 0 L) := by
  refine ⟨h.1, h.2.1, fun q hq => ?_⟩
  obtain ⟨j, v, rfl, hv⟩ := lvl_in X L 0 q hq
  rw [Nat.zero_add]
  exact (h.2.2 j v hv).1
theorem LH_set {X : XT} {ls ls' : Array Slot} {n i : Nat} {L : LT} {v : AV} (h : LH X ls n L) (hv : okv v) (h' : lv_has ls' n ((i, x_c X v) :: (lvl X 0 L).filter (fun q => !(q.1 == i) && !(q.1 + 1 == i && q.2.category == 2)))) : LH X ls' n (lset L i v) := by
  refine ⟨h'.1, h'.2.1, fun k w hw => ?_⟩
  rcases lget_lset L i v k w hw with ⟨rfl, rfl⟩ | ⟨hk, hw⟩
  · exact ⟨h'.2.2 _ List.mem_cons_self, hv⟩
  · refine ⟨h'.2.2 (k, x_c X w) (List.mem_cons_of_mem _ (List.mem_filter.mpr ⟨?_, ?_⟩)), (h.2.2 k w hw).2⟩
    · have := lvl_of X L 0 k w hw
      rwa [Nat.zero_add] at this
    · simp [hk, cat1]
theorem snd_istore_n {f : Fin 4} {i : Nat} (hd : decode (m_c M) pc = .ok (.istore_n f, 1)) (hi : (f : Nat) = i) (hn : nx = pc + 1) (hb : i < m_n M) : Snd X M pc (a_istore i nx) := by
  subst hn
  intro Q k L S g σ hk ha p l e s m args below meth c H locs ls C Hh hl hS
  unfold a_istore at ha
  split at ha
  · exact lv_istore_n C.1 C.2.1 hd hi (LH_has hl) hb rfl (fun ls' h' => hk _ _ _ _ _ ha p l e s m args below meth c H locs ls' C Hh (LH_set (v := .inl _) hl (okh hS) h') (okt hS))
  · exact ha.elim
theorem snd_istore {i : Nat} (hd : decode (m_c M) pc = .ok (.istore i, 2)) (hn : nx = pc + 2) (hb : i < m_n M) : Snd X M pc (a_istore i nx) := by
  subst hn
  intro Q k L S g σ hk ha p l e s m args below meth c H locs ls C Hh hl hS
  unfold a_istore at ha
  split at ha
  · exact lv_istore C.1 C.2.1 hd (LH_has hl) hb rfl (fun ls' h' => hk _ _ _ _ _ ha p l e s m args below meth c H locs ls' C Hh (LH_set (v := .inl _) hl (okh hS) h') (okt hS))
  · exact ha.elim
theorem snd_astore_n {f : Fin 4} {i : Nat} (hd : decode (m_c M) pc = .ok (.astore_n f, 1)) (hi : (f : Nat) = i) (hn : nx = pc + 1) (hb : i < m_n M) : Snd X M pc (a_astore i nx) := by
  subst hn
  intro Q k L S g σ hk ha p l e s m args below meth c H locs ls C Hh hl hS
  unfold a_astore at ha
  split at ha
  · exact lv_astore_n C.1 C.2.1 hd hi (LH_has hl) hb rfl (fun ls' h' => hk _ _ _ _ _ ha p l e s m args below meth c H locs ls' C Hh (LH_set (v := .inr _) hl (okh hS) h') (okt hS))
  · exact ha.elim
theorem snd_astore {i : Nat} (hd : decode (m_c M) pc = .ok (.astore i, 2)) (hn : nx = pc + 2) (hb : i < m_n M) : Snd X M pc (a_astore i nx) := by
  subst hn
  intro Q k L S g σ hk ha p l e s m args below meth c H locs ls C Hh hl hS
  unfold a_astore at ha
  split at ha
  · exact lv_astore C.1 C.2.1 hd (LH_has hl) hb rfl (fun ls' h' => hk _ _ _ _ _ ha p l e s m args below meth c H locs ls' C Hh (LH_set (v := .inr _) hl (okh hS) h') (okt hS))
  · exact ha.elim
theorem snd_iinc {i : Nat} {n n' : Int} (hd : decode (m_c M) pc = .ok (.iinc i n', 3)) (he : n' = n) (hn : nx = pc + 3) (hb : i < m_n M) : Snd X M pc (a_iinc i n nx) := by
  subst hn he
  intro Q k L S g σ hk ha p l e s m args below meth c H locs ls C Hh hl hS
  unfold a_iinc at ha
  split at ha
  · rename_i x hx
    obtain ⟨hr, ha⟩ := ha
    have hm := lvl_of X L 0 i _ hx
    rw [Nat.zero_add] at hm
    obtain ⟨j, hj⟩ := List.getElem?_of_mem hm
    exact lv_iinc C.1 C.2.1 hd (LH_has hl) hj (Int32.ofInt_add _ _).symm hb rfl (fun ls' h' => hk _ _ _ _ _ ha p l e s m args below meth c H locs ls' C Hh (LH_set (v := .inl _) hl hr h') hS)
  · exact ha.elim
theorem snd_add (hd : decode (m_c M) pc = .ok (.iadd, 1)) (hn : nx = pc + 1) : Snd X M pc (a_add nx) := by
  subst hn
  intro Q k L S g σ hk ha p l e s m args below meth c H locs ls C Hh hl hS
  unfold a_add at ha
  split at ha
  · obtain ⟨hr, ha⟩ := ha
    refine lv_iadd C.1 C.2.1 hd ?_
    rw [← Int32.ofInt_add]
    exact hk _ _ _ _ _ ha p l e s m args below meth c H locs ls C Hh hl (okc hr (okt (okt hS)))
  · exact ha.elim
theorem snd_sub (hd : decode (m_c M) pc = .ok (.isub, 1)) (hn : nx = pc + 1) : Snd X M pc (a_sub nx) := by
  subst hn
  intro Q k L S g σ hk ha p l e s m args below meth c H locs ls C Hh hl hS
  unfold a_sub at ha
  split at ha
  · obtain ⟨hr, ha⟩ := ha
    refine lv_isub C.1 C.2.1 hd ?_
    rw [← Int32.ofInt_sub]
    exact hk _ _ _ _ _ ha p l e s m args below meth c H locs ls C Hh hl (okc hr (okt (okt hS)))
  · exact ha.elim
theorem snd_mul (hd : decode (m_c M) pc = .ok (.imul, 1)) (hn : nx = pc + 1) : Snd X M pc (a_mul nx) := by
  subst hn
  intro Q k L S g σ hk ha p l e s m args below meth c H locs ls C Hh hl hS
  unfold a_mul at ha
  split at ha
  · obtain ⟨hr, ha⟩ := ha
    refine lv_imul C.1 C.2.1 hd ?_
    rw [← Int32.ofInt_mul]
    exact hk _ _ _ _ _ ha p l e s m args below meth c H locs ls C Hh hl (okc hr (okt (okt hS)))
  · exact ha.elim
theorem i_div {x y : Int} (hx : InR x) (hy : InR y) (h0 : 0 ≤ x) (h1 : 0 < y) : Int32.ofInt x / Int32.ofInt y = Int32.ofInt (x / y) ∧ InR (x / y) := by
  have hq : x / y ≤ x := Int.ediv_le_self y h0
  have hq0 : 0 ≤ x / y := Int.ediv_nonneg h0 (by omega)
  have hr : InR (x / y) := ⟨by omega, by have := hx.2; omega⟩
  refine ⟨?_, hr⟩
  apply Int32.toInt_inj.mp
  rw [Int32.toInt_div_of_ne_right _ _ (fun h => by have h2 := congrArg Int32.toInt h; rw [i_to hy, show (-1 : Int32).toInt = -1 from rfl] at h2; omega), i_to hx, i_to hy, i_to hr, Int.tdiv_eq_ediv_of_nonneg h0]
theorem snd_div (hd : decode (m_c M) pc = .ok (.idiv, 1)) (hn : nx = pc + 1) : Snd X M pc (a_div nx) := by
  subst hn
  intro Q k L S g σ hk ha p l e s m args below meth c H locs ls C Hh hl hS
  unfold a_div at ha
  split at ha
  · rename_i y x S
    obtain ⟨h0, h1, ha⟩ := ha
    have hy : InR y := okh hS
    have hx : InR x := okh (okt hS)
    obtain ⟨he, hr⟩ := i_div hx hy h0 h1
    refine lv_idiv C.1 C.2.1 hd (by rw [i_eq0 hy]; omega) ?_
    rw [he]
    exact hk _ _ _ _ _ ha p l e s m args below meth c H locs ls C Hh hl (okc hr (okt (okt hS)))
  · exact ha.elim
theorem snd_rem (hd : decode (m_c M) pc = .ok (.irem, 1)) (hn : nx = pc + 1) : Snd X M pc (a_rem nx) := by
  subst hn
  intro Q k L S g σ hk ha p l e s m args below meth c H locs ls C Hh hl hS
  unfold a_rem at ha
  split at ha
  · rename_i y x S
    obtain ⟨h0, h1, ha⟩ := ha
    have hy : InR y := okh hS
    have hx : InR x := okh (okt hS)
    obtain ⟨he, hr⟩ := i_div hx hy h0 h1
    have hm0 : 0 ≤ x % y := Int.emod_nonneg x (by omega)
    have hm1 : x % y < y := Int.emod_lt_of_pos x h1
    have hrr : InR (x % y) := ⟨by omega, by have := hy.2; omega⟩
    refine lv_irem C.1 C.2.1 hd (by rw [i_eq0 hy]; omega) ?_
    rw [he, ← Int32.ofInt_mul, ← Int32.ofInt_sub, show x - x / y * y = x % y by have := Int.emod_add_mul_ediv x y; rw [Int.mul_comm] at this; omega]
    exact hk _ _ _ _ _ ha p l e s m args below meth c H locs ls C Hh hl (okc hrr (okt (okt hS)))
  · exact ha.elim
theorem snd_dup (hd : decode (m_c M) pc = .ok (.dup, 1)) (hn : nx = pc + 1) : Snd X M pc (a_dup nx) := by
  subst hn
  intro Q k L S g σ hk ha p l e s m args below meth c H locs ls C Hh hl hS
  unfold a_dup at ha
  split at ha
  · exact lv_dup C.1 C.2.1 hd (cat1 X _) (hk _ _ _ _ _ ha p l e s m args below meth c H locs ls C Hh hl (okc (okh hS) hS))
  · exact ha.elim
theorem snd_dup2 (hd : decode (m_c M) pc = .ok (.dup2, 1)) (hn : nx = pc + 1) : Snd X M pc (a_dup2 nx) := by
  subst hn
  intro Q k L S g σ hk ha p l e s m args below meth c H locs ls C Hh hl hS
  unfold a_dup2 at ha
  split at ha
  · exact lv_dup2_11 C.1 C.2.1 hd (cat1 X _) (cat1 X _) (hk _ _ _ _ _ ha p l e s m args below meth c H locs ls C Hh hl (okc (okh hS) (okc (okh (okt hS)) hS)))
  · exact ha.elim
theorem snd_goto {off : Int} (hd : decode (m_c M) pc = .ok (.goto off, 3)) (hn : (pc : Int) + off = (nx : Int)) : Snd X M pc (a_goto nx) := by
  intro Q k L S g σ hk ha p l e s m args below meth c H locs ls C Hh hl hS
  exact lv_goto C.1 C.2.1 hd hn (hk _ _ _ _ _ ha p l e s m args below meth c H locs ls C Hh hl hS)
theorem snd_icmp_eq {off : Int} {tg : Nat} (hd : decode (m_c M) pc = .ok (.if_icmp .eq off, 3)) (ht : (pc : Int) + off = (tg : Int)) (hn : nx = pc + 3) : Snd X M pc (a_icmp 0 tg nx) := by
  subst hn
  intro Q k L S g σ hk ha p l e s m args below meth c H locs ls C Hh hl hS
  unfold a_icmp at ha
  split at ha
  · rename_i y x S
    have hy : InR y := okh hS
    have hx : InR x := okh (okt hS)
    exact lv_icmp_eq C.1 C.2.1 hd ht (fun q => hk _ _ _ _ _ (ha.1 ((i_eq hx hy).mp q)) p l e s m args below meth c H locs ls C Hh hl (okt (okt hS))) (fun q => hk _ _ _ _ _ (ha.2 (fun z => q ((i_eq hx hy).mpr z))) p l e s m args below meth c H locs ls C Hh hl (okt (okt hS)))
  · exact ha.elim
theorem snd_if_eq {off : Int} {tg : Nat} (hd : decode (m_c M) pc = .ok (.ifCond .eq off, 3)) (ht : (pc : Int) + off = (tg : Int)) (hn : nx = pc + 3) : Snd X M pc (a_if 0 tg nx) := by
  subst hn
  intro Q k L S g σ hk ha p l e s m args below meth c H locs ls C Hh hl hS
  unfold a_if at ha
  split at ha
  · rename_i x S
    have hx : InR x := okh hS
    exact lv_if_eq C.1 C.2.1 hd ht (fun q => hk _ _ _ _ _ (ha.1 ((i_eq0 hx).mp q)) p l e s m args below meth c H locs ls C Hh hl (okt hS)) (fun q => hk _ _ _ _ _ (ha.2 (fun z => q ((i_eq0 hx).mpr z))) p l e s m args below meth c H locs ls C Hh hl (okt hS))
  · exact ha.elim
theorem snd_icmp_ne {off : Int} {tg : Nat} (hd : decode (m_c M) pc = .ok (.if_icmp .ne off, 3)) (ht : (pc : Int) + off = (tg : Int)) (hn : nx = pc + 3) : Snd X M pc (a_icmp 1 tg nx) := by
  subst hn
  intro Q k L S g σ hk ha p l e s m args below meth c H locs ls C Hh hl hS
  unfold a_icmp at ha
  split at ha
  · rename_i y x S
    have hy : InR y := okh hS
    have hx : InR x := okh (okt hS)
    exact lv_icmp_ne C.1 C.2.1 hd ht (fun q => hk _ _ _ _ _ (ha.1 (fun z => q ((i_eq hx hy).mpr z))) p l e s m args below meth c H locs ls C Hh hl (okt (okt hS))) (fun q => hk _ _ _ _ _ (ha.2 (fun z => z ((i_eq hx hy).mp q))) p l e s m args below meth c H locs ls C Hh hl (okt (okt hS)))
  · exact ha.elim
theorem snd_if_ne {off : Int} {tg : Nat} (hd : decode (m_c M) pc = .ok (.ifCond .ne off, 3)) (ht : (pc : Int) + off = (tg : Int)) (hn : nx = pc + 3) : Snd X M pc (a_if 1 tg nx) := by
  subst hn
  intro Q k L S g σ hk ha p l e s m args below meth c H locs ls C Hh hl hS
  unfold a_if at ha
  split at ha
  · rename_i x S
    have hx : InR x := okh hS
    exact lv_if_ne C.1 C.2.1 hd ht (fun q => hk _ _ _ _ _ (ha.1 (fun z => q ((i_eq0 hx).mpr z))) p l e s m args below meth c H locs ls C Hh hl (okt hS)) (fun q => hk _ _ _ _ _ (ha.2 (fun z => z ((i_eq0 hx).mp q))) p l e s m args below meth c H locs ls C Hh hl (okt hS))
  · exact ha.elim
theorem snd_icmp_lt {off : Int} {tg : Nat} (hd : decode (m_c M) pc = .ok (.if_icmp .lt off, 3)) (ht : (pc : Int) + off = (tg : Int)) (hn : nx = pc + 3) : Snd X M pc (a_icmp 2 tg nx) := by
  subst hn
  intro Q k L S g σ hk ha p l e s m args below meth c H locs ls C Hh hl hS
  unfold a_icmp at ha
  split at ha
  · rename_i y x S
    have hy : InR y := okh hS
    have hx : InR x := okh (okt hS)
    exact lv_icmp_lt C.1 C.2.1 hd ht (fun q => hk _ _ _ _ _ (ha.1 ((i_lt hx hy).mp q)) p l e s m args below meth c H locs ls C Hh hl (okt (okt hS))) (fun q => hk _ _ _ _ _ (ha.2 (fun z => q ((i_lt hx hy).mpr z))) p l e s m args below meth c H locs ls C Hh hl (okt (okt hS)))
  · exact ha.elim
theorem snd_if_lt {off : Int} {tg : Nat} (hd : decode (m_c M) pc = .ok (.ifCond .lt off, 3)) (ht : (pc : Int) + off = (tg : Int)) (hn : nx = pc + 3) : Snd X M pc (a_if 2 tg nx) := by
  subst hn
  intro Q k L S g σ hk ha p l e s m args below meth c H locs ls C Hh hl hS
  unfold a_if at ha
  split at ha
  · rename_i x S
    have hx : InR x := okh hS
    exact lv_if_lt C.1 C.2.1 hd ht (fun q => hk _ _ _ _ _ (ha.1 ((i_lt0 hx).mp q)) p l e s m args below meth c H locs ls C Hh hl (okt hS)) (fun q => hk _ _ _ _ _ (ha.2 (fun z => q ((i_lt0 hx).mpr z))) p l e s m args below meth c H locs ls C Hh hl (okt hS))
  · exact ha.elim
theorem snd_icmp_ge {off : Int} {tg : Nat} (hd : decode (m_c M) pc = .ok (.if_icmp .ge off, 3)) (ht : (pc : Int) + off = (tg : Int)) (hn : nx = pc + 3) : Snd X M pc (a_icmp 3 tg nx) := by
  subst hn
  intro Q k L S g σ hk ha p l e s m args below meth c H locs ls C Hh hl hS
  unfold a_icmp at ha
  split at ha
  · rename_i y x S
    have hy : InR y := okh hS
    have hx : InR x := okh (okt hS)
    exact lv_icmp_ge C.1 C.2.1 hd ht (fun q => hk _ _ _ _ _ (ha.1 ((i_le hy hx).mp q)) p l e s m args below meth c H locs ls C Hh hl (okt (okt hS))) (fun q => hk _ _ _ _ _ (ha.2 (fun z => q ((i_le hy hx).mpr z))) p l e s m args below meth c H locs ls C Hh hl (okt (okt hS)))
  · exact ha.elim
theorem snd_if_ge {off : Int} {tg : Nat} (hd : decode (m_c M) pc = .ok (.ifCond .ge off, 3)) (ht : (pc : Int) + off = (tg : Int)) (hn : nx = pc + 3) : Snd X M pc (a_if 3 tg nx) := by
  subst hn
  intro Q k L S g σ hk ha p l e s m args below meth c H locs ls C Hh hl hS
  unfold a_if at ha
  split at ha
  · rename_i x S
    have hx : InR x := okh hS
    exact lv_if_ge C.1 C.2.1 hd ht (fun q => hk _ _ _ _ _ (ha.1 ((i_0le hx).mp q)) p l e s m args below meth c H locs ls C Hh hl (okt hS)) (fun q => hk _ _ _ _ _ (ha.2 (fun z => q ((i_0le hx).mpr z))) p l e s m args below meth c H locs ls C Hh hl (okt hS))
  · exact ha.elim
theorem snd_icmp_gt {off : Int} {tg : Nat} (hd : decode (m_c M) pc = .ok (.if_icmp .gt off, 3)) (ht : (pc : Int) + off = (tg : Int)) (hn : nx = pc + 3) : Snd X M pc (a_icmp 4 tg nx) := by
  subst hn
  intro Q k L S g σ hk ha p l e s m args below meth c H locs ls C Hh hl hS
  unfold a_icmp at ha
  split at ha
  · rename_i y x S
    have hy : InR y := okh hS
    have hx : InR x := okh (okt hS)
    exact lv_icmp_gt C.1 C.2.1 hd ht (fun q => hk _ _ _ _ _ (ha.1 ((i_lt hy hx).mp q)) p l e s m args below meth c H locs ls C Hh hl (okt (okt hS))) (fun q => hk _ _ _ _ _ (ha.2 (fun z => q ((i_lt hy hx).mpr z))) p l e s m args below meth c H locs ls C Hh hl (okt (okt hS)))
  · exact ha.elim
theorem snd_if_gt {off : Int} {tg : Nat} (hd : decode (m_c M) pc = .ok (.ifCond .gt off, 3)) (ht : (pc : Int) + off = (tg : Int)) (hn : nx = pc + 3) : Snd X M pc (a_if 4 tg nx) := by
  subst hn
  intro Q k L S g σ hk ha p l e s m args below meth c H locs ls C Hh hl hS
  unfold a_if at ha
  split at ha
  · rename_i x S
    have hx : InR x := okh hS
    exact lv_if_gt C.1 C.2.1 hd ht (fun q => hk _ _ _ _ _ (ha.1 ((i_0lt hx).mp q)) p l e s m args below meth c H locs ls C Hh hl (okt hS)) (fun q => hk _ _ _ _ _ (ha.2 (fun z => q ((i_0lt hx).mpr z))) p l e s m args below meth c H locs ls C Hh hl (okt hS))
  · exact ha.elim
theorem snd_icmp_le {off : Int} {tg : Nat} (hd : decode (m_c M) pc = .ok (.if_icmp .le off, 3)) (ht : (pc : Int) + off = (tg : Int)) (hn : nx = pc + 3) : Snd X M pc (a_icmp 5 tg nx) := by
  subst hn
  intro Q k L S g σ hk ha p l e s m args below meth c H locs ls C Hh hl hS
  unfold a_icmp at ha
  split at ha
  · rename_i y x S
    have hy : InR y := okh hS
    have hx : InR x := okh (okt hS)
    exact lv_icmp_le C.1 C.2.1 hd ht (fun q => hk _ _ _ _ _ (ha.1 ((i_le hx hy).mp q)) p l e s m args below meth c H locs ls C Hh hl (okt (okt hS))) (fun q => hk _ _ _ _ _ (ha.2 (fun z => q ((i_le hx hy).mpr z))) p l e s m args below meth c H locs ls C Hh hl (okt (okt hS)))
  · exact ha.elim
theorem snd_if_le {off : Int} {tg : Nat} (hd : decode (m_c M) pc = .ok (.ifCond .le off, 3)) (ht : (pc : Int) + off = (tg : Int)) (hn : nx = pc + 3) : Snd X M pc (a_if 5 tg nx) := by
  subst hn
  intro Q k L S g σ hk ha p l e s m args below meth c H locs ls C Hh hl hS
  unfold a_if at ha
  split at ha
  · rename_i x S
    have hx : InR x := okh hS
    exact lv_if_le C.1 C.2.1 hd ht (fun q => hk _ _ _ _ _ (ha.1 ((i_le0 hx).mp q)) p l e s m args below meth c H locs ls C Hh hl (okt hS)) (fun q => hk _ _ _ _ _ (ha.2 (fun z => q ((i_le0 hx).mpr z))) p l e s m args below meth c H locs ls C Hh hl (okt hS))
  · exact ha.elim
theorem snd_ifnull {off : Int} (hd : decode (m_c M) pc = .ok (.ifnull off, 3)) (hn : nx = pc + 3) : Snd X M pc (a_ifnull nx) := by
  subst hn
  intro Q k L S g σ hk ha p l e s m args below meth c H locs ls C Hh hl hS
  unfold a_ifnull at ha
  split at ha
  · exact lv_ifnull C.1 C.2.1 hd (hk _ _ _ _ _ ha p l e s m args below meth c H locs ls C Hh hl (okt hS))
  · exact ha.elim
theorem swl_at {x : Int} : ∀ (ts : List Nat) (j : Int) (k : Nat → Prop), swl x ts j k → ∀ (n t : Nat), ts[n]? = some t → x = j + n → k t
  | [], _, _, _, _, _, h, _ => by simp at h
  | t :: ts, j, k, h, 0, u, hu, hx => by
    have : t = u := by simpa using hu
    subst this
    exact h.1 (by simpa using hx)
  | t :: ts, j, k, h, n + 1, u, hu, hx => swl_at ts (j + 1) k h.2 n u (by simpa using hu) (by omega)
theorem snd_tsw {dflt lo hi : Int} {offs : Array Int} {len : Nat} {ts : List Nat} {df : Nat} (hd : decode (m_c M) pc = .ok (.tableswitch dflt lo hi offs, len)) (hdf : (pc : Int) + dflt = (df : Int)) (ho : offs.toList.map (fun o => (pc : Int) + o) = ts.map (fun t : Nat => (t : Int))) (hlen : (ts.length : Int) = hi - lo + 1) : Snd X M pc (a_tsw lo hi ts df) := by
  intro Q k L S g σ hk ha p l e s m args below meth c H locs ls C Hh hl hS
  unfold a_tsw at ha
  split at ha
  · rename_i x S
    have hx : InR x := okh hS
    by_cases hout : x < lo ∨ hi < x
    · exact lv_tableOut C.1 C.2.1 hd (by rw [i_to hx]; exact hout) hdf (hk _ _ _ _ _ (ha.2 hout) p l e s m args below meth c H locs ls C Hh hl (okt hS))
    · have hn : (x - lo).toNat < ts.length := by omega
      have ht : ts[(x - lo).toNat]? = some ts[(x - lo).toNat] := List.getElem?_eq_getElem hn
      have hoff : ∃ off, offs[(x - lo).toNat]? = some off ∧ (pc : Int) + off = ((ts[(x - lo).toNat] : Nat) : Int) := by
        have h1 := congrArg (fun l : List Int => l[(x - lo).toNat]?) ho
        simp only [List.getElem?_map, ht, Option.map_some, Array.getElem?_toList] at h1
        cases ho2 : offs[(x - lo).toNat]? with
        | none => rw [ho2] at h1; cases h1
        | some off => rw [ho2] at h1; exact ⟨off, rfl, by simpa using h1⟩
      obtain ⟨off, ho1, ho2⟩ := hoff
      exact lv_tableIn C.1 C.2.1 hd (by rw [i_to hx]; omega) (by rw [i_to hx]; omega) (by rw [i_to hx]; exact ho1) ho2 (hk _ _ _ _ _ (swl_at ts lo _ ha.1 _ _ ht (by omega)) p l e s m args below meth c H locs ls C Hh hl (okt hS))
  · exact ha.elim
end SND
end
section
theorem shp_at {X : XT} {g : GS} {σ : Sto} {s : State} {H : Heap} {locs : List Loc} {i : Nat} {sh : Sh} (Hh : Hp X g σ s H locs) (h : shp g i = some sh) : (x_ws X g.1 σ)[i]? = some (xb X + i, x_entS X σ i sh) ∧ x_c X (.inr i) = .ref (xb X + i) := by
  have h' : g.1[i]? = some sh := h
  have hl := (List.getElem?_eq_some_iff.mp h').1
  have := Hh.1.2.2
  exact ⟨x_ws_get h', by simp [x_c, x_addr, show i < 100000 by omega]⟩
theorem Hp_up {X : XT} {g : GS} {σ σ' : Sto} {s : State} {H H1 : Heap} {locs locs1 : List Loc} (Hh : Hp X g σ s H locs) (hP : va_P (xD X) vwCl (x_ws X g.1 σ') H1) (hs : sok σ') (hS : va_S (x_A X) s.heap H1 locs1) : Hp X g σ' s H1 locs1 := ⟨⟨hP, hs, Hh.1.2.2⟩, hS, Hh.2.2⟩
section SND2
variable {X : XT} {M : MT} {pc nx : Nat}
theorem snd_gi {ci f idx N : Nat} {z : Int} {C ref nm ds : String} {T : u_T} {fi : Bool} (hd : decode (m_c M) pc = .ok (.getfield idx, 3)) (hc : vwCl[ci]? = some (C, T, N)) (hk : f < N) (hT : T f = (ref, nm, ds, fi)) (hlink : Cond.fieldLink (m_y M).cls idx ref nm ds ∈ W0) (hin : ∀ w ∈ u_ws C T N, w ∈ W0) (hz : z = (f : Int)) (hn : nx = pc + 3) : Snd X M pc (a_gi ci f z nx) := by
  subst hn hz
  intro Q k L S g σ hk' ha p l e s m args below meth c H locs ls Cc Hh hl hS
  unfold a_gi at ha
  split at ha
  · rename_i i S
    split at ha
    · rename_i c' fs hsh
      obtain ⟨rfl, hfs, ha⟩ := ha
      obtain ⟨hx, hb, hr, hml, hown, hts, hlk, hK, hSt, hbz, hnm⟩ := id Cc
      obtain ⟨⟨hP, hok, -⟩, hVS, hsz⟩ := id Hh
      obtain ⟨hg, hadr⟩ := shp_at Hh hsh
      rw [fget_eq] at hfs
      show W _ _ _ _ _ _ _ _ _ _ _ _ _ _ _ (F0 m pc ls (x_c X (.inr i) :: S.map (x_c X)))
      rw [hadr]
      refine va_get (D := xD X) (cl := vwCl) (ci := c') (v := .int (Int32.ofInt (σ i f))) (C := C) (T := T) (N := N) (fs := x_fv X σ i 0 fs) hx hb hts hin hown hK.1 hP i hg hc f hk (ref := ref) ?_ ?_ ?_ hd ?_
      · rw [hT]; exact hts _ hlink
      · rw [hT]; exact fun _ h => h
      · rw [x_fv_get, hfs]; simp [x_f1]
      · exact hk' _ _ _ _ _ ha p l e s m args below meth c H locs ls Cc Hh hl (okc (hok _ _) (okt hS))
    · exact ha.elim
  · exact ha.elim
theorem snd_gr {ci f idx N : Nat} {C ref nm ds : String} {T : u_T} {fi : Bool} (hd : decode (m_c M) pc = .ok (.getfield idx, 3)) (hc : vwCl[ci]? = some (C, T, N)) (hk : f < N) (hT : T f = (ref, nm, ds, fi)) (hlink : Cond.fieldLink (m_y M).cls idx ref nm ds ∈ W0) (hin : ∀ w ∈ u_ws C T N, w ∈ W0) (hn : nx = pc + 3) : Snd X M pc (a_gr ci f nx) := by
  subst hn
  intro Q k L S g σ hk' ha p l e s m args below meth c H locs ls Cc Hh hl hS
  unfold a_gr at ha
  split at ha
  · rename_i i S
    split at ha
    · rename_i c' fs hsh
      obtain ⟨rfl, ha⟩ := ha
      split at ha
      · rename_i j hfs
        obtain ⟨hj, ha⟩ := ha
        obtain ⟨hx, hb, hr, hml, hown, hts, hlk, hK, hSt, hbz, hnm⟩ := id Cc
        obtain ⟨⟨hP, hok, -⟩, hVS, hsz⟩ := id Hh
        obtain ⟨hg, hadr⟩ := shp_at Hh hsh
        rw [fget_eq] at hfs
        show W _ _ _ _ _ _ _ _ _ _ _ _ _ _ _ (F0 m pc ls (x_c X (.inr i) :: S.map (x_c X)))
        rw [hadr]
        refine va_get (D := xD X) (cl := vwCl) (ci := c') (v := x_c X (.inr j)) (C := C) (T := T) (N := N) (fs := x_fv X σ i 0 fs) hx hb hts hin hown hK.1 hP i hg hc f hk (ref := ref) ?_ ?_ ?_ hd ?_
        · rw [hT]; exact hts _ hlink
        · rw [hT]; exact fun _ h => h
        · rw [x_fv_get, hfs]; simp [x_f1, va_rf, x_c, x_addr, hj]
        · exact hk' _ _ _ _ _ ha p l e s m args below meth c H locs ls Cc Hh hl (okc trivial (okt hS))
      · exact ha.elim
    · exact ha.elim
  · exact ha.elim
theorem nar_bool {v : Int} (h : v = 0 ∨ v = 1) : narrow .boolean (.int (Int32.ofInt v)) = .int (Int32.ofInt v) ∧ fits .boolean (.int (Int32.ofInt v)) = true := by
  rcases h with rfl | rfl <;> exact ⟨by decide, by decide⟩
theorem snd_pi {ci f idx N : Nat} {z : Int} {bo : Bool} {C ref nm ds : String} {T : u_T} {ty0 : Nat → FieldType} (hd : decode (m_c M) pc = .ok (.putfield idx, 3)) (hc : vwCl[ci]? = some (C, T, N)) (hk : f < N) (hT : T f = (ref, nm, ds, false)) (hlink : Cond.fieldLink (m_y M).cls idx ref nm ds ∈ W0) (hin : ∀ w ∈ u_ws C T N, w ∈ W0)
    (hty : ∀ k, k < N → parseFieldDescriptor (T k).2.2.1 = some (ty0 k)) (hnm' : ∀ a, a < N → ∀ b, b < N → a ≠ b → (T a).2.1 ≠ (T b).2.1) (hds : parseFieldDescriptor ds = some (if bo then .boolean else .int)) (hz : z = (f : Int)) (hn : nx = pc + 3) : Snd X M pc (a_pi ci f z bo nx) := by
  subst hn hz
  intro Q k L S g σ hk' ha p l e s m args below meth c H locs ls Cc Hh hl hS
  unfold a_pi at ha
  split at ha
  · rename_i v i S
    split at ha
    · rename_i c' fs hsh
      obtain ⟨rfl, hfs, hbo, ha⟩ := ha
      obtain ⟨hx, hb, hr, hml, hown, hts, hlk, hK, hSt, hbz, hnm⟩ := id Cc
      obtain ⟨⟨hP, hok, hG⟩, hVS, hsz⟩ := id Hh
      obtain ⟨hg, hadr⟩ := shp_at Hh hsh
      rw [fget_eq] at hfs
      have hv : InR v := okh hS
      have hnf : narrow (if bo then .boolean else .int) (.int (Int32.ofInt v)) = .int (Int32.ofInt v) ∧ fits (if bo then .boolean else .int) (.int (Int32.ofInt v)) = true := by
        cases bo with
        | true => exact nar_bool (hbo rfl)
        | false => exact ⟨rfl, rfl⟩
      show W _ _ _ _ _ _ _ _ _ _ _ _ _ _ _ (F0 m pc ls (x_c X (.inl v) :: x_c X (.inr i) :: S.map (x_c X)))
      rw [hadr]
      refine va_put (D := xD X) (cl := vwCl) (ci := c') (v := .int (Int32.ofInt v)) (ty := if bo then .boolean else .int) (C := C) (T := T) (N := N) (fs := x_fv X σ i 0 fs) hx hb hts hin ty0 hty hnm' hown hK.1 hP (x_D X g.1 σ) hVS i hg hc f hk (ref := ref) ?_ ?_ (by rw [hT]) (by rw [hT]; exact hds) hnf.1 hnf.2 ?_ hd (fun H1 locs1 hP1 hD1 hS1 => ?_)
      · rw [hT]; exact hts _ hlink
      · rw [hT]; exact fun _ h => h
      · rw [x_fv_len]; exact (List.getElem?_eq_some_iff.mp hfs).1
      · rw [x_fv_put hfs] at hP1
        have hP1 := x_ws_putP (σ' := up σ i f v) hsh (fun b hb => up_other hb) rfl hP1
        exact hk' _ _ _ _ _ ha p l e s m args below meth c H1 locs1 ls Cc (Hp_up Hh hP1 (sok_up hok hv) hS1) hl (okt (okt hS))
    · exact ha.elim
  · exact ha.elim
theorem upd_eq {σ : Sto} {a : Nat} {j v : Int} (h0 : 0 ≤ j) : (fun q : Nat => Int32.ofInt (up σ a j v a q)) = upd (fun q : Nat => Int32.ofInt (σ a q)) j.toNat (Int32.ofInt v) := by
  funext q
  unfold up upd
  by_cases e : (q : Int) = j
  · rw [if_pos ⟨rfl, e⟩, if_pos (by omega)]
  · rw [if_neg (fun h => e h.2), if_neg (by omega)]
theorem tys0 (X : XT) : (x_tys X)[0]? = some (xc X 0, .int) := rfl
theorem tys1 (X : XT) : (x_tys X)[1]? = some (xc X 1, .boolean) := rfl
theorem snd_iald (hd : decode (m_c M) pc = .ok (.iaload, 1)) (hn : nx = pc + 1) : Snd X M pc (a_ald false nx) := by
  subst hn
  intro Q k L S g σ hk' ha p l e s m args below meth c H locs ls Cc Hh hl hS
  unfold a_ald at ha
  split at ha
  · rename_i j a S
    split at ha
    · rename_i b n hsh
      obtain ⟨rfl, h0, h1, ha⟩ := ha
      obtain ⟨hg, hadr⟩ := shp_at Hh hsh
      have hj : InR j := okh hS
      show W _ _ _ _ _ _ _ _ _ _ _ _ _ _ _ (F0 m pc ls (x_c X (.inl j) :: x_c X (.inr a) :: S.map (x_c X)))
      rw [hadr]
      refine va_iald Cc.1 Cc.2.1 Cc.2.2.2.2.2.2.2.1.1 Hh.1.1 a 0 hg (tys0 X) (i_in hj h0 h1) hd ?_
      rw [i_nat hj, show ((j.toNat : Nat) : Int) = j by omega]
      exact hk' _ _ _ _ _ ha p l e s m args below meth c H locs ls Cc Hh hl (okc (Hh.1.2.1 _ _) (okt (okt hS)))
    · exact ha.elim
  · exact ha.elim
theorem snd_bald (hd : decode (m_c M) pc = .ok (.baload, 1)) (hn : nx = pc + 1) : Snd X M pc (a_ald true nx) := by
  subst hn
  intro Q k L S g σ hk' ha p l e s m args below meth c H locs ls Cc Hh hl hS
  unfold a_ald at ha
  split at ha
  · rename_i j a S
    split at ha
    · rename_i b n hsh
      obtain ⟨rfl, h0, h1, ha⟩ := ha
      obtain ⟨hg, hadr⟩ := shp_at Hh hsh
      have hj : InR j := okh hS
      show W _ _ _ _ _ _ _ _ _ _ _ _ _ _ _ (F0 m pc ls (x_c X (.inl j) :: x_c X (.inr a) :: S.map (x_c X)))
      rw [hadr]
      refine va_zald Cc.1 Cc.2.1 Cc.2.2.2.2.2.2.2.1.1 Hh.1.1 a 1 hg (tys1 X) (i_in hj h0 h1) hd ?_
      rw [i_nat hj, show ((j.toNat : Nat) : Int) = j by omega]
      exact hk' _ _ _ _ _ ha p l e s m args below meth c H locs ls Cc Hh hl (okc (Hh.1.2.1 _ _) (okt (okt hS)))
    · exact ha.elim
  · exact ha.elim
theorem snd_sld (hd : decode (m_c M) pc = .ok (.iaload, 1)) (hn : nx = pc + 1) : Snd X M pc (a_sld nx) := by
  subst hn
  intro Q k L S g σ hk' ha p l e s m args below meth c H locs ls Cc Hh hl hS
  unfold a_sld at ha
  split at ha
  · rename_i j a S
    obtain ⟨ha1, ha2, h0, h1, ha⟩ := ha
    have hj : InR j := okh hS
    have hadr : x_c X (.inr a) = .ref (xs X (a - 100000)) := by simp [x_c, x_addr, show ¬ a < 100000 by omega]
    show W _ _ _ _ _ _ _ _ _ _ _ _ _ _ _ (F0 m pc ls (x_c X (.inl j) :: x_c X (.inr a) :: S.map (x_c X)))
    rw [hadr]
    have hT := (Cc.2.2.2.2.2.2.2.2.1.1 _ ha2).2
    refine va_ti Cc.1 Cc.2.1 hT Hh.2.1 (i_in hj h0 h1) (v := .int (Int32.ofInt (st_v (a - 100000) j))) ?_ hd ?_
    · rw [i_nat hj, show ((j.toNat : Nat) : Int) = j by omega]
    · exact hk' _ _ _ _ _ ha p l e s m args below meth c H locs ls Cc Hh hl (okc (st_in _ _) (okt (okt hS)))
  · exact ha.elim
theorem snd_iast (hd : decode (m_c M) pc = .ok (.iastore, 1)) (hn : nx = pc + 1) : Snd X M pc (a_ast false nx) := by
  subst hn
  intro Q k L S g σ hk' ha p l e s m args below meth c H locs ls Cc Hh hl hS
  unfold a_ast at ha
  split at ha
  · rename_i v j a S
    split at ha
    · rename_i b n hsh
      obtain ⟨rfl, h0, h1, -, ha⟩ := ha
      obtain ⟨hg, hadr⟩ := shp_at Hh hsh
      have hv : InR v := okh hS
      have hj : InR j := okh (okt hS)
      show W _ _ _ _ _ _ _ _ _ _ _ _ _ _ _ (F0 m pc ls (x_c X (.inl v) :: x_c X (.inl j) :: x_c X (.inr a) :: S.map (x_c X)))
      rw [hadr]
      refine va_iast Cc.1 Cc.2.1 Cc.2.2.2.2.2.2.2.1.1 Hh.1.1 (x_D X g.1 σ) Hh.2.1 a 0 hg (tys0 X) (i_in hj h0 h1) hd (fun H1 locs1 hP1 hD1 hS1 => ?_)
      rw [i_nat hj, ← upd_eq h0] at hP1
      have hP1 := x_ws_putP (σ' := up σ a j v) hsh (fun b hb => up_other hb) rfl hP1
      exact hk' _ _ _ _ _ ha p l e s m args below meth c H1 locs1 ls Cc (Hp_up Hh hP1 (sok_up Hh.1.2.1 hv) hS1) hl (okt (okt (okt hS)))
    · exact ha.elim
  · exact ha.elim
theorem snd_bast (hd : decode (m_c M) pc = .ok (.bastore, 1)) (hn : nx = pc + 1) : Snd X M pc (a_ast true nx) := by
  subst hn
  intro Q k L S g σ hk' ha p l e s m args below meth c H locs ls Cc Hh hl hS
  unfold a_ast at ha
  split at ha
  · rename_i v j a S
    split at ha
    · rename_i b n hsh
      obtain ⟨rfl, h0, h1, hbo, ha⟩ := ha
      obtain ⟨hg, hadr⟩ := shp_at Hh hsh
      have hv : InR v := okh hS
      have hj : InR j := okh (okt hS)
      have hnar : vp_nar .boolean (Int32.ofInt v) = Int32.ofInt v := by rcases hbo rfl with rfl | rfl <;> decide
      show W _ _ _ _ _ _ _ _ _ _ _ _ _ _ _ (F0 m pc ls (x_c X (.inl v) :: x_c X (.inl j) :: x_c X (.inr a) :: S.map (x_c X)))
      rw [hadr]
      refine va_zast Cc.1 Cc.2.1 Cc.2.2.2.2.2.2.2.1.1 Hh.1.1 (x_D X g.1 σ) Hh.2.1 a 1 hg (tys1 X) (i_in hj h0 h1) hd (fun H1 locs1 hP1 hD1 hS1 => ?_)
      rw [i_nat hj, hnar, ← upd_eq h0] at hP1
      have hP1 := x_ws_putP (σ' := up σ a j v) hsh (fun b hb => up_other hb) rfl hP1
      exact hk' _ _ _ _ _ ha p l e s m args below meth c H1 locs1 ls Cc (Hp_up Hh hP1 (sok_up Hh.1.2.1 hv) hS1) hl (okt (okt (okt hS)))
    · exact ha.elim
  · exact ha.elim
/-- what the kit says of an array of rows -/
theorem rowsA {X : XT} {s : State} (hK : va_K (xD X) vwCl (x_tys X) s) (z : Bool) : ∃ ty : FieldType, ty.isReference = true ∧ ArrOfT s (xc X (if z then 2 else 3)) ty := by
  cases z with
  | true => exact ⟨.object RX1, rfl, (hK.2 2 _ rfl).1⟩
  | false => exact ⟨.array .int, rfl, (hK.2 3 _ rfl).1⟩
theorem snd_aald (hd : decode (m_c M) pc = .ok (.aaload, 1)) (hn : nx = pc + 1) : Snd X M pc (a_aald nx) := by
  subst hn
  intro Q k L S g σ hk' ha p l e s m args below meth c H locs ls Cc Hh hl hS
  unfold a_aald at ha
  split at ha
  · rename_i j a S
    split at ha
    · rename_i z rl hsh
      obtain ⟨h0, h1, ha⟩ := ha
      split at ha
      · rename_i r hr
        obtain ⟨hrl, ha⟩ := ha
        obtain ⟨hg, hadr⟩ := shp_at Hh hsh
        have hj : InR j := okh hS
        obtain ⟨ty, hty, hA⟩ := rowsA Cc.2.2.2.2.2.2.2.1.1 z
        rw [rget_eq] at hr
        show W _ _ _ _ _ _ _ _ _ _ _ _ _ _ _ (F0 m pc ls (x_c X (.inl j) :: x_c X (.inr a) :: S.map (x_c X)))
        rw [hadr]
        have hcell : H[xb X + a]? = some (vp_cell (xc X (if z then 2 else 3)) (rl.length, .inr (.inr (.inr (.inr (fun j => ((rl[j]?).join).map (fun k => xb X + k))))))) := Hh.1.1 a _ hg
        rw [vp_cell_q] at hcell
        have hjl : j.toNat < rl.length := by omega
        refine W.aald (v := x_c X (.inr r)) Cc.1 Cc.2.1 hcell (hA _ _) hty (fun q => by cases q) (by rw [arrV_size, i_nat hj, i_lt0 hj]; omega) (by rw [i_nat hj, arrV_read _ _ hjl, hr]; simp [va_rf, x_c, x_addr, hrl]) rfl rfl hd ?_
        exact hk' _ _ _ _ _ ha p l e s m args below meth c H locs ls Cc Hh hl (okc trivial (okt (okt hS)))
      · exact ha.elim
    · exact ha.elim
  · exact ha.elim
theorem snd_len (hd : decode (m_c M) pc = .ok (.arraylength, 1)) (hn : nx = pc + 1) : Snd X M pc (a_len nx) := by
  subst hn
  intro Q k L S g σ hk' ha p l e s m args below meth c H locs ls Cc Hh hl hS
  unfold a_len at ha
  split at ha
  · rename_i a S
    split at ha
    · rename_i z n hsh
      obtain ⟨h1, ha⟩ := ha
      obtain ⟨hg, hadr⟩ := shp_at Hh hsh
      show W _ _ _ _ _ _ _ _ _ _ _ _ _ _ _ (F0 m pc ls (x_c X (.inr a) :: S.map (x_c X)))
      rw [hadr]
      have hty : ∃ (t0 : Nat) (ty : FieldType), (x_tys X)[t0]? = some (xc X (if z then 1 else 0), ty) := by
        cases z with
        | true => exact ⟨1, _, rfl⟩
        | false => exact ⟨0, _, rfl⟩
      obtain ⟨t0, ty, ht0⟩ := hty
      refine va_alen Cc.1 Cc.2.1 Cc.2.2.2.2.2.2.2.1.1 Hh.1.1 a t0 hg ht0 (v := Int32.ofInt n) Int32.ofInt_eq_ofNat.symm hd ?_
      exact hk' _ _ _ _ _ ha p l e s m args below meth c H locs ls Cc Hh hl (okc (show InR n from ⟨by omega, by omega⟩) (okt hS))
    · rename_i z rl hsh
      obtain ⟨h1, ha⟩ := ha
      obtain ⟨hg, hadr⟩ := shp_at Hh hsh
      show W _ _ _ _ _ _ _ _ _ _ _ _ _ _ _ (F0 m pc ls (x_c X (.inr a) :: S.map (x_c X)))
      rw [hadr]
      have hty : ∃ (t0 : Nat) (ty : FieldType), (x_tys X)[t0]? = some (xc X (if z then 2 else 3), ty) := by
        cases z with
        | true => exact ⟨2, _, rfl⟩
        | false => exact ⟨3, _, rfl⟩
      obtain ⟨t0, ty, ht0⟩ := hty
      refine va_alen Cc.1 Cc.2.1 Cc.2.2.2.2.2.2.2.1.1 Hh.1.1 a t0 hg ht0 (v := Int32.ofInt rl.length) Int32.ofInt_eq_ofNat.symm hd ?_
      exact hk' _ _ _ _ _ ha p l e s m args below meth c H locs ls Cc Hh hl (okc (show InR rl.length from ⟨by omega, by omega⟩) (okt hS))
    · exact ha.elim
  · exact ha.elim
theorem snd_gst {q idx : Nat} {nm : String} (hd : decode (m_c M) pc = .ok (.getstatic idx, 3)) (hq : q < 6) (hnm : st_nm q = nm) (hlink : Cond.fieldLink (m_y M).cls idx "BilingualSetter" nm "[I" ∈ W0) (hn : nx = pc + 3) : Snd X M pc (a_gst q nx) := by
  subst hn hnm
  intro Q k L S g σ hk' ha p l e s m args below meth c H locs ls Cc Hh hl hS
  have hadr : x_c X (.inr (100000 + q)) = .ref (xs X q) := by simp [x_c, x_addr, show ¬ (100000 + q < 100000) by omega]
  refine va_gets Cc.1 Cc.2.1 (Cc.2.2.2.2.2.2.2.2.1.1 q hq).1 Hh.2.1 Cc.2.2.2.2.1 (Cc.2.2.2.2.2.1 _ hlink) (fun _ h => h) hd ?_
  rw [← hadr]
  exact hk' _ _ _ _ _ ha p l e s m args below meth c H locs ls Cc Hh hl (okc trivial hS)
theorem snd_gstN {q idx : Nat} {nm : String} (hd : decode (m_c M) pc = .ok (.getstatic idx, 3)) (hq : q < 6) (hnm : st_nm q = nm) (hlink : ((m_y M).cls, idx, "BilingualSetter", nm, "[I", "BilingualSetter") ∈ NF) (hn : nx = pc + 3) : Snd X M pc (a_gst q nx) := by
  subst hn hnm
  intro Q k L S g σ hk' ha p l e s m args below meth c H locs ls Cc Hh hl hS
  have hadr : x_c X (.inr (100000 + q)) = .ref (xs X q) := by simp [x_c, x_addr, show ¬ (100000 + q < 100000) by omega]
  have hNF := Cc.2.2.2.2.2.2.2.1.2.2.1 _ hlink
  refine va_getsN Cc.1 Cc.2.1 (Cc.2.2.2.2.2.2.2.2.1.1 q hq).1 Hh.2.1 Cc.2.2.2.2.1 (va_Nw.use rfl hNF) (fun _ h => h) hd ?_
  rw [← hadr]
  exact hk' _ _ _ _ _ ha p l e s m args below meth c H locs ls Cc Hh hl (okc trivial hS)
theorem cpy_eq {σ : Sto} {a b : Nat} {sp dp n : Int} (h1 : 0 ≤ sp) (h2 : 0 ≤ dp) (h3 : 0 ≤ n) : (fun q : Nat => Int32.ofInt (cpy σ a b sp dp n b q)) = va_cpy (fun q : Nat => Int32.ofInt (σ a q)) (fun q : Nat => Int32.ofInt (σ b q)) sp.toNat dp.toNat n.toNat := by
  funext q
  unfold cpy va_cpy
  by_cases e : dp ≤ (q : Int) ∧ (q : Int) < dp + n
  · rw [if_pos ⟨rfl, e⟩, if_pos (by omega)]
    have : ((sp.toNat + (q - dp.toNat) : Nat) : Int) = sp + ((q : Int) - dp) := by omega
    show _ = Int32.ofInt (σ a ((sp.toNat + (q - dp.toNat) : Nat) : Int))
    rw [this]
  · rw [if_neg (fun h => e h.2), if_neg (by omega)]
theorem snd_copy {idx : Nat} (hd : decode (m_c M) pc = .ok (.invokestatic idx, 3)) (hl1 : Cond.methodLink (m_y M).cls idx arraycopyName ∈ W0) (hl2 : Cond.native arraycopyName ∈ W0) (hl3 : Cond.static arraycopyName ∈ W0) (hl4 : Cond.initialized "java/lang/System" ∈ W0) (hrk : 1 ≤ m_k M) (hn : nx = pc + 3) : Snd X M pc (a_copy nx) := by
  subst hn
  intro Q k L S g σ hk' ha p l e s m args below meth c H locs ls Cc Hh hl hS
  unfold a_copy at ha
  split at ha
  · rename_i n dp b sp a S
    obtain ⟨h8, ha⟩ := ha
    split at ha
    · rename_i ba na bb nb hsa hsb
      obtain ⟨rfl, rfl, h1, h2, h3, h4, h5, ha⟩ := ha
      obtain ⟨hga, hadra⟩ := shp_at Hh hsa
      obtain ⟨hgb, hadrb⟩ := shp_at Hh hsb
      have hn : InR n := okh hS
      have hdp : InR dp := okh (okt hS)
      have hsp : InR sp := okh (okt (okt (okt hS)))
      show W _ _ _ _ _ _ _ _ _ _ _ _ _ _ _ (F0 m pc ls (x_c X (.inl n) :: x_c X (.inl dp) :: x_c X (.inr b) :: x_c X (.inl sp) :: x_c X (.inr a) :: S.map (x_c X)))
      rw [hadra, hadrb]
      have hts := Cc.2.2.2.2.2.1
      refine va_copyi Cc.1 Cc.2.1 (Cc.2.2.2.1.trans hl.1.symm) Cc.2.2.2.2.1 (hts _ hl1) (hts _ hl2) (hts _ hl3) (hts _ hl4) Cc.2.2.2.2.2.2.2.1.1 Hh.1.1 (x_D X g.1 σ) Hh.2.1 a b 0 0 hga hgb (tys0 X) (tys0 X) rfl (by rw [i_lt0 hsp]; omega) (by rw [i_lt0 hdp]; omega) (by rw [i_lt0 hn]; omega) (by rw [i_nat hsp, i_nat hn]; omega) (by rw [i_nat hdp, i_nat hn]; omega) (fun _ _ => rfl) hrk ?_ hd (fun H1 locs1 hP1 hD1 hS1 => ?_)
      · rw [mapc_cat]
        have : nativeFrameWords "java/lang/System" "arraycopy" 5 = 7 := by decide +kernel
        show _ ≤ (41 * m_k M + 4)
        omega
      · rw [i_nat hsp, i_nat hdp, i_nat hn, ← cpy_eq h1 h2 h3] at hP1
        have hP1 := x_ws_putP (σ' := cpy σ a b sp dp n) hsb (fun c hc => by funext i; simp [cpy, hc]) rfl hP1
        exact hk' _ _ _ _ _ ha p l e s m args below meth c H1 locs1 ls Cc (Hp_up Hh hP1 (sok_cpy Hh.1.2.1) hS1) hl (okt (okt (okt (okt (okt hS)))))
    · exact ha.elim
  · exact ha.elim
theorem i_max {x y : Int} (hx : InR x) (hy : InR y) : (if Int32.ofInt x < Int32.ofInt y then Int32.ofInt y else Int32.ofInt x) = Int32.ofInt (max x y) := by
  by_cases h : x < y
  · rw [if_pos ((i_lt hx hy).mpr h), show max x y = y by omega]
  · rw [if_neg (fun q => h ((i_lt hx hy).mp q)), show max x y = x by omega]
theorem i_min {x y : Int} (hx : InR x) (hy : InR y) : (if Int32.ofInt y < Int32.ofInt x then Int32.ofInt y else Int32.ofInt x) = Int32.ofInt (min x y) := by
  by_cases h : y < x
  · rw [if_pos ((i_lt hy hx).mpr h), show min x y = y by omega]
  · rw [if_neg (fun q => h ((i_lt hy hx).mp q)), show min x y = x by omega]
end SND2
end
section
/-! ===== calls, answers, a method's start ===== -/
theorem W0_in {w : Cond} (h : w ∈ lw_tbl) (hg : goodWord w = true) : w ∈ W0 := List.mem_filter.mpr ⟨h, hg⟩
theorem W0_good {ws : List Cond} (h : ∀ w ∈ ws, w ∈ W0) : GoodIn W0 ws := fun w hw => ⟨h w hw, good_of_word (List.mem_filter.mp (h w hw)).2⟩
theorem x_w_good {M : MT} (h : Cond.code (m_y M) (m_c M) (m_n M) (m_r M) ∈ W0) : GoodIn W0 (x_w M) := W0_good (fun w hw => (List.mem_cons.mp hw).elim (fun e => e ▸ h) (fun q => q))
theorem W_size {p : Program} {l : Launch} {e : Env} {R : Room} {s : State} {m : MethodId} {args : Array Value} {below : List Frame} {meth : Method} {c : Code} {H : Heap} {locs : List Loc} {cells slots : Nat} {Q : State → Prop} {g : JFrame} (k : H.size ≤ s.heap.size + cells → W p l e R s m args below meth c H locs cells slots Q g) : W p l e R s m args below meth c H locs cells slots Q g :=
  fun T hT X => k (by rw [← hT]; exact X.heapSize) T hT X
theorem x_size_ge {X : XT} {g : GS} {σ : Sto} {s : State} {H : Heap} {locs : List Loc} (Hh : Hp X g σ s H locs) (hb : xb X ≤ s.heap.size) : xb X + g.1.length ≤ H.size := by
  by_cases h : g.1.length = 0
  · have := Hh.2.1.1
    omega
  · have hl : g.1.length - 1 < g.1.length := by omega
    have h1 := Hh.1.1 _ _ (x_ws_get (X := X) (σ := σ) (List.getElem?_eq_getElem hl))
    have h2 := h1.lt
    have h3 : xb X + (g.1.length - 1) < H.size := h2
    omega
/-- what a method's tables say of itself -/
def MOK (M : MT) : Prop := plainName (m_y M).cls = true ∧ Cond.code (m_y M) (m_c M) (m_n M) (m_r M) ∈ W0 ∧ Cond.initialized (m_y M).cls ∈ W0 ∧ ((m_y M).cls ≠ "java/lang/invoke/MethodHandle" ∧ (m_y M).cls ≠ "java/lang/invoke/VarHandle") ∧ m_n M ≤ 17
theorem x_back {X : XT} {M' : MT} {p : Program} {l : Launch} {e : Env} {R : Room} {s : State} {m : MethodId} {args a : Array Value} {below : List Frame} {meth : Method} {c : Code} {H : Heap} {locs : List Loc} {cells slots mc ms pc : Nat} {ls : Array Slot} {rest st0 : List Value} {Q' : QT} {Qf : State → Prop}
    (hr : va_Run p l e R s m args below meth c H locs cells slots mc ms (F0 m pc ls st0) rest (x_Qc X Q' a) (x_A X)) (hS : va_S (x_A X) s.heap H locs)
    (kk : ∀ (r : Option AV) (G : List Sh) (σ : Sto) (H1 : Heap) (locs1 : List Loc), Q' r G σ → (∀ v, r = some v → okv v) → Rh X G σ H1 → va_S (x_A X) s.heap H1 locs1 → W p l e R s m args below meth c H1 locs1 (cells + mc) (slots + ms) Qf (F0 m (pc + 3) ls ((r.map (x_c X)).toList ++ rest))) : W p l e R s m args below meth c H locs cells slots Qf (F0 m pc ls st0) := by
  intro T hT Xs
  obtain ⟨v, st₀, t, T', L, h0, X', hL, e1, e2, ⟨⟨r, G, σ, hv, hq, hok, hR⟩, hz, hk⟩, st⟩ := hr T hT Xs
  have hv : v = r.map (x_c X) := Outcome.returned.inj hv
  subst hv
  rw [h0] at hz hk
  obtain ⟨t2, a1, b1⟩ := kk r G σ T'.heap (locs ++ L) hq hok (by rw [e1]; exact hR)
    ⟨Nat.le_trans hS.1 (by rw [e1]; exact hz), fun q h1 h2 => by rw [e1, hk q (Nat.lt_of_lt_of_le h1 hS.1) h2]; exact hS.2.1 q h1 h2, fun q hq => by
      rcases List.mem_append.mp hq with h | h
      · exact hS.2.2 q h
      · exact hL q h⟩ T' rfl X'
  exact ⟨t2, st t2 a1, b1⟩
section SND3
variable {X : XT} {M M' : MT} {pc nx : Nat}
theorem apop_at : ∀ (n : Nat) (as S as' S' : List AV), apop n as S = some (as', S') → ∃ bs : List AV, as' = bs.reverse ++ as ∧ S = bs ++ S' ∧ bs.length = n
  | 0, as, S, as', S', h => by
    simp [apop] at h
    exact ⟨[], by simp [h.1], by simp [h.2], rfl⟩
  | n + 1, as, [], as', S', h => by simp [apop] at h
  | n + 1, as, v :: S, as', S', h => by
    obtain ⟨bs, h1, h2, h3⟩ := apop_at n (v :: as) S as' S' h
    exact ⟨v :: bs, by simp [h1], by simp [h2], by simp [h3]⟩
/-- the callee's start, at the caller's call -/
theorem x_pre {g : GS} {σ : Sto} {p : Program} {s : State} {m : MethodId} {args : Array Value} {meth : Method} {c : Code} {H : Heap} {locs : List Loc} {as : List AV} (C : Cx X M p s m args meth c) (Hh : Hp X g σ s H locs) (hz : H.size ≤ s.heap.size + g.2.1) (hok : ∀ v ∈ as, okv v) (U : State) (hU : U.heap = H) (hW : s.WarmedH U.vm) : Rp X g.1 σ U ∧ ∀ v ∈ as, okv v := by
  have hge := x_size_ge Hh C.2.2.2.2.2.2.2.2.2.1
  have h3 := Hh.2.2
  refine ⟨⟨KU.warm hW C.2.2.2.2.2.2.2.1, ?_, by rw [hU]; exact Hh.1, by rw [hU]; omega⟩, hok⟩
  rw [hU]
  exact (StOK.moved hW.alike C.2.2.2.2.2.2.2.2.1).kept (fun a h1 h2 => Hh.2.1.2.1 a h1 h2)
theorem x_blind {g : GS} {σ : Sto} {as : List AV} {av : List Value} : FrameBlind (va_Pc av (fun U => Rp X g.1 σ U ∧ ∀ v ∈ as, okv v)) := by
  intro a U gf mk h
  obtain ⟨h1, ⟨h2, h3, h4, h5⟩, h6⟩ := h
  exact ⟨h1, ⟨KU.same rfl h2, StOK.moved (U := U.calling gf mk a) (Vm.Alike.refl U.vm) h3, h4, h5⟩, h6⟩
theorem x_go {g : GS} {σ σ' : Sto} {G' : List Sh} {p : Program} {l : Launch} {e : Env} {s : State} {m : MethodId} {args : Array Value} {below : List Frame} {meth : Method} {c : Code} {H H1 : Heap} {locs locs1 : List Loc} {ls : Array Slot} {L : LT} {S : List AV} {pc' mc ms : Nat} {Q : QT}
    (h : WPc X M Q pc' L S (G', g.2.1 + mc, g.2.2 + ms) σ') (C : Cx X M p s m args meth c) (Hh : Hp X g σ s H locs) (hl : LH X ls (m_n M) L) (hS : ∀ v ∈ S, okv v) (hR : Rh X G' σ' H1) (hVS : va_S (x_A X) s.heap H1 locs1) (hG : G'.length = g.1.length + mc) :
    W p l e (x_rm M) s m args below meth c H1 locs1 (g.2.1 + mc) (g.2.2 + ms) (MQ below (x_Qc X Q) args s (m_mc M) (m_ms M) (x_A X)) (F0 m pc' ls (S.map (x_c X))) :=
  h p l e s m args below meth c H1 locs1 ls C ⟨hR, hVS, by show s.heap.size + (g.2.1 + mc) = xb X + G'.length; have := Hh.2.2; omega⟩ hl hS
theorem isO_at {g : GS} {σ : Sto} {ci : Nat} {as : List AV} {s : State} {H : Heap} {locs : List Loc} (Hh : Hp X g σ s H locs) (h : isO g ci as) : ∃ i fs rest, as = .inr i :: rest ∧ (x_ws X g.1 σ)[i]? = some (xb X + i, .inr (ci, fs)) ∧ x_c X (.inr i) = .ref (xb X + i) := by
  unfold isO at h
  split at h
  · rename_i i rest
    obtain ⟨-, h⟩ := h
    split at h
    · rename_i c' fs hsh
      subst h
      exact ⟨i, _, rest, rfl, (shp_at Hh hsh).1, (shp_at Hh hsh).2⟩
    · exact h.elim
  · exact h.elim
/-- a virtual call, its words by the way that it is linked: either way -/
def LnkV (M M' : MT) (idx : Nat) : Prop := (Cond.methodLink (m_y M).cls idx (m_y M') ∈ W0 ∧ Cond.instanceMethod (m_y M') ∈ W0 ∧ Cond.selects (m_y M').cls (m_y M') (m_y M') ∈ W0)
def LnkS (M M' : MT) (idx : Nat) : Prop := Cond.static (m_y M') ∈ W0 ∧ ((Cond.methodLink (m_y M).cls idx (m_y M') ∈ W0 ∧ (m_y M').cls = (m_y M).cls) ∨ ((m_y M).cls, idx, m_y M', "BilingualSetter") ∈ NM)
theorem runV {n idx ci : Nat} {g : GS} {σ : Sto} {p : Program} {l : Launch} {e : Env} {s : State} {m : MethodId} {args : Array Value} {below : List Frame} {meth : Method} {c : Code} {H : Heap} {locs : List Loc} {ls : Array Slot} {S0 as S : List AV} {Q0 : QT} {rc : vw_C}
    (hd : decode (m_c M) pc = .ok (.invokevirtual idx, 3)) (hM : MOK M') (hL : LnkV M M' idx) (hci : vwCl[ci]? = some rc) (hrc : rc.1 = (m_y M').cls) (hpn : (parseMethodDescriptor (m_y M').desc).map (fun d => d.parameters.length) = some n) (hrk : m_k M' < m_k M)
    (C : Cx X M p s m args meth c) (Hh : Hp X g σ s H locs) (hz : H.size ≤ s.heap.size + g.2.1) (hls : ls.size = m_n M) (hS0 : ∀ v ∈ S0, okv v) (hp : apop (n + 1) [] S0 = some (as, S)) (hO : isO g ci as) (h8 : S.length ≤ 8) (hfit : g.2.1 + m_mc M' ≤ m_mc M ∧ g.2.2 + m_ms M' ≤ m_ms M)
    (hMet : Met l (m_y M') (x_w M') (x_rm M') (va_Pc (as.map (x_c X)) (fun U => Rp X g.1 σ U ∧ ∀ v ∈ as, okv v)) (x_Qc X Q0) (m_mc M') (m_ms M') (x_A X)) :
    va_Run p l e (x_rm M) s m args below meth c H locs g.2.1 g.2.2 (m_mc M') (m_ms M') (F0 m pc ls (S0.map (x_c X))) (S.map (x_c X)) (x_Qc X Q0 (as.map (x_c X)).toArray) (x_A X) := by
  obtain ⟨bs, hb1, hb2, hb3⟩ := apop_at _ _ _ _ _ hp
  obtain ⟨i, fs, rest, has, hg, hadr⟩ := isO_at Hh hO
  have hokas : ∀ v ∈ as, okv v := fun v hv => hS0 v (by rw [hb2]; exact List.mem_append_left _ (by rw [hb1, List.append_nil] at hv; exact List.mem_reverse.mp hv))
  subst has
  have hbs : bs = rest.reverse ++ [.inr i] := by
    have := congrArg List.reverse hb1
    simp at this
    exact this.symm
  have hrl : rest.length = n := by
    rw [hbs] at hb3
    simp at hb3
    exact hb3
  obtain ⟨hpl, hcode, hini, hmh, hn17⟩ := hM
  have hts := C.2.2.2.2.2.1
  have hG : GoodIn W0 (wsV (m_y M).cls idx (m_y M').cls (m_y M') (x_w M')) := W0_good (fun w hw => by
    rcases List.mem_append.mp hw with h | h
    · simp only [List.mem_cons, List.not_mem_nil, or_false] at h
      rcases h with rfl | rfl | rfl | rfl
      · exact hL.1
      · exact hL.2.1
      · exact hL.2.2
      · exact hini
    · exact (x_w_good hcode w h).1)
  have cw := cwV (R := x_rm M) (own := (m_y M).cls) (index := idx) (C := (m_y M').cls) (y := m_y M') (bytes := m_c M') (maxL := m_n M') (ret := m_r M') (ws := x_w M') (ws' := W0) (rm := x_rm M') (mc := m_mc M') (ms := m_ms M') n hts hG rfl rfl rfl ⟨rfl, hmh.1, hmh.2, hpn⟩ ⟨hrk, by show 8 + (m_n M' + 11) + (41 * m_k M' + 4) ≤ (41 * m_k M + 4); omega⟩
  have hrun := va_runV (e := e) (below := below) (meth := meth) (As := rest.map (x_c X)) (rest := S.map (x_c X)) (H := H) (locs := locs) (cells := g.2.1) (slots := g.2.2) (b := xb X + i) (g := F0 m pc ls (S0.map (x_c X))) ⟨C.1, C.2.1, C.2.2.2.1, C.2.2.2.2.1, hts⟩ hMet cw ⟨x_blind (g := g), ?_, fun U hU hW => ?_⟩ rfl (by rw [List.length_map]; exact hrl) hls ?_ (lv_room (by rw [mapc_cat]; exact h8)) hd hfit
  · rw [List.map_cons, hadr]
    exact hrun
  · have := va_recv C.2.2.2.2.2.2.2.1.1 Hh.1.1 hci hg
    rw [hrc] at this
    exact this
  · have := x_pre C Hh hz hokas U hU hW
    exact ⟨by rw [List.map_cons, hadr], this⟩
  · show S0.map (x_c X) = _
    rw [hb2, hbs]
    simp [hadr]
theorem runS {n idx : Nat} {g : GS} {σ : Sto} {p : Program} {l : Launch} {e : Env} {s : State} {m : MethodId} {args : Array Value} {below : List Frame} {meth : Method} {c : Code} {H : Heap} {locs : List Loc} {ls : Array Slot} {S0 as S : List AV} {Q0 : QT}
    (hd : decode (m_c M) pc = .ok (.invokestatic idx, 3)) (hM : MOK M') (hL : LnkS M M' idx) (hpn : (parseMethodDescriptor (m_y M').desc).map (fun d => d.parameters.length) = some n) (hrk : m_k M' < m_k M)
    (C : Cx X M p s m args meth c) (Hh : Hp X g σ s H locs) (hz : H.size ≤ s.heap.size + g.2.1) (hls : ls.size = m_n M) (hS0 : ∀ v ∈ S0, okv v) (hp : apop n [] S0 = some (as, S)) (h8 : S.length ≤ 8) (hfit : g.2.1 + m_mc M' ≤ m_mc M ∧ g.2.2 + m_ms M' ≤ m_ms M)
    (hMet : Met l (m_y M') (x_w M') (x_rm M') (va_Pc (as.map (x_c X)) (fun U => Rp X g.1 σ U ∧ ∀ v ∈ as, okv v)) (x_Qc X Q0) (m_mc M') (m_ms M') (x_A X)) :
    va_Run p l e (x_rm M) s m args below meth c H locs g.2.1 g.2.2 (m_mc M') (m_ms M') (F0 m pc ls (S0.map (x_c X))) (S.map (x_c X)) (x_Qc X Q0 (as.map (x_c X)).toArray) (x_A X) := by
  obtain ⟨bs, hb1, hb2, hb3⟩ := apop_at _ _ _ _ _ hp
  rw [List.append_nil] at hb1
  have hokas : ∀ v ∈ as, okv v := fun v hv => hS0 v (by rw [hb2]; exact List.mem_append_left _ (by rw [hb1] at hv; exact List.mem_reverse.mp hv))
  obtain ⟨hpl, hcode, hini, hmh, hn17⟩ := hM
  have hts := C.2.2.2.2.2.1
  have hlen : (as.map (x_c X)).length = n := by rw [List.length_map, hb1, List.length_reverse]; exact hb3
  have hst : (F0 m pc ls (S0.map (x_c X))).stack = (as.map (x_c X)).reverse ++ S.map (x_c X) := by
    show S0.map (x_c X) = _
    rw [hb2, hb1]
    simp
  have hR : (x_rm M').frames + 1 ≤ (x_rm M).frames ∧ 8 + (m_n M' + 11) + (x_rm M').locals ≤ (x_rm M).locals := ⟨hrk, by show 8 + (m_n M' + 11) + (41 * m_k M' + 4) ≤ (41 * m_k M + 4); omega⟩
  have hpre : PreS s H (va_Pc (as.map (x_c X)) (fun U => Rp X g.1 σ U ∧ ∀ v ∈ as, okv v)) (as.map (x_c X)) := ⟨x_blind (g := g), fun U hU hW => ⟨rfl, x_pre C Hh hz hokas U hU hW⟩⟩
  obtain ⟨hstat, hL⟩ := hL
  rcases hL with ⟨hl1, hl2⟩ | hl
  · have hG : GoodIn W0 (wsS (m_y M).cls idx (m_y M') (x_w M')) := W0_good (fun w hw => by
      rcases List.mem_append.mp hw with h | h
      · simp only [List.mem_cons, List.not_mem_nil, or_false] at h
        rcases h with rfl | rfl | rfl
        · exact hl1
        · exact hstat
        · rw [← hl2]; exact hini
      · exact (x_w_good hcode w h).1)
    exact va_runS ⟨C.1, C.2.1, C.2.2.2.1, C.2.2.2.2.1, hts⟩ hMet (cwS n hts hG rfl rfl rfl ⟨hl2, hmh.1, hmh.2, hpn⟩ hR) hpre rfl hlen hls hst (lv_room (by rw [mapc_cat]; exact h8)) hd hfit
  · have hnw := C.2.2.2.2.2.2.2.1.2.1 _ hl
    exact va_runSN ⟨C.1, C.2.1, C.2.2.2.1, C.2.2.2.2.1, hts⟩ hMet ⟨va_cnB n hts (x_w_good hcode) rfl rfl rfl hnw (hts _ hini) ⟨hmh.1, hmh.2, hpn⟩ hR, hts _ hstat, trivial⟩ hpre rfl hlen hls hst (lv_room (by rw [mapc_cat]; exact h8)) hd hfit
theorem snd_cv {n idx ci : Nat} {rc : vw_C} (hd : decode (m_c M) pc = .ok (.invokevirtual idx, 3)) (hM : MOK M') (hL : LnkV M M' idx) (hci : vwCl[ci]? = some rc) (hrc : rc.1 = (m_y M').cls) (hpn : (parseMethodDescriptor (m_y M').desc).map (fun d => d.parameters.length) = some n) (hrk : m_k M' < m_k M) (h0 : m_mc M' = 0 ∧ m_ms M' = 0) (hn : nx = pc + 3) : Snd X M pc (a_cv X M M' ci (n + 1) nx) := by
  subst hn
  intro Q k L S0 g σ hk ha p l e s m args below meth c H locs ls C Hh hl hS0
  unfold a_cv at ha
  split at ha
  · rename_i as S hp
    obtain ⟨hO, h8, hfit, Q0, hQ0, hMet⟩ := ha
    refine W_size fun hz => ?_
    have hokS : ∀ v ∈ S, okv v := fun v hv => hS0 v (by obtain ⟨bs, -, hb2, -⟩ := apop_at _ _ _ _ _ hp; rw [hb2]; exact List.mem_append_right _ hv)
    refine x_back (M' := M') (runV hd hM hL hci hrc hpn hrk C Hh hz hl.1 hS0 hp hO h8 (by rw [h0.1, h0.2]; exact hfit) (hMet l)) Hh.2.1 (fun r G σ' H1 locs1 hq hok hR hVS => ?_)
    have hK := hQ0 _ _ _ hq
    unfold Kv at hK
    obtain ⟨rfl, hK⟩ := hK
    cases r with
    | none => exact hK.elim
    | some v =>
      rw [h0.1, h0.2]
      exact x_go (mc := 0) (ms := 0) (S := v :: S) (hk _ _ _ _ _ hK) C Hh hl (okc (hok v rfl) hokS) hR hVS rfl
  · exact ha.elim
theorem snd_cn {n idx ci : Nat} {rc : vw_C} (hd : decode (m_c M) pc = .ok (.invokevirtual idx, 3)) (hM : MOK M') (hL : LnkV M M' idx) (hci : vwCl[ci]? = some rc) (hrc : rc.1 = (m_y M').cls) (hpn : (parseMethodDescriptor (m_y M').desc).map (fun d => d.parameters.length) = some n) (hrk : m_k M' < m_k M) (h0 : m_mc M' = 0 ∧ m_ms M' = 0) (hn : nx = pc + 3) : Snd X M pc (a_cn X M M' ci (n + 1) nx) := by
  subst hn
  intro Q k L S0 g σ hk ha p l e s m args below meth c H locs ls C Hh hl hS0
  unfold a_cn at ha
  split at ha
  · rename_i as S hp
    obtain ⟨hO, h8, hfit, Q0, hQ0, hMet⟩ := ha
    refine W_size fun hz => ?_
    have hokS : ∀ v ∈ S, okv v := fun v hv => hS0 v (by obtain ⟨bs, -, hb2, -⟩ := apop_at _ _ _ _ _ hp; rw [hb2]; exact List.mem_append_right _ hv)
    refine x_back (M' := M') (runV hd hM hL hci hrc hpn hrk C Hh hz hl.1 hS0 hp hO h8 (by rw [h0.1, h0.2]; exact hfit) (hMet l)) Hh.2.1 (fun r G σ' H1 locs1 hq hok hR hVS => ?_)
    have hK := hQ0 _ _ _ hq
    unfold Kn at hK
    obtain ⟨rfl, hK⟩ := hK
    cases r with
    | some v => exact hK.elim
    | none =>
      rw [h0.1, h0.2]
      exact x_go (mc := 0) (ms := 0) (S := S) (hk _ _ _ _ _ hK) C Hh hl hokS hR hVS rfl
  · exact ha.elim
theorem snd_sv {n idx : Nat} (hd : decode (m_c M) pc = .ok (.invokestatic idx, 3)) (hM : MOK M') (hL : LnkS M M' idx) (hpn : (parseMethodDescriptor (m_y M').desc).map (fun d => d.parameters.length) = some n) (hrk : m_k M' < m_k M) (h0 : m_mc M' = 0 ∧ m_ms M' = 0) (hn : nx = pc + 3) : Snd X M pc (a_sv X M M' n nx) := by
  subst hn
  intro Q k L S0 g σ hk ha p l e s m args below meth c H locs ls C Hh hl hS0
  unfold a_sv at ha
  split at ha
  · rename_i as S hp
    obtain ⟨h8, hfit, Q0, hQ0, hMet⟩ := ha
    refine W_size fun hz => ?_
    have hokS : ∀ v ∈ S, okv v := fun v hv => hS0 v (by obtain ⟨bs, -, hb2, -⟩ := apop_at _ _ _ _ _ hp; rw [hb2]; exact List.mem_append_right _ hv)
    refine x_back (M' := M') (runS hd hM hL hpn hrk C Hh hz hl.1 hS0 hp h8 (by rw [h0.1, h0.2]; exact hfit) (hMet l)) Hh.2.1 (fun r G σ' H1 locs1 hq hok hR hVS => ?_)
    have hK := hQ0 _ _ _ hq
    unfold Kv at hK
    obtain ⟨rfl, hK⟩ := hK
    cases r with
    | none => exact hK.elim
    | some v =>
      rw [h0.1, h0.2]
      exact x_go (mc := 0) (ms := 0) (S := v :: S) (hk _ _ _ _ _ hK) C Hh hl (okc (hok v rfl) hokS) hR hVS rfl
  · exact ha.elim
theorem snd_sn {n idx : Nat} (hd : decode (m_c M) pc = .ok (.invokestatic idx, 3)) (hM : MOK M') (hL : LnkS M M' idx) (hpn : (parseMethodDescriptor (m_y M').desc).map (fun d => d.parameters.length) = some n) (hrk : m_k M' < m_k M) (h0 : m_mc M' = 0 ∧ m_ms M' = 0) (hn : nx = pc + 3) : Snd X M pc (a_sn X M M' n nx) := by
  subst hn
  intro Q k L S0 g σ hk ha p l e s m args below meth c H locs ls C Hh hl hS0
  unfold a_sn at ha
  split at ha
  · rename_i as S hp
    obtain ⟨h8, hfit, Q0, hQ0, hMet⟩ := ha
    refine W_size fun hz => ?_
    have hokS : ∀ v ∈ S, okv v := fun v hv => hS0 v (by obtain ⟨bs, -, hb2, -⟩ := apop_at _ _ _ _ _ hp; rw [hb2]; exact List.mem_append_right _ hv)
    refine x_back (M' := M') (runS hd hM hL hpn hrk C Hh hz hl.1 hS0 hp h8 (by rw [h0.1, h0.2]; exact hfit) (hMet l)) Hh.2.1 (fun r G σ' H1 locs1 hq hok hR hVS => ?_)
    have hK := hQ0 _ _ _ hq
    unfold Kn at hK
    obtain ⟨rfl, hK⟩ := hK
    cases r with
    | some v => exact hK.elim
    | none =>
      rw [h0.1, h0.2]
      exact x_go (mc := 0) (ms := 0) (S := S) (hk _ _ _ _ _ hK) C Hh hl hokS hR hVS rfl
  · exact ha.elim
theorem snd_max {idx : Nat} (hd : decode (m_c M) pc = .ok (.invokestatic idx, 3)) (hl1 : Cond.methodLink (m_y M).cls idx Lib.Math.max.name ∈ W0) (hl2 : Cond.static Lib.Math.max.name ∈ W0) (hl3 : Cond.initialized "java/lang/Math" ∈ W0) (hl4 : Cond.code Lib.Math.max.name Lib.Math.max.code 2 (some .int) ∈ W0) (hrk : 1 ≤ m_k M) (hn : nx = pc + 3) : Snd X M pc (a_max M nx) := by
  subst hn
  intro Q k L S g σ hk' ha p l e s m args below meth c H locs ls Cc Hh hl hS
  unfold a_max at ha
  split at ha
  · rename_i y x S
    obtain ⟨h8, hfit, ha⟩ := ha
    have hts := Cc.2.2.2.2.2.1
    refine va_mmax Cc.1 Cc.2.1 (Cc.2.2.2.1.trans hl.1.symm) Cc.2.2.2.2.1 (hts _ hl1) (hts _ hl2) (hts _ hl3) (hts _ hl4) hrk ?_ hfit.1 hfit.2 hd ?_
    · rw [mapc_cat]
      show _ ≤ (41 * m_k M + 4)
      omega
    · rw [i_max (okh (okt hS)) (okh hS)]
      refine hk' _ _ _ _ _ ha p l e s m args below meth c H locs ls Cc Hh hl (okc ?_ (okt (okt hS)))
      have h1 : InR y := okh hS
      have h2 : InR x := okh (okt hS)
      show InR (max x y)
      unfold InR at *
      omega
  · exact ha.elim
theorem snd_min {idx : Nat} (hd : decode (m_c M) pc = .ok (.invokestatic idx, 3)) (hl1 : Cond.methodLink (m_y M).cls idx Lib.Math.min.name ∈ W0) (hl2 : Cond.static Lib.Math.min.name ∈ W0) (hl3 : Cond.initialized "java/lang/Math" ∈ W0) (hl4 : Cond.code Lib.Math.min.name Lib.Math.min.code 2 (some .int) ∈ W0) (hrk : 1 ≤ m_k M) (hn : nx = pc + 3) : Snd X M pc (a_min M nx) := by
  subst hn
  intro Q k L S g σ hk' ha p l e s m args below meth c H locs ls Cc Hh hl hS
  unfold a_min at ha
  split at ha
  · rename_i y x S
    obtain ⟨h8, hfit, ha⟩ := ha
    have hts := Cc.2.2.2.2.2.1
    refine va_mmin Cc.1 Cc.2.1 (Cc.2.2.2.1.trans hl.1.symm) Cc.2.2.2.2.1 (hts _ hl1) (hts _ hl2) (hts _ hl3) (hts _ hl4) hrk ?_ hfit.1 hfit.2 hd ?_
    · rw [mapc_cat]
      show _ ≤ (41 * m_k M + 4)
      omega
    · rw [i_min (okh (okt hS)) (okh hS)]
      refine hk' _ _ _ _ _ ha p l e s m args below meth c H locs ls Cc Hh hl (okc ?_ (okt (okt hS)))
      have h1 : InR y := okh hS
      have h2 : InR x := okh (okt hS)
      show InR (min x y)
      unfold InR at *
      omega
  · exact ha.elim
theorem x_fin {g : GS} {σ : Sto} {s : State} {H : Heap} {locs : List Loc} {Q : QT} {r : Option AV} (Hh : Hp X g σ s H locs) (hQ : Q r g.1 σ) (hr : ∀ v, r = some v → okv v) (a : Array Value) (t : State) (ht : t.heap = H) : x_Qc X Q a s (.returned (r.map (x_c X))) t :=
  ⟨⟨r, g.1, σ, rfl, hQ, hr, by rw [ht]; exact Hh.1⟩, Hh.2.1.F ht⟩
theorem snd_iret (hd : decode (m_c M) pc = .ok (.ireturn, 1)) (hr : m_r M = some .int) : Snd X M pc (a_iret M) := by
  intro Q k L S g σ hk' ha p l e s m args below meth c H locs ls Cc Hh hl hS
  unfold a_iret at ha
  split at ha
  · rename_i v
    obtain ⟨hfit, hQ⟩ := ha
    refine W.widen hfit.1 hfit.2 ?_
    have hlk := Cc.2.2.2.2.2.2.1
    exact W.iret Cc.1 Cc.2.1 (Cc.2.2.1.trans hr) (fun t ht _ => x_fin Hh hQ (fun w hw => by cases hw; exact okh hS) _ t ht) Hh.2.1.2.2 hd hlk
  · exact ha.elim
theorem snd_zret (hd : decode (m_c M) pc = .ok (.ireturn, 1)) (hr : m_r M = some .boolean) : Snd X M pc (a_zret M) := by
  intro Q k L S g σ hk' ha p l e s m args below meth c H locs ls Cc Hh hl hS
  unfold a_zret at ha
  split at ha
  · rename_i v
    obtain ⟨hfit, hv, hQ⟩ := ha
    refine W.widen hfit.1 hfit.2 ?_
    have hlk := Cc.2.2.2.2.2.2.1
    exact W.zret Cc.1 Cc.2.1 (Cc.2.2.1.trans hr) (nar_bool hv).1 (fun t ht _ => x_fin Hh hQ (fun w hw => by cases hw; exact okh hS) _ t ht) Hh.2.1.2.2 hd hlk
  · exact ha.elim
theorem snd_aret {rt : FieldType} (hd : decode (m_c M) pc = .ok (.areturn, 1)) (hr : m_r M = some rt) (hrt : (∃ n, rt = .object n) ∨ ∃ t, rt = .array t) : Snd X M pc (a_aret M) := by
  intro Q k L S g σ hk' ha p l e s m args below meth c H locs ls Cc Hh hl hS
  unfold a_aret at ha
  split at ha
  · rename_i v
    obtain ⟨hfit, hQ⟩ := ha
    refine W.widen hfit.1 hfit.2 ?_
    have hlk := Cc.2.2.2.2.2.2.1
    exact W.aret Cc.1 Cc.2.1 (Cc.2.2.1.trans hr) hrt (Or.inr ⟨_, rfl⟩) (fun t ht _ => x_fin Hh hQ (fun w hw => by cases hw; exact okh hS) _ t ht) Hh.2.1.2.2 hd hlk
  · exact ha.elim
theorem snd_ret (hd : decode (m_c M) pc = .ok (.return_, 1)) (hr : m_r M = none) : Snd X M pc (a_ret M) := by
  intro Q k L S g σ hk' ha p l e s m args below meth c H locs ls Cc Hh hl hS
  unfold a_ret at ha
  split at ha
  · obtain ⟨hfit, hQ⟩ := ha
    refine W.widen hfit.1 hfit.2 ?_
    have hlk := Cc.2.2.2.2.2.2.1
    exact W.vret Cc.1 Cc.2.1 (Cc.2.2.1.trans hr) (fun t ht _ => x_fin Hh hQ (fun w hw => by cases hw) _ t ht) Hh.2.1.2.2 hd hlk
  · exact ha.elim
end SND3
/-- the locals at a method's start -/
def l0 (n : Nat) (as : List AV) : LT := as.map some ++ List.replicate (n - as.length) none
theorem lget_l0 : ∀ (as : List AV) (r : Nat) (k : Nat) (v : AV), lget (as.map some ++ List.replicate r none) k = some v → as[k]? = some v
  | [], r, k, v, h => by
    exfalso
    have : ∀ (r k : Nat), lget (List.replicate r (none : Option AV)) k = none := by
      intro r
      induction r with
      | zero => intro k; rfl
      | succ r ih => intro k; cases k with
        | zero => rfl
        | succ k => exact ih k
    simp [this] at h
  | a :: as, r, 0, v, h => by simpa [lget] using h
  | a :: as, r, k + 1, v, h => by
    have := lget_l0 as r k v h
    simpa using this
theorem lv_args1 (X : XT) : ∀ (as : List AV) (i k : Nat) (v : AV), as[k]? = some v → (i + k, x_c X v) ∈ lv_args i (as.map (x_c X))
  | [], _, _, _, h => by simp at h
  | a :: as, i, 0, v, h => by
    have : a = v := by simpa using h
    subst this
    simp [lv_args]
  | a :: as, i, k + 1, v, h => by
    have h1 := lv_args1 X as (i + 1) k v (by simpa using h)
    simp only [List.map_cons, lv_args, cat1]
    rw [show i + (k + 1) = i + 1 + k by omega]
    exact List.mem_cons_of_mem _ h1
theorem lg_sl_len (X : XT) : ∀ (as : List AV), (lg_sl (as.map (x_c X))).length = as.length
  | [] => rfl
  | a :: as => by
    have := lg_sl_len X as
    simp [lg_sl, cat1] at this ⊢
    omega
theorem MS_intro {X : XT} {M : MT} {args : List AV} {G : List Sh} {σ : Sto} {Q : QT} (hM : MOK M) (hn : args.length ≤ m_n M) (h : WPc X M Q 0 (l0 (m_n M) args) [] (G, 0, 0) σ) : MS X M args G σ Q := by
  refine ⟨Q, fun _ _ _ q => q, fun l => ?_⟩
  refine Met.ofW (cc := m_c M) (maxL := m_n M) (ret := m_r M) hM.1 rfl ?_
  intro p e s m a below meth c s₁ B hml hv
  obtain ⟨rfl, ⟨hK, hSt, hR, hz⟩, hok⟩ := hv
  have hts := atoms_spec (ws := x_w M) B.pre
  have hown : s.vm.findClass (m_y M).cls = some m.cls := findClass_of_methodNamed B.named
  have hl := lv_entry (args.map (x_c X)) (n := m_n M) (by rw [lg_sl_len]; exact hn)
  rw [lg_entry_eq]
  generalize (lg_sl (args.map (x_c X)) ++ List.replicate (m_n M - (lg_sl (args.map (x_c X))).length) Slot.unset).toArray = ls at hl ⊢
  refine h p l e s m _ below meth c s.heap [] ls ⟨B.exec, B.bytes, B.returns, hml, hown, fun w hw => hts w (List.mem_cons_of_mem _ hw), B.notSynchronized, hK, hSt, by omega, (name_of_methodNamed B.named B.method).1⟩ ⟨hR, va_S.rf, by show s.heap.size + 0 = _; rw [hz]; rfl⟩ ⟨hl.1, hl.2.1, fun k v hk => ?_⟩ (fun _ h => by cases h)
  have hkv := lget_l0 args _ k v hk
  refine ⟨hl.2.2 (k, x_c X v) ?_, hok v (List.mem_of_getElem? hkv)⟩
  have := lv_args1 X args 0 k v hkv
  rwa [Nat.zero_add] at this
end
section
/-! ===== words by their places in the tables ===== -/
theorem in_t1 {i : Nat} {w : Cond} (h : tables_1_1[i]? = some w) (hg : goodWord w = true) : w ∈ W0 := W0_in (List.mem_append_right _ (List.mem_append_left _ (List.mem_of_getElem? h))) hg
theorem in_t2 {i : Nat} {w : Cond} (h : tables_1_2[i]? = some w) (hg : goodWord w = true) : w ∈ W0 := W0_in (List.mem_append_right _ (List.mem_append_right _ (List.mem_append_left _ (List.mem_of_getElem? h)))) hg
theorem in_t3 {i : Nat} {w : Cond} (h : tables_1_3[i]? = some w) (hg : goodWord w = true) : w ∈ W0 := W0_in (List.mem_append_right _ (List.mem_append_right _ (List.mem_append_right _ (List.mem_of_getElem? h)))) hg
theorem in_s {i : Nat} {w : Cond} (h : (k2_sels lw_privs)[i]? = some w) (hg : goodWord w = true) : w ∈ W0 := W0_in (List.mem_append_left _ (List.mem_of_getElem? h)) hg
theorem inr_d {v : Int} (h : decide (-2147483648 ≤ v ∧ v ≤ 2147483647) = true) : InR v := of_decide_eq_true (p := -2147483648 ≤ v ∧ v ≤ 2147483647) h
theorem tok_nil {X : XT} {M : MT} : TabOK X M [] := fun _ h => by cases h
theorem tok_cons {X : XT} {M : MT} {k : Nat} {b : Bool} {a : Act} {t : Tab} (h : Snd X M k a) (ht : TabOK X M t) : TabOK X M ((k, b, a) :: t) := fun q hq => (List.mem_cons.mp hq).elim (fun e => e ▸ h) (ht q)
theorem wc_0_isAllowed : Cond.code yX0_isAllowed cX0_isAllowed 1 (some .boolean) ∈ W0 := in_t2 (i := 205) rfl rfl
theorem wn_0 : Cond.initialized RX0 ∈ W0 := in_t1 (i := 8) rfl rfl
theorem wc_0_search : Cond.code yX0_search cX0_search 3 none ∈ W0 := in_t2 (i := 179) rfl rfl
theorem wc_0_searchFrom : Cond.code yX0_searchFrom cX0_searchFrom 4 none ∈ W0 := in_t2 (i := 183) rfl rfl
theorem wc_0_considerGroup : Cond.code yX0_considerGroup cX0_considerGroup 5 none ∈ W0 := in_t2 (i := 196) rfl rfl
theorem wc_0_blankSquares : Cond.code yX0_blankSquares cX0_blankSquares 5 (some .int) ∈ W0 := in_t2 (i := 200) rfl rfl
theorem wc_1_notes : Cond.code yX1_notes cX1_notes 2 (some (.object "BilingualSetter$Notes")) ∈ W0 := in_t2 (i := 113) rfl rfl
theorem wn_1 : Cond.initialized RX1 ∈ W0 := in_t1 (i := 2) rfl rfl
theorem wc_1_hasPair : Cond.code yX1_hasPair cX1_hasPair 2 (some .boolean) ∈ W0 := in_t2 (i := 78) rfl rfl
theorem wc_1_hasLine : Cond.code yX1_hasLine cX1_hasLine 4 (some .boolean) ∈ W0 := in_t3 (i := 14) rfl rfl
theorem wc_1_placePair : Cond.code yX1_placePair cX1_placePair 5 none ∈ W0 := in_t2 (i := 230) rfl rfl
theorem wc_1_copyFrom : Cond.code yX1_copyFrom cX1_copyFrom 2 none ∈ W0 := in_t2 (i := 38) rfl rfl
theorem wc_2_turn : Cond.code yX2_turn cX2_turn 4 none ∈ W0 := in_t2 (i := 83) rfl rfl
theorem wn_2 : Cond.initialized RX2 ∈ W0 := in_t1 (i := 6) rfl rfl
theorem wc_2_copyFrom : Cond.code yX2_copyFrom cX2_copyFrom 2 none ∈ W0 := in_t2 (i := 104) rfl rfl
theorem wc_2_put : Cond.code yX2_put cX2_put 8 none ∈ W0 := in_t2 (i := 109) rfl rfl
theorem wc_2_noteRows : Cond.code yX2_noteRows cX2_noteRows 5 (some .int) ∈ W0 := in_t2 (i := 133) rfl rfl
theorem wc_2_mostCarried : Cond.code yX2_mostCarried cX2_mostCarried 3 (some .int) ∈ W0 := in_t2 (i := 128) rfl rfl
theorem wc_2_fits : Cond.code yX2_fits cX2_fits 5 (some .boolean) ∈ W0 := in_t2 (i := 124) rfl rfl
theorem wc_2_carriedFrom : Cond.code yX2_carriedFrom cX2_carriedFrom 6 (some .int) ∈ W0 := in_t2 (i := 169) rfl rfl
theorem wc_3_record : Cond.code yX3_record cX3_record 3 none ∈ W0 := in_t2 (i := 34) rfl rfl
theorem wn_3 : Cond.initialized RX3 ∈ W0 := in_t1 (i := 4) rfl rfl
theorem wc_3_restore : Cond.code yX3_restore cX3_restore 3 none ∈ W0 := in_t3 (i := 49) rfl rfl
theorem wc_4_before : Cond.code yX4_before cX4_before 3 (some .int) ∈ W0 := in_t2 (i := 187) rfl rfl
theorem wn_4 : Cond.initialized RX4 ∈ W0 := in_t1 (i := 3) rfl rfl
theorem wc_4_endBefore : Cond.code yX4_endBefore cX4_endBefore 6 (some .int) ∈ W0 := in_t2 (i := 117) rfl rfl
theorem wc_4_place : Cond.code yX4_place cX4_place 6 (some .int) ∈ W0 := in_t3 (i := 20) rfl rfl
theorem wc_4_drop : Cond.code yX4_drop cX4_drop 3 none ∈ W0 := in_t3 (i := 29) rfl rfl
theorem wc_4_movePairs : Cond.code yX4_movePairs cX4_movePairs 4 none ∈ W0 := in_t2 (i := 237) rfl rfl
theorem wc_4_copyFrom : Cond.code yX4_copyFrom cX4_copyFrom 2 none ∈ W0 := in_t2 (i := 51) rfl rfl
theorem wc_5_takePair : Cond.code yX5_takePair cX5_takePair 4 none ∈ W0 := in_t2 (i := 74) rfl rfl
theorem wn_5 : Cond.initialized RX5 ∈ W0 := in_t1 (i := 7) rfl rfl
theorem wc_5_takeStart : Cond.code yX5_takeStart cX5_takeStart 4 none ∈ W0 := in_t2 (i := 156) rfl rfl
theorem wc_5_dropStart : Cond.code yX5_dropStart cX5_dropStart 3 none ∈ W0 := in_t2 (i := 161) rfl rfl
theorem wc_5_isBegun : Cond.code yX5_isBegun cX5_isBegun 1 (some .boolean) ∈ W0 := in_t2 (i := 96) rfl rfl
theorem wc_6_arrange : Cond.code yX6_arrange cX6_arrange 6 none ∈ W0 := in_t2 (i := 70) rfl rfl
theorem wn_6 : Cond.initialized RX6 ∈ W0 := in_t1 (i := 5) rfl rfl
theorem wc_6_isCarried : Cond.code yX6_isCarried cX6_isCarried 1 (some .boolean) ∈ W0 := in_t2 (i := 88) rfl rfl
theorem wc_6_putNext : Cond.code yX6_putNext cX6_putNext 3 (some .boolean) ∈ W0 := in_t2 (i := 92) rfl rfl
theorem wc_6_putRest : Cond.code yX6_putRest cX6_putRest 2 none ∈ W0 := in_t2 (i := 137) rfl rfl
theorem wc_6_fits : Cond.code yX6_fits cX6_fits 3 (some .boolean) ∈ W0 := in_t2 (i := 100) rfl rfl
theorem wc_6_findStart : Cond.code yX6_findStart cX6_findStart 8 (some .boolean) ∈ W0 := in_t2 (i := 151) rfl rfl
theorem wc_6_addSegment : Cond.code yX6_addSegment cX6_addSegment 5 none ∈ W0 := in_t2 (i := 141) rfl rfl
theorem wc_6_endSpread : Cond.code yX6_endSpread cX6_endSpread 6 none ∈ W0 := in_t2 (i := 165) rfl rfl
theorem wc_6_has : Cond.code yX6_has cX6_has 2 (some .boolean) ∈ W0 := in_t3 (i := 60) rfl rfl
theorem wc_6_segmentsOf : Cond.code yX6_segmentsOf cX6_segmentsOf 2 (some .int) ∈ W0 := in_t3 (i := 73) rfl rfl
theorem wc_6_segmentWith : Cond.code yX6_segmentWith cX6_segmentWith 5 (some .int) ∈ W0 := in_t3 (i := 113) rfl rfl
theorem wc_6_contains : Cond.code yX6_contains cX6_contains 6 (some .boolean) ∈ W0 := in_t3 (i := 117) rfl rfl
theorem wc_6_spreadWith : Cond.code yX6_spreadWith cX6_spreadWith 3 (some .int) ∈ W0 := in_t3 (i := 121) rfl rfl
theorem wc_6_rowIn : Cond.code yX6_rowIn cX6_rowIn 4 (some .int) ∈ W0 := in_t3 (i := 129) rfl rfl
theorem wc_6_textAt : Cond.code yX6_textAt cX6_textAt 7 (some .int) ∈ W0 := in_t3 (i := 92) rfl rfl
theorem wc_6_noteAt : Cond.code yX6_noteAt cX6_noteAt 9 (some .int) ∈ W0 := in_t3 (i := 96) rfl rfl
theorem wc_6_noteLine : Cond.code yX6_noteLine cX6_noteLine 9 (some .int) ∈ W0 := in_t3 (i := 101) rfl rfl
theorem wc_6_blankSquares : Cond.code yX6_blankSquares cX6_blankSquares 3 (some .int) ∈ W0 := in_t3 (i := 81) rfl rfl
theorem wc_7_insert : Cond.code yX7_insert cX7_insert 4 (some .int) ∈ W0 := in_t2 (i := 226) rfl rfl
theorem wn_7 : Cond.initialized RX7 ∈ W0 := in_t1 (i := 1) rfl rfl
theorem wc_7_setFlag : Cond.code yX7_setFlag cX7_setFlag 4 (some .int) ∈ W0 := in_t3 (i := 36) rfl rfl
theorem wc_7_addNote : Cond.code yX7_addNote cX7_addNote 5 (some .int) ∈ W0 := in_t3 (i := 10) rfl rfl
theorem wc_7_removeNote : Cond.code yX7_removeNote cX7_removeNote 4 (some .int) ∈ W0 := in_t3 (i := 25) rfl rfl
theorem wc_7_set : Cond.code yX7_set cX7_set 4 (some .int) ∈ W0 := in_t2 (i := 19) rfl rfl
theorem wc_7_undo : Cond.code yX7_undo cX7_undo 1 (some .int) ∈ W0 := in_t3 (i := 45) rfl rfl
theorem wc_7_pairCount : Cond.code yX7_pairCount cX7_pairCount 1 (some .int) ∈ W0 := in_t2 (i := 62) rfl rfl
theorem wc_7_pairInfo : Cond.code yX7_pairInfo cX7_pairInfo 3 (some .int) ∈ W0 := in_t3 (i := 133) rfl rfl
theorem wc_7_noteCount : Cond.code yX7_noteCount cX7_noteCount 2 (some .int) ∈ W0 := in_t3 (i := 2) rfl rfl
theorem wc_7_noteInfo : Cond.code yX7_noteInfo cX7_noteInfo 5 (some .int) ∈ W0 := in_t3 (i := 105) rfl rfl
theorem wc_7_spreadCount : Cond.code yX7_spreadCount cX7_spreadCount 1 (some .int) ∈ W0 := in_t2 (i := 66) rfl rfl
theorem wc_7_segmentCount : Cond.code yX7_segmentCount cX7_segmentCount 2 (some .int) ∈ W0 := in_t3 (i := 69) rfl rfl
theorem wc_7_pageInfo : Cond.code yX7_pageInfo cX7_pageInfo 4 (some .int) ∈ W0 := in_t3 (i := 56) rfl rfl
theorem wc_7_isOverfull : Cond.code yX7_isOverfull cX7_isOverfull 2 (some .int) ∈ W0 := in_t3 (i := 65) rfl rfl
theorem wc_7_spreadOf : Cond.code yX7_spreadOf cX7_spreadOf 4 (some .int) ∈ W0 := in_t3 (i := 109) rfl rfl
theorem wc_7_rowOf : Cond.code yX7_rowOf cX7_rowOf 4 (some .int) ∈ W0 := in_t3 (i := 125) rfl rfl
theorem wc_7_shown : Cond.code yX7_shown cX7_shown 5 (some .int) ∈ W0 := in_t3 (i := 88) rfl rfl
theorem wc_7_cost : Cond.code yX7_cost cX7_cost 1 (some .int) ∈ W0 := in_t3 (i := 77) rfl rfl
theorem wc_7_bestCost : Cond.code yX7_bestCost cX7_bestCost 1 (some .int) ∈ W0 := in_t2 (i := 175) rfl rfl
theorem wc_7_bestBreak : Cond.code yX7_bestBreak cX7_bestBreak 2 (some .int) ∈ W0 := in_t2 (i := 210) rfl rfl
theorem wc_7_leastHeight : Cond.code yX7_leastHeight cX7_leastHeight 3 (some .int) ∈ W0 := in_t2 (i := 214) rfl rfl
theorem wc_7_changePair : Cond.code yX7_changePair cX7_changePair 5 (some .int) ∈ W0 := in_t3 (i := 41) rfl rfl
theorem wc_7_beginChange : Cond.code yX7_beginChange cX7_beginChange 1 none ∈ W0 := in_t2 (i := 30) rfl rfl
theorem wc_7_forgetResults : Cond.code yX7_forgetResults cX7_forgetResults 1 none ∈ W0 := in_t2 (i := 58) rfl rfl
theorem wc_7_isIn : Cond.code yX7_isIn cX7_isIn 3 (some .boolean) ∈ W0 := in_t2 (i := 22) rfl rfl
theorem wc_7_isSide : Cond.code yX7_isSide cX7_isSide 1 (some .boolean) ∈ W0 := in_t3 (i := 5) rfl rfl
theorem wc_7_openPlace : Cond.code yX7_openPlace cX7_openPlace 3 none ∈ W0 := in_t2 (i := 233) rfl rfl
theorem wc_7_closePlace : Cond.code yX7_closePlace cX7_closePlace 3 none ∈ W0 := in_t3 (i := 32) rfl rfl
theorem wc_7_copyTable : Cond.code yX7_copyTable cX7_copyTable 3 none ∈ W0 := in_t2 (i := 41) rfl rfl
theorem wf0_15 : Cond.fieldLink RX0 15 "BilingualSetter$Division" "costs" "[I" ∈ W0 := in_t1 (i := 223) rfl rfl
theorem wf1_23 : Cond.fieldLink RX1 23 "BilingualSetter$Edition" "right" "LBilingualSetter$Notes;" ∈ W0 := in_t1 (i := 67) rfl rfl
theorem wf1_19 : Cond.fieldLink RX1 19 "BilingualSetter$Edition" "left" "LBilingualSetter$Notes;" ∈ W0 := in_t1 (i := 64) rfl rfl
theorem wf2_9 : Cond.fieldLink RX2 9 "BilingualSetter$Facing" "text" "[I" ∈ W0 := in_t1 (i := 119) rfl rfl
theorem wf2_15 : Cond.fieldLink RX2 15 "BilingualSetter$Facing" "next" "[I" ∈ W0 := in_t1 (i := 122) rfl rfl
theorem wf2_18 : Cond.fieldLink RX2 18 "BilingualSetter$Facing" "carriedTo" "[I" ∈ W0 := in_t1 (i := 124) rfl rfl
theorem wf2_21 : Cond.fieldLink RX2 21 "BilingualSetter$Facing" "firstNote" "[I" ∈ W0 := in_t1 (i := 126) rfl rfl
theorem wf2_24 : Cond.fieldLink RX2 24 "BilingualSetter$Facing" "notes" "[I" ∈ W0 := in_t1 (i := 128) rfl rfl
theorem wf2_27 : Cond.fieldLink RX2 27 "BilingualSetter$Facing" "noteLines" "[I" ∈ W0 := in_t1 (i := 130) rfl rfl
theorem wf2_30 : Cond.fieldLink RX2 30 "BilingualSetter$Facing" "lastLength" "[I" ∈ W0 := in_t1 (i := 131) rfl rfl
theorem wm2_33 : Cond.methodLink RX2 33 arraycopyName ∈ W0 := in_t2 (i := 105) rfl rfl
theorem wnat : Cond.native arraycopyName ∈ W0 := in_t2 (i := 47) rfl rfl
theorem ws_acopy : Cond.static arraycopyName ∈ W0 := in_t2 (i := 46) rfl rfl
theorem wn_Sys : Cond.initialized "java/lang/System" ∈ W0 := in_t1 (i := 10) rfl rfl
theorem wm2_75 : Cond.methodLink RX2 75 Lib.Math.min.name ∈ W0 := in_t2 (i := 129) rfl rfl
theorem ws_min : Cond.static Lib.Math.min.name ∈ W0 := in_t2 (i := 43) rfl rfl
theorem wn_Math : Cond.initialized "java/lang/Math" ∈ W0 := in_t1 (i := 9) rfl rfl
theorem wc_min : Cond.code Lib.Math.min.name Lib.Math.min.code 2 (some .int) ∈ W0 := in_t2 (i := 44) rfl rfl
theorem wm2_69 : Cond.methodLink RX2 69 Lib.Math.max.name ∈ W0 := in_t2 (i := 118) rfl rfl
theorem ws_max : Cond.static Lib.Math.max.name ∈ W0 := in_t2 (i := 119) rfl rfl
theorem wc_max : Cond.code Lib.Math.max.name Lib.Math.max.code 2 (some .int) ∈ W0 := in_t2 (i := 120) rfl rfl
theorem wf4_11 : Cond.fieldLink RX4 11 "BilingualSetter$Notes" "table" "[[I" ∈ W0 := in_t1 (i := 37) rfl rfl
theorem wf4_20 : Cond.fieldLink RX4 20 "BilingualSetter$Notes" "count" "I" ∈ W0 := in_t1 (i := 34) rfl rfl
theorem wf5_18 : Cond.fieldLink RX5 18 "BilingualSetter$Part" "pair" "I" ∈ W0 := in_t1 (i := 153) rfl rfl
theorem wf5_9 : Cond.fieldLink RX5 9 "BilingualSetter$Part" "first" "[I" ∈ W0 := in_t1 (i := 156) rfl rfl
theorem wm5_32 : Cond.methodLink RX5 32 arraycopyName ∈ W0 := in_t2 (i := 157) rfl rfl
theorem wf5_15 : Cond.fieldLink RX5 15 "BilingualSetter$Part" "lines" "[I" ∈ W0 := in_t1 (i := 159) rfl rfl
theorem wf6_33 : Cond.fieldLink RX6 33 "BilingualSetter$Spreads" "now" "LBilingualSetter$Facing;" ∈ W0 := in_t1 (i := 180) rfl rfl
theorem wf6_85 : Cond.fieldLink RX6 85 "BilingualSetter$Facing" "carriedTo" "[I" ∈ W0 := in_t1 (i := 125) rfl rfl
theorem wf6_15 : Cond.fieldLink RX6 15 "BilingualSetter$Spreads" "firstSegment" "[I" ∈ W0 := in_t1 (i := 173) rfl rfl
theorem wf6_50 : Cond.fieldLink RX6 50 "BilingualSetter$Spreads" "count" "I" ∈ W0 := in_t1 (i := 171) rfl rfl
theorem wf6_24 : Cond.fieldLink RX6 24 "BilingualSetter$Spreads" "segments" "[[I" ∈ W0 := in_t1 (i := 176) rfl rfl
theorem wf6_27 : Cond.fieldLink RX6 27 "BilingualSetter$Spreads" "pages" "[[I" ∈ W0 := in_t1 (i := 177) rfl rfl
theorem wf6_193 : Cond.fieldLink RX6 193 "BilingualSetter$Notes" "count" "I" ∈ W0 := in_t1 (i := 36) rfl rfl
theorem wf6_188 : Cond.fieldLink RX6 188 "BilingualSetter$Notes" "table" "[[I" ∈ W0 := in_t1 (i := 40) rfl rfl
theorem wf7_10 : Cond.fieldLink RX7 10 "BilingualSetter" "edition" "LBilingualSetter$Edition;" ∈ W0 := in_t2 (i := 3) rfl rfl
theorem wf7_37 : Cond.fieldLink RX7 37 "BilingualSetter$Edition" "count" "I" ∈ W0 := in_t1 (i := 56) rfl rfl
theorem wf7_26 : Cond.fieldLink RX7 26 "BilingualSetter" "spreads" "LBilingualSetter$Spreads;" ∈ W0 := in_t2 (i := 5) rfl rfl
theorem wf7_188 : Cond.fieldLink RX7 188 "BilingualSetter$Spreads" "height" "I" ∈ W0 := in_t1 (i := 170) rfl rfl
theorem wf7_33 : Cond.fieldLink RX7 33 "BilingualSetter" "division" "LBilingualSetter$Division;" ∈ W0 := in_t2 (i := 6) rfl rfl
theorem wf7_191 : Cond.fieldLink RX7 191 "BilingualSetter$Division" "isSearched" "Z" ∈ W0 := in_t1 (i := 218) rfl rfl
theorem wm7_201 : Cond.methodLink RX7 201 Lib.Math.min.name ∈ W0 := in_t2 (i := 42) rfl rfl
theorem wm7_195 : Cond.methodLink RX7 195 arraycopyName ∈ W0 := in_t2 (i := 45) rfl rfl
theorem wf0_84 : Cond.fieldLink RX0 84 "BilingualSetter$Edition" "settings" "[I" ∈ W0 := in_t1 (i := 71) rfl rfl
theorem wf0_24 : Cond.fieldLink RX0 24 "BilingualSetter$Division" "group" "LBilingualSetter$Facing;" ∈ W0 := in_t1 (i := 226) rfl rfl
theorem wf0_99 : Cond.fieldLink RX0 99 "BilingualSetter$Facing" "text" "[I" ∈ W0 := in_t1 (i := 120) rfl rfl
theorem wm0_102 : Cond.methodLink RX0 102 yX2_noteRows ∈ W0 := in_t2 (i := 201) rfl rfl
theorem wi_2_noteRows : Cond.instanceMethod yX2_noteRows ∈ W0 := in_t2 (i := 131) rfl rfl
theorem wl_2_noteRows : Cond.selects RX2 yX2_noteRows yX2_noteRows ∈ W0 := in_t2 (i := 132) rfl rfl
theorem wf1_38 : Cond.fieldLink RX1 38 "BilingualSetter$Edition" "count" "I" ∈ W0 := in_t1 (i := 57) rfl rfl
theorem ws_7_isIn : Cond.static yX7_isIn ∈ W0 := in_t2 (i := 21) rfl rfl
theorem wf2_66 : Cond.fieldLink RX2 66 "BilingualSetter$Edition" "settings" "[I" ∈ W0 := in_t1 (i := 72) rfl rfl
theorem wf2_39 : Cond.fieldLink RX2 39 "BilingualSetter$Part" "lines" "[I" ∈ W0 := in_t1 (i := 160) rfl rfl
theorem wm2_44 : Cond.methodLink RX2 44 yX1_notes ∈ W0 := in_t2 (i := 110) rfl rfl
theorem wi_1_notes : Cond.instanceMethod yX1_notes ∈ W0 := in_t2 (i := 111) rfl rfl
theorem wl_1_notes : Cond.selects RX1 yX1_notes yX1_notes ∈ W0 := in_t2 (i := 112) rfl rfl
theorem wf2_49 : Cond.fieldLink RX2 49 "BilingualSetter$Part" "pair" "I" ∈ W0 := in_t1 (i := 155) rfl rfl
theorem wf2_53 : Cond.fieldLink RX2 53 "BilingualSetter$Part" "first" "[I" ∈ W0 := in_t1 (i := 157) rfl rfl
theorem wm2_56 : Cond.methodLink RX2 56 yX4_endBefore ∈ W0 := in_t2 (i := 114) rfl rfl
theorem wi_4_endBefore : Cond.instanceMethod yX4_endBefore ∈ W0 := in_t2 (i := 115) rfl rfl
theorem wl_4_endBefore : Cond.selects RX4 yX4_endBefore yX4_endBefore ∈ W0 := in_t2 (i := 116) rfl rfl
theorem wf2_62 : Cond.fieldLink RX2 62 "BilingualSetter$Notes" "table" "[[I" ∈ W0 := in_t1 (i := 38) rfl rfl
theorem wm2_78 : Cond.methodLink RX2 78 yX2_mostCarried ∈ W0 := in_t2 (i := 125) rfl rfl
theorem wi_2_mostCarried : Cond.instanceMethod yX2_mostCarried ∈ W0 := in_t2 (i := 126) rfl rfl
theorem wl_2_mostCarried : Cond.selects RX2 yX2_mostCarried yX2_mostCarried ∈ W0 := in_t2 (i := 127) rfl rfl
theorem wm2_81 : Cond.methodLink RX2 81 yX2_noteRows ∈ W0 := in_t2 (i := 130) rfl rfl
theorem wm4_16 : Cond.methodLink RX4 16 yX4_endBefore ∈ W0 := in_t2 (i := 188) rfl rfl
theorem ws_7_copyTable : Cond.static yX7_copyTable ∈ W0 := in_t2 (i := 40) rfl rfl
theorem wf6_11 : Cond.fieldLink RX6 11 "BilingualSetter$Spreads" "height" "I" ∈ W0 := in_t1 (i := 169) rfl rfl
theorem wm6_165 : Cond.methodLink RX6 165 Lib.Math.max.name ∈ W0 := in_t2 (i := 171) rfl rfl
theorem wf6_120 : Cond.fieldLink RX6 120 "BilingualSetter$Edition" "settings" "[I" ∈ W0 := in_t1 (i := 73) rfl rfl
theorem wm6_181 : Cond.methodLink RX6 181 yX1_notes ∈ W0 := in_t3 (i := 97) rfl rfl
theorem wm6_184 : Cond.methodLink RX6 184 yX6_noteLine ∈ W0 := in_t3 (i := 98) rfl rfl
theorem wi_6_noteLine : Cond.instanceMethod yX6_noteLine ∈ W0 := in_t3 (i := 100) rfl rfl
theorem wl_6_noteLine : Cond.selects RX6 yX6_noteLine yX6_noteLine ∈ W0 := in_s (i := 13) rfl rfl
theorem wm7_41 : Cond.methodLink RX7 41 yX7_isIn ∈ W0 := in_t2 (i := 20) rfl rfl
theorem wf0_39 : Cond.fieldLink RX0 39 "BilingualSetter$Edition" "count" "I" ∈ W0 := in_t1 (i := 58) rfl rfl
theorem wf0_18 : Cond.fieldLink RX0 18 "BilingualSetter$Division" "sizes" "[I" ∈ W0 := in_t1 (i := 225) rfl rfl
theorem wm0_95 : Cond.methodLink RX0 95 yX0_blankSquares ∈ W0 := in_t2 (i := 197) rfl rfl
theorem wi_0_blankSquares : Cond.instanceMethod yX0_blankSquares ∈ W0 := in_t2 (i := 199) rfl rfl
theorem wl_0_blankSquares : Cond.selects RX0 yX0_blankSquares yX0_blankSquares ∈ W0 := in_s (i := 11) rfl rfl
theorem wm1_46 : Cond.methodLink RX1 46 yX1_hasPair ∈ W0 := in_t3 (i := 15) rfl rfl
theorem wi_1_hasPair : Cond.instanceMethod yX1_hasPair ∈ W0 := in_t2 (i := 76) rfl rfl
theorem wl_1_hasPair : Cond.selects RX1 yX1_hasPair yX1_hasPair ∈ W0 := in_t2 (i := 77) rfl rfl
theorem ws_7_isSide : Cond.static yX7_isSide ∈ W0 := in_t3 (i := 4) rfl rfl
theorem wf1_11 : Cond.fieldLink RX1 11 "BilingualSetter$Edition" "pairs" "[[I" ∈ W0 := in_t1 (i := 59) rfl rfl
theorem wm1_72 : Cond.methodLink RX1 72 yX4_copyFrom ∈ W0 := in_t2 (i := 48) rfl rfl
theorem wi_4_copyFrom : Cond.instanceMethod yX4_copyFrom ∈ W0 := in_t2 (i := 49) rfl rfl
theorem wl_4_copyFrom : Cond.selects RX4 yX4_copyFrom yX4_copyFrom ∈ W0 := in_t2 (i := 50) rfl rfl
theorem wf1_35 : Cond.fieldLink RX1 35 "BilingualSetter$Edition" "settings" "[I" ∈ W0 := in_t1 (i := 70) rfl rfl
theorem wm1_76 : Cond.methodLink RX1 76 arraycopyName ∈ W0 := in_t2 (i := 53) rfl rfl
theorem wm4_24 : Cond.methodLink RX4 24 yX4_before ∈ W0 := in_t2 (i := 238) rfl rfl
theorem wi_4_before : Cond.instanceMethod yX4_before ∈ W0 := in_t2 (i := 185) rfl rfl
theorem wl_4_before : Cond.selects RX4 yX4_before yX4_before ∈ W0 := in_t2 (i := 186) rfl rfl
theorem ws_7_openPlace : Cond.static yX7_openPlace ∈ W0 := in_t2 (i := 232) rfl rfl
theorem ws_7_closePlace : Cond.static yX7_closePlace ∈ W0 := in_t3 (i := 31) rfl rfl
theorem wm5_22 : Cond.methodLink RX5 22 yX1_hasPair ∈ W0 := in_t2 (i := 75) rfl rfl
theorem wf5_28 : Cond.fieldLink RX5 28 "BilingualSetter$Edition" "pairs" "[[I" ∈ W0 := in_t1 (i := 60) rfl rfl
theorem wf6_37 : Cond.fieldLink RX6 37 "BilingualSetter$Spreads" "trial" "LBilingualSetter$Facing;" ∈ W0 := in_t1 (i := 181) rfl rfl
theorem wm6_112 : Cond.methodLink RX6 112 yX2_copyFrom ∈ W0 := in_t2 (i := 101) rfl rfl
theorem wi_2_copyFrom : Cond.instanceMethod yX2_copyFrom ∈ W0 := in_t2 (i := 102) rfl rfl
theorem wl_2_copyFrom : Cond.selects RX2 yX2_copyFrom yX2_copyFrom ∈ W0 := in_t2 (i := 103) rfl rfl
theorem wm6_116 : Cond.methodLink RX6 116 yX2_put ∈ W0 := in_t2 (i := 106) rfl rfl
theorem wi_2_put : Cond.instanceMethod yX2_put ∈ W0 := in_t2 (i := 107) rfl rfl
theorem wl_2_put : Cond.selects RX2 yX2_put yX2_put ∈ W0 := in_t2 (i := 108) rfl rfl
theorem wm6_123 : Cond.methodLink RX6 123 yX2_fits ∈ W0 := in_t2 (i := 121) rfl rfl
theorem wi_2_fits : Cond.instanceMethod yX2_fits ∈ W0 := in_t2 (i := 122) rfl rfl
theorem wl_2_fits : Cond.selects RX2 yX2_fits yX2_fits ∈ W0 := in_t2 (i := 123) rfl rfl
theorem wf6_53 : Cond.fieldLink RX6 53 "BilingualSetter$Spreads" "segmentsMade" "I" ∈ W0 := in_t1 (i := 179) rfl rfl
theorem wf6_64 : Cond.fieldLink RX6 64 "BilingualSetter$Part" "pair" "I" ∈ W0 := in_t1 (i := 154) rfl rfl
theorem wf6_145 : Cond.fieldLink RX6 145 "BilingualSetter$Part" "first" "[I" ∈ W0 := in_t1 (i := 158) rfl rfl
theorem wf6_126 : Cond.fieldLink RX6 126 "BilingualSetter$Part" "lines" "[I" ∈ W0 := in_t1 (i := 161) rfl rfl
theorem wf6_129 : Cond.fieldLink RX6 129 "BilingualSetter$Facing" "next" "[I" ∈ W0 := in_t1 (i := 123) rfl rfl
theorem wm6_154 : Cond.methodLink RX6 154 yX2_carriedFrom ∈ W0 := in_t2 (i := 166) rfl rfl
theorem wi_2_carriedFrom : Cond.instanceMethod yX2_carriedFrom ∈ W0 := in_t2 (i := 167) rfl rfl
theorem wl_2_carriedFrom : Cond.selects RX2 yX2_carriedFrom yX2_carriedFrom ∈ W0 := in_t2 (i := 168) rfl rfl
theorem wm6_158 : Cond.methodLink RX6 158 yX2_noteRows ∈ W0 := in_t2 (i := 170) rfl rfl
theorem wf6_162 : Cond.fieldLink RX6 162 "BilingualSetter$Facing" "text" "[I" ∈ W0 := in_t1 (i := 121) rfl rfl
theorem wf6_168 : Cond.fieldLink RX6 168 "BilingualSetter$Facing" "notes" "[I" ∈ W0 := in_t1 (i := 129) rfl rfl
theorem wf6_171 : Cond.fieldLink RX6 171 "BilingualSetter$Facing" "firstNote" "[I" ∈ W0 := in_t1 (i := 127) rfl rfl
theorem wm6_60 : Cond.methodLink RX6 60 yX2_turn ∈ W0 := in_t2 (i := 80) rfl rfl
theorem wi_2_turn : Cond.instanceMethod yX2_turn ∈ W0 := in_t2 (i := 81) rfl rfl
theorem wl_2_turn : Cond.selects RX2 yX2_turn yX2_turn ∈ W0 := in_t2 (i := 82) rfl rfl
theorem wm6_177 : Cond.methodLink RX6 177 yX6_contains ∈ W0 := in_t3 (i := 114) rfl rfl
theorem wi_6_contains : Cond.instanceMethod yX6_contains ∈ W0 := in_t3 (i := 116) rfl rfl
theorem wl_6_contains : Cond.selects RX6 yX6_contains yX6_contains ∈ W0 := in_s (i := 14) rfl rfl
theorem wm7_52 : Cond.methodLink RX7 52 yX1_hasPair ∈ W0 := in_t3 (i := 37) rfl rfl
theorem wf7_112 : Cond.fieldLink RX7 112 "BilingualSetter$Edition" "pairs" "[[I" ∈ W0 := in_t1 (i := 63) rfl rfl
theorem wm7_60 : Cond.methodLink RX7 60 yX7_isSide ∈ W0 := in_t3 (i := 3) rfl rfl
theorem wm7_63 : Cond.methodLink RX7 63 yX1_notes ∈ W0 := in_t3 (i := 6) rfl rfl
theorem wf7_84 : Cond.fieldLink RX7 84 "BilingualSetter$Notes" "count" "I" ∈ W0 := in_t1 (i := 35) rfl rfl
theorem wf7_116 : Cond.fieldLink RX7 116 "BilingualSetter$Notes" "table" "[[I" ∈ W0 := in_t1 (i := 39) rfl rfl
theorem wf0_56 : Cond.fieldLink RX0 56 "BilingualSetter$Edition" "left" "LBilingualSetter$Notes;" ∈ W0 := in_t1 (i := 65) rfl rfl
theorem wm0_60 : Cond.methodLink RX0 60 yX4_before ∈ W0 := in_t2 (i := 184) rfl rfl
theorem wm0_66 : Cond.methodLink RX0 66 yX2_turn ∈ W0 := in_t2 (i := 189) rfl rfl
theorem wf0_70 : Cond.fieldLink RX0 70 "BilingualSetter$Edition" "right" "LBilingualSetter$Notes;" ∈ W0 := in_t1 (i := 68) rfl rfl
theorem wf0_31 : Cond.fieldLink RX0 31 "BilingualSetter$Division" "whole" "LBilingualSetter$Part;" ∈ W0 := in_t1 (i := 227) rfl rfl
theorem wm0_77 : Cond.methodLink RX0 77 yX5_takePair ∈ W0 := in_t2 (i := 190) rfl rfl
theorem wi_5_takePair : Cond.instanceMethod yX5_takePair ∈ W0 := in_t2 (i := 72) rfl rfl
theorem wl_5_takePair : Cond.selects RX5 yX5_takePair yX5_takePair ∈ W0 := in_t2 (i := 73) rfl rfl
theorem wm0_80 : Cond.methodLink RX0 80 yX2_put ∈ W0 := in_t2 (i := 191) rfl rfl
theorem wm0_87 : Cond.methodLink RX0 87 yX2_fits ∈ W0 := in_t2 (i := 192) rfl rfl
theorem wm0_91 : Cond.methodLink RX0 91 yX0_considerGroup ∈ W0 := in_t2 (i := 193) rfl rfl
theorem wi_0_considerGroup : Cond.instanceMethod yX0_considerGroup ∈ W0 := in_t2 (i := 195) rfl rfl
theorem wl_0_considerGroup : Cond.selects RX0 yX0_considerGroup yX0_considerGroup ∈ W0 := in_s (i := 10) rfl rfl
theorem wf0_73 : Cond.fieldLink RX0 73 "BilingualSetter$Edition" "pairs" "[[I" ∈ W0 := in_t1 (i := 62) rfl rfl
theorem wm1_57 : Cond.methodLink RX1 57 yX4_movePairs ∈ W0 := in_t2 (i := 234) rfl rfl
theorem wi_4_movePairs : Cond.instanceMethod yX4_movePairs ∈ W0 := in_t2 (i := 235) rfl rfl
theorem wl_4_movePairs : Cond.selects RX4 yX4_movePairs yX4_movePairs ∈ W0 := in_t2 (i := 236) rfl rfl
theorem wf3_11 : Cond.fieldLink RX3 11 "BilingualSetter$History" "ring" "[LBilingualSetter$Edition;" ∈ W0 := in_t1 (i := 98) rfl rfl
theorem wf3_18 : Cond.fieldLink RX3 18 "BilingualSetter$History" "next" "I" ∈ W0 := in_t1 (i := 97) rfl rfl
theorem wm3_22 : Cond.methodLink RX3 22 yX1_copyFrom ∈ W0 := in_t2 (i := 35) rfl rfl
theorem wi_1_copyFrom : Cond.instanceMethod yX1_copyFrom ∈ W0 := in_t2 (i := 36) rfl rfl
theorem wl_1_copyFrom : Cond.selects RX1 yX1_copyFrom yX1_copyFrom ∈ W0 := in_t2 (i := 37) rfl rfl
theorem wf3_26 : Cond.fieldLink RX3 26 "BilingualSetter$History" "count" "I" ∈ W0 := in_t1 (i := 95) rfl rfl
theorem wm3_29 : Cond.methodLink RX3 29 Lib.Math.min.name ∈ W0 := in_t2 (i := 54) rfl rfl
theorem wf6_43 : Cond.fieldLink RX6 43 "BilingualSetter$Spreads" "rest" "LBilingualSetter$Part;" ∈ W0 := in_t1 (i := 182) rfl rfl
theorem wm6_104 : Cond.methodLink RX6 104 yX6_addSegment ∈ W0 := in_t2 (i := 138) rfl rfl
theorem wi_6_addSegment : Cond.instanceMethod yX6_addSegment ∈ W0 := in_t2 (i := 140) rfl rfl
theorem wl_6_addSegment : Cond.selects RX6 yX6_addSegment yX6_addSegment ∈ W0 := in_s (i := 6) rfl rfl
theorem wm6_56 : Cond.methodLink RX6 56 yX5_takePair ∈ W0 := in_t2 (i := 71) rfl rfl
theorem wm6_132 : Cond.methodLink RX6 132 Lib.Math.min.name ∈ W0 := in_t2 (i := 152) rfl rfl
theorem wf6_47 : Cond.fieldLink RX6 47 "BilingualSetter$Spreads" "start" "LBilingualSetter$Part;" ∈ W0 := in_t1 (i := 183) rfl rfl
theorem wm6_138 : Cond.methodLink RX6 138 yX5_takeStart ∈ W0 := in_t2 (i := 153) rfl rfl
theorem wi_5_takeStart : Cond.instanceMethod yX5_takeStart ∈ W0 := in_t2 (i := 154) rfl rfl
theorem wl_5_takeStart : Cond.selects RX5 yX5_takeStart yX5_takeStart ∈ W0 := in_t2 (i := 155) rfl rfl
theorem wm6_94 : Cond.methodLink RX6 94 yX6_fits ∈ W0 := in_t2 (i := 97) rfl rfl
theorem wi_6_fits : Cond.instanceMethod yX6_fits ∈ W0 := in_t2 (i := 99) rfl rfl
theorem wl_6_fits : Cond.selects RX6 yX6_fits yX6_fits ∈ W0 := in_s (i := 4) rfl rfl
theorem wf0_35 : Cond.fieldLink RX0 35 "BilingualSetter$Division" "isSearched" "Z" ∈ W0 := in_t1 (i := 217) rfl rfl
theorem wf0_49 : Cond.fieldLink RX0 49 "BilingualSetter$Division" "groups" "I" ∈ W0 := in_t1 (i := 219) rfl rfl
theorem wm0_52 : Cond.methodLink RX0 52 yX0_isAllowed ∈ W0 := in_t2 (i := 202) rfl rfl
theorem wi_0_isAllowed : Cond.instanceMethod yX0_isAllowed ∈ W0 := in_t2 (i := 203) rfl rfl
theorem wl_0_isAllowed : Cond.selects RX0 yX0_isAllowed yX0_isAllowed ∈ W0 := in_t2 (i := 204) rfl rfl
theorem wf0_9 : Cond.fieldLink RX0 9 "BilingualSetter$Division" "firstPairs" "[I" ∈ W0 := in_t1 (i := 221) rfl rfl
theorem wm0_45 : Cond.methodLink RX0 45 yX0_searchFrom ∈ W0 := in_t2 (i := 180) rfl rfl
theorem wi_0_searchFrom : Cond.instanceMethod yX0_searchFrom ∈ W0 := in_t2 (i := 182) rfl rfl
theorem wl_0_searchFrom : Cond.selects RX0 yX0_searchFrom yX0_searchFrom ∈ W0 := in_s (i := 9) rfl rfl
theorem wm6_67 : Cond.methodLink RX6 67 yX1_hasPair ∈ W0 := in_t2 (i := 84) rfl rfl
theorem wf6_91 : Cond.fieldLink RX6 91 "BilingualSetter$Edition" "pairs" "[[I" ∈ W0 := in_t1 (i := 61) rfl rfl
theorem wf6_19 : Cond.fieldLink RX6 19 "BilingualSetter$Spreads" "overfull" "[I" ∈ W0 := in_t1 (i := 174) rfl rfl
theorem wm6_98 : Cond.methodLink RX6 98 yX6_putRest ∈ W0 := in_t2 (i := 134) rfl rfl
theorem wi_6_putRest : Cond.instanceMethod yX6_putRest ∈ W0 := in_t2 (i := 136) rfl rfl
theorem wl_6_putRest : Cond.selects RX6 yX6_putRest yX6_putRest ∈ W0 := in_s (i := 5) rfl rfl
theorem wm6_101 : Cond.methodLink RX6 101 yX6_findStart ∈ W0 := in_t2 (i := 148) rfl rfl
theorem wi_6_findStart : Cond.instanceMethod yX6_findStart ∈ W0 := in_t2 (i := 150) rfl rfl
theorem wl_6_findStart : Cond.selects RX6 yX6_findStart yX6_findStart ∈ W0 := in_s (i := 7) rfl rfl
theorem wm6_108 : Cond.methodLink RX6 108 yX5_dropStart ∈ W0 := in_t2 (i := 158) rfl rfl
theorem wi_5_dropStart : Cond.instanceMethod yX5_dropStart ∈ W0 := in_t2 (i := 159) rfl rfl
theorem wl_5_dropStart : Cond.selects RX5 yX5_dropStart yX5_dropStart ∈ W0 := in_t2 (i := 160) rfl rfl
theorem wm6_88 : Cond.methodLink RX6 88 yX5_isBegun ∈ W0 := in_t2 (i := 93) rfl rfl
theorem wi_5_isBegun : Cond.instanceMethod yX5_isBegun ∈ W0 := in_t2 (i := 94) rfl rfl
theorem wl_5_isBegun : Cond.selects RX5 yX5_isBegun yX5_isBegun ∈ W0 := in_t2 (i := 95) rfl rfl
theorem wf7_19 : Cond.fieldLink RX7 19 "BilingualSetter" "history" "LBilingualSetter$History;" ∈ W0 := in_t2 (i := 4) rfl rfl
theorem wf7_104 : Cond.fieldLink RX7 104 "BilingualSetter$History" "count" "I" ∈ W0 := in_t1 (i := 96) rfl rfl
theorem wm7_105 : Cond.methodLink RX7 105 yX3_restore ∈ W0 := in_t3 (i := 46) rfl rfl
theorem wi_3_restore : Cond.instanceMethod yX3_restore ∈ W0 := in_t3 (i := 47) rfl rfl
theorem wl_3_restore : Cond.selects RX3 yX3_restore yX3_restore ∈ W0 := in_t3 (i := 48) rfl rfl
theorem wm7_109 : Cond.methodLink RX7 109 yX7_forgetResults ∈ W0 := in_t2 (i := 55) rfl rfl
theorem wi_7_forgetResults : Cond.instanceMethod yX7_forgetResults ∈ W0 := in_t2 (i := 57) rfl rfl
theorem wl_7_forgetResults : Cond.selects RX7 yX7_forgetResults yX7_forgetResults ∈ W0 := in_s (i := 1) rfl rfl
theorem wm7_185 : Cond.methodLink RX7 185 yX3_record ∈ W0 := in_t2 (i := 31) rfl rfl
theorem wi_3_record : Cond.instanceMethod yX3_record ∈ W0 := in_t2 (i := 32) rfl rfl
theorem wl_3_record : Cond.selects RX3 yX3_record yX3_record ∈ W0 := in_t2 (i := 33) rfl rfl
theorem wm6_81 : Cond.methodLink RX6 81 yX6_endSpread ∈ W0 := in_t2 (i := 162) rfl rfl
theorem wi_6_endSpread : Cond.instanceMethod yX6_endSpread ∈ W0 := in_t2 (i := 164) rfl rfl
theorem wl_6_endSpread : Cond.selects RX6 yX6_endSpread yX6_endSpread ∈ W0 := in_s (i := 8) rfl rfl
theorem wm6_77 : Cond.methodLink RX6 77 yX6_putNext ∈ W0 := in_t2 (i := 89) rfl rfl
theorem wi_6_putNext : Cond.instanceMethod yX6_putNext ∈ W0 := in_t2 (i := 91) rfl rfl
theorem wl_6_putNext : Cond.selects RX6 yX6_putNext yX6_putNext ∈ W0 := in_s (i := 3) rfl rfl
theorem wm6_73 : Cond.methodLink RX6 73 yX6_isCarried ∈ W0 := in_t2 (i := 85) rfl rfl
theorem wi_6_isCarried : Cond.instanceMethod yX6_isCarried ∈ W0 := in_t2 (i := 87) rfl rfl
theorem wl_6_isCarried : Cond.selects RX6 yX6_isCarried yX6_isCarried ∈ W0 := in_s (i := 2) rfl rfl
theorem wm7_45 : Cond.methodLink RX7 45 yX7_beginChange ∈ W0 := in_t2 (i := 27) rfl rfl
theorem wi_7_beginChange : Cond.instanceMethod yX7_beginChange ∈ W0 := in_t2 (i := 29) rfl rfl
theorem wl_7_beginChange : Cond.selects RX7 yX7_beginChange yX7_beginChange ∈ W0 := in_s (i := 0) rfl rfl
theorem wm7_48 : Cond.methodLink RX7 48 yX1_placePair ∈ W0 := in_t2 (i := 227) rfl rfl
theorem wi_1_placePair : Cond.instanceMethod yX1_placePair ∈ W0 := in_t2 (i := 228) rfl rfl
theorem wl_1_placePair : Cond.selects RX1 yX1_placePair yX1_placePair ∈ W0 := in_t2 (i := 229) rfl rfl
theorem wm7_77 : Cond.methodLink RX7 77 yX1_hasLine ∈ W0 := in_t3 (i := 11) rfl rfl
theorem wi_1_hasLine : Cond.instanceMethod yX1_hasLine ∈ W0 := in_t3 (i := 12) rfl rfl
theorem wl_1_hasLine : Cond.selects RX1 yX1_hasLine yX1_hasLine ∈ W0 := in_t3 (i := 13) rfl rfl
theorem wf7_80 : Cond.fieldLink RX7 80 "BilingualSetter$Edition" "left" "LBilingualSetter$Notes;" ∈ W0 := in_t1 (i := 66) rfl rfl
theorem wf7_85 : Cond.fieldLink RX7 85 "BilingualSetter$Edition" "right" "LBilingualSetter$Notes;" ∈ W0 := in_t1 (i := 69) rfl rfl
theorem wm7_88 : Cond.methodLink RX7 88 yX4_place ∈ W0 := in_t3 (i := 17) rfl rfl
theorem wi_4_place : Cond.instanceMethod yX4_place ∈ W0 := in_t3 (i := 18) rfl rfl
theorem wl_4_place : Cond.selects RX4 yX4_place yX4_place ∈ W0 := in_t3 (i := 19) rfl rfl
theorem wm7_91 : Cond.methodLink RX7 91 yX4_drop ∈ W0 := in_t3 (i := 26) rfl rfl
theorem wi_4_drop : Cond.instanceMethod yX4_drop ∈ W0 := in_t3 (i := 27) rfl rfl
theorem wl_4_drop : Cond.selects RX4 yX4_drop yX4_drop ∈ W0 := in_t3 (i := 28) rfl rfl
theorem wf7_94 : Cond.fieldLink RX7 94 "BilingualSetter" "LOWEST" "[I" ∈ W0 := in_t2 (i := 23) rfl rfl
theorem wf7_98 : Cond.fieldLink RX7 98 "BilingualSetter" "HIGHEST" "[I" ∈ W0 := in_t2 (i := 25) rfl rfl
theorem wf7_101 : Cond.fieldLink RX7 101 "BilingualSetter$Edition" "settings" "[I" ∈ W0 := in_t1 (i := 74) rfl rfl
theorem wm7_163 : Cond.methodLink RX7 163 yX0_search ∈ W0 := in_t2 (i := 176) rfl rfl
theorem wi_0_search : Cond.instanceMethod yX0_search ∈ W0 := in_t2 (i := 177) rfl rfl
theorem wl_0_search : Cond.selects RX0 yX0_search yX0_search ∈ W0 := in_t2 (i := 178) rfl rfl
theorem wm7_166 : Cond.methodLink RX7 166 yX0_isAllowed ∈ W0 := in_t2 (i := 206) rfl rfl
theorem wf7_170 : Cond.fieldLink RX7 170 "BilingualSetter$Division" "costs" "[I" ∈ W0 := in_t1 (i := 224) rfl rfl
theorem wf7_173 : Cond.fieldLink RX7 173 "BilingualSetter$Division" "groups" "I" ∈ W0 := in_t1 (i := 220) rfl rfl
theorem wf7_176 : Cond.fieldLink RX7 176 "BilingualSetter$Division" "firstPairs" "[I" ∈ W0 := in_t1 (i := 222) rfl rfl
theorem wm7_73 : Cond.methodLink RX7 73 yX7_changePair ∈ W0 := in_t3 (i := 38) rfl rfl
theorem wi_7_changePair : Cond.instanceMethod yX7_changePair ∈ W0 := in_t3 (i := 40) rfl rfl
theorem wl_7_changePair : Cond.selects RX7 yX7_changePair yX7_changePair ∈ W0 := in_s (i := 12) rfl rfl
theorem wm7_119 : Cond.methodLink RX7 119 yX6_arrange ∈ W0 := in_t2 (i := 67) rfl rfl
theorem wi_6_arrange : Cond.instanceMethod yX6_arrange ∈ W0 := in_t2 (i := 68) rfl rfl
theorem wl_6_arrange : Cond.selects RX6 yX6_arrange yX6_arrange ∈ W0 := in_t2 (i := 69) rfl rfl
theorem wf7_123 : Cond.fieldLink RX7 123 "BilingualSetter$Spreads" "count" "I" ∈ W0 := in_t1 (i := 172) rfl rfl
theorem wm7_124 : Cond.methodLink RX7 124 yX6_has ∈ W0 := in_t3 (i := 57) rfl rfl
theorem wi_6_has : Cond.instanceMethod yX6_has ∈ W0 := in_t3 (i := 58) rfl rfl
theorem wl_6_has : Cond.selects RX6 yX6_has yX6_has ∈ W0 := in_t3 (i := 59) rfl rfl
theorem wm7_127 : Cond.methodLink RX7 127 yX6_segmentsOf ∈ W0 := in_t3 (i := 70) rfl rfl
theorem wi_6_segmentsOf : Cond.instanceMethod yX6_segmentsOf ∈ W0 := in_t3 (i := 71) rfl rfl
theorem wl_6_segmentsOf : Cond.selects RX6 yX6_segmentsOf yX6_segmentsOf ∈ W0 := in_t3 (i := 72) rfl rfl
theorem wf7_137 : Cond.fieldLink RX7 137 "BilingualSetter$Spreads" "pages" "[[I" ∈ W0 := in_t1 (i := 178) rfl rfl
theorem wf7_140 : Cond.fieldLink RX7 140 "BilingualSetter$Spreads" "overfull" "[I" ∈ W0 := in_t1 (i := 175) rfl rfl
theorem wm7_143 : Cond.methodLink RX7 143 yX6_segmentWith ∈ W0 := in_t3 (i := 110) rfl rfl
theorem wi_6_segmentWith : Cond.instanceMethod yX6_segmentWith ∈ W0 := in_t3 (i := 111) rfl rfl
theorem wl_6_segmentWith : Cond.selects RX6 yX6_segmentWith yX6_segmentWith ∈ W0 := in_t3 (i := 112) rfl rfl
theorem wm7_146 : Cond.methodLink RX7 146 yX6_spreadWith ∈ W0 := in_t3 (i := 118) rfl rfl
theorem wi_6_spreadWith : Cond.instanceMethod yX6_spreadWith ∈ W0 := in_t3 (i := 119) rfl rfl
theorem wl_6_spreadWith : Cond.selects RX6 yX6_spreadWith yX6_spreadWith ∈ W0 := in_t3 (i := 120) rfl rfl
theorem wm7_149 : Cond.methodLink RX7 149 yX6_rowIn ∈ W0 := in_t3 (i := 126) rfl rfl
theorem wi_6_rowIn : Cond.instanceMethod yX6_rowIn ∈ W0 := in_t3 (i := 127) rfl rfl
theorem wl_6_rowIn : Cond.selects RX6 yX6_rowIn yX6_rowIn ∈ W0 := in_t3 (i := 128) rfl rfl
theorem wm7_152 : Cond.methodLink RX7 152 yX6_textAt ∈ W0 := in_t3 (i := 89) rfl rfl
theorem wi_6_textAt : Cond.instanceMethod yX6_textAt ∈ W0 := in_t3 (i := 90) rfl rfl
theorem wl_6_textAt : Cond.selects RX6 yX6_textAt yX6_textAt ∈ W0 := in_t3 (i := 91) rfl rfl
theorem wm7_155 : Cond.methodLink RX7 155 yX6_noteAt ∈ W0 := in_t3 (i := 93) rfl rfl
theorem wi_6_noteAt : Cond.instanceMethod yX6_noteAt ∈ W0 := in_t3 (i := 94) rfl rfl
theorem wl_6_noteAt : Cond.selects RX6 yX6_noteAt yX6_noteAt ∈ W0 := in_t3 (i := 95) rfl rfl
theorem wm7_159 : Cond.methodLink RX7 159 yX6_blankSquares ∈ W0 := in_t3 (i := 78) rfl rfl
theorem wi_6_blankSquares : Cond.instanceMethod yX6_blankSquares ∈ W0 := in_t3 (i := 79) rfl rfl
theorem wl_6_blankSquares : Cond.selects RX6 yX6_blankSquares yX6_blankSquares ∈ W0 := in_t3 (i := 80) rfl rfl
theorem inX0 : ∀ w ∈ u_ws RX0 TX0 7, w ∈ W0 := by
  intro w hw
  obtain ⟨k, hk, rfl⟩ := List.mem_map.mp hw
  have hk := List.mem_range.mp hk
  match k, hk with
  | 0, _ => exact in_t1 (i := 228) rfl rfl
  | 1, _ => exact in_t1 (i := 230) rfl rfl
  | 2, _ => exact in_t1 (i := 232) rfl rfl
  | 3, _ => exact in_t1 (i := 234) rfl rfl
  | 4, _ => exact in_t1 (i := 236) rfl rfl
  | 5, _ => exact in_t1 (i := 238) rfl rfl
  | 6, _ => exact in_t2 (i := 0) rfl rfl
  | k + 7, hk => exact absurd hk (by omega)
theorem inX1 : ∀ w ∈ u_ws RX1 TX1 5, w ∈ W0 := by
  intro w hw
  obtain ⟨k, hk, rfl⟩ := List.mem_map.mp hw
  have hk := List.mem_range.mp hk
  match k, hk with
  | 0, _ => exact in_t1 (i := 75) rfl rfl
  | 1, _ => exact in_t1 (i := 77) rfl rfl
  | 2, _ => exact in_t1 (i := 79) rfl rfl
  | 3, _ => exact in_t1 (i := 81) rfl rfl
  | 4, _ => exact in_t1 (i := 83) rfl rfl
  | k + 5, hk => exact absurd hk (by omega)
theorem inX2 : ∀ w ∈ u_ws RX2 TX2 7, w ∈ W0 := by
  intro w hw
  obtain ⟨k, hk, rfl⟩ := List.mem_map.mp hw
  have hk := List.mem_range.mp hk
  match k, hk with
  | 0, _ => exact in_t1 (i := 132) rfl rfl
  | 1, _ => exact in_t1 (i := 134) rfl rfl
  | 2, _ => exact in_t1 (i := 136) rfl rfl
  | 3, _ => exact in_t1 (i := 138) rfl rfl
  | 4, _ => exact in_t1 (i := 140) rfl rfl
  | 5, _ => exact in_t1 (i := 142) rfl rfl
  | 6, _ => exact in_t1 (i := 144) rfl rfl
  | k + 7, hk => exact absurd hk (by omega)
theorem inX3 : ∀ w ∈ u_ws RX3 TX3 3, w ∈ W0 := by
  intro w hw
  obtain ⟨k, hk, rfl⟩ := List.mem_map.mp hw
  have hk := List.mem_range.mp hk
  match k, hk with
  | 0, _ => exact in_t1 (i := 99) rfl rfl
  | 1, _ => exact in_t1 (i := 101) rfl rfl
  | 2, _ => exact in_t1 (i := 103) rfl rfl
  | k + 3, hk => exact absurd hk (by omega)
theorem inX4 : ∀ w ∈ u_ws RX4 TX4 2, w ∈ W0 := by
  intro w hw
  obtain ⟨k, hk, rfl⟩ := List.mem_map.mp hw
  have hk := List.mem_range.mp hk
  match k, hk with
  | 0, _ => exact in_t1 (i := 41) rfl rfl
  | 1, _ => exact in_t1 (i := 43) rfl rfl
  | k + 2, hk => exact absurd hk (by omega)
theorem inX5 : ∀ w ∈ u_ws RX5 TX5 3, w ∈ W0 := by
  intro w hw
  obtain ⟨k, hk, rfl⟩ := List.mem_map.mp hw
  have hk := List.mem_range.mp hk
  match k, hk with
  | 0, _ => exact in_t1 (i := 162) rfl rfl
  | 1, _ => exact in_t1 (i := 164) rfl rfl
  | 2, _ => exact in_t1 (i := 166) rfl rfl
  | k + 3, hk => exact absurd hk (by omega)
theorem inX6 : ∀ w ∈ u_ws RX6 TX6 11, w ∈ W0 := by
  intro w hw
  obtain ⟨k, hk, rfl⟩ := List.mem_map.mp hw
  have hk := List.mem_range.mp hk
  match k, hk with
  | 0, _ => exact in_t1 (i := 184) rfl rfl
  | 1, _ => exact in_t1 (i := 186) rfl rfl
  | 2, _ => exact in_t1 (i := 188) rfl rfl
  | 3, _ => exact in_t1 (i := 190) rfl rfl
  | 4, _ => exact in_t1 (i := 192) rfl rfl
  | 5, _ => exact in_t1 (i := 194) rfl rfl
  | 6, _ => exact in_t1 (i := 196) rfl rfl
  | 7, _ => exact in_t1 (i := 198) rfl rfl
  | 8, _ => exact in_t1 (i := 200) rfl rfl
  | 9, _ => exact in_t1 (i := 202) rfl rfl
  | 10, _ => exact in_t1 (i := 204) rfl rfl
  | k + 11, hk => exact absurd hk (by omega)
theorem inX7 : ∀ w ∈ u_ws RX7 TX7 4, w ∈ W0 := by
  intro w hw
  obtain ⟨k, hk, rfl⟩ := List.mem_map.mp hw
  have hk := List.mem_range.mp hk
  match k, hk with
  | 0, _ => exact in_t2 (i := 7) rfl rfl
  | 1, _ => exact in_t2 (i := 9) rfl rfl
  | 2, _ => exact in_t2 (i := 11) rfl rfl
  | 3, _ => exact in_t2 (i := 13) rfl rfl
  | k + 4, hk => exact absurd hk (by omega)
def M_0_isAllowed : MT := (yX0_isAllowed, cX0_isAllowed, 1, (some .boolean), 1, 0, 0)
def M_0_search : MT := (yX0_search, cX0_search, 3, none, 5, 0, 0)
def M_0_searchFrom : MT := (yX0_searchFrom, cX0_searchFrom, 4, none, 4, 0, 0)
def M_0_considerGroup : MT := (yX0_considerGroup, cX0_considerGroup, 5, none, 3, 0, 0)
def M_0_blankSquares : MT := (yX0_blankSquares, cX0_blankSquares, 5, (some .int), 2, 0, 0)
def M_1_notes : MT := (yX1_notes, cX1_notes, 2, (some (.object "BilingualSetter$Notes")), 1, 0, 0)
def M_1_hasPair : MT := (yX1_hasPair, cX1_hasPair, 2, (some .boolean), 2, 0, 0)
def M_1_hasLine : MT := (yX1_hasLine, cX1_hasLine, 4, (some .boolean), 3, 0, 0)
def M_1_placePair : MT := (yX1_placePair, cX1_placePair, 5, none, 4, 0, 0)
def M_1_copyFrom : MT := (yX1_copyFrom, cX1_copyFrom, 2, none, 3, 0, 0)
def M_2_turn : MT := (yX2_turn, cX2_turn, 4, none, 1, 0, 0)
def M_2_copyFrom : MT := (yX2_copyFrom, cX2_copyFrom, 2, none, 1, 0, 0)
def M_2_put : MT := (yX2_put, cX2_put, 8, none, 2, 0, 0)
def M_2_noteRows : MT := (yX2_noteRows, cX2_noteRows, 5, (some .int), 1, 0, 0)
def M_2_mostCarried : MT := (yX2_mostCarried, cX2_mostCarried, 3, (some .int), 1, 0, 0)
def M_2_fits : MT := (yX2_fits, cX2_fits, 5, (some .boolean), 2, 0, 0)
def M_2_carriedFrom : MT := (yX2_carriedFrom, cX2_carriedFrom, 6, (some .int), 2, 0, 0)
def M_3_record : MT := (yX3_record, cX3_record, 3, none, 4, 0, 0)
def M_3_restore : MT := (yX3_restore, cX3_restore, 3, none, 4, 0, 0)
def M_4_before : MT := (yX4_before, cX4_before, 3, (some .int), 2, 0, 0)
def M_4_endBefore : MT := (yX4_endBefore, cX4_endBefore, 6, (some .int), 1, 0, 0)
def M_4_place : MT := (yX4_place, cX4_place, 6, (some .int), 3, 0, 0)
def M_4_drop : MT := (yX4_drop, cX4_drop, 3, none, 3, 0, 0)
def M_4_movePairs : MT := (yX4_movePairs, cX4_movePairs, 4, none, 3, 0, 0)
def M_4_copyFrom : MT := (yX4_copyFrom, cX4_copyFrom, 2, none, 2, 0, 0)
def M_5_takePair : MT := (yX5_takePair, cX5_takePair, 4, none, 3, 0, 0)
def M_5_takeStart : MT := (yX5_takeStart, cX5_takeStart, 4, none, 1, 0, 0)
def M_5_dropStart : MT := (yX5_dropStart, cX5_dropStart, 3, none, 1, 0, 0)
def M_5_isBegun : MT := (yX5_isBegun, cX5_isBegun, 1, (some .boolean), 1, 0, 0)
def M_6_arrange : MT := (yX6_arrange, cX6_arrange, 6, none, 6, 0, 0)
def M_6_isCarried : MT := (yX6_isCarried, cX6_isCarried, 1, (some .boolean), 1, 0, 0)
def M_6_putNext : MT := (yX6_putNext, cX6_putNext, 3, (some .boolean), 5, 0, 0)
def M_6_putRest : MT := (yX6_putRest, cX6_putRest, 2, none, 4, 0, 0)
def M_6_fits : MT := (yX6_fits, cX6_fits, 3, (some .boolean), 3, 0, 0)
def M_6_findStart : MT := (yX6_findStart, cX6_findStart, 8, (some .boolean), 4, 0, 0)
def M_6_addSegment : MT := (yX6_addSegment, cX6_addSegment, 5, none, 3, 0, 0)
def M_6_endSpread : MT := (yX6_endSpread, cX6_endSpread, 6, none, 3, 0, 0)
def M_6_has : MT := (yX6_has, cX6_has, 2, (some .boolean), 2, 0, 0)
def M_6_segmentsOf : MT := (yX6_segmentsOf, cX6_segmentsOf, 2, (some .int), 1, 0, 0)
def M_6_segmentWith : MT := (yX6_segmentWith, cX6_segmentWith, 5, (some .int), 3, 0, 0)
def M_6_contains : MT := (yX6_contains, cX6_contains, 6, (some .boolean), 2, 0, 0)
def M_6_spreadWith : MT := (yX6_spreadWith, cX6_spreadWith, 3, (some .int), 1, 0, 0)
def M_6_rowIn : MT := (yX6_rowIn, cX6_rowIn, 4, (some .int), 1, 0, 0)
def M_6_textAt : MT := (yX6_textAt, cX6_textAt, 7, (some .int), 2, 0, 0)
def M_6_noteAt : MT := (yX6_noteAt, cX6_noteAt, 9, (some .int), 2, 0, 0)
def M_6_noteLine : MT := (yX6_noteLine, cX6_noteLine, 9, (some .int), 1, 0, 0)
def M_6_blankSquares : MT := (yX6_blankSquares, cX6_blankSquares, 3, (some .int), 1, 0, 0)
def M_7_insert : MT := (yX7_insert, cX7_insert, 4, (some .int), 6, 0, 0)
def M_7_setFlag : MT := (yX7_setFlag, cX7_setFlag, 4, (some .int), 7, 0, 0)
def M_7_addNote : MT := (yX7_addNote, cX7_addNote, 5, (some .int), 6, 0, 0)
def M_7_removeNote : MT := (yX7_removeNote, cX7_removeNote, 4, (some .int), 6, 0, 0)
def M_7_set : MT := (yX7_set, cX7_set, 4, (some .int), 6, 0, 0)
def M_7_undo : MT := (yX7_undo, cX7_undo, 1, (some .int), 5, 0, 0)
def M_7_pairCount : MT := (yX7_pairCount, cX7_pairCount, 1, (some .int), 1, 0, 0)
def M_7_pairInfo : MT := (yX7_pairInfo, cX7_pairInfo, 3, (some .int), 3, 0, 0)
def M_7_noteCount : MT := (yX7_noteCount, cX7_noteCount, 2, (some .int), 3, 0, 0)
def M_7_noteInfo : MT := (yX7_noteInfo, cX7_noteInfo, 5, (some .int), 3, 0, 0)
def M_7_spreadCount : MT := (yX7_spreadCount, cX7_spreadCount, 1, (some .int), 7, 0, 0)
def M_7_segmentCount : MT := (yX7_segmentCount, cX7_segmentCount, 2, (some .int), 7, 0, 0)
def M_7_pageInfo : MT := (yX7_pageInfo, cX7_pageInfo, 4, (some .int), 7, 0, 0)
def M_7_isOverfull : MT := (yX7_isOverfull, cX7_isOverfull, 2, (some .int), 7, 0, 0)
def M_7_spreadOf : MT := (yX7_spreadOf, cX7_spreadOf, 4, (some .int), 7, 0, 0)
def M_7_rowOf : MT := (yX7_rowOf, cX7_rowOf, 4, (some .int), 7, 0, 0)
def M_7_shown : MT := (yX7_shown, cX7_shown, 5, (some .int), 7, 0, 0)
def M_7_cost : MT := (yX7_cost, cX7_cost, 1, (some .int), 7, 0, 0)
def M_7_bestCost : MT := (yX7_bestCost, cX7_bestCost, 1, (some .int), 6, 0, 0)
def M_7_bestBreak : MT := (yX7_bestBreak, cX7_bestBreak, 2, (some .int), 6, 0, 0)
def M_7_leastHeight : MT := (yX7_leastHeight, cX7_leastHeight, 3, (some .int), 7, 0, 0)
def M_7_changePair : MT := (yX7_changePair, cX7_changePair, 5, (some .int), 6, 0, 0)
def M_7_beginChange : MT := (yX7_beginChange, cX7_beginChange, 1, none, 5, 0, 0)
def M_7_forgetResults : MT := (yX7_forgetResults, cX7_forgetResults, 1, none, 1, 0, 0)
def M_7_isIn : MT := (yX7_isIn, cX7_isIn, 3, (some .boolean), 1, 0, 0)
def M_7_isSide : MT := (yX7_isSide, cX7_isSide, 1, (some .boolean), 2, 0, 0)
def M_7_openPlace : MT := (yX7_openPlace, cX7_openPlace, 3, none, 2, 0, 0)
def M_7_closePlace : MT := (yX7_closePlace, cX7_closePlace, 3, none, 2, 0, 0)
def M_7_copyTable : MT := (yX7_copyTable, cX7_copyTable, 3, none, 1, 0, 0)
theorem mok_0_isAllowed : MOK M_0_isAllowed := ⟨by decide, wc_0_isAllowed, wn_0, ⟨by decide, by decide⟩, by decide⟩
theorem pn_0_isAllowed : (parseMethodDescriptor (m_y M_0_isAllowed).desc).map (fun d => d.parameters.length) = some 0 := by decide +kernel
theorem mok_0_search : MOK M_0_search := ⟨by decide, wc_0_search, wn_0, ⟨by decide, by decide⟩, by decide⟩
theorem pn_0_search : (parseMethodDescriptor (m_y M_0_search).desc).map (fun d => d.parameters.length) = some 1 := by decide +kernel
theorem mok_0_searchFrom : MOK M_0_searchFrom := ⟨by decide, wc_0_searchFrom, wn_0, ⟨by decide, by decide⟩, by decide⟩
theorem pn_0_searchFrom : (parseMethodDescriptor (m_y M_0_searchFrom).desc).map (fun d => d.parameters.length) = some 2 := by decide +kernel
theorem mok_0_considerGroup : MOK M_0_considerGroup := ⟨by decide, wc_0_considerGroup, wn_0, ⟨by decide, by decide⟩, by decide⟩
theorem pn_0_considerGroup : (parseMethodDescriptor (m_y M_0_considerGroup).desc).map (fun d => d.parameters.length) = some 3 := by decide +kernel
theorem mok_0_blankSquares : MOK M_0_blankSquares := ⟨by decide, wc_0_blankSquares, wn_0, ⟨by decide, by decide⟩, by decide⟩
theorem pn_0_blankSquares : (parseMethodDescriptor (m_y M_0_blankSquares).desc).map (fun d => d.parameters.length) = some 1 := by decide +kernel
theorem mok_1_notes : MOK M_1_notes := ⟨by decide, wc_1_notes, wn_1, ⟨by decide, by decide⟩, by decide⟩
theorem pn_1_notes : (parseMethodDescriptor (m_y M_1_notes).desc).map (fun d => d.parameters.length) = some 1 := by decide +kernel
theorem mok_1_hasPair : MOK M_1_hasPair := ⟨by decide, wc_1_hasPair, wn_1, ⟨by decide, by decide⟩, by decide⟩
theorem pn_1_hasPair : (parseMethodDescriptor (m_y M_1_hasPair).desc).map (fun d => d.parameters.length) = some 1 := by decide +kernel
theorem mok_1_hasLine : MOK M_1_hasLine := ⟨by decide, wc_1_hasLine, wn_1, ⟨by decide, by decide⟩, by decide⟩
theorem pn_1_hasLine : (parseMethodDescriptor (m_y M_1_hasLine).desc).map (fun d => d.parameters.length) = some 3 := by decide +kernel
theorem mok_1_placePair : MOK M_1_placePair := ⟨by decide, wc_1_placePair, wn_1, ⟨by decide, by decide⟩, by decide⟩
theorem pn_1_placePair : (parseMethodDescriptor (m_y M_1_placePair).desc).map (fun d => d.parameters.length) = some 3 := by decide +kernel
theorem mok_1_copyFrom : MOK M_1_copyFrom := ⟨by decide, wc_1_copyFrom, wn_1, ⟨by decide, by decide⟩, by decide⟩
theorem pn_1_copyFrom : (parseMethodDescriptor (m_y M_1_copyFrom).desc).map (fun d => d.parameters.length) = some 1 := by decide +kernel
theorem mok_2_turn : MOK M_2_turn := ⟨by decide, wc_2_turn, wn_2, ⟨by decide, by decide⟩, by decide⟩
theorem pn_2_turn : (parseMethodDescriptor (m_y M_2_turn).desc).map (fun d => d.parameters.length) = some 3 := by decide +kernel
theorem mok_2_copyFrom : MOK M_2_copyFrom := ⟨by decide, wc_2_copyFrom, wn_2, ⟨by decide, by decide⟩, by decide⟩
theorem pn_2_copyFrom : (parseMethodDescriptor (m_y M_2_copyFrom).desc).map (fun d => d.parameters.length) = some 1 := by decide +kernel
theorem mok_2_put : MOK M_2_put := ⟨by decide, wc_2_put, wn_2, ⟨by decide, by decide⟩, by decide⟩
theorem pn_2_put : (parseMethodDescriptor (m_y M_2_put).desc).map (fun d => d.parameters.length) = some 2 := by decide +kernel
theorem mok_2_noteRows : MOK M_2_noteRows := ⟨by decide, wc_2_noteRows, wn_2, ⟨by decide, by decide⟩, by decide⟩
theorem pn_2_noteRows : (parseMethodDescriptor (m_y M_2_noteRows).desc).map (fun d => d.parameters.length) = some 3 := by decide +kernel
theorem mok_2_mostCarried : MOK M_2_mostCarried := ⟨by decide, wc_2_mostCarried, wn_2, ⟨by decide, by decide⟩, by decide⟩
theorem pn_2_mostCarried : (parseMethodDescriptor (m_y M_2_mostCarried).desc).map (fun d => d.parameters.length) = some 2 := by decide +kernel
theorem mok_2_fits : MOK M_2_fits := ⟨by decide, wc_2_fits, wn_2, ⟨by decide, by decide⟩, by decide⟩
theorem pn_2_fits : (parseMethodDescriptor (m_y M_2_fits).desc).map (fun d => d.parameters.length) = some 3 := by decide +kernel
theorem mok_2_carriedFrom : MOK M_2_carriedFrom := ⟨by decide, wc_2_carriedFrom, wn_2, ⟨by decide, by decide⟩, by decide⟩
theorem pn_2_carriedFrom : (parseMethodDescriptor (m_y M_2_carriedFrom).desc).map (fun d => d.parameters.length) = some 3 := by decide +kernel
theorem mok_3_record : MOK M_3_record := ⟨by decide, wc_3_record, wn_3, ⟨by decide, by decide⟩, by decide⟩
theorem pn_3_record : (parseMethodDescriptor (m_y M_3_record).desc).map (fun d => d.parameters.length) = some 1 := by decide +kernel
theorem mok_3_restore : MOK M_3_restore := ⟨by decide, wc_3_restore, wn_3, ⟨by decide, by decide⟩, by decide⟩
theorem pn_3_restore : (parseMethodDescriptor (m_y M_3_restore).desc).map (fun d => d.parameters.length) = some 1 := by decide +kernel
theorem mok_4_before : MOK M_4_before := ⟨by decide, wc_4_before, wn_4, ⟨by decide, by decide⟩, by decide⟩
theorem pn_4_before : (parseMethodDescriptor (m_y M_4_before).desc).map (fun d => d.parameters.length) = some 2 := by decide +kernel
theorem mok_4_endBefore : MOK M_4_endBefore := ⟨by decide, wc_4_endBefore, wn_4, ⟨by decide, by decide⟩, by decide⟩
theorem pn_4_endBefore : (parseMethodDescriptor (m_y M_4_endBefore).desc).map (fun d => d.parameters.length) = some 3 := by decide +kernel
theorem mok_4_place : MOK M_4_place := ⟨by decide, wc_4_place, wn_4, ⟨by decide, by decide⟩, by decide⟩
theorem pn_4_place : (parseMethodDescriptor (m_y M_4_place).desc).map (fun d => d.parameters.length) = some 3 := by decide +kernel
theorem mok_4_drop : MOK M_4_drop := ⟨by decide, wc_4_drop, wn_4, ⟨by decide, by decide⟩, by decide⟩
theorem pn_4_drop : (parseMethodDescriptor (m_y M_4_drop).desc).map (fun d => d.parameters.length) = some 1 := by decide +kernel
theorem mok_4_movePairs : MOK M_4_movePairs := ⟨by decide, wc_4_movePairs, wn_4, ⟨by decide, by decide⟩, by decide⟩
theorem pn_4_movePairs : (parseMethodDescriptor (m_y M_4_movePairs).desc).map (fun d => d.parameters.length) = some 2 := by decide +kernel
theorem mok_4_copyFrom : MOK M_4_copyFrom := ⟨by decide, wc_4_copyFrom, wn_4, ⟨by decide, by decide⟩, by decide⟩
theorem pn_4_copyFrom : (parseMethodDescriptor (m_y M_4_copyFrom).desc).map (fun d => d.parameters.length) = some 1 := by decide +kernel
theorem mok_5_takePair : MOK M_5_takePair := ⟨by decide, wc_5_takePair, wn_5, ⟨by decide, by decide⟩, by decide⟩
theorem pn_5_takePair : (parseMethodDescriptor (m_y M_5_takePair).desc).map (fun d => d.parameters.length) = some 2 := by decide +kernel
theorem mok_5_takeStart : MOK M_5_takeStart := ⟨by decide, wc_5_takeStart, wn_5, ⟨by decide, by decide⟩, by decide⟩
theorem pn_5_takeStart : (parseMethodDescriptor (m_y M_5_takeStart).desc).map (fun d => d.parameters.length) = some 3 := by decide +kernel
theorem mok_5_dropStart : MOK M_5_dropStart := ⟨by decide, wc_5_dropStart, wn_5, ⟨by decide, by decide⟩, by decide⟩
theorem pn_5_dropStart : (parseMethodDescriptor (m_y M_5_dropStart).desc).map (fun d => d.parameters.length) = some 1 := by decide +kernel
theorem mok_5_isBegun : MOK M_5_isBegun := ⟨by decide, wc_5_isBegun, wn_5, ⟨by decide, by decide⟩, by decide⟩
theorem pn_5_isBegun : (parseMethodDescriptor (m_y M_5_isBegun).desc).map (fun d => d.parameters.length) = some 0 := by decide +kernel
theorem mok_6_arrange : MOK M_6_arrange := ⟨by decide, wc_6_arrange, wn_6, ⟨by decide, by decide⟩, by decide⟩
theorem pn_6_arrange : (parseMethodDescriptor (m_y M_6_arrange).desc).map (fun d => d.parameters.length) = some 2 := by decide +kernel
theorem mok_6_isCarried : MOK M_6_isCarried := ⟨by decide, wc_6_isCarried, wn_6, ⟨by decide, by decide⟩, by decide⟩
theorem pn_6_isCarried : (parseMethodDescriptor (m_y M_6_isCarried).desc).map (fun d => d.parameters.length) = some 0 := by decide +kernel
theorem mok_6_putNext : MOK M_6_putNext := ⟨by decide, wc_6_putNext, wn_6, ⟨by decide, by decide⟩, by decide⟩
theorem pn_6_putNext : (parseMethodDescriptor (m_y M_6_putNext).desc).map (fun d => d.parameters.length) = some 1 := by decide +kernel
theorem mok_6_putRest : MOK M_6_putRest := ⟨by decide, wc_6_putRest, wn_6, ⟨by decide, by decide⟩, by decide⟩
theorem pn_6_putRest : (parseMethodDescriptor (m_y M_6_putRest).desc).map (fun d => d.parameters.length) = some 1 := by decide +kernel
theorem mok_6_fits : MOK M_6_fits := ⟨by decide, wc_6_fits, wn_6, ⟨by decide, by decide⟩, by decide⟩
theorem pn_6_fits : (parseMethodDescriptor (m_y M_6_fits).desc).map (fun d => d.parameters.length) = some 2 := by decide +kernel
theorem mok_6_findStart : MOK M_6_findStart := ⟨by decide, wc_6_findStart, wn_6, ⟨by decide, by decide⟩, by decide⟩
theorem pn_6_findStart : (parseMethodDescriptor (m_y M_6_findStart).desc).map (fun d => d.parameters.length) = some 1 := by decide +kernel
theorem mok_6_addSegment : MOK M_6_addSegment := ⟨by decide, wc_6_addSegment, wn_6, ⟨by decide, by decide⟩, by decide⟩
theorem pn_6_addSegment : (parseMethodDescriptor (m_y M_6_addSegment).desc).map (fun d => d.parameters.length) = some 3 := by decide +kernel
theorem mok_6_endSpread : MOK M_6_endSpread := ⟨by decide, wc_6_endSpread, wn_6, ⟨by decide, by decide⟩, by decide⟩
theorem pn_6_endSpread : (parseMethodDescriptor (m_y M_6_endSpread).desc).map (fun d => d.parameters.length) = some 1 := by decide +kernel
theorem mok_6_has : MOK M_6_has := ⟨by decide, wc_6_has, wn_6, ⟨by decide, by decide⟩, by decide⟩
theorem pn_6_has : (parseMethodDescriptor (m_y M_6_has).desc).map (fun d => d.parameters.length) = some 1 := by decide +kernel
theorem mok_6_segmentsOf : MOK M_6_segmentsOf := ⟨by decide, wc_6_segmentsOf, wn_6, ⟨by decide, by decide⟩, by decide⟩
theorem pn_6_segmentsOf : (parseMethodDescriptor (m_y M_6_segmentsOf).desc).map (fun d => d.parameters.length) = some 1 := by decide +kernel
theorem mok_6_segmentWith : MOK M_6_segmentWith := ⟨by decide, wc_6_segmentWith, wn_6, ⟨by decide, by decide⟩, by decide⟩
theorem pn_6_segmentWith : (parseMethodDescriptor (m_y M_6_segmentWith).desc).map (fun d => d.parameters.length) = some 3 := by decide +kernel
theorem mok_6_contains : MOK M_6_contains := ⟨by decide, wc_6_contains, wn_6, ⟨by decide, by decide⟩, by decide⟩
theorem pn_6_contains : (parseMethodDescriptor (m_y M_6_contains).desc).map (fun d => d.parameters.length) = some 4 := by decide +kernel
theorem mok_6_spreadWith : MOK M_6_spreadWith := ⟨by decide, wc_6_spreadWith, wn_6, ⟨by decide, by decide⟩, by decide⟩
theorem pn_6_spreadWith : (parseMethodDescriptor (m_y M_6_spreadWith).desc).map (fun d => d.parameters.length) = some 1 := by decide +kernel
theorem mok_6_rowIn : MOK M_6_rowIn := ⟨by decide, wc_6_rowIn, wn_6, ⟨by decide, by decide⟩, by decide⟩
theorem pn_6_rowIn : (parseMethodDescriptor (m_y M_6_rowIn).desc).map (fun d => d.parameters.length) = some 3 := by decide +kernel
theorem mok_6_textAt : MOK M_6_textAt := ⟨by decide, wc_6_textAt, wn_6, ⟨by decide, by decide⟩, by decide⟩
theorem pn_6_textAt : (parseMethodDescriptor (m_y M_6_textAt).desc).map (fun d => d.parameters.length) = some 3 := by decide +kernel
theorem mok_6_noteAt : MOK M_6_noteAt := ⟨by decide, wc_6_noteAt, wn_6, ⟨by decide, by decide⟩, by decide⟩
theorem pn_6_noteAt : (parseMethodDescriptor (m_y M_6_noteAt).desc).map (fun d => d.parameters.length) = some 4 := by decide +kernel
theorem mok_6_noteLine : MOK M_6_noteLine := ⟨by decide, wc_6_noteLine, wn_6, ⟨by decide, by decide⟩, by decide⟩
theorem pn_6_noteLine : (parseMethodDescriptor (m_y M_6_noteLine).desc).map (fun d => d.parameters.length) = some 3 := by decide +kernel
theorem mok_6_blankSquares : MOK M_6_blankSquares := ⟨by decide, wc_6_blankSquares, wn_6, ⟨by decide, by decide⟩, by decide⟩
theorem pn_6_blankSquares : (parseMethodDescriptor (m_y M_6_blankSquares).desc).map (fun d => d.parameters.length) = some 0 := by decide +kernel
theorem mok_7_insert : MOK M_7_insert := ⟨by decide, wc_7_insert, wn_7, ⟨by decide, by decide⟩, by decide⟩
theorem pn_7_insert : (parseMethodDescriptor (m_y M_7_insert).desc).map (fun d => d.parameters.length) = some 3 := by decide +kernel
theorem mok_7_setFlag : MOK M_7_setFlag := ⟨by decide, wc_7_setFlag, wn_7, ⟨by decide, by decide⟩, by decide⟩
theorem pn_7_setFlag : (parseMethodDescriptor (m_y M_7_setFlag).desc).map (fun d => d.parameters.length) = some 3 := by decide +kernel
theorem mok_7_addNote : MOK M_7_addNote := ⟨by decide, wc_7_addNote, wn_7, ⟨by decide, by decide⟩, by decide⟩
theorem pn_7_addNote : (parseMethodDescriptor (m_y M_7_addNote).desc).map (fun d => d.parameters.length) = some 4 := by decide +kernel
theorem mok_7_removeNote : MOK M_7_removeNote := ⟨by decide, wc_7_removeNote, wn_7, ⟨by decide, by decide⟩, by decide⟩
theorem pn_7_removeNote : (parseMethodDescriptor (m_y M_7_removeNote).desc).map (fun d => d.parameters.length) = some 2 := by decide +kernel
theorem mok_7_set : MOK M_7_set := ⟨by decide, wc_7_set, wn_7, ⟨by decide, by decide⟩, by decide⟩
theorem pn_7_set : (parseMethodDescriptor (m_y M_7_set).desc).map (fun d => d.parameters.length) = some 2 := by decide +kernel
theorem mok_7_undo : MOK M_7_undo := ⟨by decide, wc_7_undo, wn_7, ⟨by decide, by decide⟩, by decide⟩
theorem pn_7_undo : (parseMethodDescriptor (m_y M_7_undo).desc).map (fun d => d.parameters.length) = some 0 := by decide +kernel
theorem mok_7_pairCount : MOK M_7_pairCount := ⟨by decide, wc_7_pairCount, wn_7, ⟨by decide, by decide⟩, by decide⟩
theorem pn_7_pairCount : (parseMethodDescriptor (m_y M_7_pairCount).desc).map (fun d => d.parameters.length) = some 0 := by decide +kernel
theorem mok_7_pairInfo : MOK M_7_pairInfo := ⟨by decide, wc_7_pairInfo, wn_7, ⟨by decide, by decide⟩, by decide⟩
theorem pn_7_pairInfo : (parseMethodDescriptor (m_y M_7_pairInfo).desc).map (fun d => d.parameters.length) = some 2 := by decide +kernel
theorem mok_7_noteCount : MOK M_7_noteCount := ⟨by decide, wc_7_noteCount, wn_7, ⟨by decide, by decide⟩, by decide⟩
theorem pn_7_noteCount : (parseMethodDescriptor (m_y M_7_noteCount).desc).map (fun d => d.parameters.length) = some 1 := by decide +kernel
theorem mok_7_noteInfo : MOK M_7_noteInfo := ⟨by decide, wc_7_noteInfo, wn_7, ⟨by decide, by decide⟩, by decide⟩
theorem pn_7_noteInfo : (parseMethodDescriptor (m_y M_7_noteInfo).desc).map (fun d => d.parameters.length) = some 3 := by decide +kernel
theorem mok_7_spreadCount : MOK M_7_spreadCount := ⟨by decide, wc_7_spreadCount, wn_7, ⟨by decide, by decide⟩, by decide⟩
theorem pn_7_spreadCount : (parseMethodDescriptor (m_y M_7_spreadCount).desc).map (fun d => d.parameters.length) = some 0 := by decide +kernel
theorem mok_7_segmentCount : MOK M_7_segmentCount := ⟨by decide, wc_7_segmentCount, wn_7, ⟨by decide, by decide⟩, by decide⟩
theorem pn_7_segmentCount : (parseMethodDescriptor (m_y M_7_segmentCount).desc).map (fun d => d.parameters.length) = some 1 := by decide +kernel
theorem mok_7_pageInfo : MOK M_7_pageInfo := ⟨by decide, wc_7_pageInfo, wn_7, ⟨by decide, by decide⟩, by decide⟩
theorem pn_7_pageInfo : (parseMethodDescriptor (m_y M_7_pageInfo).desc).map (fun d => d.parameters.length) = some 3 := by decide +kernel
theorem mok_7_isOverfull : MOK M_7_isOverfull := ⟨by decide, wc_7_isOverfull, wn_7, ⟨by decide, by decide⟩, by decide⟩
theorem pn_7_isOverfull : (parseMethodDescriptor (m_y M_7_isOverfull).desc).map (fun d => d.parameters.length) = some 1 := by decide +kernel
theorem mok_7_spreadOf : MOK M_7_spreadOf := ⟨by decide, wc_7_spreadOf, wn_7, ⟨by decide, by decide⟩, by decide⟩
theorem pn_7_spreadOf : (parseMethodDescriptor (m_y M_7_spreadOf).desc).map (fun d => d.parameters.length) = some 3 := by decide +kernel
theorem mok_7_rowOf : MOK M_7_rowOf := ⟨by decide, wc_7_rowOf, wn_7, ⟨by decide, by decide⟩, by decide⟩
theorem pn_7_rowOf : (parseMethodDescriptor (m_y M_7_rowOf).desc).map (fun d => d.parameters.length) = some 3 := by decide +kernel
theorem mok_7_shown : MOK M_7_shown := ⟨by decide, wc_7_shown, wn_7, ⟨by decide, by decide⟩, by decide⟩
theorem pn_7_shown : (parseMethodDescriptor (m_y M_7_shown).desc).map (fun d => d.parameters.length) = some 3 := by decide +kernel
theorem mok_7_cost : MOK M_7_cost := ⟨by decide, wc_7_cost, wn_7, ⟨by decide, by decide⟩, by decide⟩
theorem pn_7_cost : (parseMethodDescriptor (m_y M_7_cost).desc).map (fun d => d.parameters.length) = some 0 := by decide +kernel
theorem mok_7_bestCost : MOK M_7_bestCost := ⟨by decide, wc_7_bestCost, wn_7, ⟨by decide, by decide⟩, by decide⟩
theorem pn_7_bestCost : (parseMethodDescriptor (m_y M_7_bestCost).desc).map (fun d => d.parameters.length) = some 0 := by decide +kernel
theorem mok_7_bestBreak : MOK M_7_bestBreak := ⟨by decide, wc_7_bestBreak, wn_7, ⟨by decide, by decide⟩, by decide⟩
theorem pn_7_bestBreak : (parseMethodDescriptor (m_y M_7_bestBreak).desc).map (fun d => d.parameters.length) = some 1 := by decide +kernel
theorem mok_7_leastHeight : MOK M_7_leastHeight := ⟨by decide, wc_7_leastHeight, wn_7, ⟨by decide, by decide⟩, by decide⟩
theorem pn_7_leastHeight : (parseMethodDescriptor (m_y M_7_leastHeight).desc).map (fun d => d.parameters.length) = some 1 := by decide +kernel
theorem mok_7_changePair : MOK M_7_changePair := ⟨by decide, wc_7_changePair, wn_7, ⟨by decide, by decide⟩, by decide⟩
theorem pn_7_changePair : (parseMethodDescriptor (m_y M_7_changePair).desc).map (fun d => d.parameters.length) = some 3 := by decide +kernel
theorem mok_7_beginChange : MOK M_7_beginChange := ⟨by decide, wc_7_beginChange, wn_7, ⟨by decide, by decide⟩, by decide⟩
theorem pn_7_beginChange : (parseMethodDescriptor (m_y M_7_beginChange).desc).map (fun d => d.parameters.length) = some 0 := by decide +kernel
theorem mok_7_forgetResults : MOK M_7_forgetResults := ⟨by decide, wc_7_forgetResults, wn_7, ⟨by decide, by decide⟩, by decide⟩
theorem pn_7_forgetResults : (parseMethodDescriptor (m_y M_7_forgetResults).desc).map (fun d => d.parameters.length) = some 0 := by decide +kernel
theorem mok_7_isIn : MOK M_7_isIn := ⟨by decide, wc_7_isIn, wn_7, ⟨by decide, by decide⟩, by decide⟩
theorem pn_7_isIn : (parseMethodDescriptor (m_y M_7_isIn).desc).map (fun d => d.parameters.length) = some 3 := by decide +kernel
theorem mok_7_isSide : MOK M_7_isSide := ⟨by decide, wc_7_isSide, wn_7, ⟨by decide, by decide⟩, by decide⟩
theorem pn_7_isSide : (parseMethodDescriptor (m_y M_7_isSide).desc).map (fun d => d.parameters.length) = some 1 := by decide +kernel
theorem mok_7_openPlace : MOK M_7_openPlace := ⟨by decide, wc_7_openPlace, wn_7, ⟨by decide, by decide⟩, by decide⟩
theorem pn_7_openPlace : (parseMethodDescriptor (m_y M_7_openPlace).desc).map (fun d => d.parameters.length) = some 3 := by decide +kernel
theorem mok_7_closePlace : MOK M_7_closePlace := ⟨by decide, wc_7_closePlace, wn_7, ⟨by decide, by decide⟩, by decide⟩
theorem pn_7_closePlace : (parseMethodDescriptor (m_y M_7_closePlace).desc).map (fun d => d.parameters.length) = some 3 := by decide +kernel
theorem mok_7_copyTable : MOK M_7_copyTable := ⟨by decide, wc_7_copyTable, wn_7, ⟨by decide, by decide⟩, by decide⟩
theorem pn_7_copyTable : (parseMethodDescriptor (m_y M_7_copyTable).desc).map (fun d => d.parameters.length) = some 2 := by decide +kernel
end
section
def tab_0_isAllowed (X : XT) : Tab := [(0, false, a_aload 0 1), (1, false, a_gr 0 3 4), (4, false, a_const 0 5), (5, false, a_ald false 6), (6, false, a_const (-1) 7), (7, false, a_icmp 0 14 10), (10, false, a_const 1 11), (11, false, a_goto 15), (14, false, a_const 0 15), (15, false, a_zret M_0_isAllowed)]
set_option maxRecDepth 20000 in
theorem t_0_isAllowed (X : XT) : tget (tab_0_isAllowed X) 0 = some (false, a_aload 0 1) ∧ tget (tab_0_isAllowed X) 1 = some (false, a_gr 0 3 4) ∧ tget (tab_0_isAllowed X) 4 = some (false, a_const 0 5) ∧ tget (tab_0_isAllowed X) 5 = some (false, a_ald false 6) ∧ tget (tab_0_isAllowed X) 6 = some (false, a_const (-1) 7) ∧ tget (tab_0_isAllowed X) 7 = some (false, a_icmp 0 14 10) ∧ tget (tab_0_isAllowed X) 10 = some (false, a_const 1 11) ∧ tget (tab_0_isAllowed X) 11 = some (false, a_goto 15) ∧ tget (tab_0_isAllowed X) 14 = some (false, a_const 0 15) ∧ tget (tab_0_isAllowed X) 15 = some (false, a_zret M_0_isAllowed) := ⟨rfl, rfl, rfl, rfl, rfl, rfl, rfl, rfl, rfl, rfl⟩
theorem tok_0_isAllowed (X : XT) : TabOK X M_0_isAllowed (tab_0_isAllowed X) := by
  unfold tab_0_isAllowed
  refine tok_cons (snd_aload_n dX0_isAllowed_0 rfl rfl) ?_
  refine tok_cons (snd_gr (C := RX0) (T := TX0) (N := 7) dX0_isAllowed_1 rfl (by decide) rfl wf0_15 inX0 rfl) ?_
  refine tok_cons (snd_iconst dX0_isAllowed_4 rfl (inr_d rfl) rfl) ?_
  refine tok_cons (snd_iald dX0_isAllowed_5 rfl) ?_
  refine tok_cons (snd_iconst dX0_isAllowed_6 rfl (inr_d rfl) rfl) ?_
  refine tok_cons (snd_icmp_eq dX0_isAllowed_7 (by decide) rfl) ?_
  refine tok_cons (snd_iconst dX0_isAllowed_10 rfl (inr_d rfl) rfl) ?_
  refine tok_cons (snd_goto dX0_isAllowed_11 (by decide)) ?_
  refine tok_cons (snd_iconst dX0_isAllowed_14 rfl (inr_d rfl) rfl) ?_
  refine tok_cons (snd_zret dX0_isAllowed_15 rfl) ?_
  exact tok_nil
def tab_1_notes (X : XT) : Tab := [(0, false, a_iload 1 1), (1, false, a_if 1 11 4), (4, false, a_aload 0 5), (5, false, a_gr 1 2 8), (8, false, a_goto 15), (11, false, a_aload 0 12), (12, false, a_gr 1 3 15), (15, false, a_aret M_1_notes)]
set_option maxRecDepth 20000 in
theorem t_1_notes (X : XT) : tget (tab_1_notes X) 0 = some (false, a_iload 1 1) ∧ tget (tab_1_notes X) 1 = some (false, a_if 1 11 4) ∧ tget (tab_1_notes X) 4 = some (false, a_aload 0 5) ∧ tget (tab_1_notes X) 5 = some (false, a_gr 1 2 8) ∧ tget (tab_1_notes X) 8 = some (false, a_goto 15) ∧ tget (tab_1_notes X) 11 = some (false, a_aload 0 12) ∧ tget (tab_1_notes X) 12 = some (false, a_gr 1 3 15) ∧ tget (tab_1_notes X) 15 = some (false, a_aret M_1_notes) := ⟨rfl, rfl, rfl, rfl, rfl, rfl, rfl, rfl⟩
theorem tok_1_notes (X : XT) : TabOK X M_1_notes (tab_1_notes X) := by
  unfold tab_1_notes
  refine tok_cons (snd_iload_n dX1_notes_0 rfl rfl) ?_
  refine tok_cons (snd_if_ne dX1_notes_1 (by decide) rfl) ?_
  refine tok_cons (snd_aload_n dX1_notes_4 rfl rfl) ?_
  refine tok_cons (snd_gr (C := RX1) (T := TX1) (N := 5) dX1_notes_5 rfl (by decide) rfl wf1_19 inX1 rfl) ?_
  refine tok_cons (snd_goto dX1_notes_8 (by decide)) ?_
  refine tok_cons (snd_aload_n dX1_notes_11 rfl rfl) ?_
  refine tok_cons (snd_gr (C := RX1) (T := TX1) (N := 5) dX1_notes_12 rfl (by decide) rfl wf1_23 inX1 rfl) ?_
  refine tok_cons (snd_aret dX1_notes_15 rfl (Or.inl ⟨_, rfl⟩)) ?_
  exact tok_nil
def tab_2_turn (X : XT) : Tab := [(0, false, a_aload 0 1), (1, false, a_gr 2 0 4), (4, false, a_iload 1 5), (5, false, a_const 0 6), (6, false, a_ast false 7), (7, false, a_aload 0 8), (8, false, a_gr 2 1 11), (11, false, a_iload 1 12), (12, false, a_const 0 13), (13, false, a_ast false 14), (14, false, a_aload 0 15), (15, false, a_gr 2 2 18), (18, false, a_iload 1 19), (19, false, a_iload 2 20), (20, false, a_ast false 21), (21, false, a_aload 0 22), (22, false, a_gr 2 3 25), (25, false, a_iload 1 26), (26, false, a_iload 3 27), (27, false, a_ast false 28), (28, false, a_aload 0 29), (29, false, a_gr 2 4 32), (32, false, a_iload 1 33), (33, false, a_const 0 34), (34, false, a_ast false 35), (35, false, a_aload 0 36), (36, false, a_gr 2 5 39), (39, false, a_iload 1 40), (40, false, a_const 0 41), (41, false, a_ast false 42), (42, false, a_aload 0 43), (43, false, a_gr 2 6 46), (46, false, a_iload 1 47), (47, false, a_const 0 48), (48, false, a_ast false 49), (49, false, a_ret M_2_turn)]
set_option maxRecDepth 20000 in
theorem t_2_turn (X : XT) : tget (tab_2_turn X) 0 = some (false, a_aload 0 1) ∧ tget (tab_2_turn X) 1 = some (false, a_gr 2 0 4) ∧ tget (tab_2_turn X) 4 = some (false, a_iload 1 5) ∧ tget (tab_2_turn X) 5 = some (false, a_const 0 6) ∧ tget (tab_2_turn X) 6 = some (false, a_ast false 7) ∧ tget (tab_2_turn X) 7 = some (false, a_aload 0 8) ∧ tget (tab_2_turn X) 8 = some (false, a_gr 2 1 11) ∧ tget (tab_2_turn X) 11 = some (false, a_iload 1 12) ∧ tget (tab_2_turn X) 12 = some (false, a_const 0 13) ∧ tget (tab_2_turn X) 13 = some (false, a_ast false 14) ∧ tget (tab_2_turn X) 14 = some (false, a_aload 0 15) ∧ tget (tab_2_turn X) 15 = some (false, a_gr 2 2 18) ∧ tget (tab_2_turn X) 18 = some (false, a_iload 1 19) ∧ tget (tab_2_turn X) 19 = some (false, a_iload 2 20) ∧ tget (tab_2_turn X) 20 = some (false, a_ast false 21) ∧ tget (tab_2_turn X) 21 = some (false, a_aload 0 22) ∧ tget (tab_2_turn X) 22 = some (false, a_gr 2 3 25) ∧ tget (tab_2_turn X) 25 = some (false, a_iload 1 26) ∧ tget (tab_2_turn X) 26 = some (false, a_iload 3 27) ∧ tget (tab_2_turn X) 27 = some (false, a_ast false 28) ∧ tget (tab_2_turn X) 28 = some (false, a_aload 0 29) ∧ tget (tab_2_turn X) 29 = some (false, a_gr 2 4 32) ∧ tget (tab_2_turn X) 32 = some (false, a_iload 1 33) ∧ tget (tab_2_turn X) 33 = some (false, a_const 0 34) ∧ tget (tab_2_turn X) 34 = some (false, a_ast false 35) ∧ tget (tab_2_turn X) 35 = some (false, a_aload 0 36) ∧ tget (tab_2_turn X) 36 = some (false, a_gr 2 5 39) ∧ tget (tab_2_turn X) 39 = some (false, a_iload 1 40) ∧ tget (tab_2_turn X) 40 = some (false, a_const 0 41) ∧ tget (tab_2_turn X) 41 = some (false, a_ast false 42) ∧ tget (tab_2_turn X) 42 = some (false, a_aload 0 43) ∧ tget (tab_2_turn X) 43 = some (false, a_gr 2 6 46) ∧ tget (tab_2_turn X) 46 = some (false, a_iload 1 47) ∧ tget (tab_2_turn X) 47 = some (false, a_const 0 48) ∧ tget (tab_2_turn X) 48 = some (false, a_ast false 49) ∧ tget (tab_2_turn X) 49 = some (false, a_ret M_2_turn) := ⟨rfl, rfl, rfl, rfl, rfl, rfl, rfl, rfl, rfl, rfl, rfl, rfl, rfl, rfl, rfl, rfl, rfl, rfl, rfl, rfl, rfl, rfl, rfl, rfl, rfl, rfl, rfl, rfl, rfl, rfl, rfl, rfl, rfl, rfl, rfl, rfl⟩
theorem tok_2_turn (X : XT) : TabOK X M_2_turn (tab_2_turn X) := by
  unfold tab_2_turn
  refine tok_cons (snd_aload_n dX2_turn_0 rfl rfl) ?_
  refine tok_cons (snd_gr (C := RX2) (T := TX2) (N := 7) dX2_turn_1 rfl (by decide) rfl wf2_9 inX2 rfl) ?_
  refine tok_cons (snd_iload_n dX2_turn_4 rfl rfl) ?_
  refine tok_cons (snd_iconst dX2_turn_5 rfl (inr_d rfl) rfl) ?_
  refine tok_cons (snd_iast dX2_turn_6 rfl) ?_
  refine tok_cons (snd_aload_n dX2_turn_7 rfl rfl) ?_
  refine tok_cons (snd_gr (C := RX2) (T := TX2) (N := 7) dX2_turn_8 rfl (by decide) rfl wf2_15 inX2 rfl) ?_
  refine tok_cons (snd_iload_n dX2_turn_11 rfl rfl) ?_
  refine tok_cons (snd_iconst dX2_turn_12 rfl (inr_d rfl) rfl) ?_
  refine tok_cons (snd_iast dX2_turn_13 rfl) ?_
  refine tok_cons (snd_aload_n dX2_turn_14 rfl rfl) ?_
  refine tok_cons (snd_gr (C := RX2) (T := TX2) (N := 7) dX2_turn_15 rfl (by decide) rfl wf2_18 inX2 rfl) ?_
  refine tok_cons (snd_iload_n dX2_turn_18 rfl rfl) ?_
  refine tok_cons (snd_iload_n dX2_turn_19 rfl rfl) ?_
  refine tok_cons (snd_iast dX2_turn_20 rfl) ?_
  refine tok_cons (snd_aload_n dX2_turn_21 rfl rfl) ?_
  refine tok_cons (snd_gr (C := RX2) (T := TX2) (N := 7) dX2_turn_22 rfl (by decide) rfl wf2_21 inX2 rfl) ?_
  refine tok_cons (snd_iload_n dX2_turn_25 rfl rfl) ?_
  refine tok_cons (snd_iload_n dX2_turn_26 rfl rfl) ?_
  refine tok_cons (snd_iast dX2_turn_27 rfl) ?_
  refine tok_cons (snd_aload_n dX2_turn_28 rfl rfl) ?_
  refine tok_cons (snd_gr (C := RX2) (T := TX2) (N := 7) dX2_turn_29 rfl (by decide) rfl wf2_24 inX2 rfl) ?_
  refine tok_cons (snd_iload_n dX2_turn_32 rfl rfl) ?_
  refine tok_cons (snd_iconst dX2_turn_33 rfl (inr_d rfl) rfl) ?_
  refine tok_cons (snd_iast dX2_turn_34 rfl) ?_
  refine tok_cons (snd_aload_n dX2_turn_35 rfl rfl) ?_
  refine tok_cons (snd_gr (C := RX2) (T := TX2) (N := 7) dX2_turn_36 rfl (by decide) rfl wf2_27 inX2 rfl) ?_
  refine tok_cons (snd_iload_n dX2_turn_39 rfl rfl) ?_
  refine tok_cons (snd_iconst dX2_turn_40 rfl (inr_d rfl) rfl) ?_
  refine tok_cons (snd_iast dX2_turn_41 rfl) ?_
  refine tok_cons (snd_aload_n dX2_turn_42 rfl rfl) ?_
  refine tok_cons (snd_gr (C := RX2) (T := TX2) (N := 7) dX2_turn_43 rfl (by decide) rfl wf2_30 inX2 rfl) ?_
  refine tok_cons (snd_iload_n dX2_turn_46 rfl rfl) ?_
  refine tok_cons (snd_iconst dX2_turn_47 rfl (inr_d rfl) rfl) ?_
  refine tok_cons (snd_iast dX2_turn_48 rfl) ?_
  refine tok_cons (snd_ret dX2_turn_49 rfl) ?_
  exact tok_nil
def tab_2_copyFrom (X : XT) : Tab := [(0, false, a_aload 1 1), (1, false, a_gr 2 0 4), (4, false, a_const 0 5), (5, false, a_aload 0 6), (6, false, a_gr 2 0 9), (9, false, a_const 0 10), (10, false, a_const 2 11), (11, false, a_copy 14), (14, false, a_aload 1 15), (15, false, a_gr 2 1 18), (18, false, a_const 0 19), (19, false, a_aload 0 20), (20, false, a_gr 2 1 23), (23, false, a_const 0 24), (24, false, a_const 2 25), (25, false, a_copy 28), (28, false, a_aload 1 29), (29, false, a_gr 2 2 32), (32, false, a_const 0 33), (33, false, a_aload 0 34), (34, false, a_gr 2 2 37), (37, false, a_const 0 38), (38, false, a_const 2 39), (39, false, a_copy 42), (42, false, a_aload 1 43), (43, false, a_gr 2 3 46), (46, false, a_const 0 47), (47, false, a_aload 0 48), (48, false, a_gr 2 3 51), (51, false, a_const 0 52), (52, false, a_const 2 53), (53, false, a_copy 56), (56, false, a_aload 1 57), (57, false, a_gr 2 4 60), (60, false, a_const 0 61), (61, false, a_aload 0 62), (62, false, a_gr 2 4 65), (65, false, a_const 0 66), (66, false, a_const 2 67), (67, false, a_copy 70), (70, false, a_aload 1 71), (71, false, a_gr 2 5 74), (74, false, a_const 0 75), (75, false, a_aload 0 76), (76, false, a_gr 2 5 79), (79, false, a_const 0 80), (80, false, a_const 2 81), (81, false, a_copy 84), (84, false, a_aload 1 85), (85, false, a_gr 2 6 88), (88, false, a_const 0 89), (89, false, a_aload 0 90), (90, false, a_gr 2 6 93), (93, false, a_const 0 94), (94, false, a_const 2 95), (95, false, a_copy 98), (98, false, a_ret M_2_copyFrom)]
set_option maxRecDepth 20000 in
theorem t_2_copyFrom (X : XT) : tget (tab_2_copyFrom X) 0 = some (false, a_aload 1 1) ∧ tget (tab_2_copyFrom X) 1 = some (false, a_gr 2 0 4) ∧ tget (tab_2_copyFrom X) 4 = some (false, a_const 0 5) ∧ tget (tab_2_copyFrom X) 5 = some (false, a_aload 0 6) ∧ tget (tab_2_copyFrom X) 6 = some (false, a_gr 2 0 9) ∧ tget (tab_2_copyFrom X) 9 = some (false, a_const 0 10) ∧ tget (tab_2_copyFrom X) 10 = some (false, a_const 2 11) ∧ tget (tab_2_copyFrom X) 11 = some (false, a_copy 14) ∧ tget (tab_2_copyFrom X) 14 = some (false, a_aload 1 15) ∧ tget (tab_2_copyFrom X) 15 = some (false, a_gr 2 1 18) ∧ tget (tab_2_copyFrom X) 18 = some (false, a_const 0 19) ∧ tget (tab_2_copyFrom X) 19 = some (false, a_aload 0 20) ∧ tget (tab_2_copyFrom X) 20 = some (false, a_gr 2 1 23) ∧ tget (tab_2_copyFrom X) 23 = some (false, a_const 0 24) ∧ tget (tab_2_copyFrom X) 24 = some (false, a_const 2 25) ∧ tget (tab_2_copyFrom X) 25 = some (false, a_copy 28) ∧ tget (tab_2_copyFrom X) 28 = some (false, a_aload 1 29) ∧ tget (tab_2_copyFrom X) 29 = some (false, a_gr 2 2 32) ∧ tget (tab_2_copyFrom X) 32 = some (false, a_const 0 33) ∧ tget (tab_2_copyFrom X) 33 = some (false, a_aload 0 34) ∧ tget (tab_2_copyFrom X) 34 = some (false, a_gr 2 2 37) ∧ tget (tab_2_copyFrom X) 37 = some (false, a_const 0 38) ∧ tget (tab_2_copyFrom X) 38 = some (false, a_const 2 39) ∧ tget (tab_2_copyFrom X) 39 = some (false, a_copy 42) ∧ tget (tab_2_copyFrom X) 42 = some (false, a_aload 1 43) ∧ tget (tab_2_copyFrom X) 43 = some (false, a_gr 2 3 46) ∧ tget (tab_2_copyFrom X) 46 = some (false, a_const 0 47) ∧ tget (tab_2_copyFrom X) 47 = some (false, a_aload 0 48) ∧ tget (tab_2_copyFrom X) 48 = some (false, a_gr 2 3 51) ∧ tget (tab_2_copyFrom X) 51 = some (false, a_const 0 52) ∧ tget (tab_2_copyFrom X) 52 = some (false, a_const 2 53) ∧ tget (tab_2_copyFrom X) 53 = some (false, a_copy 56) ∧ tget (tab_2_copyFrom X) 56 = some (false, a_aload 1 57) ∧ tget (tab_2_copyFrom X) 57 = some (false, a_gr 2 4 60) ∧ tget (tab_2_copyFrom X) 60 = some (false, a_const 0 61) ∧ tget (tab_2_copyFrom X) 61 = some (false, a_aload 0 62) ∧ tget (tab_2_copyFrom X) 62 = some (false, a_gr 2 4 65) ∧ tget (tab_2_copyFrom X) 65 = some (false, a_const 0 66) ∧ tget (tab_2_copyFrom X) 66 = some (false, a_const 2 67) ∧ tget (tab_2_copyFrom X) 67 = some (false, a_copy 70) ∧ tget (tab_2_copyFrom X) 70 = some (false, a_aload 1 71) ∧ tget (tab_2_copyFrom X) 71 = some (false, a_gr 2 5 74) ∧ tget (tab_2_copyFrom X) 74 = some (false, a_const 0 75) ∧ tget (tab_2_copyFrom X) 75 = some (false, a_aload 0 76) ∧ tget (tab_2_copyFrom X) 76 = some (false, a_gr 2 5 79) ∧ tget (tab_2_copyFrom X) 79 = some (false, a_const 0 80) ∧ tget (tab_2_copyFrom X) 80 = some (false, a_const 2 81) ∧ tget (tab_2_copyFrom X) 81 = some (false, a_copy 84) ∧ tget (tab_2_copyFrom X) 84 = some (false, a_aload 1 85) ∧ tget (tab_2_copyFrom X) 85 = some (false, a_gr 2 6 88) ∧ tget (tab_2_copyFrom X) 88 = some (false, a_const 0 89) ∧ tget (tab_2_copyFrom X) 89 = some (false, a_aload 0 90) ∧ tget (tab_2_copyFrom X) 90 = some (false, a_gr 2 6 93) ∧ tget (tab_2_copyFrom X) 93 = some (false, a_const 0 94) ∧ tget (tab_2_copyFrom X) 94 = some (false, a_const 2 95) ∧ tget (tab_2_copyFrom X) 95 = some (false, a_copy 98) ∧ tget (tab_2_copyFrom X) 98 = some (false, a_ret M_2_copyFrom) := ⟨rfl, rfl, rfl, rfl, rfl, rfl, rfl, rfl, rfl, rfl, rfl, rfl, rfl, rfl, rfl, rfl, rfl, rfl, rfl, rfl, rfl, rfl, rfl, rfl, rfl, rfl, rfl, rfl, rfl, rfl, rfl, rfl, rfl, rfl, rfl, rfl, rfl, rfl, rfl, rfl, rfl, rfl, rfl, rfl, rfl, rfl, rfl, rfl, rfl, rfl, rfl, rfl, rfl, rfl, rfl, rfl, rfl⟩
theorem tok_2_copyFrom (X : XT) : TabOK X M_2_copyFrom (tab_2_copyFrom X) := by
  unfold tab_2_copyFrom
  refine tok_cons (snd_aload_n dX2_copyFrom_0 rfl rfl) ?_
  refine tok_cons (snd_gr (C := RX2) (T := TX2) (N := 7) dX2_copyFrom_1 rfl (by decide) rfl wf2_9 inX2 rfl) ?_
  refine tok_cons (snd_iconst dX2_copyFrom_4 rfl (inr_d rfl) rfl) ?_
  refine tok_cons (snd_aload_n dX2_copyFrom_5 rfl rfl) ?_
  refine tok_cons (snd_gr (C := RX2) (T := TX2) (N := 7) dX2_copyFrom_6 rfl (by decide) rfl wf2_9 inX2 rfl) ?_
  refine tok_cons (snd_iconst dX2_copyFrom_9 rfl (inr_d rfl) rfl) ?_
  refine tok_cons (snd_iconst dX2_copyFrom_10 rfl (inr_d rfl) rfl) ?_
  refine tok_cons (snd_copy dX2_copyFrom_11 wm2_33 wnat ws_acopy wn_Sys (by decide) rfl) ?_
  refine tok_cons (snd_aload_n dX2_copyFrom_14 rfl rfl) ?_
  refine tok_cons (snd_gr (C := RX2) (T := TX2) (N := 7) dX2_copyFrom_15 rfl (by decide) rfl wf2_15 inX2 rfl) ?_
  refine tok_cons (snd_iconst dX2_copyFrom_18 rfl (inr_d rfl) rfl) ?_
  refine tok_cons (snd_aload_n dX2_copyFrom_19 rfl rfl) ?_
  refine tok_cons (snd_gr (C := RX2) (T := TX2) (N := 7) dX2_copyFrom_20 rfl (by decide) rfl wf2_15 inX2 rfl) ?_
  refine tok_cons (snd_iconst dX2_copyFrom_23 rfl (inr_d rfl) rfl) ?_
  refine tok_cons (snd_iconst dX2_copyFrom_24 rfl (inr_d rfl) rfl) ?_
  refine tok_cons (snd_copy dX2_copyFrom_25 wm2_33 wnat ws_acopy wn_Sys (by decide) rfl) ?_
  refine tok_cons (snd_aload_n dX2_copyFrom_28 rfl rfl) ?_
  refine tok_cons (snd_gr (C := RX2) (T := TX2) (N := 7) dX2_copyFrom_29 rfl (by decide) rfl wf2_18 inX2 rfl) ?_
  refine tok_cons (snd_iconst dX2_copyFrom_32 rfl (inr_d rfl) rfl) ?_
  refine tok_cons (snd_aload_n dX2_copyFrom_33 rfl rfl) ?_
  refine tok_cons (snd_gr (C := RX2) (T := TX2) (N := 7) dX2_copyFrom_34 rfl (by decide) rfl wf2_18 inX2 rfl) ?_
  refine tok_cons (snd_iconst dX2_copyFrom_37 rfl (inr_d rfl) rfl) ?_
  refine tok_cons (snd_iconst dX2_copyFrom_38 rfl (inr_d rfl) rfl) ?_
  refine tok_cons (snd_copy dX2_copyFrom_39 wm2_33 wnat ws_acopy wn_Sys (by decide) rfl) ?_
  refine tok_cons (snd_aload_n dX2_copyFrom_42 rfl rfl) ?_
  refine tok_cons (snd_gr (C := RX2) (T := TX2) (N := 7) dX2_copyFrom_43 rfl (by decide) rfl wf2_21 inX2 rfl) ?_
  refine tok_cons (snd_iconst dX2_copyFrom_46 rfl (inr_d rfl) rfl) ?_
  refine tok_cons (snd_aload_n dX2_copyFrom_47 rfl rfl) ?_
  refine tok_cons (snd_gr (C := RX2) (T := TX2) (N := 7) dX2_copyFrom_48 rfl (by decide) rfl wf2_21 inX2 rfl) ?_
  refine tok_cons (snd_iconst dX2_copyFrom_51 rfl (inr_d rfl) rfl) ?_
  refine tok_cons (snd_iconst dX2_copyFrom_52 rfl (inr_d rfl) rfl) ?_
  refine tok_cons (snd_copy dX2_copyFrom_53 wm2_33 wnat ws_acopy wn_Sys (by decide) rfl) ?_
  refine tok_cons (snd_aload_n dX2_copyFrom_56 rfl rfl) ?_
  refine tok_cons (snd_gr (C := RX2) (T := TX2) (N := 7) dX2_copyFrom_57 rfl (by decide) rfl wf2_24 inX2 rfl) ?_
  refine tok_cons (snd_iconst dX2_copyFrom_60 rfl (inr_d rfl) rfl) ?_
  refine tok_cons (snd_aload_n dX2_copyFrom_61 rfl rfl) ?_
  refine tok_cons (snd_gr (C := RX2) (T := TX2) (N := 7) dX2_copyFrom_62 rfl (by decide) rfl wf2_24 inX2 rfl) ?_
  refine tok_cons (snd_iconst dX2_copyFrom_65 rfl (inr_d rfl) rfl) ?_
  refine tok_cons (snd_iconst dX2_copyFrom_66 rfl (inr_d rfl) rfl) ?_
  refine tok_cons (snd_copy dX2_copyFrom_67 wm2_33 wnat ws_acopy wn_Sys (by decide) rfl) ?_
  refine tok_cons (snd_aload_n dX2_copyFrom_70 rfl rfl) ?_
  refine tok_cons (snd_gr (C := RX2) (T := TX2) (N := 7) dX2_copyFrom_71 rfl (by decide) rfl wf2_27 inX2 rfl) ?_
  refine tok_cons (snd_iconst dX2_copyFrom_74 rfl (inr_d rfl) rfl) ?_
  refine tok_cons (snd_aload_n dX2_copyFrom_75 rfl rfl) ?_
  refine tok_cons (snd_gr (C := RX2) (T := TX2) (N := 7) dX2_copyFrom_76 rfl (by decide) rfl wf2_27 inX2 rfl) ?_
  refine tok_cons (snd_iconst dX2_copyFrom_79 rfl (inr_d rfl) rfl) ?_
  refine tok_cons (snd_iconst dX2_copyFrom_80 rfl (inr_d rfl) rfl) ?_
  refine tok_cons (snd_copy dX2_copyFrom_81 wm2_33 wnat ws_acopy wn_Sys (by decide) rfl) ?_
  refine tok_cons (snd_aload_n dX2_copyFrom_84 rfl rfl) ?_
  refine tok_cons (snd_gr (C := RX2) (T := TX2) (N := 7) dX2_copyFrom_85 rfl (by decide) rfl wf2_30 inX2 rfl) ?_
  refine tok_cons (snd_iconst dX2_copyFrom_88 rfl (inr_d rfl) rfl) ?_
  refine tok_cons (snd_aload_n dX2_copyFrom_89 rfl rfl) ?_
  refine tok_cons (snd_gr (C := RX2) (T := TX2) (N := 7) dX2_copyFrom_90 rfl (by decide) rfl wf2_30 inX2 rfl) ?_
  refine tok_cons (snd_iconst dX2_copyFrom_93 rfl (inr_d rfl) rfl) ?_
  refine tok_cons (snd_iconst dX2_copyFrom_94 rfl (inr_d rfl) rfl) ?_
  refine tok_cons (snd_copy dX2_copyFrom_95 wm2_33 wnat ws_acopy wn_Sys (by decide) rfl) ?_
  refine tok_cons (snd_ret dX2_copyFrom_98 rfl) ?_
  exact tok_nil
def tab_2_noteRows (X : XT) : Tab := [(0, false, a_aload 0 1), (1, false, a_gr 2 2 4), (4, false, a_iload 1 5), (5, false, a_ald false 6), (6, false, a_aload 0 7), (7, false, a_gr 2 5 10), (10, false, a_iload 1 11), (11, false, a_ald false 12), (12, false, a_add 13), (13, false, a_iload 3 14), (14, false, a_sub 15), (15, false, a_istore 4 17), (17, false, a_iload 4 19), (19, false, a_if 5 29 22), (22, false, a_iload 2 23), (23, false, a_iload 4 25), (25, false, a_add 26), (26, false, a_goto 30), (29, false, a_const 0 30), (30, false, a_iret M_2_noteRows)]
set_option maxRecDepth 20000 in
theorem t_2_noteRows (X : XT) : tget (tab_2_noteRows X) 0 = some (false, a_aload 0 1) ∧ tget (tab_2_noteRows X) 1 = some (false, a_gr 2 2 4) ∧ tget (tab_2_noteRows X) 4 = some (false, a_iload 1 5) ∧ tget (tab_2_noteRows X) 5 = some (false, a_ald false 6) ∧ tget (tab_2_noteRows X) 6 = some (false, a_aload 0 7) ∧ tget (tab_2_noteRows X) 7 = some (false, a_gr 2 5 10) ∧ tget (tab_2_noteRows X) 10 = some (false, a_iload 1 11) ∧ tget (tab_2_noteRows X) 11 = some (false, a_ald false 12) ∧ tget (tab_2_noteRows X) 12 = some (false, a_add 13) ∧ tget (tab_2_noteRows X) 13 = some (false, a_iload 3 14) ∧ tget (tab_2_noteRows X) 14 = some (false, a_sub 15) ∧ tget (tab_2_noteRows X) 15 = some (false, a_istore 4 17) ∧ tget (tab_2_noteRows X) 17 = some (false, a_iload 4 19) ∧ tget (tab_2_noteRows X) 19 = some (false, a_if 5 29 22) ∧ tget (tab_2_noteRows X) 22 = some (false, a_iload 2 23) ∧ tget (tab_2_noteRows X) 23 = some (false, a_iload 4 25) ∧ tget (tab_2_noteRows X) 25 = some (false, a_add 26) ∧ tget (tab_2_noteRows X) 26 = some (false, a_goto 30) ∧ tget (tab_2_noteRows X) 29 = some (false, a_const 0 30) ∧ tget (tab_2_noteRows X) 30 = some (false, a_iret M_2_noteRows) := ⟨rfl, rfl, rfl, rfl, rfl, rfl, rfl, rfl, rfl, rfl, rfl, rfl, rfl, rfl, rfl, rfl, rfl, rfl, rfl, rfl⟩
theorem tok_2_noteRows (X : XT) : TabOK X M_2_noteRows (tab_2_noteRows X) := by
  unfold tab_2_noteRows
  refine tok_cons (snd_aload_n dX2_noteRows_0 rfl rfl) ?_
  refine tok_cons (snd_gr (C := RX2) (T := TX2) (N := 7) dX2_noteRows_1 rfl (by decide) rfl wf2_18 inX2 rfl) ?_
  refine tok_cons (snd_iload_n dX2_noteRows_4 rfl rfl) ?_
  refine tok_cons (snd_iald dX2_noteRows_5 rfl) ?_
  refine tok_cons (snd_aload_n dX2_noteRows_6 rfl rfl) ?_
  refine tok_cons (snd_gr (C := RX2) (T := TX2) (N := 7) dX2_noteRows_7 rfl (by decide) rfl wf2_27 inX2 rfl) ?_
  refine tok_cons (snd_iload_n dX2_noteRows_10 rfl rfl) ?_
  refine tok_cons (snd_iald dX2_noteRows_11 rfl) ?_
  refine tok_cons (snd_add dX2_noteRows_12 rfl) ?_
  refine tok_cons (snd_iload_n dX2_noteRows_13 rfl rfl) ?_
  refine tok_cons (snd_sub dX2_noteRows_14 rfl) ?_
  refine tok_cons (snd_istore dX2_noteRows_15 rfl (by decide)) ?_
  refine tok_cons (snd_iload dX2_noteRows_17 rfl) ?_
  refine tok_cons (snd_if_le dX2_noteRows_19 (by decide) rfl) ?_
  refine tok_cons (snd_iload_n dX2_noteRows_22 rfl rfl) ?_
  refine tok_cons (snd_iload dX2_noteRows_23 rfl) ?_
  refine tok_cons (snd_add dX2_noteRows_25 rfl) ?_
  refine tok_cons (snd_goto dX2_noteRows_26 (by decide)) ?_
  refine tok_cons (snd_iconst dX2_noteRows_29 rfl (inr_d rfl) rfl) ?_
  refine tok_cons (snd_iret dX2_noteRows_30 rfl) ?_
  exact tok_nil
def tab_2_mostCarried (X : XT) : Tab := [(0, false, a_const 0 1), (1, false, a_iload 2 2), (2, false, a_aload 0 3), (3, false, a_gr 2 6 6), (6, false, a_iload 1 7), (7, false, a_ald false 8), (8, false, a_const 1 9), (9, false, a_sub 10), (10, false, a_min M_2_mostCarried 13), (13, false, a_max M_2_mostCarried 16), (16, false, a_iret M_2_mostCarried)]
set_option maxRecDepth 20000 in
theorem t_2_mostCarried (X : XT) : tget (tab_2_mostCarried X) 0 = some (false, a_const 0 1) ∧ tget (tab_2_mostCarried X) 1 = some (false, a_iload 2 2) ∧ tget (tab_2_mostCarried X) 2 = some (false, a_aload 0 3) ∧ tget (tab_2_mostCarried X) 3 = some (false, a_gr 2 6 6) ∧ tget (tab_2_mostCarried X) 6 = some (false, a_iload 1 7) ∧ tget (tab_2_mostCarried X) 7 = some (false, a_ald false 8) ∧ tget (tab_2_mostCarried X) 8 = some (false, a_const 1 9) ∧ tget (tab_2_mostCarried X) 9 = some (false, a_sub 10) ∧ tget (tab_2_mostCarried X) 10 = some (false, a_min M_2_mostCarried 13) ∧ tget (tab_2_mostCarried X) 13 = some (false, a_max M_2_mostCarried 16) ∧ tget (tab_2_mostCarried X) 16 = some (false, a_iret M_2_mostCarried) := ⟨rfl, rfl, rfl, rfl, rfl, rfl, rfl, rfl, rfl, rfl, rfl⟩
theorem tok_2_mostCarried (X : XT) : TabOK X M_2_mostCarried (tab_2_mostCarried X) := by
  unfold tab_2_mostCarried
  refine tok_cons (snd_iconst dX2_mostCarried_0 rfl (inr_d rfl) rfl) ?_
  refine tok_cons (snd_iload_n dX2_mostCarried_1 rfl rfl) ?_
  refine tok_cons (snd_aload_n dX2_mostCarried_2 rfl rfl) ?_
  refine tok_cons (snd_gr (C := RX2) (T := TX2) (N := 7) dX2_mostCarried_3 rfl (by decide) rfl wf2_30 inX2 rfl) ?_
  refine tok_cons (snd_iload_n dX2_mostCarried_6 rfl rfl) ?_
  refine tok_cons (snd_iald dX2_mostCarried_7 rfl) ?_
  refine tok_cons (snd_iconst dX2_mostCarried_8 rfl (inr_d rfl) rfl) ?_
  refine tok_cons (snd_sub dX2_mostCarried_9 rfl) ?_
  refine tok_cons (snd_min dX2_mostCarried_10 wm2_75 ws_min wn_Math wc_min (by decide) rfl) ?_
  refine tok_cons (snd_max dX2_mostCarried_13 wm2_69 ws_max wn_Math wc_max (by decide) rfl) ?_
  refine tok_cons (snd_iret dX2_mostCarried_16 rfl) ?_
  exact tok_nil
def tab_4_endBefore (X : XT) : Tab := [(0, false, a_aload 0 1), (1, false, a_gr 4 1 4), (4, false, a_const 0 5), (5, false, a_aald 6), (6, false, a_astore 4 8), (8, false, a_iload 1 9), (9, false, a_istore 5 11), (11, true, a_iload 5 13), (13, false, a_aload 0 14), (14, false, a_gi 4 0 0 17), (17, false, a_icmp 3 57 20), (20, false, a_aload 4 22), (22, false, a_iload 5 24), (24, false, a_ald false 25), (25, false, a_iload 2 26), (26, false, a_icmp 2 51 29), (29, false, a_aload 4 31), (31, false, a_iload 5 33), (33, false, a_ald false 34), (34, false, a_iload 2 35), (35, false, a_icmp 1 57 38), (38, false, a_aload 0 39), (39, false, a_gr 4 1 42), (42, false, a_const 1 43), (43, false, a_aald 44), (44, false, a_iload 5 46), (46, false, a_ald false 47), (47, false, a_iload 3 48), (48, false, a_icmp 3 57 51), (51, false, a_iinc 5 1 54), (54, false, a_goto 11), (57, false, a_iload 5 59), (59, false, a_iret M_4_endBefore)]
set_option maxRecDepth 20000 in
theorem t_4_endBefore (X : XT) : tget (tab_4_endBefore X) 0 = some (false, a_aload 0 1) ∧ tget (tab_4_endBefore X) 1 = some (false, a_gr 4 1 4) ∧ tget (tab_4_endBefore X) 4 = some (false, a_const 0 5) ∧ tget (tab_4_endBefore X) 5 = some (false, a_aald 6) ∧ tget (tab_4_endBefore X) 6 = some (false, a_astore 4 8) ∧ tget (tab_4_endBefore X) 8 = some (false, a_iload 1 9) ∧ tget (tab_4_endBefore X) 9 = some (false, a_istore 5 11) ∧ tget (tab_4_endBefore X) 11 = some (true, a_iload 5 13) ∧ tget (tab_4_endBefore X) 13 = some (false, a_aload 0 14) ∧ tget (tab_4_endBefore X) 14 = some (false, a_gi 4 0 0 17) ∧ tget (tab_4_endBefore X) 17 = some (false, a_icmp 3 57 20) ∧ tget (tab_4_endBefore X) 20 = some (false, a_aload 4 22) ∧ tget (tab_4_endBefore X) 22 = some (false, a_iload 5 24) ∧ tget (tab_4_endBefore X) 24 = some (false, a_ald false 25) ∧ tget (tab_4_endBefore X) 25 = some (false, a_iload 2 26) ∧ tget (tab_4_endBefore X) 26 = some (false, a_icmp 2 51 29) ∧ tget (tab_4_endBefore X) 29 = some (false, a_aload 4 31) ∧ tget (tab_4_endBefore X) 31 = some (false, a_iload 5 33) ∧ tget (tab_4_endBefore X) 33 = some (false, a_ald false 34) ∧ tget (tab_4_endBefore X) 34 = some (false, a_iload 2 35) ∧ tget (tab_4_endBefore X) 35 = some (false, a_icmp 1 57 38) ∧ tget (tab_4_endBefore X) 38 = some (false, a_aload 0 39) ∧ tget (tab_4_endBefore X) 39 = some (false, a_gr 4 1 42) ∧ tget (tab_4_endBefore X) 42 = some (false, a_const 1 43) ∧ tget (tab_4_endBefore X) 43 = some (false, a_aald 44) ∧ tget (tab_4_endBefore X) 44 = some (false, a_iload 5 46) ∧ tget (tab_4_endBefore X) 46 = some (false, a_ald false 47) ∧ tget (tab_4_endBefore X) 47 = some (false, a_iload 3 48) ∧ tget (tab_4_endBefore X) 48 = some (false, a_icmp 3 57 51) ∧ tget (tab_4_endBefore X) 51 = some (false, a_iinc 5 1 54) ∧ tget (tab_4_endBefore X) 54 = some (false, a_goto 11) ∧ tget (tab_4_endBefore X) 57 = some (false, a_iload 5 59) ∧ tget (tab_4_endBefore X) 59 = some (false, a_iret M_4_endBefore) := ⟨rfl, rfl, rfl, rfl, rfl, rfl, rfl, rfl, rfl, rfl, rfl, rfl, rfl, rfl, rfl, rfl, rfl, rfl, rfl, rfl, rfl, rfl, rfl, rfl, rfl, rfl, rfl, rfl, rfl, rfl, rfl, rfl, rfl⟩
theorem tok_4_endBefore (X : XT) : TabOK X M_4_endBefore (tab_4_endBefore X) := by
  unfold tab_4_endBefore
  refine tok_cons (snd_aload_n dX4_endBefore_0 rfl rfl) ?_
  refine tok_cons (snd_gr (C := RX4) (T := TX4) (N := 2) dX4_endBefore_1 rfl (by decide) rfl wf4_11 inX4 rfl) ?_
  refine tok_cons (snd_iconst dX4_endBefore_4 rfl (inr_d rfl) rfl) ?_
  refine tok_cons (snd_aald dX4_endBefore_5 rfl) ?_
  refine tok_cons (snd_astore dX4_endBefore_6 rfl (by decide)) ?_
  refine tok_cons (snd_iload_n dX4_endBefore_8 rfl rfl) ?_
  refine tok_cons (snd_istore dX4_endBefore_9 rfl (by decide)) ?_
  refine tok_cons (snd_iload dX4_endBefore_11 rfl) ?_
  refine tok_cons (snd_aload_n dX4_endBefore_13 rfl rfl) ?_
  refine tok_cons (snd_gi (C := RX4) (T := TX4) (N := 2) dX4_endBefore_14 rfl (by decide) rfl wf4_20 inX4 rfl rfl) ?_
  refine tok_cons (snd_icmp_ge dX4_endBefore_17 (by decide) rfl) ?_
  refine tok_cons (snd_aload dX4_endBefore_20 rfl) ?_
  refine tok_cons (snd_iload dX4_endBefore_22 rfl) ?_
  refine tok_cons (snd_iald dX4_endBefore_24 rfl) ?_
  refine tok_cons (snd_iload_n dX4_endBefore_25 rfl rfl) ?_
  refine tok_cons (snd_icmp_lt dX4_endBefore_26 (by decide) rfl) ?_
  refine tok_cons (snd_aload dX4_endBefore_29 rfl) ?_
  refine tok_cons (snd_iload dX4_endBefore_31 rfl) ?_
  refine tok_cons (snd_iald dX4_endBefore_33 rfl) ?_
  refine tok_cons (snd_iload_n dX4_endBefore_34 rfl rfl) ?_
  refine tok_cons (snd_icmp_ne dX4_endBefore_35 (by decide) rfl) ?_
  refine tok_cons (snd_aload_n dX4_endBefore_38 rfl rfl) ?_
  refine tok_cons (snd_gr (C := RX4) (T := TX4) (N := 2) dX4_endBefore_39 rfl (by decide) rfl wf4_11 inX4 rfl) ?_
  refine tok_cons (snd_iconst dX4_endBefore_42 rfl (inr_d rfl) rfl) ?_
  refine tok_cons (snd_aald dX4_endBefore_43 rfl) ?_
  refine tok_cons (snd_iload dX4_endBefore_44 rfl) ?_
  refine tok_cons (snd_iald dX4_endBefore_46 rfl) ?_
  refine tok_cons (snd_iload_n dX4_endBefore_47 rfl rfl) ?_
  refine tok_cons (snd_icmp_ge dX4_endBefore_48 (by decide) rfl) ?_
  refine tok_cons (snd_iinc dX4_endBefore_51 rfl rfl (by decide)) ?_
  refine tok_cons (snd_goto dX4_endBefore_54 (by decide)) ?_
  refine tok_cons (snd_iload dX4_endBefore_57 rfl) ?_
  refine tok_cons (snd_iret dX4_endBefore_59 rfl) ?_
  exact tok_nil
def tab_5_takeStart (X : XT) : Tab := [(0, false, a_aload 0 1), (1, false, a_aload 1 2), (2, false, a_gi 5 0 0 5), (5, false, a_pi 5 0 0 false 8), (8, false, a_aload 1 9), (9, false, a_gr 5 1 12), (12, false, a_const 0 13), (13, false, a_aload 0 14), (14, false, a_gr 5 1 17), (17, false, a_const 0 18), (18, false, a_const 2 19), (19, false, a_copy 22), (22, false, a_aload 0 23), (23, false, a_gr 5 2 26), (26, false, a_const 0 27), (27, false, a_iload 2 28), (28, false, a_ast false 29), (29, false, a_aload 0 30), (30, false, a_gr 5 2 33), (33, false, a_const 1 34), (34, false, a_iload 3 35), (35, false, a_ast false 36), (36, false, a_ret M_5_takeStart)]
set_option maxRecDepth 20000 in
theorem t_5_takeStart (X : XT) : tget (tab_5_takeStart X) 0 = some (false, a_aload 0 1) ∧ tget (tab_5_takeStart X) 1 = some (false, a_aload 1 2) ∧ tget (tab_5_takeStart X) 2 = some (false, a_gi 5 0 0 5) ∧ tget (tab_5_takeStart X) 5 = some (false, a_pi 5 0 0 false 8) ∧ tget (tab_5_takeStart X) 8 = some (false, a_aload 1 9) ∧ tget (tab_5_takeStart X) 9 = some (false, a_gr 5 1 12) ∧ tget (tab_5_takeStart X) 12 = some (false, a_const 0 13) ∧ tget (tab_5_takeStart X) 13 = some (false, a_aload 0 14) ∧ tget (tab_5_takeStart X) 14 = some (false, a_gr 5 1 17) ∧ tget (tab_5_takeStart X) 17 = some (false, a_const 0 18) ∧ tget (tab_5_takeStart X) 18 = some (false, a_const 2 19) ∧ tget (tab_5_takeStart X) 19 = some (false, a_copy 22) ∧ tget (tab_5_takeStart X) 22 = some (false, a_aload 0 23) ∧ tget (tab_5_takeStart X) 23 = some (false, a_gr 5 2 26) ∧ tget (tab_5_takeStart X) 26 = some (false, a_const 0 27) ∧ tget (tab_5_takeStart X) 27 = some (false, a_iload 2 28) ∧ tget (tab_5_takeStart X) 28 = some (false, a_ast false 29) ∧ tget (tab_5_takeStart X) 29 = some (false, a_aload 0 30) ∧ tget (tab_5_takeStart X) 30 = some (false, a_gr 5 2 33) ∧ tget (tab_5_takeStart X) 33 = some (false, a_const 1 34) ∧ tget (tab_5_takeStart X) 34 = some (false, a_iload 3 35) ∧ tget (tab_5_takeStart X) 35 = some (false, a_ast false 36) ∧ tget (tab_5_takeStart X) 36 = some (false, a_ret M_5_takeStart) := ⟨rfl, rfl, rfl, rfl, rfl, rfl, rfl, rfl, rfl, rfl, rfl, rfl, rfl, rfl, rfl, rfl, rfl, rfl, rfl, rfl, rfl, rfl, rfl⟩
theorem tok_5_takeStart (X : XT) : TabOK X M_5_takeStart (tab_5_takeStart X) := by
  unfold tab_5_takeStart
  refine tok_cons (snd_aload_n dX5_takeStart_0 rfl rfl) ?_
  refine tok_cons (snd_aload_n dX5_takeStart_1 rfl rfl) ?_
  refine tok_cons (snd_gi (C := RX5) (T := TX5) (N := 3) dX5_takeStart_2 rfl (by decide) rfl wf5_18 inX5 rfl rfl) ?_
  refine tok_cons (snd_pi (C := RX5) (T := TX5) (N := 3) (ty0 := tyX5) dX5_takeStart_5 rfl (by decide) rfl wf5_18 inX5 tyX5_ok nmX5 (by decide +kernel) rfl rfl) ?_
  refine tok_cons (snd_aload_n dX5_takeStart_8 rfl rfl) ?_
  refine tok_cons (snd_gr (C := RX5) (T := TX5) (N := 3) dX5_takeStart_9 rfl (by decide) rfl wf5_9 inX5 rfl) ?_
  refine tok_cons (snd_iconst dX5_takeStart_12 rfl (inr_d rfl) rfl) ?_
  refine tok_cons (snd_aload_n dX5_takeStart_13 rfl rfl) ?_
  refine tok_cons (snd_gr (C := RX5) (T := TX5) (N := 3) dX5_takeStart_14 rfl (by decide) rfl wf5_9 inX5 rfl) ?_
  refine tok_cons (snd_iconst dX5_takeStart_17 rfl (inr_d rfl) rfl) ?_
  refine tok_cons (snd_iconst dX5_takeStart_18 rfl (inr_d rfl) rfl) ?_
  refine tok_cons (snd_copy dX5_takeStart_19 wm5_32 wnat ws_acopy wn_Sys (by decide) rfl) ?_
  refine tok_cons (snd_aload_n dX5_takeStart_22 rfl rfl) ?_
  refine tok_cons (snd_gr (C := RX5) (T := TX5) (N := 3) dX5_takeStart_23 rfl (by decide) rfl wf5_15 inX5 rfl) ?_
  refine tok_cons (snd_iconst dX5_takeStart_26 rfl (inr_d rfl) rfl) ?_
  refine tok_cons (snd_iload_n dX5_takeStart_27 rfl rfl) ?_
  refine tok_cons (snd_iast dX5_takeStart_28 rfl) ?_
  refine tok_cons (snd_aload_n dX5_takeStart_29 rfl rfl) ?_
  refine tok_cons (snd_gr (C := RX5) (T := TX5) (N := 3) dX5_takeStart_30 rfl (by decide) rfl wf5_15 inX5 rfl) ?_
  refine tok_cons (snd_iconst dX5_takeStart_33 rfl (inr_d rfl) rfl) ?_
  refine tok_cons (snd_iload_n dX5_takeStart_34 rfl rfl) ?_
  refine tok_cons (snd_iast dX5_takeStart_35 rfl) ?_
  refine tok_cons (snd_ret dX5_takeStart_36 rfl) ?_
  exact tok_nil
def tab_5_dropStart (X : XT) : Tab := [(0, false, a_const 0 1), (1, false, a_istore 2 2), (2, false, a_iload 2 3), (3, false, a_const 2 4), (4, false, a_icmp 3 43 7), (7, false, a_aload 0 8), (8, false, a_gr 5 1 11), (11, false, a_iload 2 12), (12, false, a_dup2 13), (13, false, a_ald false 14), (14, false, a_aload 1 15), (15, false, a_gr 5 2 18), (18, false, a_iload 2 19), (19, false, a_ald false 20), (20, false, a_add 21), (21, false, a_ast false 22), (22, false, a_aload 0 23), (23, false, a_gr 5 2 26), (26, false, a_iload 2 27), (27, false, a_dup2 28), (28, false, a_ald false 29), (29, false, a_aload 1 30), (30, false, a_gr 5 2 33), (33, false, a_iload 2 34), (34, false, a_ald false 35), (35, false, a_sub 36), (36, false, a_ast false 37), (37, false, a_iinc 2 1 40), (40, false, a_goto 2), (43, false, a_ret M_5_dropStart)]
set_option maxRecDepth 20000 in
theorem t_5_dropStart (X : XT) : tget (tab_5_dropStart X) 0 = some (false, a_const 0 1) ∧ tget (tab_5_dropStart X) 1 = some (false, a_istore 2 2) ∧ tget (tab_5_dropStart X) 2 = some (false, a_iload 2 3) ∧ tget (tab_5_dropStart X) 3 = some (false, a_const 2 4) ∧ tget (tab_5_dropStart X) 4 = some (false, a_icmp 3 43 7) ∧ tget (tab_5_dropStart X) 7 = some (false, a_aload 0 8) ∧ tget (tab_5_dropStart X) 8 = some (false, a_gr 5 1 11) ∧ tget (tab_5_dropStart X) 11 = some (false, a_iload 2 12) ∧ tget (tab_5_dropStart X) 12 = some (false, a_dup2 13) ∧ tget (tab_5_dropStart X) 13 = some (false, a_ald false 14) ∧ tget (tab_5_dropStart X) 14 = some (false, a_aload 1 15) ∧ tget (tab_5_dropStart X) 15 = some (false, a_gr 5 2 18) ∧ tget (tab_5_dropStart X) 18 = some (false, a_iload 2 19) ∧ tget (tab_5_dropStart X) 19 = some (false, a_ald false 20) ∧ tget (tab_5_dropStart X) 20 = some (false, a_add 21) ∧ tget (tab_5_dropStart X) 21 = some (false, a_ast false 22) ∧ tget (tab_5_dropStart X) 22 = some (false, a_aload 0 23) ∧ tget (tab_5_dropStart X) 23 = some (false, a_gr 5 2 26) ∧ tget (tab_5_dropStart X) 26 = some (false, a_iload 2 27) ∧ tget (tab_5_dropStart X) 27 = some (false, a_dup2 28) ∧ tget (tab_5_dropStart X) 28 = some (false, a_ald false 29) ∧ tget (tab_5_dropStart X) 29 = some (false, a_aload 1 30) ∧ tget (tab_5_dropStart X) 30 = some (false, a_gr 5 2 33) ∧ tget (tab_5_dropStart X) 33 = some (false, a_iload 2 34) ∧ tget (tab_5_dropStart X) 34 = some (false, a_ald false 35) ∧ tget (tab_5_dropStart X) 35 = some (false, a_sub 36) ∧ tget (tab_5_dropStart X) 36 = some (false, a_ast false 37) ∧ tget (tab_5_dropStart X) 37 = some (false, a_iinc 2 1 40) ∧ tget (tab_5_dropStart X) 40 = some (false, a_goto 2) ∧ tget (tab_5_dropStart X) 43 = some (false, a_ret M_5_dropStart) := ⟨rfl, rfl, rfl, rfl, rfl, rfl, rfl, rfl, rfl, rfl, rfl, rfl, rfl, rfl, rfl, rfl, rfl, rfl, rfl, rfl, rfl, rfl, rfl, rfl, rfl, rfl, rfl, rfl, rfl, rfl⟩
theorem tok_5_dropStart (X : XT) : TabOK X M_5_dropStart (tab_5_dropStart X) := by
  unfold tab_5_dropStart
  refine tok_cons (snd_iconst dX5_dropStart_0 rfl (inr_d rfl) rfl) ?_
  refine tok_cons (snd_istore_n dX5_dropStart_1 rfl rfl (by decide)) ?_
  refine tok_cons (snd_iload_n dX5_dropStart_2 rfl rfl) ?_
  refine tok_cons (snd_iconst dX5_dropStart_3 rfl (inr_d rfl) rfl) ?_
  refine tok_cons (snd_icmp_ge dX5_dropStart_4 (by decide) rfl) ?_
  refine tok_cons (snd_aload_n dX5_dropStart_7 rfl rfl) ?_
  refine tok_cons (snd_gr (C := RX5) (T := TX5) (N := 3) dX5_dropStart_8 rfl (by decide) rfl wf5_9 inX5 rfl) ?_
  refine tok_cons (snd_iload_n dX5_dropStart_11 rfl rfl) ?_
  refine tok_cons (snd_dup2 dX5_dropStart_12 rfl) ?_
  refine tok_cons (snd_iald dX5_dropStart_13 rfl) ?_
  refine tok_cons (snd_aload_n dX5_dropStart_14 rfl rfl) ?_
  refine tok_cons (snd_gr (C := RX5) (T := TX5) (N := 3) dX5_dropStart_15 rfl (by decide) rfl wf5_15 inX5 rfl) ?_
  refine tok_cons (snd_iload_n dX5_dropStart_18 rfl rfl) ?_
  refine tok_cons (snd_iald dX5_dropStart_19 rfl) ?_
  refine tok_cons (snd_add dX5_dropStart_20 rfl) ?_
  refine tok_cons (snd_iast dX5_dropStart_21 rfl) ?_
  refine tok_cons (snd_aload_n dX5_dropStart_22 rfl rfl) ?_
  refine tok_cons (snd_gr (C := RX5) (T := TX5) (N := 3) dX5_dropStart_23 rfl (by decide) rfl wf5_15 inX5 rfl) ?_
  refine tok_cons (snd_iload_n dX5_dropStart_26 rfl rfl) ?_
  refine tok_cons (snd_dup2 dX5_dropStart_27 rfl) ?_
  refine tok_cons (snd_iald dX5_dropStart_28 rfl) ?_
  refine tok_cons (snd_aload_n dX5_dropStart_29 rfl rfl) ?_
  refine tok_cons (snd_gr (C := RX5) (T := TX5) (N := 3) dX5_dropStart_30 rfl (by decide) rfl wf5_15 inX5 rfl) ?_
  refine tok_cons (snd_iload_n dX5_dropStart_33 rfl rfl) ?_
  refine tok_cons (snd_iald dX5_dropStart_34 rfl) ?_
  refine tok_cons (snd_sub dX5_dropStart_35 rfl) ?_
  refine tok_cons (snd_iast dX5_dropStart_36 rfl) ?_
  refine tok_cons (snd_iinc dX5_dropStart_37 rfl rfl (by decide)) ?_
  refine tok_cons (snd_goto dX5_dropStart_40 (by decide)) ?_
  refine tok_cons (snd_ret dX5_dropStart_43 rfl) ?_
  exact tok_nil
def tab_5_isBegun (X : XT) : Tab := [(0, false, a_aload 0 1), (1, false, a_gr 5 1 4), (4, false, a_const 0 5), (5, false, a_ald false 6), (6, false, a_if 5 13 9), (9, false, a_const 1 10), (10, false, a_goto 14), (13, false, a_const 0 14), (14, false, a_zret M_5_isBegun)]
set_option maxRecDepth 20000 in
theorem t_5_isBegun (X : XT) : tget (tab_5_isBegun X) 0 = some (false, a_aload 0 1) ∧ tget (tab_5_isBegun X) 1 = some (false, a_gr 5 1 4) ∧ tget (tab_5_isBegun X) 4 = some (false, a_const 0 5) ∧ tget (tab_5_isBegun X) 5 = some (false, a_ald false 6) ∧ tget (tab_5_isBegun X) 6 = some (false, a_if 5 13 9) ∧ tget (tab_5_isBegun X) 9 = some (false, a_const 1 10) ∧ tget (tab_5_isBegun X) 10 = some (false, a_goto 14) ∧ tget (tab_5_isBegun X) 13 = some (false, a_const 0 14) ∧ tget (tab_5_isBegun X) 14 = some (false, a_zret M_5_isBegun) := ⟨rfl, rfl, rfl, rfl, rfl, rfl, rfl, rfl, rfl⟩
theorem tok_5_isBegun (X : XT) : TabOK X M_5_isBegun (tab_5_isBegun X) := by
  unfold tab_5_isBegun
  refine tok_cons (snd_aload_n dX5_isBegun_0 rfl rfl) ?_
  refine tok_cons (snd_gr (C := RX5) (T := TX5) (N := 3) dX5_isBegun_1 rfl (by decide) rfl wf5_9 inX5 rfl) ?_
  refine tok_cons (snd_iconst dX5_isBegun_4 rfl (inr_d rfl) rfl) ?_
  refine tok_cons (snd_iald dX5_isBegun_5 rfl) ?_
  refine tok_cons (snd_if_le dX5_isBegun_6 (by decide) rfl) ?_
  refine tok_cons (snd_iconst dX5_isBegun_9 rfl (inr_d rfl) rfl) ?_
  refine tok_cons (snd_goto dX5_isBegun_10 (by decide)) ?_
  refine tok_cons (snd_iconst dX5_isBegun_13 rfl (inr_d rfl) rfl) ?_
  refine tok_cons (snd_zret dX5_isBegun_14 rfl) ?_
  exact tok_nil
def tab_6_isCarried (X : XT) : Tab := [(0, false, a_aload 0 1), (1, false, a_gr 6 7 4), (4, false, a_gr 2 2 7), (7, false, a_const 0 8), (8, false, a_ald false 9), (9, false, a_aload 0 10), (10, false, a_gr 6 7 13), (13, false, a_gr 2 2 16), (16, false, a_const 1 17), (17, false, a_ald false 18), (18, false, a_add 19), (19, false, a_if 5 26 22), (22, false, a_const 1 23), (23, false, a_goto 27), (26, false, a_const 0 27), (27, false, a_zret M_6_isCarried)]
set_option maxRecDepth 20000 in
theorem t_6_isCarried (X : XT) : tget (tab_6_isCarried X) 0 = some (false, a_aload 0 1) ∧ tget (tab_6_isCarried X) 1 = some (false, a_gr 6 7 4) ∧ tget (tab_6_isCarried X) 4 = some (false, a_gr 2 2 7) ∧ tget (tab_6_isCarried X) 7 = some (false, a_const 0 8) ∧ tget (tab_6_isCarried X) 8 = some (false, a_ald false 9) ∧ tget (tab_6_isCarried X) 9 = some (false, a_aload 0 10) ∧ tget (tab_6_isCarried X) 10 = some (false, a_gr 6 7 13) ∧ tget (tab_6_isCarried X) 13 = some (false, a_gr 2 2 16) ∧ tget (tab_6_isCarried X) 16 = some (false, a_const 1 17) ∧ tget (tab_6_isCarried X) 17 = some (false, a_ald false 18) ∧ tget (tab_6_isCarried X) 18 = some (false, a_add 19) ∧ tget (tab_6_isCarried X) 19 = some (false, a_if 5 26 22) ∧ tget (tab_6_isCarried X) 22 = some (false, a_const 1 23) ∧ tget (tab_6_isCarried X) 23 = some (false, a_goto 27) ∧ tget (tab_6_isCarried X) 26 = some (false, a_const 0 27) ∧ tget (tab_6_isCarried X) 27 = some (false, a_zret M_6_isCarried) := ⟨rfl, rfl, rfl, rfl, rfl, rfl, rfl, rfl, rfl, rfl, rfl, rfl, rfl, rfl, rfl, rfl⟩
theorem tok_6_isCarried (X : XT) : TabOK X M_6_isCarried (tab_6_isCarried X) := by
  unfold tab_6_isCarried
  refine tok_cons (snd_aload_n dX6_isCarried_0 rfl rfl) ?_
  refine tok_cons (snd_gr (C := RX6) (T := TX6) (N := 11) dX6_isCarried_1 rfl (by decide) rfl wf6_33 inX6 rfl) ?_
  refine tok_cons (snd_gr (C := RX2) (T := TX2) (N := 7) dX6_isCarried_4 rfl (by decide) rfl wf6_85 inX2 rfl) ?_
  refine tok_cons (snd_iconst dX6_isCarried_7 rfl (inr_d rfl) rfl) ?_
  refine tok_cons (snd_iald dX6_isCarried_8 rfl) ?_
  refine tok_cons (snd_aload_n dX6_isCarried_9 rfl rfl) ?_
  refine tok_cons (snd_gr (C := RX6) (T := TX6) (N := 11) dX6_isCarried_10 rfl (by decide) rfl wf6_33 inX6 rfl) ?_
  refine tok_cons (snd_gr (C := RX2) (T := TX2) (N := 7) dX6_isCarried_13 rfl (by decide) rfl wf6_85 inX2 rfl) ?_
  refine tok_cons (snd_iconst dX6_isCarried_16 rfl (inr_d rfl) rfl) ?_
  refine tok_cons (snd_iald dX6_isCarried_17 rfl) ?_
  refine tok_cons (snd_add dX6_isCarried_18 rfl) ?_
  refine tok_cons (snd_if_le dX6_isCarried_19 (by decide) rfl) ?_
  refine tok_cons (snd_iconst dX6_isCarried_22 rfl (inr_d rfl) rfl) ?_
  refine tok_cons (snd_goto dX6_isCarried_23 (by decide)) ?_
  refine tok_cons (snd_iconst dX6_isCarried_26 rfl (inr_d rfl) rfl) ?_
  refine tok_cons (snd_zret dX6_isCarried_27 rfl) ?_
  exact tok_nil
def tab_6_segmentsOf (X : XT) : Tab := [(0, false, a_aload 0 1), (1, false, a_gr 6 2 4), (4, false, a_iload 1 5), (5, false, a_const 1 6), (6, false, a_add 7), (7, false, a_ald false 8), (8, false, a_aload 0 9), (9, false, a_gr 6 2 12), (12, false, a_iload 1 13), (13, false, a_ald false 14), (14, false, a_sub 15), (15, false, a_iret M_6_segmentsOf)]
set_option maxRecDepth 20000 in
theorem t_6_segmentsOf (X : XT) : tget (tab_6_segmentsOf X) 0 = some (false, a_aload 0 1) ∧ tget (tab_6_segmentsOf X) 1 = some (false, a_gr 6 2 4) ∧ tget (tab_6_segmentsOf X) 4 = some (false, a_iload 1 5) ∧ tget (tab_6_segmentsOf X) 5 = some (false, a_const 1 6) ∧ tget (tab_6_segmentsOf X) 6 = some (false, a_add 7) ∧ tget (tab_6_segmentsOf X) 7 = some (false, a_ald false 8) ∧ tget (tab_6_segmentsOf X) 8 = some (false, a_aload 0 9) ∧ tget (tab_6_segmentsOf X) 9 = some (false, a_gr 6 2 12) ∧ tget (tab_6_segmentsOf X) 12 = some (false, a_iload 1 13) ∧ tget (tab_6_segmentsOf X) 13 = some (false, a_ald false 14) ∧ tget (tab_6_segmentsOf X) 14 = some (false, a_sub 15) ∧ tget (tab_6_segmentsOf X) 15 = some (false, a_iret M_6_segmentsOf) := ⟨rfl, rfl, rfl, rfl, rfl, rfl, rfl, rfl, rfl, rfl, rfl, rfl⟩
theorem tok_6_segmentsOf (X : XT) : TabOK X M_6_segmentsOf (tab_6_segmentsOf X) := by
  unfold tab_6_segmentsOf
  refine tok_cons (snd_aload_n dX6_segmentsOf_0 rfl rfl) ?_
  refine tok_cons (snd_gr (C := RX6) (T := TX6) (N := 11) dX6_segmentsOf_1 rfl (by decide) rfl wf6_15 inX6 rfl) ?_
  refine tok_cons (snd_iload_n dX6_segmentsOf_4 rfl rfl) ?_
  refine tok_cons (snd_iconst dX6_segmentsOf_5 rfl (inr_d rfl) rfl) ?_
  refine tok_cons (snd_add dX6_segmentsOf_6 rfl) ?_
  refine tok_cons (snd_iald dX6_segmentsOf_7 rfl) ?_
  refine tok_cons (snd_aload_n dX6_segmentsOf_8 rfl rfl) ?_
  refine tok_cons (snd_gr (C := RX6) (T := TX6) (N := 11) dX6_segmentsOf_9 rfl (by decide) rfl wf6_15 inX6 rfl) ?_
  refine tok_cons (snd_iload_n dX6_segmentsOf_12 rfl rfl) ?_
  refine tok_cons (snd_iald dX6_segmentsOf_13 rfl) ?_
  refine tok_cons (snd_sub dX6_segmentsOf_14 rfl) ?_
  refine tok_cons (snd_iret dX6_segmentsOf_15 rfl) ?_
  exact tok_nil
def tab_6_spreadWith (X : XT) : Tab := [(0, false, a_const 0 1), (1, false, a_istore 2 2), (2, true, a_iload 2 3), (3, false, a_aload 0 4), (4, false, a_gi 6 1 1 7), (7, false, a_const 1 8), (8, false, a_sub 9), (9, false, a_icmp 3 30 12), (12, false, a_aload 0 13), (13, false, a_gr 6 2 16), (16, false, a_iload 2 17), (17, false, a_const 1 18), (18, false, a_add 19), (19, false, a_ald false 20), (20, false, a_iload 1 21), (21, false, a_icmp 4 30 24), (24, false, a_iinc 2 1 27), (27, false, a_goto 2), (30, false, a_iload 2 31), (31, false, a_iret M_6_spreadWith)]
set_option maxRecDepth 20000 in
theorem t_6_spreadWith (X : XT) : tget (tab_6_spreadWith X) 0 = some (false, a_const 0 1) ∧ tget (tab_6_spreadWith X) 1 = some (false, a_istore 2 2) ∧ tget (tab_6_spreadWith X) 2 = some (true, a_iload 2 3) ∧ tget (tab_6_spreadWith X) 3 = some (false, a_aload 0 4) ∧ tget (tab_6_spreadWith X) 4 = some (false, a_gi 6 1 1 7) ∧ tget (tab_6_spreadWith X) 7 = some (false, a_const 1 8) ∧ tget (tab_6_spreadWith X) 8 = some (false, a_sub 9) ∧ tget (tab_6_spreadWith X) 9 = some (false, a_icmp 3 30 12) ∧ tget (tab_6_spreadWith X) 12 = some (false, a_aload 0 13) ∧ tget (tab_6_spreadWith X) 13 = some (false, a_gr 6 2 16) ∧ tget (tab_6_spreadWith X) 16 = some (false, a_iload 2 17) ∧ tget (tab_6_spreadWith X) 17 = some (false, a_const 1 18) ∧ tget (tab_6_spreadWith X) 18 = some (false, a_add 19) ∧ tget (tab_6_spreadWith X) 19 = some (false, a_ald false 20) ∧ tget (tab_6_spreadWith X) 20 = some (false, a_iload 1 21) ∧ tget (tab_6_spreadWith X) 21 = some (false, a_icmp 4 30 24) ∧ tget (tab_6_spreadWith X) 24 = some (false, a_iinc 2 1 27) ∧ tget (tab_6_spreadWith X) 27 = some (false, a_goto 2) ∧ tget (tab_6_spreadWith X) 30 = some (false, a_iload 2 31) ∧ tget (tab_6_spreadWith X) 31 = some (false, a_iret M_6_spreadWith) := ⟨rfl, rfl, rfl, rfl, rfl, rfl, rfl, rfl, rfl, rfl, rfl, rfl, rfl, rfl, rfl, rfl, rfl, rfl, rfl, rfl⟩
theorem tok_6_spreadWith (X : XT) : TabOK X M_6_spreadWith (tab_6_spreadWith X) := by
  unfold tab_6_spreadWith
  refine tok_cons (snd_iconst dX6_spreadWith_0 rfl (inr_d rfl) rfl) ?_
  refine tok_cons (snd_istore_n dX6_spreadWith_1 rfl rfl (by decide)) ?_
  refine tok_cons (snd_iload_n dX6_spreadWith_2 rfl rfl) ?_
  refine tok_cons (snd_aload_n dX6_spreadWith_3 rfl rfl) ?_
  refine tok_cons (snd_gi (C := RX6) (T := TX6) (N := 11) dX6_spreadWith_4 rfl (by decide) rfl wf6_50 inX6 rfl rfl) ?_
  refine tok_cons (snd_iconst dX6_spreadWith_7 rfl (inr_d rfl) rfl) ?_
  refine tok_cons (snd_sub dX6_spreadWith_8 rfl) ?_
  refine tok_cons (snd_icmp_ge dX6_spreadWith_9 (by decide) rfl) ?_
  refine tok_cons (snd_aload_n dX6_spreadWith_12 rfl rfl) ?_
  refine tok_cons (snd_gr (C := RX6) (T := TX6) (N := 11) dX6_spreadWith_13 rfl (by decide) rfl wf6_15 inX6 rfl) ?_
  refine tok_cons (snd_iload_n dX6_spreadWith_16 rfl rfl) ?_
  refine tok_cons (snd_iconst dX6_spreadWith_17 rfl (inr_d rfl) rfl) ?_
  refine tok_cons (snd_add dX6_spreadWith_18 rfl) ?_
  refine tok_cons (snd_iald dX6_spreadWith_19 rfl) ?_
  refine tok_cons (snd_iload_n dX6_spreadWith_20 rfl rfl) ?_
  refine tok_cons (snd_icmp_gt dX6_spreadWith_21 (by decide) rfl) ?_
  refine tok_cons (snd_iinc dX6_spreadWith_24 rfl rfl (by decide)) ?_
  refine tok_cons (snd_goto dX6_spreadWith_27 (by decide)) ?_
  refine tok_cons (snd_iload_n dX6_spreadWith_30 rfl rfl) ?_
  refine tok_cons (snd_iret dX6_spreadWith_31 rfl) ?_
  exact tok_nil
def tab_6_rowIn (X : XT) : Tab := [(0, false, a_aload 0 1), (1, false, a_gr 6 4 4), (4, false, a_gst 5 7), (7, false, a_iload 2 8), (8, false, a_sld 9), (9, false, a_aald 10), (10, false, a_iload 1 11), (11, false, a_ald false 12), (12, false, a_iload 3 13), (13, false, a_add 14), (14, false, a_aload 0 15), (15, false, a_gr 6 4 18), (18, false, a_gst 3 21), (21, false, a_iload 2 22), (22, false, a_sld 23), (23, false, a_aald 24), (24, false, a_iload 1 25), (25, false, a_ald false 26), (26, false, a_sub 27), (27, false, a_iret M_6_rowIn)]
set_option maxRecDepth 20000 in
theorem t_6_rowIn (X : XT) : tget (tab_6_rowIn X) 0 = some (false, a_aload 0 1) ∧ tget (tab_6_rowIn X) 1 = some (false, a_gr 6 4 4) ∧ tget (tab_6_rowIn X) 4 = some (false, a_gst 5 7) ∧ tget (tab_6_rowIn X) 7 = some (false, a_iload 2 8) ∧ tget (tab_6_rowIn X) 8 = some (false, a_sld 9) ∧ tget (tab_6_rowIn X) 9 = some (false, a_aald 10) ∧ tget (tab_6_rowIn X) 10 = some (false, a_iload 1 11) ∧ tget (tab_6_rowIn X) 11 = some (false, a_ald false 12) ∧ tget (tab_6_rowIn X) 12 = some (false, a_iload 3 13) ∧ tget (tab_6_rowIn X) 13 = some (false, a_add 14) ∧ tget (tab_6_rowIn X) 14 = some (false, a_aload 0 15) ∧ tget (tab_6_rowIn X) 15 = some (false, a_gr 6 4 18) ∧ tget (tab_6_rowIn X) 18 = some (false, a_gst 3 21) ∧ tget (tab_6_rowIn X) 21 = some (false, a_iload 2 22) ∧ tget (tab_6_rowIn X) 22 = some (false, a_sld 23) ∧ tget (tab_6_rowIn X) 23 = some (false, a_aald 24) ∧ tget (tab_6_rowIn X) 24 = some (false, a_iload 1 25) ∧ tget (tab_6_rowIn X) 25 = some (false, a_ald false 26) ∧ tget (tab_6_rowIn X) 26 = some (false, a_sub 27) ∧ tget (tab_6_rowIn X) 27 = some (false, a_iret M_6_rowIn) := ⟨rfl, rfl, rfl, rfl, rfl, rfl, rfl, rfl, rfl, rfl, rfl, rfl, rfl, rfl, rfl, rfl, rfl, rfl, rfl, rfl⟩
theorem tok_6_rowIn (X : XT) : TabOK X M_6_rowIn (tab_6_rowIn X) := by
  unfold tab_6_rowIn
  refine tok_cons (snd_aload_n dX6_rowIn_0 rfl rfl) ?_
  refine tok_cons (snd_gr (C := RX6) (T := TX6) (N := 11) dX6_rowIn_1 rfl (by decide) rfl wf6_24 inX6 rfl) ?_
  refine tok_cons (snd_gstN dX6_rowIn_4 (by decide) rfl (List.mem_of_getElem? (i := 3) rfl) rfl) ?_
  refine tok_cons (snd_iload_n dX6_rowIn_7 rfl rfl) ?_
  refine tok_cons (snd_sld dX6_rowIn_8 rfl) ?_
  refine tok_cons (snd_aald dX6_rowIn_9 rfl) ?_
  refine tok_cons (snd_iload_n dX6_rowIn_10 rfl rfl) ?_
  refine tok_cons (snd_iald dX6_rowIn_11 rfl) ?_
  refine tok_cons (snd_iload_n dX6_rowIn_12 rfl rfl) ?_
  refine tok_cons (snd_add dX6_rowIn_13 rfl) ?_
  refine tok_cons (snd_aload_n dX6_rowIn_14 rfl rfl) ?_
  refine tok_cons (snd_gr (C := RX6) (T := TX6) (N := 11) dX6_rowIn_15 rfl (by decide) rfl wf6_24 inX6 rfl) ?_
  refine tok_cons (snd_gstN dX6_rowIn_18 (by decide) rfl (List.mem_of_getElem? (i := 1) rfl) rfl) ?_
  refine tok_cons (snd_iload_n dX6_rowIn_21 rfl rfl) ?_
  refine tok_cons (snd_sld dX6_rowIn_22 rfl) ?_
  refine tok_cons (snd_aald dX6_rowIn_23 rfl) ?_
  refine tok_cons (snd_iload_n dX6_rowIn_24 rfl rfl) ?_
  refine tok_cons (snd_iald dX6_rowIn_25 rfl) ?_
  refine tok_cons (snd_sub dX6_rowIn_26 rfl) ?_
  refine tok_cons (snd_iret dX6_rowIn_27 rfl) ?_
  exact tok_nil
def tab_6_noteLine (X : XT) : Tab := [(0, false, a_aload 0 1), (1, false, a_gr 6 5 4), (4, false, a_const 3 5), (5, false, a_aald 6), (6, false, a_iload 2 7), (7, false, a_ald false 8), (8, false, a_istore 4 10), (10, false, a_aload 0 11), (11, false, a_gr 6 5 14), (14, false, a_const 6 16), (16, false, a_aald 17), (17, false, a_iload 2 18), (18, false, a_ald false 19), (19, false, a_istore 5 21), (21, false, a_iload 3 22), (22, false, a_iload 4 24), (24, false, a_icmp 3 65 27), (27, false, a_iload 5 29), (29, false, a_if 5 65 32), (32, false, a_aload 1 33), (33, false, a_gr 4 1 36), (36, false, a_const 2 37), (37, false, a_aald 38), (38, false, a_iload 5 40), (40, false, a_const 1 41), (41, false, a_sub 42), (42, false, a_ald false 43), (43, false, a_iload 4 45), (45, false, a_sub 46), (46, false, a_istore 6 48), (48, false, a_const 20000 51), (51, false, a_const 100 53), (53, false, a_iload 5 55), (55, false, a_const 1 56), (56, false, a_sub 57), (57, false, a_mul 58), (58, false, a_add 59), (59, false, a_iload 6 61), (61, false, a_add 62), (62, false, a_iload 3 63), (63, false, a_add 64), (64, false, a_iret M_6_noteLine), (65, false, a_iload 3 66), (66, false, a_iload 4 68), (68, false, a_sub 69), (69, false, a_istore 6 71), (71, false, a_iload 5 73), (73, false, a_istore 7 75), (75, true, a_iload 7 77), (77, false, a_aload 1 78), (78, false, a_gi 4 0 0 81), (81, false, a_icmp 3 128 84), (84, false, a_aload 1 85), (85, false, a_gr 4 1 88), (88, false, a_const 2 89), (89, false, a_aald 90), (90, false, a_iload 7 92), (92, false, a_ald false 93), (93, false, a_istore 8 95), (95, false, a_iload 6 97), (97, false, a_iload 8 99), (99, false, a_icmp 3 115 102), (102, false, a_const 20000 105), (105, false, a_const 100 107), (107, false, a_iload 7 109), (109, false, a_mul 110), (110, false, a_add 111), (111, false, a_iload 6 113), (113, false, a_add 114), (114, false, a_iret M_6_noteLine), (115, false, a_iload 6 117), (117, false, a_iload 8 119), (119, false, a_sub 120), (120, false, a_istore 6 122), (122, false, a_iinc 7 1 125), (125, false, a_goto 75), (128, false, a_const 0 129), (129, false, a_iret M_6_noteLine)]
set_option maxRecDepth 20000 in
theorem t_6_noteLine (X : XT) : tget (tab_6_noteLine X) 0 = some (false, a_aload 0 1) ∧ tget (tab_6_noteLine X) 1 = some (false, a_gr 6 5 4) ∧ tget (tab_6_noteLine X) 4 = some (false, a_const 3 5) ∧ tget (tab_6_noteLine X) 5 = some (false, a_aald 6) ∧ tget (tab_6_noteLine X) 6 = some (false, a_iload 2 7) ∧ tget (tab_6_noteLine X) 7 = some (false, a_ald false 8) ∧ tget (tab_6_noteLine X) 8 = some (false, a_istore 4 10) ∧ tget (tab_6_noteLine X) 10 = some (false, a_aload 0 11) ∧ tget (tab_6_noteLine X) 11 = some (false, a_gr 6 5 14) ∧ tget (tab_6_noteLine X) 14 = some (false, a_const 6 16) ∧ tget (tab_6_noteLine X) 16 = some (false, a_aald 17) ∧ tget (tab_6_noteLine X) 17 = some (false, a_iload 2 18) ∧ tget (tab_6_noteLine X) 18 = some (false, a_ald false 19) ∧ tget (tab_6_noteLine X) 19 = some (false, a_istore 5 21) ∧ tget (tab_6_noteLine X) 21 = some (false, a_iload 3 22) ∧ tget (tab_6_noteLine X) 22 = some (false, a_iload 4 24) ∧ tget (tab_6_noteLine X) 24 = some (false, a_icmp 3 65 27) ∧ tget (tab_6_noteLine X) 27 = some (false, a_iload 5 29) ∧ tget (tab_6_noteLine X) 29 = some (false, a_if 5 65 32) ∧ tget (tab_6_noteLine X) 32 = some (false, a_aload 1 33) ∧ tget (tab_6_noteLine X) 33 = some (false, a_gr 4 1 36) ∧ tget (tab_6_noteLine X) 36 = some (false, a_const 2 37) ∧ tget (tab_6_noteLine X) 37 = some (false, a_aald 38) ∧ tget (tab_6_noteLine X) 38 = some (false, a_iload 5 40) ∧ tget (tab_6_noteLine X) 40 = some (false, a_const 1 41) ∧ tget (tab_6_noteLine X) 41 = some (false, a_sub 42) ∧ tget (tab_6_noteLine X) 42 = some (false, a_ald false 43) ∧ tget (tab_6_noteLine X) 43 = some (false, a_iload 4 45) ∧ tget (tab_6_noteLine X) 45 = some (false, a_sub 46) ∧ tget (tab_6_noteLine X) 46 = some (false, a_istore 6 48) ∧ tget (tab_6_noteLine X) 48 = some (false, a_const 20000 51) ∧ tget (tab_6_noteLine X) 51 = some (false, a_const 100 53) ∧ tget (tab_6_noteLine X) 53 = some (false, a_iload 5 55) ∧ tget (tab_6_noteLine X) 55 = some (false, a_const 1 56) ∧ tget (tab_6_noteLine X) 56 = some (false, a_sub 57) ∧ tget (tab_6_noteLine X) 57 = some (false, a_mul 58) ∧ tget (tab_6_noteLine X) 58 = some (false, a_add 59) ∧ tget (tab_6_noteLine X) 59 = some (false, a_iload 6 61) ∧ tget (tab_6_noteLine X) 61 = some (false, a_add 62) ∧ tget (tab_6_noteLine X) 62 = some (false, a_iload 3 63) ∧ tget (tab_6_noteLine X) 63 = some (false, a_add 64) ∧ tget (tab_6_noteLine X) 64 = some (false, a_iret M_6_noteLine) ∧ tget (tab_6_noteLine X) 65 = some (false, a_iload 3 66) ∧ tget (tab_6_noteLine X) 66 = some (false, a_iload 4 68) ∧ tget (tab_6_noteLine X) 68 = some (false, a_sub 69) ∧ tget (tab_6_noteLine X) 69 = some (false, a_istore 6 71) ∧ tget (tab_6_noteLine X) 71 = some (false, a_iload 5 73) ∧ tget (tab_6_noteLine X) 73 = some (false, a_istore 7 75) ∧ tget (tab_6_noteLine X) 75 = some (true, a_iload 7 77) ∧ tget (tab_6_noteLine X) 77 = some (false, a_aload 1 78) ∧ tget (tab_6_noteLine X) 78 = some (false, a_gi 4 0 0 81) ∧ tget (tab_6_noteLine X) 81 = some (false, a_icmp 3 128 84) ∧ tget (tab_6_noteLine X) 84 = some (false, a_aload 1 85) ∧ tget (tab_6_noteLine X) 85 = some (false, a_gr 4 1 88) ∧ tget (tab_6_noteLine X) 88 = some (false, a_const 2 89) ∧ tget (tab_6_noteLine X) 89 = some (false, a_aald 90) ∧ tget (tab_6_noteLine X) 90 = some (false, a_iload 7 92) ∧ tget (tab_6_noteLine X) 92 = some (false, a_ald false 93) ∧ tget (tab_6_noteLine X) 93 = some (false, a_istore 8 95) ∧ tget (tab_6_noteLine X) 95 = some (false, a_iload 6 97) ∧ tget (tab_6_noteLine X) 97 = some (false, a_iload 8 99) ∧ tget (tab_6_noteLine X) 99 = some (false, a_icmp 3 115 102) ∧ tget (tab_6_noteLine X) 102 = some (false, a_const 20000 105) ∧ tget (tab_6_noteLine X) 105 = some (false, a_const 100 107) ∧ tget (tab_6_noteLine X) 107 = some (false, a_iload 7 109) ∧ tget (tab_6_noteLine X) 109 = some (false, a_mul 110) ∧ tget (tab_6_noteLine X) 110 = some (false, a_add 111) ∧ tget (tab_6_noteLine X) 111 = some (false, a_iload 6 113) ∧ tget (tab_6_noteLine X) 113 = some (false, a_add 114) ∧ tget (tab_6_noteLine X) 114 = some (false, a_iret M_6_noteLine) ∧ tget (tab_6_noteLine X) 115 = some (false, a_iload 6 117) ∧ tget (tab_6_noteLine X) 117 = some (false, a_iload 8 119) ∧ tget (tab_6_noteLine X) 119 = some (false, a_sub 120) ∧ tget (tab_6_noteLine X) 120 = some (false, a_istore 6 122) ∧ tget (tab_6_noteLine X) 122 = some (false, a_iinc 7 1 125) ∧ tget (tab_6_noteLine X) 125 = some (false, a_goto 75) ∧ tget (tab_6_noteLine X) 128 = some (false, a_const 0 129) ∧ tget (tab_6_noteLine X) 129 = some (false, a_iret M_6_noteLine) := ⟨rfl, rfl, rfl, rfl, rfl, rfl, rfl, rfl, rfl, rfl, rfl, rfl, rfl, rfl, rfl, rfl, rfl, rfl, rfl, rfl, rfl, rfl, rfl, rfl, rfl, rfl, rfl, rfl, rfl, rfl, rfl, rfl, rfl, rfl, rfl, rfl, rfl, rfl, rfl, rfl, rfl, rfl, rfl, rfl, rfl, rfl, rfl, rfl, rfl, rfl, rfl, rfl, rfl, rfl, rfl, rfl, rfl, rfl, rfl, rfl, rfl, rfl, rfl, rfl, rfl, rfl, rfl, rfl, rfl, rfl, rfl, rfl, rfl, rfl, rfl, rfl, rfl, rfl⟩
theorem tok_6_noteLine (X : XT) : TabOK X M_6_noteLine (tab_6_noteLine X) := by
  unfold tab_6_noteLine
  refine tok_cons (snd_aload_n dX6_noteLine_0 rfl rfl) ?_
  refine tok_cons (snd_gr (C := RX6) (T := TX6) (N := 11) dX6_noteLine_1 rfl (by decide) rfl wf6_27 inX6 rfl) ?_
  refine tok_cons (snd_iconst dX6_noteLine_4 rfl (inr_d rfl) rfl) ?_
  refine tok_cons (snd_aald dX6_noteLine_5 rfl) ?_
  refine tok_cons (snd_iload_n dX6_noteLine_6 rfl rfl) ?_
  refine tok_cons (snd_iald dX6_noteLine_7 rfl) ?_
  refine tok_cons (snd_istore dX6_noteLine_8 rfl (by decide)) ?_
  refine tok_cons (snd_aload_n dX6_noteLine_10 rfl rfl) ?_
  refine tok_cons (snd_gr (C := RX6) (T := TX6) (N := 11) dX6_noteLine_11 rfl (by decide) rfl wf6_27 inX6 rfl) ?_
  refine tok_cons (snd_bipush dX6_noteLine_14 (by decide) (inr_d rfl) rfl) ?_
  refine tok_cons (snd_aald dX6_noteLine_16 rfl) ?_
  refine tok_cons (snd_iload_n dX6_noteLine_17 rfl rfl) ?_
  refine tok_cons (snd_iald dX6_noteLine_18 rfl) ?_
  refine tok_cons (snd_istore dX6_noteLine_19 rfl (by decide)) ?_
  refine tok_cons (snd_iload_n dX6_noteLine_21 rfl rfl) ?_
  refine tok_cons (snd_iload dX6_noteLine_22 rfl) ?_
  refine tok_cons (snd_icmp_ge dX6_noteLine_24 (by decide) rfl) ?_
  refine tok_cons (snd_iload dX6_noteLine_27 rfl) ?_
  refine tok_cons (snd_if_le dX6_noteLine_29 (by decide) rfl) ?_
  refine tok_cons (snd_aload_n dX6_noteLine_32 rfl rfl) ?_
  refine tok_cons (snd_gr (C := RX4) (T := TX4) (N := 2) dX6_noteLine_33 rfl (by decide) rfl wf6_188 inX4 rfl) ?_
  refine tok_cons (snd_iconst dX6_noteLine_36 rfl (inr_d rfl) rfl) ?_
  refine tok_cons (snd_aald dX6_noteLine_37 rfl) ?_
  refine tok_cons (snd_iload dX6_noteLine_38 rfl) ?_
  refine tok_cons (snd_iconst dX6_noteLine_40 rfl (inr_d rfl) rfl) ?_
  refine tok_cons (snd_sub dX6_noteLine_41 rfl) ?_
  refine tok_cons (snd_iald dX6_noteLine_42 rfl) ?_
  refine tok_cons (snd_iload dX6_noteLine_43 rfl) ?_
  refine tok_cons (snd_sub dX6_noteLine_45 rfl) ?_
  refine tok_cons (snd_istore dX6_noteLine_46 rfl (by decide)) ?_
  refine tok_cons (snd_sipush dX6_noteLine_48 (by decide) (inr_d rfl) rfl) ?_
  refine tok_cons (snd_bipush dX6_noteLine_51 (by decide) (inr_d rfl) rfl) ?_
  refine tok_cons (snd_iload dX6_noteLine_53 rfl) ?_
  refine tok_cons (snd_iconst dX6_noteLine_55 rfl (inr_d rfl) rfl) ?_
  refine tok_cons (snd_sub dX6_noteLine_56 rfl) ?_
  refine tok_cons (snd_mul dX6_noteLine_57 rfl) ?_
  refine tok_cons (snd_add dX6_noteLine_58 rfl) ?_
  refine tok_cons (snd_iload dX6_noteLine_59 rfl) ?_
  refine tok_cons (snd_add dX6_noteLine_61 rfl) ?_
  refine tok_cons (snd_iload_n dX6_noteLine_62 rfl rfl) ?_
  refine tok_cons (snd_add dX6_noteLine_63 rfl) ?_
  refine tok_cons (snd_iret dX6_noteLine_64 rfl) ?_
  refine tok_cons (snd_iload_n dX6_noteLine_65 rfl rfl) ?_
  refine tok_cons (snd_iload dX6_noteLine_66 rfl) ?_
  refine tok_cons (snd_sub dX6_noteLine_68 rfl) ?_
  refine tok_cons (snd_istore dX6_noteLine_69 rfl (by decide)) ?_
  refine tok_cons (snd_iload dX6_noteLine_71 rfl) ?_
  refine tok_cons (snd_istore dX6_noteLine_73 rfl (by decide)) ?_
  refine tok_cons (snd_iload dX6_noteLine_75 rfl) ?_
  refine tok_cons (snd_aload_n dX6_noteLine_77 rfl rfl) ?_
  refine tok_cons (snd_gi (C := RX4) (T := TX4) (N := 2) dX6_noteLine_78 rfl (by decide) rfl wf6_193 inX4 rfl rfl) ?_
  refine tok_cons (snd_icmp_ge dX6_noteLine_81 (by decide) rfl) ?_
  refine tok_cons (snd_aload_n dX6_noteLine_84 rfl rfl) ?_
  refine tok_cons (snd_gr (C := RX4) (T := TX4) (N := 2) dX6_noteLine_85 rfl (by decide) rfl wf6_188 inX4 rfl) ?_
  refine tok_cons (snd_iconst dX6_noteLine_88 rfl (inr_d rfl) rfl) ?_
  refine tok_cons (snd_aald dX6_noteLine_89 rfl) ?_
  refine tok_cons (snd_iload dX6_noteLine_90 rfl) ?_
  refine tok_cons (snd_iald dX6_noteLine_92 rfl) ?_
  refine tok_cons (snd_istore dX6_noteLine_93 rfl (by decide)) ?_
  refine tok_cons (snd_iload dX6_noteLine_95 rfl) ?_
  refine tok_cons (snd_iload dX6_noteLine_97 rfl) ?_
  refine tok_cons (snd_icmp_ge dX6_noteLine_99 (by decide) rfl) ?_
  refine tok_cons (snd_sipush dX6_noteLine_102 (by decide) (inr_d rfl) rfl) ?_
  refine tok_cons (snd_bipush dX6_noteLine_105 (by decide) (inr_d rfl) rfl) ?_
  refine tok_cons (snd_iload dX6_noteLine_107 rfl) ?_
  refine tok_cons (snd_mul dX6_noteLine_109 rfl) ?_
  refine tok_cons (snd_add dX6_noteLine_110 rfl) ?_
  refine tok_cons (snd_iload dX6_noteLine_111 rfl) ?_
  refine tok_cons (snd_add dX6_noteLine_113 rfl) ?_
  refine tok_cons (snd_iret dX6_noteLine_114 rfl) ?_
  refine tok_cons (snd_iload dX6_noteLine_115 rfl) ?_
  refine tok_cons (snd_iload dX6_noteLine_117 rfl) ?_
  refine tok_cons (snd_sub dX6_noteLine_119 rfl) ?_
  refine tok_cons (snd_istore dX6_noteLine_120 rfl (by decide)) ?_
  refine tok_cons (snd_iinc dX6_noteLine_122 rfl rfl (by decide)) ?_
  refine tok_cons (snd_goto dX6_noteLine_125 (by decide)) ?_
  refine tok_cons (snd_iconst dX6_noteLine_128 rfl (inr_d rfl) rfl) ?_
  refine tok_cons (snd_iret dX6_noteLine_129 rfl) ?_
  exact tok_nil
def tab_6_blankSquares (X : XT) : Tab := [(0, false, a_const 0 1), (1, false, a_istore 1 2), (2, false, a_const 0 3), (3, false, a_istore 2 4), (4, true, a_iload 2 5), (5, false, a_const 2 6), (6, false, a_aload 0 7), (7, false, a_gi 6 1 1 10), (10, false, a_const 1 11), (11, false, a_sub 12), (12, false, a_mul 13), (13, false, a_icmp 3 42 16), (16, false, a_iload 1 17), (17, false, a_aload 0 18), (18, false, a_gr 6 5 21), (21, false, a_const 2 22), (22, false, a_aald 23), (23, false, a_iload 2 24), (24, false, a_ald false 25), (25, false, a_aload 0 26), (26, false, a_gr 6 5 29), (29, false, a_const 2 30), (30, false, a_aald 31), (31, false, a_iload 2 32), (32, false, a_ald false 33), (33, false, a_mul 34), (34, false, a_add 35), (35, false, a_istore 1 36), (36, false, a_iinc 2 1 39), (39, false, a_goto 4), (42, false, a_iload 1 43), (43, false, a_iret M_6_blankSquares)]
set_option maxRecDepth 20000 in
theorem t_6_blankSquares (X : XT) : tget (tab_6_blankSquares X) 0 = some (false, a_const 0 1) ∧ tget (tab_6_blankSquares X) 1 = some (false, a_istore 1 2) ∧ tget (tab_6_blankSquares X) 2 = some (false, a_const 0 3) ∧ tget (tab_6_blankSquares X) 3 = some (false, a_istore 2 4) ∧ tget (tab_6_blankSquares X) 4 = some (true, a_iload 2 5) ∧ tget (tab_6_blankSquares X) 5 = some (false, a_const 2 6) ∧ tget (tab_6_blankSquares X) 6 = some (false, a_aload 0 7) ∧ tget (tab_6_blankSquares X) 7 = some (false, a_gi 6 1 1 10) ∧ tget (tab_6_blankSquares X) 10 = some (false, a_const 1 11) ∧ tget (tab_6_blankSquares X) 11 = some (false, a_sub 12) ∧ tget (tab_6_blankSquares X) 12 = some (false, a_mul 13) ∧ tget (tab_6_blankSquares X) 13 = some (false, a_icmp 3 42 16) ∧ tget (tab_6_blankSquares X) 16 = some (false, a_iload 1 17) ∧ tget (tab_6_blankSquares X) 17 = some (false, a_aload 0 18) ∧ tget (tab_6_blankSquares X) 18 = some (false, a_gr 6 5 21) ∧ tget (tab_6_blankSquares X) 21 = some (false, a_const 2 22) ∧ tget (tab_6_blankSquares X) 22 = some (false, a_aald 23) ∧ tget (tab_6_blankSquares X) 23 = some (false, a_iload 2 24) ∧ tget (tab_6_blankSquares X) 24 = some (false, a_ald false 25) ∧ tget (tab_6_blankSquares X) 25 = some (false, a_aload 0 26) ∧ tget (tab_6_blankSquares X) 26 = some (false, a_gr 6 5 29) ∧ tget (tab_6_blankSquares X) 29 = some (false, a_const 2 30) ∧ tget (tab_6_blankSquares X) 30 = some (false, a_aald 31) ∧ tget (tab_6_blankSquares X) 31 = some (false, a_iload 2 32) ∧ tget (tab_6_blankSquares X) 32 = some (false, a_ald false 33) ∧ tget (tab_6_blankSquares X) 33 = some (false, a_mul 34) ∧ tget (tab_6_blankSquares X) 34 = some (false, a_add 35) ∧ tget (tab_6_blankSquares X) 35 = some (false, a_istore 1 36) ∧ tget (tab_6_blankSquares X) 36 = some (false, a_iinc 2 1 39) ∧ tget (tab_6_blankSquares X) 39 = some (false, a_goto 4) ∧ tget (tab_6_blankSquares X) 42 = some (false, a_iload 1 43) ∧ tget (tab_6_blankSquares X) 43 = some (false, a_iret M_6_blankSquares) := ⟨rfl, rfl, rfl, rfl, rfl, rfl, rfl, rfl, rfl, rfl, rfl, rfl, rfl, rfl, rfl, rfl, rfl, rfl, rfl, rfl, rfl, rfl, rfl, rfl, rfl, rfl, rfl, rfl, rfl, rfl, rfl, rfl⟩
theorem tok_6_blankSquares (X : XT) : TabOK X M_6_blankSquares (tab_6_blankSquares X) := by
  unfold tab_6_blankSquares
  refine tok_cons (snd_iconst dX6_blankSquares_0 rfl (inr_d rfl) rfl) ?_
  refine tok_cons (snd_istore_n dX6_blankSquares_1 rfl rfl (by decide)) ?_
  refine tok_cons (snd_iconst dX6_blankSquares_2 rfl (inr_d rfl) rfl) ?_
  refine tok_cons (snd_istore_n dX6_blankSquares_3 rfl rfl (by decide)) ?_
  refine tok_cons (snd_iload_n dX6_blankSquares_4 rfl rfl) ?_
  refine tok_cons (snd_iconst dX6_blankSquares_5 rfl (inr_d rfl) rfl) ?_
  refine tok_cons (snd_aload_n dX6_blankSquares_6 rfl rfl) ?_
  refine tok_cons (snd_gi (C := RX6) (T := TX6) (N := 11) dX6_blankSquares_7 rfl (by decide) rfl wf6_50 inX6 rfl rfl) ?_
  refine tok_cons (snd_iconst dX6_blankSquares_10 rfl (inr_d rfl) rfl) ?_
  refine tok_cons (snd_sub dX6_blankSquares_11 rfl) ?_
  refine tok_cons (snd_mul dX6_blankSquares_12 rfl) ?_
  refine tok_cons (snd_icmp_ge dX6_blankSquares_13 (by decide) rfl) ?_
  refine tok_cons (snd_iload_n dX6_blankSquares_16 rfl rfl) ?_
  refine tok_cons (snd_aload_n dX6_blankSquares_17 rfl rfl) ?_
  refine tok_cons (snd_gr (C := RX6) (T := TX6) (N := 11) dX6_blankSquares_18 rfl (by decide) rfl wf6_27 inX6 rfl) ?_
  refine tok_cons (snd_iconst dX6_blankSquares_21 rfl (inr_d rfl) rfl) ?_
  refine tok_cons (snd_aald dX6_blankSquares_22 rfl) ?_
  refine tok_cons (snd_iload_n dX6_blankSquares_23 rfl rfl) ?_
  refine tok_cons (snd_iald dX6_blankSquares_24 rfl) ?_
  refine tok_cons (snd_aload_n dX6_blankSquares_25 rfl rfl) ?_
  refine tok_cons (snd_gr (C := RX6) (T := TX6) (N := 11) dX6_blankSquares_26 rfl (by decide) rfl wf6_27 inX6 rfl) ?_
  refine tok_cons (snd_iconst dX6_blankSquares_29 rfl (inr_d rfl) rfl) ?_
  refine tok_cons (snd_aald dX6_blankSquares_30 rfl) ?_
  refine tok_cons (snd_iload_n dX6_blankSquares_31 rfl rfl) ?_
  refine tok_cons (snd_iald dX6_blankSquares_32 rfl) ?_
  refine tok_cons (snd_mul dX6_blankSquares_33 rfl) ?_
  refine tok_cons (snd_add dX6_blankSquares_34 rfl) ?_
  refine tok_cons (snd_istore_n dX6_blankSquares_35 rfl rfl (by decide)) ?_
  refine tok_cons (snd_iinc dX6_blankSquares_36 rfl rfl (by decide)) ?_
  refine tok_cons (snd_goto dX6_blankSquares_39 (by decide)) ?_
  refine tok_cons (snd_iload_n dX6_blankSquares_42 rfl rfl) ?_
  refine tok_cons (snd_iret dX6_blankSquares_43 rfl) ?_
  exact tok_nil
def tab_7_pairCount (X : XT) : Tab := [(0, false, a_aload 0 1), (1, false, a_gr 7 0 4), (4, false, a_gi 1 0 0 7), (7, false, a_iret M_7_pairCount)]
set_option maxRecDepth 20000 in
theorem t_7_pairCount (X : XT) : tget (tab_7_pairCount X) 0 = some (false, a_aload 0 1) ∧ tget (tab_7_pairCount X) 1 = some (false, a_gr 7 0 4) ∧ tget (tab_7_pairCount X) 4 = some (false, a_gi 1 0 0 7) ∧ tget (tab_7_pairCount X) 7 = some (false, a_iret M_7_pairCount) := ⟨rfl, rfl, rfl, rfl⟩
theorem tok_7_pairCount (X : XT) : TabOK X M_7_pairCount (tab_7_pairCount X) := by
  unfold tab_7_pairCount
  refine tok_cons (snd_aload_n dX7_pairCount_0 rfl rfl) ?_
  refine tok_cons (snd_gr (C := RX7) (T := TX7) (N := 4) dX7_pairCount_1 rfl (by decide) rfl wf7_10 inX7 rfl) ?_
  refine tok_cons (snd_gi (C := RX1) (T := TX1) (N := 5) dX7_pairCount_4 rfl (by decide) rfl wf7_37 inX1 rfl rfl) ?_
  refine tok_cons (snd_iret dX7_pairCount_7 rfl) ?_
  exact tok_nil
def tab_7_forgetResults (X : XT) : Tab := [(0, false, a_aload 0 1), (1, false, a_gr 7 2 4), (4, false, a_const 0 5), (5, false, a_pi 6 0 0 false 8), (8, false, a_aload 0 9), (9, false, a_gr 7 3 12), (12, false, a_const 0 13), (13, false, a_pi 0 0 0 true 16), (16, false, a_ret M_7_forgetResults)]
set_option maxRecDepth 20000 in
theorem t_7_forgetResults (X : XT) : tget (tab_7_forgetResults X) 0 = some (false, a_aload 0 1) ∧ tget (tab_7_forgetResults X) 1 = some (false, a_gr 7 2 4) ∧ tget (tab_7_forgetResults X) 4 = some (false, a_const 0 5) ∧ tget (tab_7_forgetResults X) 5 = some (false, a_pi 6 0 0 false 8) ∧ tget (tab_7_forgetResults X) 8 = some (false, a_aload 0 9) ∧ tget (tab_7_forgetResults X) 9 = some (false, a_gr 7 3 12) ∧ tget (tab_7_forgetResults X) 12 = some (false, a_const 0 13) ∧ tget (tab_7_forgetResults X) 13 = some (false, a_pi 0 0 0 true 16) ∧ tget (tab_7_forgetResults X) 16 = some (false, a_ret M_7_forgetResults) := ⟨rfl, rfl, rfl, rfl, rfl, rfl, rfl, rfl, rfl⟩
theorem tok_7_forgetResults (X : XT) : TabOK X M_7_forgetResults (tab_7_forgetResults X) := by
  unfold tab_7_forgetResults
  refine tok_cons (snd_aload_n dX7_forgetResults_0 rfl rfl) ?_
  refine tok_cons (snd_gr (C := RX7) (T := TX7) (N := 4) dX7_forgetResults_1 rfl (by decide) rfl wf7_26 inX7 rfl) ?_
  refine tok_cons (snd_iconst dX7_forgetResults_4 rfl (inr_d rfl) rfl) ?_
  refine tok_cons (snd_pi (C := RX6) (T := TX6) (N := 11) (ty0 := tyX6) dX7_forgetResults_5 rfl (by decide) rfl wf7_188 inX6 tyX6_ok nmX6 (by decide +kernel) rfl rfl) ?_
  refine tok_cons (snd_aload_n dX7_forgetResults_8 rfl rfl) ?_
  refine tok_cons (snd_gr (C := RX7) (T := TX7) (N := 4) dX7_forgetResults_9 rfl (by decide) rfl wf7_33 inX7 rfl) ?_
  refine tok_cons (snd_iconst dX7_forgetResults_12 rfl (inr_d rfl) rfl) ?_
  refine tok_cons (snd_pi (C := RX0) (T := TX0) (N := 7) (ty0 := tyX0) dX7_forgetResults_13 rfl (by decide) rfl wf7_191 inX0 tyX0_ok nmX0 (by decide +kernel) rfl rfl) ?_
  refine tok_cons (snd_ret dX7_forgetResults_16 rfl) ?_
  exact tok_nil
def tab_7_isIn (X : XT) : Tab := [(0, false, a_iload 0 1), (1, false, a_iload 1 2), (2, false, a_icmp 2 14 5), (5, false, a_iload 0 6), (6, false, a_iload 2 7), (7, false, a_icmp 4 14 10), (10, false, a_const 1 11), (11, false, a_goto 15), (14, false, a_const 0 15), (15, false, a_zret M_7_isIn)]
set_option maxRecDepth 20000 in
theorem t_7_isIn (X : XT) : tget (tab_7_isIn X) 0 = some (false, a_iload 0 1) ∧ tget (tab_7_isIn X) 1 = some (false, a_iload 1 2) ∧ tget (tab_7_isIn X) 2 = some (false, a_icmp 2 14 5) ∧ tget (tab_7_isIn X) 5 = some (false, a_iload 0 6) ∧ tget (tab_7_isIn X) 6 = some (false, a_iload 2 7) ∧ tget (tab_7_isIn X) 7 = some (false, a_icmp 4 14 10) ∧ tget (tab_7_isIn X) 10 = some (false, a_const 1 11) ∧ tget (tab_7_isIn X) 11 = some (false, a_goto 15) ∧ tget (tab_7_isIn X) 14 = some (false, a_const 0 15) ∧ tget (tab_7_isIn X) 15 = some (false, a_zret M_7_isIn) := ⟨rfl, rfl, rfl, rfl, rfl, rfl, rfl, rfl, rfl, rfl⟩
theorem tok_7_isIn (X : XT) : TabOK X M_7_isIn (tab_7_isIn X) := by
  unfold tab_7_isIn
  refine tok_cons (snd_iload_n dX7_isIn_0 rfl rfl) ?_
  refine tok_cons (snd_iload_n dX7_isIn_1 rfl rfl) ?_
  refine tok_cons (snd_icmp_lt dX7_isIn_2 (by decide) rfl) ?_
  refine tok_cons (snd_iload_n dX7_isIn_5 rfl rfl) ?_
  refine tok_cons (snd_iload_n dX7_isIn_6 rfl rfl) ?_
  refine tok_cons (snd_icmp_gt dX7_isIn_7 (by decide) rfl) ?_
  refine tok_cons (snd_iconst dX7_isIn_10 rfl (inr_d rfl) rfl) ?_
  refine tok_cons (snd_goto dX7_isIn_11 (by decide)) ?_
  refine tok_cons (snd_iconst dX7_isIn_14 rfl (inr_d rfl) rfl) ?_
  refine tok_cons (snd_zret dX7_isIn_15 rfl) ?_
  exact tok_nil
def tab_7_copyTable (X : XT) : Tab := [(0, false, a_const 0 1), (1, false, a_istore 2 2), (2, false, a_iload 2 3), (3, false, a_aload 0 4), (4, false, a_len 5), (5, false, a_icmp 3 42 8), (8, false, a_iload 2 9), (9, false, a_aload 1 10), (10, false, a_len 11), (11, false, a_icmp 3 42 14), (14, false, a_aload 0 15), (15, false, a_iload 2 16), (16, false, a_aald 17), (17, false, a_const 0 18), (18, false, a_aload 1 19), (19, false, a_iload 2 20), (20, false, a_aald 21), (21, false, a_const 0 22), (22, false, a_aload 0 23), (23, false, a_iload 2 24), (24, false, a_aald 25), (25, false, a_len 26), (26, false, a_aload 1 27), (27, false, a_iload 2 28), (28, false, a_aald 29), (29, false, a_len 30), (30, false, a_min M_7_copyTable 33), (33, false, a_copy 36), (36, false, a_iinc 2 1 39), (39, false, a_goto 2), (42, false, a_ret M_7_copyTable)]
set_option maxRecDepth 20000 in
theorem t_7_copyTable (X : XT) : tget (tab_7_copyTable X) 0 = some (false, a_const 0 1) ∧ tget (tab_7_copyTable X) 1 = some (false, a_istore 2 2) ∧ tget (tab_7_copyTable X) 2 = some (false, a_iload 2 3) ∧ tget (tab_7_copyTable X) 3 = some (false, a_aload 0 4) ∧ tget (tab_7_copyTable X) 4 = some (false, a_len 5) ∧ tget (tab_7_copyTable X) 5 = some (false, a_icmp 3 42 8) ∧ tget (tab_7_copyTable X) 8 = some (false, a_iload 2 9) ∧ tget (tab_7_copyTable X) 9 = some (false, a_aload 1 10) ∧ tget (tab_7_copyTable X) 10 = some (false, a_len 11) ∧ tget (tab_7_copyTable X) 11 = some (false, a_icmp 3 42 14) ∧ tget (tab_7_copyTable X) 14 = some (false, a_aload 0 15) ∧ tget (tab_7_copyTable X) 15 = some (false, a_iload 2 16) ∧ tget (tab_7_copyTable X) 16 = some (false, a_aald 17) ∧ tget (tab_7_copyTable X) 17 = some (false, a_const 0 18) ∧ tget (tab_7_copyTable X) 18 = some (false, a_aload 1 19) ∧ tget (tab_7_copyTable X) 19 = some (false, a_iload 2 20) ∧ tget (tab_7_copyTable X) 20 = some (false, a_aald 21) ∧ tget (tab_7_copyTable X) 21 = some (false, a_const 0 22) ∧ tget (tab_7_copyTable X) 22 = some (false, a_aload 0 23) ∧ tget (tab_7_copyTable X) 23 = some (false, a_iload 2 24) ∧ tget (tab_7_copyTable X) 24 = some (false, a_aald 25) ∧ tget (tab_7_copyTable X) 25 = some (false, a_len 26) ∧ tget (tab_7_copyTable X) 26 = some (false, a_aload 1 27) ∧ tget (tab_7_copyTable X) 27 = some (false, a_iload 2 28) ∧ tget (tab_7_copyTable X) 28 = some (false, a_aald 29) ∧ tget (tab_7_copyTable X) 29 = some (false, a_len 30) ∧ tget (tab_7_copyTable X) 30 = some (false, a_min M_7_copyTable 33) ∧ tget (tab_7_copyTable X) 33 = some (false, a_copy 36) ∧ tget (tab_7_copyTable X) 36 = some (false, a_iinc 2 1 39) ∧ tget (tab_7_copyTable X) 39 = some (false, a_goto 2) ∧ tget (tab_7_copyTable X) 42 = some (false, a_ret M_7_copyTable) := ⟨rfl, rfl, rfl, rfl, rfl, rfl, rfl, rfl, rfl, rfl, rfl, rfl, rfl, rfl, rfl, rfl, rfl, rfl, rfl, rfl, rfl, rfl, rfl, rfl, rfl, rfl, rfl, rfl, rfl, rfl, rfl⟩
theorem tok_7_copyTable (X : XT) : TabOK X M_7_copyTable (tab_7_copyTable X) := by
  unfold tab_7_copyTable
  refine tok_cons (snd_iconst dX7_copyTable_0 rfl (inr_d rfl) rfl) ?_
  refine tok_cons (snd_istore_n dX7_copyTable_1 rfl rfl (by decide)) ?_
  refine tok_cons (snd_iload_n dX7_copyTable_2 rfl rfl) ?_
  refine tok_cons (snd_aload_n dX7_copyTable_3 rfl rfl) ?_
  refine tok_cons (snd_len dX7_copyTable_4 rfl) ?_
  refine tok_cons (snd_icmp_ge dX7_copyTable_5 (by decide) rfl) ?_
  refine tok_cons (snd_iload_n dX7_copyTable_8 rfl rfl) ?_
  refine tok_cons (snd_aload_n dX7_copyTable_9 rfl rfl) ?_
  refine tok_cons (snd_len dX7_copyTable_10 rfl) ?_
  refine tok_cons (snd_icmp_ge dX7_copyTable_11 (by decide) rfl) ?_
  refine tok_cons (snd_aload_n dX7_copyTable_14 rfl rfl) ?_
  refine tok_cons (snd_iload_n dX7_copyTable_15 rfl rfl) ?_
  refine tok_cons (snd_aald dX7_copyTable_16 rfl) ?_
  refine tok_cons (snd_iconst dX7_copyTable_17 rfl (inr_d rfl) rfl) ?_
  refine tok_cons (snd_aload_n dX7_copyTable_18 rfl rfl) ?_
  refine tok_cons (snd_iload_n dX7_copyTable_19 rfl rfl) ?_
  refine tok_cons (snd_aald dX7_copyTable_20 rfl) ?_
  refine tok_cons (snd_iconst dX7_copyTable_21 rfl (inr_d rfl) rfl) ?_
  refine tok_cons (snd_aload_n dX7_copyTable_22 rfl rfl) ?_
  refine tok_cons (snd_iload_n dX7_copyTable_23 rfl rfl) ?_
  refine tok_cons (snd_aald dX7_copyTable_24 rfl) ?_
  refine tok_cons (snd_len dX7_copyTable_25 rfl) ?_
  refine tok_cons (snd_aload_n dX7_copyTable_26 rfl rfl) ?_
  refine tok_cons (snd_iload_n dX7_copyTable_27 rfl rfl) ?_
  refine tok_cons (snd_aald dX7_copyTable_28 rfl) ?_
  refine tok_cons (snd_len dX7_copyTable_29 rfl) ?_
  refine tok_cons (snd_min dX7_copyTable_30 wm7_201 ws_min wn_Math wc_min (by decide) rfl) ?_
  refine tok_cons (snd_copy dX7_copyTable_33 wm7_195 wnat ws_acopy wn_Sys (by decide) rfl) ?_
  refine tok_cons (snd_iinc dX7_copyTable_36 rfl rfl (by decide)) ?_
  refine tok_cons (snd_goto dX7_copyTable_39 (by decide)) ?_
  refine tok_cons (snd_ret dX7_copyTable_42 rfl) ?_
  exact tok_nil
def tab_0_blankSquares (X : XT) : Tab := [(0, false, a_const 0 1), (1, false, a_istore 2 2), (2, false, a_const 0 3), (3, false, a_istore 3 4), (4, false, a_iload 3 5), (5, false, a_const 2 6), (6, false, a_icmp 3 57 9), (9, false, a_aload 1 10), (10, false, a_gr 1 4 13), (13, false, a_const 0 14), (14, false, a_ald false 15), (15, false, a_aload 0 16), (16, false, a_gr 0 5 19), (19, false, a_gr 2 0 22), (22, false, a_iload 3 23), (23, false, a_ald false 24), (24, false, a_sub 25), (25, false, a_aload 0 26), (26, false, a_gr 0 5 29), (29, false, a_iload 3 30), (30, false, a_aload 1 31), (31, false, a_gr 1 4 34), (34, false, a_const 2 35), (35, false, a_ald false 36), (36, false, a_const 0 37), (37, false, a_cv X M_0_blankSquares M_2_noteRows 2 4 40), (40, false, a_sub 41), (41, false, a_istore 4 43), (43, false, a_iload 2 44), (44, false, a_iload 4 46), (46, false, a_iload 4 48), (48, false, a_mul 49), (49, false, a_add 50), (50, false, a_istore 2 51), (51, false, a_iinc 3 1 54), (54, false, a_goto 4), (57, false, a_iload 2 58), (58, false, a_iret M_0_blankSquares)]
set_option maxRecDepth 20000 in
theorem t_0_blankSquares (X : XT) : tget (tab_0_blankSquares X) 0 = some (false, a_const 0 1) ∧ tget (tab_0_blankSquares X) 1 = some (false, a_istore 2 2) ∧ tget (tab_0_blankSquares X) 2 = some (false, a_const 0 3) ∧ tget (tab_0_blankSquares X) 3 = some (false, a_istore 3 4) ∧ tget (tab_0_blankSquares X) 4 = some (false, a_iload 3 5) ∧ tget (tab_0_blankSquares X) 5 = some (false, a_const 2 6) ∧ tget (tab_0_blankSquares X) 6 = some (false, a_icmp 3 57 9) ∧ tget (tab_0_blankSquares X) 9 = some (false, a_aload 1 10) ∧ tget (tab_0_blankSquares X) 10 = some (false, a_gr 1 4 13) ∧ tget (tab_0_blankSquares X) 13 = some (false, a_const 0 14) ∧ tget (tab_0_blankSquares X) 14 = some (false, a_ald false 15) ∧ tget (tab_0_blankSquares X) 15 = some (false, a_aload 0 16) ∧ tget (tab_0_blankSquares X) 16 = some (false, a_gr 0 5 19) ∧ tget (tab_0_blankSquares X) 19 = some (false, a_gr 2 0 22) ∧ tget (tab_0_blankSquares X) 22 = some (false, a_iload 3 23) ∧ tget (tab_0_blankSquares X) 23 = some (false, a_ald false 24) ∧ tget (tab_0_blankSquares X) 24 = some (false, a_sub 25) ∧ tget (tab_0_blankSquares X) 25 = some (false, a_aload 0 26) ∧ tget (tab_0_blankSquares X) 26 = some (false, a_gr 0 5 29) ∧ tget (tab_0_blankSquares X) 29 = some (false, a_iload 3 30) ∧ tget (tab_0_blankSquares X) 30 = some (false, a_aload 1 31) ∧ tget (tab_0_blankSquares X) 31 = some (false, a_gr 1 4 34) ∧ tget (tab_0_blankSquares X) 34 = some (false, a_const 2 35) ∧ tget (tab_0_blankSquares X) 35 = some (false, a_ald false 36) ∧ tget (tab_0_blankSquares X) 36 = some (false, a_const 0 37) ∧ tget (tab_0_blankSquares X) 37 = some (false, a_cv X M_0_blankSquares M_2_noteRows 2 4 40) ∧ tget (tab_0_blankSquares X) 40 = some (false, a_sub 41) ∧ tget (tab_0_blankSquares X) 41 = some (false, a_istore 4 43) ∧ tget (tab_0_blankSquares X) 43 = some (false, a_iload 2 44) ∧ tget (tab_0_blankSquares X) 44 = some (false, a_iload 4 46) ∧ tget (tab_0_blankSquares X) 46 = some (false, a_iload 4 48) ∧ tget (tab_0_blankSquares X) 48 = some (false, a_mul 49) ∧ tget (tab_0_blankSquares X) 49 = some (false, a_add 50) ∧ tget (tab_0_blankSquares X) 50 = some (false, a_istore 2 51) ∧ tget (tab_0_blankSquares X) 51 = some (false, a_iinc 3 1 54) ∧ tget (tab_0_blankSquares X) 54 = some (false, a_goto 4) ∧ tget (tab_0_blankSquares X) 57 = some (false, a_iload 2 58) ∧ tget (tab_0_blankSquares X) 58 = some (false, a_iret M_0_blankSquares) := ⟨rfl, rfl, rfl, rfl, rfl, rfl, rfl, rfl, rfl, rfl, rfl, rfl, rfl, rfl, rfl, rfl, rfl, rfl, rfl, rfl, rfl, rfl, rfl, rfl, rfl, rfl, rfl, rfl, rfl, rfl, rfl, rfl, rfl, rfl, rfl, rfl, rfl, rfl⟩
theorem tok_0_blankSquares (X : XT) : TabOK X M_0_blankSquares (tab_0_blankSquares X) := by
  unfold tab_0_blankSquares
  refine tok_cons (snd_iconst dX0_blankSquares_0 rfl (inr_d rfl) rfl) ?_
  refine tok_cons (snd_istore_n dX0_blankSquares_1 rfl rfl (by decide)) ?_
  refine tok_cons (snd_iconst dX0_blankSquares_2 rfl (inr_d rfl) rfl) ?_
  refine tok_cons (snd_istore_n dX0_blankSquares_3 rfl rfl (by decide)) ?_
  refine tok_cons (snd_iload_n dX0_blankSquares_4 rfl rfl) ?_
  refine tok_cons (snd_iconst dX0_blankSquares_5 rfl (inr_d rfl) rfl) ?_
  refine tok_cons (snd_icmp_ge dX0_blankSquares_6 (by decide) rfl) ?_
  refine tok_cons (snd_aload_n dX0_blankSquares_9 rfl rfl) ?_
  refine tok_cons (snd_gr (C := RX1) (T := TX1) (N := 5) dX0_blankSquares_10 rfl (by decide) rfl wf0_84 inX1 rfl) ?_
  refine tok_cons (snd_iconst dX0_blankSquares_13 rfl (inr_d rfl) rfl) ?_
  refine tok_cons (snd_iald dX0_blankSquares_14 rfl) ?_
  refine tok_cons (snd_aload_n dX0_blankSquares_15 rfl rfl) ?_
  refine tok_cons (snd_gr (C := RX0) (T := TX0) (N := 7) dX0_blankSquares_16 rfl (by decide) rfl wf0_24 inX0 rfl) ?_
  refine tok_cons (snd_gr (C := RX2) (T := TX2) (N := 7) dX0_blankSquares_19 rfl (by decide) rfl wf0_99 inX2 rfl) ?_
  refine tok_cons (snd_iload_n dX0_blankSquares_22 rfl rfl) ?_
  refine tok_cons (snd_iald dX0_blankSquares_23 rfl) ?_
  refine tok_cons (snd_sub dX0_blankSquares_24 rfl) ?_
  refine tok_cons (snd_aload_n dX0_blankSquares_25 rfl rfl) ?_
  refine tok_cons (snd_gr (C := RX0) (T := TX0) (N := 7) dX0_blankSquares_26 rfl (by decide) rfl wf0_24 inX0 rfl) ?_
  refine tok_cons (snd_iload_n dX0_blankSquares_29 rfl rfl) ?_
  refine tok_cons (snd_aload_n dX0_blankSquares_30 rfl rfl) ?_
  refine tok_cons (snd_gr (C := RX1) (T := TX1) (N := 5) dX0_blankSquares_31 rfl (by decide) rfl wf0_84 inX1 rfl) ?_
  refine tok_cons (snd_iconst dX0_blankSquares_34 rfl (inr_d rfl) rfl) ?_
  refine tok_cons (snd_iald dX0_blankSquares_35 rfl) ?_
  refine tok_cons (snd_iconst dX0_blankSquares_36 rfl (inr_d rfl) rfl) ?_
  refine tok_cons (snd_cv dX0_blankSquares_37 mok_2_noteRows ⟨wm0_102, wi_2_noteRows, wl_2_noteRows⟩ (rc := (RX2, TX2, 7)) rfl rfl pn_2_noteRows (by decide) ⟨rfl, rfl⟩ rfl) ?_
  refine tok_cons (snd_sub dX0_blankSquares_40 rfl) ?_
  refine tok_cons (snd_istore dX0_blankSquares_41 rfl (by decide)) ?_
  refine tok_cons (snd_iload_n dX0_blankSquares_43 rfl rfl) ?_
  refine tok_cons (snd_iload dX0_blankSquares_44 rfl) ?_
  refine tok_cons (snd_iload dX0_blankSquares_46 rfl) ?_
  refine tok_cons (snd_mul dX0_blankSquares_48 rfl) ?_
  refine tok_cons (snd_add dX0_blankSquares_49 rfl) ?_
  refine tok_cons (snd_istore_n dX0_blankSquares_50 rfl rfl (by decide)) ?_
  refine tok_cons (snd_iinc dX0_blankSquares_51 rfl rfl (by decide)) ?_
  refine tok_cons (snd_goto dX0_blankSquares_54 (by decide)) ?_
  refine tok_cons (snd_iload_n dX0_blankSquares_57 rfl rfl) ?_
  refine tok_cons (snd_iret dX0_blankSquares_58 rfl) ?_
  exact tok_nil
def tab_1_hasPair (X : XT) : Tab := [(0, false, a_iload 1 1), (1, false, a_const 0 2), (2, false, a_aload 0 3), (3, false, a_gi 1 0 0 6), (6, false, a_const 1 7), (7, false, a_sub 8), (8, false, a_sv X M_1_hasPair M_7_isIn 3 11), (11, false, a_zret M_1_hasPair)]
set_option maxRecDepth 20000 in
theorem t_1_hasPair (X : XT) : tget (tab_1_hasPair X) 0 = some (false, a_iload 1 1) ∧ tget (tab_1_hasPair X) 1 = some (false, a_const 0 2) ∧ tget (tab_1_hasPair X) 2 = some (false, a_aload 0 3) ∧ tget (tab_1_hasPair X) 3 = some (false, a_gi 1 0 0 6) ∧ tget (tab_1_hasPair X) 6 = some (false, a_const 1 7) ∧ tget (tab_1_hasPair X) 7 = some (false, a_sub 8) ∧ tget (tab_1_hasPair X) 8 = some (false, a_sv X M_1_hasPair M_7_isIn 3 11) ∧ tget (tab_1_hasPair X) 11 = some (false, a_zret M_1_hasPair) := ⟨rfl, rfl, rfl, rfl, rfl, rfl, rfl, rfl⟩
theorem tok_1_hasPair (X : XT) : TabOK X M_1_hasPair (tab_1_hasPair X) := by
  unfold tab_1_hasPair
  refine tok_cons (snd_iload_n dX1_hasPair_0 rfl rfl) ?_
  refine tok_cons (snd_iconst dX1_hasPair_1 rfl (inr_d rfl) rfl) ?_
  refine tok_cons (snd_aload_n dX1_hasPair_2 rfl rfl) ?_
  refine tok_cons (snd_gi (C := RX1) (T := TX1) (N := 5) dX1_hasPair_3 rfl (by decide) rfl wf1_38 inX1 rfl rfl) ?_
  refine tok_cons (snd_iconst dX1_hasPair_6 rfl (inr_d rfl) rfl) ?_
  refine tok_cons (snd_sub dX1_hasPair_7 rfl) ?_
  refine tok_cons (snd_sv dX1_hasPair_8 mok_7_isIn ⟨ws_7_isIn, Or.inr (List.mem_of_getElem? (i := 11) rfl)⟩ pn_7_isIn (by decide) ⟨rfl, rfl⟩ rfl) ?_
  refine tok_cons (snd_zret dX1_hasPair_11 rfl) ?_
  exact tok_nil
def tab_2_put (X : XT) : Tab := [(0, false, a_const 0 1), (1, false, a_istore 3 2), (2, false, a_iload 3 3), (3, false, a_const 2 4), (4, false, a_icmp 3 143 7), (7, false, a_aload 0 8), (8, false, a_gr 2 0 11), (11, false, a_iload 3 12), (12, false, a_aload 0 13), (13, false, a_gr 2 1 16), (16, false, a_iload 3 17), (17, false, a_ald false 18), (18, false, a_aload 2 19), (19, false, a_gr 5 2 22), (22, false, a_iload 3 23), (23, false, a_ald false 24), (24, false, a_add 25), (25, false, a_ast false 26), (26, false, a_aload 1 27), (27, false, a_iload 3 28), (28, false, a_cv X M_2_put M_1_notes 1 2 31), (31, false, a_astore 4 33), (33, false, a_aload 0 34), (34, false, a_gr 2 3 37), (37, false, a_iload 3 38), (38, false, a_ald false 39), (39, false, a_aload 0 40), (40, false, a_gr 2 4 43), (43, false, a_iload 3 44), (44, false, a_ald false 45), (45, false, a_add 46), (46, false, a_istore 5 48), (48, false, a_aload 4 50), (50, false, a_iload 5 52), (52, false, a_aload 2 53), (53, false, a_gi 5 0 0 56), (56, false, a_aload 2 57), (57, false, a_gr 5 1 60), (60, false, a_iload 3 61), (61, false, a_ald false 62), (62, false, a_aload 2 63), (63, false, a_gr 5 2 66), (66, false, a_iload 3 67), (67, false, a_ald false 68), (68, false, a_add 69), (69, false, a_cv X M_2_put M_4_endBefore 4 4 72), (72, false, a_istore 6 74), (74, false, a_iload 5 76), (76, false, a_istore 7 78), (78, true, a_iload 7 80), (80, false, a_iload 6 82), (82, false, a_icmp 3 122 85), (85, false, a_aload 0 86), (86, false, a_gr 2 6 89), (89, false, a_iload 3 90), (90, false, a_aload 4 92), (92, false, a_gr 4 1 95), (95, false, a_const 2 96), (96, false, a_aald 97), (97, false, a_iload 7 99), (99, false, a_ald false 100), (100, false, a_ast false 101), (101, false, a_aload 0 102), (102, false, a_gr 2 5 105), (105, false, a_iload 3 106), (106, false, a_dup2 107), (107, false, a_ald false 108), (108, false, a_aload 0 109), (109, false, a_gr 2 6 112), (112, false, a_iload 3 113), (113, false, a_ald false 114), (114, false, a_add 115), (115, false, a_ast false 116), (116, false, a_iinc 7 1 119), (119, false, a_goto 78), (122, false, a_aload 0 123), (123, false, a_gr 2 4 126), (126, false, a_iload 3 127), (127, false, a_iload 6 129), (129, false, a_aload 0 130), (130, false, a_gr 2 3 133), (133, false, a_iload 3 134), (134, false, a_ald false 135), (135, false, a_sub 136), (136, false, a_ast false 137), (137, false, a_iinc 3 1 140), (140, false, a_goto 2), (143, false, a_aload 1 144), (144, false, a_gr 1 4 147), (147, false, a_const 5 148), (148, false, a_ald false 149), (149, false, a_const 1 150), (150, false, a_icmp 1 157 153), (153, false, a_const 1 154), (154, false, a_goto 158), (157, false, a_const 0 158), (158, false, a_istore 3 159), (159, false, a_aload 0 160), (160, false, a_gr 2 0 163), (163, false, a_const 0 164), (164, false, a_ald false 165), (165, false, a_aload 0 166), (166, false, a_gr 2 0 169), (169, false, a_const 1 170), (170, false, a_ald false 171), (171, false, a_max M_2_put 174), (174, false, a_istore 4 176), (176, false, a_const 0 177), (177, false, a_istore 5 179), (179, false, a_iload 5 181), (181, false, a_const 2 182), (182, false, a_icmp 3 221 185), (185, false, a_aload 0 186), (186, false, a_gr 2 1 189), (189, false, a_iload 5 191), (191, false, a_iload 3 192), (192, false, a_if 0 200 195), (195, false, a_iload 4 197), (197, false, a_goto 207), (200, false, a_aload 0 201), (201, false, a_gr 2 0 204), (204, false, a_iload 5 206), (206, false, a_ald false 207), (207, false, a_aload 1 208), (208, false, a_gr 1 4 211), (211, false, a_const 1 212), (212, false, a_ald false 213), (213, false, a_add 214), (214, false, a_ast false 215), (215, false, a_iinc 5 1 218), (218, false, a_goto 179), (221, false, a_ret M_2_put)]
set_option maxRecDepth 20000 in
theorem t_2_put (X : XT) : tget (tab_2_put X) 0 = some (false, a_const 0 1) ∧ tget (tab_2_put X) 1 = some (false, a_istore 3 2) ∧ tget (tab_2_put X) 2 = some (false, a_iload 3 3) ∧ tget (tab_2_put X) 3 = some (false, a_const 2 4) ∧ tget (tab_2_put X) 4 = some (false, a_icmp 3 143 7) ∧ tget (tab_2_put X) 7 = some (false, a_aload 0 8) ∧ tget (tab_2_put X) 8 = some (false, a_gr 2 0 11) ∧ tget (tab_2_put X) 11 = some (false, a_iload 3 12) ∧ tget (tab_2_put X) 12 = some (false, a_aload 0 13) ∧ tget (tab_2_put X) 13 = some (false, a_gr 2 1 16) ∧ tget (tab_2_put X) 16 = some (false, a_iload 3 17) ∧ tget (tab_2_put X) 17 = some (false, a_ald false 18) ∧ tget (tab_2_put X) 18 = some (false, a_aload 2 19) ∧ tget (tab_2_put X) 19 = some (false, a_gr 5 2 22) ∧ tget (tab_2_put X) 22 = some (false, a_iload 3 23) ∧ tget (tab_2_put X) 23 = some (false, a_ald false 24) ∧ tget (tab_2_put X) 24 = some (false, a_add 25) ∧ tget (tab_2_put X) 25 = some (false, a_ast false 26) ∧ tget (tab_2_put X) 26 = some (false, a_aload 1 27) ∧ tget (tab_2_put X) 27 = some (false, a_iload 3 28) ∧ tget (tab_2_put X) 28 = some (false, a_cv X M_2_put M_1_notes 1 2 31) ∧ tget (tab_2_put X) 31 = some (false, a_astore 4 33) ∧ tget (tab_2_put X) 33 = some (false, a_aload 0 34) ∧ tget (tab_2_put X) 34 = some (false, a_gr 2 3 37) ∧ tget (tab_2_put X) 37 = some (false, a_iload 3 38) ∧ tget (tab_2_put X) 38 = some (false, a_ald false 39) ∧ tget (tab_2_put X) 39 = some (false, a_aload 0 40) ∧ tget (tab_2_put X) 40 = some (false, a_gr 2 4 43) ∧ tget (tab_2_put X) 43 = some (false, a_iload 3 44) ∧ tget (tab_2_put X) 44 = some (false, a_ald false 45) ∧ tget (tab_2_put X) 45 = some (false, a_add 46) ∧ tget (tab_2_put X) 46 = some (false, a_istore 5 48) ∧ tget (tab_2_put X) 48 = some (false, a_aload 4 50) ∧ tget (tab_2_put X) 50 = some (false, a_iload 5 52) ∧ tget (tab_2_put X) 52 = some (false, a_aload 2 53) ∧ tget (tab_2_put X) 53 = some (false, a_gi 5 0 0 56) ∧ tget (tab_2_put X) 56 = some (false, a_aload 2 57) ∧ tget (tab_2_put X) 57 = some (false, a_gr 5 1 60) ∧ tget (tab_2_put X) 60 = some (false, a_iload 3 61) ∧ tget (tab_2_put X) 61 = some (false, a_ald false 62) ∧ tget (tab_2_put X) 62 = some (false, a_aload 2 63) ∧ tget (tab_2_put X) 63 = some (false, a_gr 5 2 66) ∧ tget (tab_2_put X) 66 = some (false, a_iload 3 67) ∧ tget (tab_2_put X) 67 = some (false, a_ald false 68) ∧ tget (tab_2_put X) 68 = some (false, a_add 69) ∧ tget (tab_2_put X) 69 = some (false, a_cv X M_2_put M_4_endBefore 4 4 72) ∧ tget (tab_2_put X) 72 = some (false, a_istore 6 74) ∧ tget (tab_2_put X) 74 = some (false, a_iload 5 76) ∧ tget (tab_2_put X) 76 = some (false, a_istore 7 78) ∧ tget (tab_2_put X) 78 = some (true, a_iload 7 80) ∧ tget (tab_2_put X) 80 = some (false, a_iload 6 82) ∧ tget (tab_2_put X) 82 = some (false, a_icmp 3 122 85) ∧ tget (tab_2_put X) 85 = some (false, a_aload 0 86) ∧ tget (tab_2_put X) 86 = some (false, a_gr 2 6 89) ∧ tget (tab_2_put X) 89 = some (false, a_iload 3 90) ∧ tget (tab_2_put X) 90 = some (false, a_aload 4 92) ∧ tget (tab_2_put X) 92 = some (false, a_gr 4 1 95) ∧ tget (tab_2_put X) 95 = some (false, a_const 2 96) ∧ tget (tab_2_put X) 96 = some (false, a_aald 97) ∧ tget (tab_2_put X) 97 = some (false, a_iload 7 99) ∧ tget (tab_2_put X) 99 = some (false, a_ald false 100) ∧ tget (tab_2_put X) 100 = some (false, a_ast false 101) ∧ tget (tab_2_put X) 101 = some (false, a_aload 0 102) ∧ tget (tab_2_put X) 102 = some (false, a_gr 2 5 105) ∧ tget (tab_2_put X) 105 = some (false, a_iload 3 106) ∧ tget (tab_2_put X) 106 = some (false, a_dup2 107) ∧ tget (tab_2_put X) 107 = some (false, a_ald false 108) ∧ tget (tab_2_put X) 108 = some (false, a_aload 0 109) ∧ tget (tab_2_put X) 109 = some (false, a_gr 2 6 112) ∧ tget (tab_2_put X) 112 = some (false, a_iload 3 113) ∧ tget (tab_2_put X) 113 = some (false, a_ald false 114) ∧ tget (tab_2_put X) 114 = some (false, a_add 115) ∧ tget (tab_2_put X) 115 = some (false, a_ast false 116) ∧ tget (tab_2_put X) 116 = some (false, a_iinc 7 1 119) ∧ tget (tab_2_put X) 119 = some (false, a_goto 78) ∧ tget (tab_2_put X) 122 = some (false, a_aload 0 123) ∧ tget (tab_2_put X) 123 = some (false, a_gr 2 4 126) ∧ tget (tab_2_put X) 126 = some (false, a_iload 3 127) ∧ tget (tab_2_put X) 127 = some (false, a_iload 6 129) ∧ tget (tab_2_put X) 129 = some (false, a_aload 0 130) ∧ tget (tab_2_put X) 130 = some (false, a_gr 2 3 133) ∧ tget (tab_2_put X) 133 = some (false, a_iload 3 134) ∧ tget (tab_2_put X) 134 = some (false, a_ald false 135) ∧ tget (tab_2_put X) 135 = some (false, a_sub 136) ∧ tget (tab_2_put X) 136 = some (false, a_ast false 137) ∧ tget (tab_2_put X) 137 = some (false, a_iinc 3 1 140) ∧ tget (tab_2_put X) 140 = some (false, a_goto 2) ∧ tget (tab_2_put X) 143 = some (false, a_aload 1 144) ∧ tget (tab_2_put X) 144 = some (false, a_gr 1 4 147) ∧ tget (tab_2_put X) 147 = some (false, a_const 5 148) ∧ tget (tab_2_put X) 148 = some (false, a_ald false 149) ∧ tget (tab_2_put X) 149 = some (false, a_const 1 150) ∧ tget (tab_2_put X) 150 = some (false, a_icmp 1 157 153) ∧ tget (tab_2_put X) 153 = some (false, a_const 1 154) ∧ tget (tab_2_put X) 154 = some (false, a_goto 158) ∧ tget (tab_2_put X) 157 = some (false, a_const 0 158) ∧ tget (tab_2_put X) 158 = some (false, a_istore 3 159) ∧ tget (tab_2_put X) 159 = some (false, a_aload 0 160) ∧ tget (tab_2_put X) 160 = some (false, a_gr 2 0 163) ∧ tget (tab_2_put X) 163 = some (false, a_const 0 164) ∧ tget (tab_2_put X) 164 = some (false, a_ald false 165) ∧ tget (tab_2_put X) 165 = some (false, a_aload 0 166) ∧ tget (tab_2_put X) 166 = some (false, a_gr 2 0 169) ∧ tget (tab_2_put X) 169 = some (false, a_const 1 170) ∧ tget (tab_2_put X) 170 = some (false, a_ald false 171) ∧ tget (tab_2_put X) 171 = some (false, a_max M_2_put 174) ∧ tget (tab_2_put X) 174 = some (false, a_istore 4 176) ∧ tget (tab_2_put X) 176 = some (false, a_const 0 177) ∧ tget (tab_2_put X) 177 = some (false, a_istore 5 179) ∧ tget (tab_2_put X) 179 = some (false, a_iload 5 181) ∧ tget (tab_2_put X) 181 = some (false, a_const 2 182) ∧ tget (tab_2_put X) 182 = some (false, a_icmp 3 221 185) ∧ tget (tab_2_put X) 185 = some (false, a_aload 0 186) ∧ tget (tab_2_put X) 186 = some (false, a_gr 2 1 189) ∧ tget (tab_2_put X) 189 = some (false, a_iload 5 191) ∧ tget (tab_2_put X) 191 = some (false, a_iload 3 192) ∧ tget (tab_2_put X) 192 = some (false, a_if 0 200 195) ∧ tget (tab_2_put X) 195 = some (false, a_iload 4 197) ∧ tget (tab_2_put X) 197 = some (false, a_goto 207) ∧ tget (tab_2_put X) 200 = some (false, a_aload 0 201) ∧ tget (tab_2_put X) 201 = some (false, a_gr 2 0 204) ∧ tget (tab_2_put X) 204 = some (false, a_iload 5 206) ∧ tget (tab_2_put X) 206 = some (false, a_ald false 207) ∧ tget (tab_2_put X) 207 = some (false, a_aload 1 208) ∧ tget (tab_2_put X) 208 = some (false, a_gr 1 4 211) ∧ tget (tab_2_put X) 211 = some (false, a_const 1 212) ∧ tget (tab_2_put X) 212 = some (false, a_ald false 213) ∧ tget (tab_2_put X) 213 = some (false, a_add 214) ∧ tget (tab_2_put X) 214 = some (false, a_ast false 215) ∧ tget (tab_2_put X) 215 = some (false, a_iinc 5 1 218) ∧ tget (tab_2_put X) 218 = some (false, a_goto 179) ∧ tget (tab_2_put X) 221 = some (false, a_ret M_2_put) := ⟨rfl, rfl, rfl, rfl, rfl, rfl, rfl, rfl, rfl, rfl, rfl, rfl, rfl, rfl, rfl, rfl, rfl, rfl, rfl, rfl, rfl, rfl, rfl, rfl, rfl, rfl, rfl, rfl, rfl, rfl, rfl, rfl, rfl, rfl, rfl, rfl, rfl, rfl, rfl, rfl, rfl, rfl, rfl, rfl, rfl, rfl, rfl, rfl, rfl, rfl, rfl, rfl, rfl, rfl, rfl, rfl, rfl, rfl, rfl, rfl, rfl, rfl, rfl, rfl, rfl, rfl, rfl, rfl, rfl, rfl, rfl, rfl, rfl, rfl, rfl, rfl, rfl, rfl, rfl, rfl, rfl, rfl, rfl, rfl, rfl, rfl, rfl, rfl, rfl, rfl, rfl, rfl, rfl, rfl, rfl, rfl, rfl, rfl, rfl, rfl, rfl, rfl, rfl, rfl, rfl, rfl, rfl, rfl, rfl, rfl, rfl, rfl, rfl, rfl, rfl, rfl, rfl, rfl, rfl, rfl, rfl, rfl, rfl, rfl, rfl, rfl, rfl, rfl, rfl, rfl, rfl, rfl⟩
theorem tok_2_put (X : XT) : TabOK X M_2_put (tab_2_put X) := by
  unfold tab_2_put
  refine tok_cons (snd_iconst dX2_put_0 rfl (inr_d rfl) rfl) ?_
  refine tok_cons (snd_istore_n dX2_put_1 rfl rfl (by decide)) ?_
  refine tok_cons (snd_iload_n dX2_put_2 rfl rfl) ?_
  refine tok_cons (snd_iconst dX2_put_3 rfl (inr_d rfl) rfl) ?_
  refine tok_cons (snd_icmp_ge dX2_put_4 (by decide) rfl) ?_
  refine tok_cons (snd_aload_n dX2_put_7 rfl rfl) ?_
  refine tok_cons (snd_gr (C := RX2) (T := TX2) (N := 7) dX2_put_8 rfl (by decide) rfl wf2_9 inX2 rfl) ?_
  refine tok_cons (snd_iload_n dX2_put_11 rfl rfl) ?_
  refine tok_cons (snd_aload_n dX2_put_12 rfl rfl) ?_
  refine tok_cons (snd_gr (C := RX2) (T := TX2) (N := 7) dX2_put_13 rfl (by decide) rfl wf2_15 inX2 rfl) ?_
  refine tok_cons (snd_iload_n dX2_put_16 rfl rfl) ?_
  refine tok_cons (snd_iald dX2_put_17 rfl) ?_
  refine tok_cons (snd_aload_n dX2_put_18 rfl rfl) ?_
  refine tok_cons (snd_gr (C := RX5) (T := TX5) (N := 3) dX2_put_19 rfl (by decide) rfl wf2_39 inX5 rfl) ?_
  refine tok_cons (snd_iload_n dX2_put_22 rfl rfl) ?_
  refine tok_cons (snd_iald dX2_put_23 rfl) ?_
  refine tok_cons (snd_add dX2_put_24 rfl) ?_
  refine tok_cons (snd_iast dX2_put_25 rfl) ?_
  refine tok_cons (snd_aload_n dX2_put_26 rfl rfl) ?_
  refine tok_cons (snd_iload_n dX2_put_27 rfl rfl) ?_
  refine tok_cons (snd_cv dX2_put_28 mok_1_notes ⟨wm2_44, wi_1_notes, wl_1_notes⟩ (rc := (RX1, TX1, 5)) rfl rfl pn_1_notes (by decide) ⟨rfl, rfl⟩ rfl) ?_
  refine tok_cons (snd_astore dX2_put_31 rfl (by decide)) ?_
  refine tok_cons (snd_aload_n dX2_put_33 rfl rfl) ?_
  refine tok_cons (snd_gr (C := RX2) (T := TX2) (N := 7) dX2_put_34 rfl (by decide) rfl wf2_21 inX2 rfl) ?_
  refine tok_cons (snd_iload_n dX2_put_37 rfl rfl) ?_
  refine tok_cons (snd_iald dX2_put_38 rfl) ?_
  refine tok_cons (snd_aload_n dX2_put_39 rfl rfl) ?_
  refine tok_cons (snd_gr (C := RX2) (T := TX2) (N := 7) dX2_put_40 rfl (by decide) rfl wf2_24 inX2 rfl) ?_
  refine tok_cons (snd_iload_n dX2_put_43 rfl rfl) ?_
  refine tok_cons (snd_iald dX2_put_44 rfl) ?_
  refine tok_cons (snd_add dX2_put_45 rfl) ?_
  refine tok_cons (snd_istore dX2_put_46 rfl (by decide)) ?_
  refine tok_cons (snd_aload dX2_put_48 rfl) ?_
  refine tok_cons (snd_iload dX2_put_50 rfl) ?_
  refine tok_cons (snd_aload_n dX2_put_52 rfl rfl) ?_
  refine tok_cons (snd_gi (C := RX5) (T := TX5) (N := 3) dX2_put_53 rfl (by decide) rfl wf2_49 inX5 rfl rfl) ?_
  refine tok_cons (snd_aload_n dX2_put_56 rfl rfl) ?_
  refine tok_cons (snd_gr (C := RX5) (T := TX5) (N := 3) dX2_put_57 rfl (by decide) rfl wf2_53 inX5 rfl) ?_
  refine tok_cons (snd_iload_n dX2_put_60 rfl rfl) ?_
  refine tok_cons (snd_iald dX2_put_61 rfl) ?_
  refine tok_cons (snd_aload_n dX2_put_62 rfl rfl) ?_
  refine tok_cons (snd_gr (C := RX5) (T := TX5) (N := 3) dX2_put_63 rfl (by decide) rfl wf2_39 inX5 rfl) ?_
  refine tok_cons (snd_iload_n dX2_put_66 rfl rfl) ?_
  refine tok_cons (snd_iald dX2_put_67 rfl) ?_
  refine tok_cons (snd_add dX2_put_68 rfl) ?_
  refine tok_cons (snd_cv dX2_put_69 mok_4_endBefore ⟨wm2_56, wi_4_endBefore, wl_4_endBefore⟩ (rc := (RX4, TX4, 2)) rfl rfl pn_4_endBefore (by decide) ⟨rfl, rfl⟩ rfl) ?_
  refine tok_cons (snd_istore dX2_put_72 rfl (by decide)) ?_
  refine tok_cons (snd_iload dX2_put_74 rfl) ?_
  refine tok_cons (snd_istore dX2_put_76 rfl (by decide)) ?_
  refine tok_cons (snd_iload dX2_put_78 rfl) ?_
  refine tok_cons (snd_iload dX2_put_80 rfl) ?_
  refine tok_cons (snd_icmp_ge dX2_put_82 (by decide) rfl) ?_
  refine tok_cons (snd_aload_n dX2_put_85 rfl rfl) ?_
  refine tok_cons (snd_gr (C := RX2) (T := TX2) (N := 7) dX2_put_86 rfl (by decide) rfl wf2_30 inX2 rfl) ?_
  refine tok_cons (snd_iload_n dX2_put_89 rfl rfl) ?_
  refine tok_cons (snd_aload dX2_put_90 rfl) ?_
  refine tok_cons (snd_gr (C := RX4) (T := TX4) (N := 2) dX2_put_92 rfl (by decide) rfl wf2_62 inX4 rfl) ?_
  refine tok_cons (snd_iconst dX2_put_95 rfl (inr_d rfl) rfl) ?_
  refine tok_cons (snd_aald dX2_put_96 rfl) ?_
  refine tok_cons (snd_iload dX2_put_97 rfl) ?_
  refine tok_cons (snd_iald dX2_put_99 rfl) ?_
  refine tok_cons (snd_iast dX2_put_100 rfl) ?_
  refine tok_cons (snd_aload_n dX2_put_101 rfl rfl) ?_
  refine tok_cons (snd_gr (C := RX2) (T := TX2) (N := 7) dX2_put_102 rfl (by decide) rfl wf2_27 inX2 rfl) ?_
  refine tok_cons (snd_iload_n dX2_put_105 rfl rfl) ?_
  refine tok_cons (snd_dup2 dX2_put_106 rfl) ?_
  refine tok_cons (snd_iald dX2_put_107 rfl) ?_
  refine tok_cons (snd_aload_n dX2_put_108 rfl rfl) ?_
  refine tok_cons (snd_gr (C := RX2) (T := TX2) (N := 7) dX2_put_109 rfl (by decide) rfl wf2_30 inX2 rfl) ?_
  refine tok_cons (snd_iload_n dX2_put_112 rfl rfl) ?_
  refine tok_cons (snd_iald dX2_put_113 rfl) ?_
  refine tok_cons (snd_add dX2_put_114 rfl) ?_
  refine tok_cons (snd_iast dX2_put_115 rfl) ?_
  refine tok_cons (snd_iinc dX2_put_116 rfl rfl (by decide)) ?_
  refine tok_cons (snd_goto dX2_put_119 (by decide)) ?_
  refine tok_cons (snd_aload_n dX2_put_122 rfl rfl) ?_
  refine tok_cons (snd_gr (C := RX2) (T := TX2) (N := 7) dX2_put_123 rfl (by decide) rfl wf2_24 inX2 rfl) ?_
  refine tok_cons (snd_iload_n dX2_put_126 rfl rfl) ?_
  refine tok_cons (snd_iload dX2_put_127 rfl) ?_
  refine tok_cons (snd_aload_n dX2_put_129 rfl rfl) ?_
  refine tok_cons (snd_gr (C := RX2) (T := TX2) (N := 7) dX2_put_130 rfl (by decide) rfl wf2_21 inX2 rfl) ?_
  refine tok_cons (snd_iload_n dX2_put_133 rfl rfl) ?_
  refine tok_cons (snd_iald dX2_put_134 rfl) ?_
  refine tok_cons (snd_sub dX2_put_135 rfl) ?_
  refine tok_cons (snd_iast dX2_put_136 rfl) ?_
  refine tok_cons (snd_iinc dX2_put_137 rfl rfl (by decide)) ?_
  refine tok_cons (snd_goto dX2_put_140 (by decide)) ?_
  refine tok_cons (snd_aload_n dX2_put_143 rfl rfl) ?_
  refine tok_cons (snd_gr (C := RX1) (T := TX1) (N := 5) dX2_put_144 rfl (by decide) rfl wf2_66 inX1 rfl) ?_
  refine tok_cons (snd_iconst dX2_put_147 rfl (inr_d rfl) rfl) ?_
  refine tok_cons (snd_iald dX2_put_148 rfl) ?_
  refine tok_cons (snd_iconst dX2_put_149 rfl (inr_d rfl) rfl) ?_
  refine tok_cons (snd_icmp_ne dX2_put_150 (by decide) rfl) ?_
  refine tok_cons (snd_iconst dX2_put_153 rfl (inr_d rfl) rfl) ?_
  refine tok_cons (snd_goto dX2_put_154 (by decide)) ?_
  refine tok_cons (snd_iconst dX2_put_157 rfl (inr_d rfl) rfl) ?_
  refine tok_cons (snd_istore_n dX2_put_158 rfl rfl (by decide)) ?_
  refine tok_cons (snd_aload_n dX2_put_159 rfl rfl) ?_
  refine tok_cons (snd_gr (C := RX2) (T := TX2) (N := 7) dX2_put_160 rfl (by decide) rfl wf2_9 inX2 rfl) ?_
  refine tok_cons (snd_iconst dX2_put_163 rfl (inr_d rfl) rfl) ?_
  refine tok_cons (snd_iald dX2_put_164 rfl) ?_
  refine tok_cons (snd_aload_n dX2_put_165 rfl rfl) ?_
  refine tok_cons (snd_gr (C := RX2) (T := TX2) (N := 7) dX2_put_166 rfl (by decide) rfl wf2_9 inX2 rfl) ?_
  refine tok_cons (snd_iconst dX2_put_169 rfl (inr_d rfl) rfl) ?_
  refine tok_cons (snd_iald dX2_put_170 rfl) ?_
  refine tok_cons (snd_max dX2_put_171 wm2_69 ws_max wn_Math wc_max (by decide) rfl) ?_
  refine tok_cons (snd_istore dX2_put_174 rfl (by decide)) ?_
  refine tok_cons (snd_iconst dX2_put_176 rfl (inr_d rfl) rfl) ?_
  refine tok_cons (snd_istore dX2_put_177 rfl (by decide)) ?_
  refine tok_cons (snd_iload dX2_put_179 rfl) ?_
  refine tok_cons (snd_iconst dX2_put_181 rfl (inr_d rfl) rfl) ?_
  refine tok_cons (snd_icmp_ge dX2_put_182 (by decide) rfl) ?_
  refine tok_cons (snd_aload_n dX2_put_185 rfl rfl) ?_
  refine tok_cons (snd_gr (C := RX2) (T := TX2) (N := 7) dX2_put_186 rfl (by decide) rfl wf2_15 inX2 rfl) ?_
  refine tok_cons (snd_iload dX2_put_189 rfl) ?_
  refine tok_cons (snd_iload_n dX2_put_191 rfl rfl) ?_
  refine tok_cons (snd_if_eq dX2_put_192 (by decide) rfl) ?_
  refine tok_cons (snd_iload dX2_put_195 rfl) ?_
  refine tok_cons (snd_goto dX2_put_197 (by decide)) ?_
  refine tok_cons (snd_aload_n dX2_put_200 rfl rfl) ?_
  refine tok_cons (snd_gr (C := RX2) (T := TX2) (N := 7) dX2_put_201 rfl (by decide) rfl wf2_9 inX2 rfl) ?_
  refine tok_cons (snd_iload dX2_put_204 rfl) ?_
  refine tok_cons (snd_iald dX2_put_206 rfl) ?_
  refine tok_cons (snd_aload_n dX2_put_207 rfl rfl) ?_
  refine tok_cons (snd_gr (C := RX1) (T := TX1) (N := 5) dX2_put_208 rfl (by decide) rfl wf2_66 inX1 rfl) ?_
  refine tok_cons (snd_iconst dX2_put_211 rfl (inr_d rfl) rfl) ?_
  refine tok_cons (snd_iald dX2_put_212 rfl) ?_
  refine tok_cons (snd_add dX2_put_213 rfl) ?_
  refine tok_cons (snd_iast dX2_put_214 rfl) ?_
  refine tok_cons (snd_iinc dX2_put_215 rfl rfl (by decide)) ?_
  refine tok_cons (snd_goto dX2_put_218 (by decide)) ?_
  refine tok_cons (snd_ret dX2_put_221 rfl) ?_
  exact tok_nil
def tab_2_fits (X : XT) : Tab := [(0, false, a_const 0 1), (1, false, a_istore 4 3), (3, false, a_iload 4 5), (5, false, a_const 2 6), (6, false, a_icmp 3 43 9), (9, false, a_aload 0 10), (10, false, a_gr 2 0 13), (13, false, a_iload 4 15), (15, false, a_ald false 16), (16, false, a_aload 0 17), (17, false, a_iload 4 19), (19, false, a_iload 2 20), (20, false, a_aload 0 21), (21, false, a_iload 4 23), (23, false, a_iload 3 24), (24, false, a_cv X M_2_fits M_2_mostCarried 2 3 27), (27, false, a_cv X M_2_fits M_2_noteRows 2 4 30), (30, false, a_add 31), (31, false, a_iload 1 32), (32, false, a_icmp 5 37 35), (35, false, a_const 0 36), (36, false, a_zret M_2_fits), (37, false, a_iinc 4 1 40), (40, false, a_goto 3), (43, false, a_const 1 44), (44, false, a_zret M_2_fits)]
set_option maxRecDepth 20000 in
theorem t_2_fits (X : XT) : tget (tab_2_fits X) 0 = some (false, a_const 0 1) ∧ tget (tab_2_fits X) 1 = some (false, a_istore 4 3) ∧ tget (tab_2_fits X) 3 = some (false, a_iload 4 5) ∧ tget (tab_2_fits X) 5 = some (false, a_const 2 6) ∧ tget (tab_2_fits X) 6 = some (false, a_icmp 3 43 9) ∧ tget (tab_2_fits X) 9 = some (false, a_aload 0 10) ∧ tget (tab_2_fits X) 10 = some (false, a_gr 2 0 13) ∧ tget (tab_2_fits X) 13 = some (false, a_iload 4 15) ∧ tget (tab_2_fits X) 15 = some (false, a_ald false 16) ∧ tget (tab_2_fits X) 16 = some (false, a_aload 0 17) ∧ tget (tab_2_fits X) 17 = some (false, a_iload 4 19) ∧ tget (tab_2_fits X) 19 = some (false, a_iload 2 20) ∧ tget (tab_2_fits X) 20 = some (false, a_aload 0 21) ∧ tget (tab_2_fits X) 21 = some (false, a_iload 4 23) ∧ tget (tab_2_fits X) 23 = some (false, a_iload 3 24) ∧ tget (tab_2_fits X) 24 = some (false, a_cv X M_2_fits M_2_mostCarried 2 3 27) ∧ tget (tab_2_fits X) 27 = some (false, a_cv X M_2_fits M_2_noteRows 2 4 30) ∧ tget (tab_2_fits X) 30 = some (false, a_add 31) ∧ tget (tab_2_fits X) 31 = some (false, a_iload 1 32) ∧ tget (tab_2_fits X) 32 = some (false, a_icmp 5 37 35) ∧ tget (tab_2_fits X) 35 = some (false, a_const 0 36) ∧ tget (tab_2_fits X) 36 = some (false, a_zret M_2_fits) ∧ tget (tab_2_fits X) 37 = some (false, a_iinc 4 1 40) ∧ tget (tab_2_fits X) 40 = some (false, a_goto 3) ∧ tget (tab_2_fits X) 43 = some (false, a_const 1 44) ∧ tget (tab_2_fits X) 44 = some (false, a_zret M_2_fits) := ⟨rfl, rfl, rfl, rfl, rfl, rfl, rfl, rfl, rfl, rfl, rfl, rfl, rfl, rfl, rfl, rfl, rfl, rfl, rfl, rfl, rfl, rfl, rfl, rfl, rfl, rfl⟩
theorem tok_2_fits (X : XT) : TabOK X M_2_fits (tab_2_fits X) := by
  unfold tab_2_fits
  refine tok_cons (snd_iconst dX2_fits_0 rfl (inr_d rfl) rfl) ?_
  refine tok_cons (snd_istore dX2_fits_1 rfl (by decide)) ?_
  refine tok_cons (snd_iload dX2_fits_3 rfl) ?_
  refine tok_cons (snd_iconst dX2_fits_5 rfl (inr_d rfl) rfl) ?_
  refine tok_cons (snd_icmp_ge dX2_fits_6 (by decide) rfl) ?_
  refine tok_cons (snd_aload_n dX2_fits_9 rfl rfl) ?_
  refine tok_cons (snd_gr (C := RX2) (T := TX2) (N := 7) dX2_fits_10 rfl (by decide) rfl wf2_9 inX2 rfl) ?_
  refine tok_cons (snd_iload dX2_fits_13 rfl) ?_
  refine tok_cons (snd_iald dX2_fits_15 rfl) ?_
  refine tok_cons (snd_aload_n dX2_fits_16 rfl rfl) ?_
  refine tok_cons (snd_iload dX2_fits_17 rfl) ?_
  refine tok_cons (snd_iload_n dX2_fits_19 rfl rfl) ?_
  refine tok_cons (snd_aload_n dX2_fits_20 rfl rfl) ?_
  refine tok_cons (snd_iload dX2_fits_21 rfl) ?_
  refine tok_cons (snd_iload_n dX2_fits_23 rfl rfl) ?_
  refine tok_cons (snd_cv dX2_fits_24 mok_2_mostCarried ⟨wm2_78, wi_2_mostCarried, wl_2_mostCarried⟩ (rc := (RX2, TX2, 7)) rfl rfl pn_2_mostCarried (by decide) ⟨rfl, rfl⟩ rfl) ?_
  refine tok_cons (snd_cv dX2_fits_27 mok_2_noteRows ⟨wm2_81, wi_2_noteRows, wl_2_noteRows⟩ (rc := (RX2, TX2, 7)) rfl rfl pn_2_noteRows (by decide) ⟨rfl, rfl⟩ rfl) ?_
  refine tok_cons (snd_add dX2_fits_30 rfl) ?_
  refine tok_cons (snd_iload_n dX2_fits_31 rfl rfl) ?_
  refine tok_cons (snd_icmp_le dX2_fits_32 (by decide) rfl) ?_
  refine tok_cons (snd_iconst dX2_fits_35 rfl (inr_d rfl) rfl) ?_
  refine tok_cons (snd_zret dX2_fits_36 rfl) ?_
  refine tok_cons (snd_iinc dX2_fits_37 rfl rfl (by decide)) ?_
  refine tok_cons (snd_goto dX2_fits_40 (by decide)) ?_
  refine tok_cons (snd_iconst dX2_fits_43 rfl (inr_d rfl) rfl) ?_
  refine tok_cons (snd_zret dX2_fits_44 rfl) ?_
  exact tok_nil
def tab_2_carriedFrom (X : XT) : Tab := [(0, false, a_aload 0 1), (1, false, a_iload 1 2), (2, false, a_aload 2 3), (3, false, a_gr 1 4 6), (6, false, a_const 4 7), (7, false, a_ald false 8), (8, false, a_cv X M_2_carriedFrom M_2_mostCarried 2 3 11), (11, false, a_istore 4 13), (13, false, a_const 0 14), (14, false, a_istore 5 16), (16, true, a_iload 5 18), (18, false, a_iload 4 20), (20, false, a_icmp 3 53 23), (23, false, a_aload 0 24), (24, false, a_gr 2 0 27), (27, false, a_iload 1 28), (28, false, a_ald false 29), (29, false, a_aload 0 30), (30, false, a_iload 1 31), (31, false, a_aload 2 32), (32, false, a_gr 1 4 35), (35, false, a_const 2 36), (36, false, a_ald false 37), (37, false, a_iload 5 39), (39, false, a_cv X M_2_carriedFrom M_2_noteRows 2 4 42), (42, false, a_add 43), (43, false, a_iload 3 44), (44, false, a_icmp 5 53 47), (47, false, a_iinc 5 1 50), (50, false, a_goto 16), (53, false, a_iload 5 55), (55, false, a_iret M_2_carriedFrom)]
set_option maxRecDepth 20000 in
theorem t_2_carriedFrom (X : XT) : tget (tab_2_carriedFrom X) 0 = some (false, a_aload 0 1) ∧ tget (tab_2_carriedFrom X) 1 = some (false, a_iload 1 2) ∧ tget (tab_2_carriedFrom X) 2 = some (false, a_aload 2 3) ∧ tget (tab_2_carriedFrom X) 3 = some (false, a_gr 1 4 6) ∧ tget (tab_2_carriedFrom X) 6 = some (false, a_const 4 7) ∧ tget (tab_2_carriedFrom X) 7 = some (false, a_ald false 8) ∧ tget (tab_2_carriedFrom X) 8 = some (false, a_cv X M_2_carriedFrom M_2_mostCarried 2 3 11) ∧ tget (tab_2_carriedFrom X) 11 = some (false, a_istore 4 13) ∧ tget (tab_2_carriedFrom X) 13 = some (false, a_const 0 14) ∧ tget (tab_2_carriedFrom X) 14 = some (false, a_istore 5 16) ∧ tget (tab_2_carriedFrom X) 16 = some (true, a_iload 5 18) ∧ tget (tab_2_carriedFrom X) 18 = some (false, a_iload 4 20) ∧ tget (tab_2_carriedFrom X) 20 = some (false, a_icmp 3 53 23) ∧ tget (tab_2_carriedFrom X) 23 = some (false, a_aload 0 24) ∧ tget (tab_2_carriedFrom X) 24 = some (false, a_gr 2 0 27) ∧ tget (tab_2_carriedFrom X) 27 = some (false, a_iload 1 28) ∧ tget (tab_2_carriedFrom X) 28 = some (false, a_ald false 29) ∧ tget (tab_2_carriedFrom X) 29 = some (false, a_aload 0 30) ∧ tget (tab_2_carriedFrom X) 30 = some (false, a_iload 1 31) ∧ tget (tab_2_carriedFrom X) 31 = some (false, a_aload 2 32) ∧ tget (tab_2_carriedFrom X) 32 = some (false, a_gr 1 4 35) ∧ tget (tab_2_carriedFrom X) 35 = some (false, a_const 2 36) ∧ tget (tab_2_carriedFrom X) 36 = some (false, a_ald false 37) ∧ tget (tab_2_carriedFrom X) 37 = some (false, a_iload 5 39) ∧ tget (tab_2_carriedFrom X) 39 = some (false, a_cv X M_2_carriedFrom M_2_noteRows 2 4 42) ∧ tget (tab_2_carriedFrom X) 42 = some (false, a_add 43) ∧ tget (tab_2_carriedFrom X) 43 = some (false, a_iload 3 44) ∧ tget (tab_2_carriedFrom X) 44 = some (false, a_icmp 5 53 47) ∧ tget (tab_2_carriedFrom X) 47 = some (false, a_iinc 5 1 50) ∧ tget (tab_2_carriedFrom X) 50 = some (false, a_goto 16) ∧ tget (tab_2_carriedFrom X) 53 = some (false, a_iload 5 55) ∧ tget (tab_2_carriedFrom X) 55 = some (false, a_iret M_2_carriedFrom) := ⟨rfl, rfl, rfl, rfl, rfl, rfl, rfl, rfl, rfl, rfl, rfl, rfl, rfl, rfl, rfl, rfl, rfl, rfl, rfl, rfl, rfl, rfl, rfl, rfl, rfl, rfl, rfl, rfl, rfl, rfl, rfl, rfl⟩
theorem tok_2_carriedFrom (X : XT) : TabOK X M_2_carriedFrom (tab_2_carriedFrom X) := by
  unfold tab_2_carriedFrom
  refine tok_cons (snd_aload_n dX2_carriedFrom_0 rfl rfl) ?_
  refine tok_cons (snd_iload_n dX2_carriedFrom_1 rfl rfl) ?_
  refine tok_cons (snd_aload_n dX2_carriedFrom_2 rfl rfl) ?_
  refine tok_cons (snd_gr (C := RX1) (T := TX1) (N := 5) dX2_carriedFrom_3 rfl (by decide) rfl wf2_66 inX1 rfl) ?_
  refine tok_cons (snd_iconst dX2_carriedFrom_6 rfl (inr_d rfl) rfl) ?_
  refine tok_cons (snd_iald dX2_carriedFrom_7 rfl) ?_
  refine tok_cons (snd_cv dX2_carriedFrom_8 mok_2_mostCarried ⟨wm2_78, wi_2_mostCarried, wl_2_mostCarried⟩ (rc := (RX2, TX2, 7)) rfl rfl pn_2_mostCarried (by decide) ⟨rfl, rfl⟩ rfl) ?_
  refine tok_cons (snd_istore dX2_carriedFrom_11 rfl (by decide)) ?_
  refine tok_cons (snd_iconst dX2_carriedFrom_13 rfl (inr_d rfl) rfl) ?_
  refine tok_cons (snd_istore dX2_carriedFrom_14 rfl (by decide)) ?_
  refine tok_cons (snd_iload dX2_carriedFrom_16 rfl) ?_
  refine tok_cons (snd_iload dX2_carriedFrom_18 rfl) ?_
  refine tok_cons (snd_icmp_ge dX2_carriedFrom_20 (by decide) rfl) ?_
  refine tok_cons (snd_aload_n dX2_carriedFrom_23 rfl rfl) ?_
  refine tok_cons (snd_gr (C := RX2) (T := TX2) (N := 7) dX2_carriedFrom_24 rfl (by decide) rfl wf2_9 inX2 rfl) ?_
  refine tok_cons (snd_iload_n dX2_carriedFrom_27 rfl rfl) ?_
  refine tok_cons (snd_iald dX2_carriedFrom_28 rfl) ?_
  refine tok_cons (snd_aload_n dX2_carriedFrom_29 rfl rfl) ?_
  refine tok_cons (snd_iload_n dX2_carriedFrom_30 rfl rfl) ?_
  refine tok_cons (snd_aload_n dX2_carriedFrom_31 rfl rfl) ?_
  refine tok_cons (snd_gr (C := RX1) (T := TX1) (N := 5) dX2_carriedFrom_32 rfl (by decide) rfl wf2_66 inX1 rfl) ?_
  refine tok_cons (snd_iconst dX2_carriedFrom_35 rfl (inr_d rfl) rfl) ?_
  refine tok_cons (snd_iald dX2_carriedFrom_36 rfl) ?_
  refine tok_cons (snd_iload dX2_carriedFrom_37 rfl) ?_
  refine tok_cons (snd_cv dX2_carriedFrom_39 mok_2_noteRows ⟨wm2_81, wi_2_noteRows, wl_2_noteRows⟩ (rc := (RX2, TX2, 7)) rfl rfl pn_2_noteRows (by decide) ⟨rfl, rfl⟩ rfl) ?_
  refine tok_cons (snd_add dX2_carriedFrom_42 rfl) ?_
  refine tok_cons (snd_iload_n dX2_carriedFrom_43 rfl rfl) ?_
  refine tok_cons (snd_icmp_le dX2_carriedFrom_44 (by decide) rfl) ?_
  refine tok_cons (snd_iinc dX2_carriedFrom_47 rfl rfl (by decide)) ?_
  refine tok_cons (snd_goto dX2_carriedFrom_50 (by decide)) ?_
  refine tok_cons (snd_iload dX2_carriedFrom_53 rfl) ?_
  refine tok_cons (snd_iret dX2_carriedFrom_55 rfl) ?_
  exact tok_nil
def tab_4_before (X : XT) : Tab := [(0, false, a_aload 0 1), (1, false, a_const 0 2), (2, false, a_iload 1 3), (3, false, a_iload 2 4), (4, false, a_cv X M_4_before M_4_endBefore 4 4 7), (7, false, a_iret M_4_before)]
set_option maxRecDepth 20000 in
theorem t_4_before (X : XT) : tget (tab_4_before X) 0 = some (false, a_aload 0 1) ∧ tget (tab_4_before X) 1 = some (false, a_const 0 2) ∧ tget (tab_4_before X) 2 = some (false, a_iload 1 3) ∧ tget (tab_4_before X) 3 = some (false, a_iload 2 4) ∧ tget (tab_4_before X) 4 = some (false, a_cv X M_4_before M_4_endBefore 4 4 7) ∧ tget (tab_4_before X) 7 = some (false, a_iret M_4_before) := ⟨rfl, rfl, rfl, rfl, rfl, rfl⟩
theorem tok_4_before (X : XT) : TabOK X M_4_before (tab_4_before X) := by
  unfold tab_4_before
  refine tok_cons (snd_aload_n dX4_before_0 rfl rfl) ?_
  refine tok_cons (snd_iconst dX4_before_1 rfl (inr_d rfl) rfl) ?_
  refine tok_cons (snd_iload_n dX4_before_2 rfl rfl) ?_
  refine tok_cons (snd_iload_n dX4_before_3 rfl rfl) ?_
  refine tok_cons (snd_cv dX4_before_4 mok_4_endBefore ⟨wm4_16, wi_4_endBefore, wl_4_endBefore⟩ (rc := (RX4, TX4, 2)) rfl rfl pn_4_endBefore (by decide) ⟨rfl, rfl⟩ rfl) ?_
  refine tok_cons (snd_iret dX4_before_7 rfl) ?_
  exact tok_nil
def tab_4_copyFrom (X : XT) : Tab := [(0, false, a_aload 0 1), (1, false, a_aload 1 2), (2, false, a_gi 4 0 0 5), (5, false, a_pi 4 0 0 false 8), (8, false, a_aload 1 9), (9, false, a_gr 4 1 12), (12, false, a_aload 0 13), (13, false, a_gr 4 1 16), (16, false, a_sn X M_4_copyFrom M_7_copyTable 2 19), (19, false, a_ret M_4_copyFrom)]
set_option maxRecDepth 20000 in
theorem t_4_copyFrom (X : XT) : tget (tab_4_copyFrom X) 0 = some (false, a_aload 0 1) ∧ tget (tab_4_copyFrom X) 1 = some (false, a_aload 1 2) ∧ tget (tab_4_copyFrom X) 2 = some (false, a_gi 4 0 0 5) ∧ tget (tab_4_copyFrom X) 5 = some (false, a_pi 4 0 0 false 8) ∧ tget (tab_4_copyFrom X) 8 = some (false, a_aload 1 9) ∧ tget (tab_4_copyFrom X) 9 = some (false, a_gr 4 1 12) ∧ tget (tab_4_copyFrom X) 12 = some (false, a_aload 0 13) ∧ tget (tab_4_copyFrom X) 13 = some (false, a_gr 4 1 16) ∧ tget (tab_4_copyFrom X) 16 = some (false, a_sn X M_4_copyFrom M_7_copyTable 2 19) ∧ tget (tab_4_copyFrom X) 19 = some (false, a_ret M_4_copyFrom) := ⟨rfl, rfl, rfl, rfl, rfl, rfl, rfl, rfl, rfl, rfl⟩
theorem tok_4_copyFrom (X : XT) : TabOK X M_4_copyFrom (tab_4_copyFrom X) := by
  unfold tab_4_copyFrom
  refine tok_cons (snd_aload_n dX4_copyFrom_0 rfl rfl) ?_
  refine tok_cons (snd_aload_n dX4_copyFrom_1 rfl rfl) ?_
  refine tok_cons (snd_gi (C := RX4) (T := TX4) (N := 2) dX4_copyFrom_2 rfl (by decide) rfl wf4_20 inX4 rfl rfl) ?_
  refine tok_cons (snd_pi (C := RX4) (T := TX4) (N := 2) (ty0 := tyX4) dX4_copyFrom_5 rfl (by decide) rfl wf4_20 inX4 tyX4_ok nmX4 (by decide +kernel) rfl rfl) ?_
  refine tok_cons (snd_aload_n dX4_copyFrom_8 rfl rfl) ?_
  refine tok_cons (snd_gr (C := RX4) (T := TX4) (N := 2) dX4_copyFrom_9 rfl (by decide) rfl wf4_11 inX4 rfl) ?_
  refine tok_cons (snd_aload_n dX4_copyFrom_12 rfl rfl) ?_
  refine tok_cons (snd_gr (C := RX4) (T := TX4) (N := 2) dX4_copyFrom_13 rfl (by decide) rfl wf4_11 inX4 rfl) ?_
  refine tok_cons (snd_sn dX4_copyFrom_16 mok_7_copyTable ⟨ws_7_copyTable, Or.inr (List.mem_of_getElem? (i := 10) rfl)⟩ pn_7_copyTable (by decide) ⟨rfl, rfl⟩ rfl) ?_
  refine tok_cons (snd_ret dX4_copyFrom_19 rfl) ?_
  exact tok_nil
def tab_6_has (X : XT) : Tab := [(0, false, a_iload 1 1), (1, false, a_const 0 2), (2, false, a_aload 0 3), (3, false, a_gi 6 1 1 6), (6, false, a_const 1 7), (7, false, a_sub 8), (8, false, a_sv X M_6_has M_7_isIn 3 11), (11, false, a_zret M_6_has)]
set_option maxRecDepth 20000 in
theorem t_6_has (X : XT) : tget (tab_6_has X) 0 = some (false, a_iload 1 1) ∧ tget (tab_6_has X) 1 = some (false, a_const 0 2) ∧ tget (tab_6_has X) 2 = some (false, a_aload 0 3) ∧ tget (tab_6_has X) 3 = some (false, a_gi 6 1 1 6) ∧ tget (tab_6_has X) 6 = some (false, a_const 1 7) ∧ tget (tab_6_has X) 7 = some (false, a_sub 8) ∧ tget (tab_6_has X) 8 = some (false, a_sv X M_6_has M_7_isIn 3 11) ∧ tget (tab_6_has X) 11 = some (false, a_zret M_6_has) := ⟨rfl, rfl, rfl, rfl, rfl, rfl, rfl, rfl⟩
theorem tok_6_has (X : XT) : TabOK X M_6_has (tab_6_has X) := by
  unfold tab_6_has
  refine tok_cons (snd_iload_n dX6_has_0 rfl rfl) ?_
  refine tok_cons (snd_iconst dX6_has_1 rfl (inr_d rfl) rfl) ?_
  refine tok_cons (snd_aload_n dX6_has_2 rfl rfl) ?_
  refine tok_cons (snd_gi (C := RX6) (T := TX6) (N := 11) dX6_has_3 rfl (by decide) rfl wf6_50 inX6 rfl rfl) ?_
  refine tok_cons (snd_iconst dX6_has_6 rfl (inr_d rfl) rfl) ?_
  refine tok_cons (snd_sub dX6_has_7 rfl) ?_
  refine tok_cons (snd_sv dX6_has_8 mok_7_isIn ⟨ws_7_isIn, Or.inr (List.mem_of_getElem? (i := 16) rfl)⟩ pn_7_isIn (by decide) ⟨rfl, rfl⟩ rfl) ?_
  refine tok_cons (snd_zret dX6_has_11 rfl) ?_
  exact tok_nil
def tab_6_contains (X : XT) : Tab := [(0, false, a_iload 4 2), (2, false, a_aload 0 3), (3, false, a_gr 6 4 6), (6, false, a_gst 3 9), (9, false, a_iload 3 10), (10, false, a_sld 11), (11, false, a_aald 12), (12, false, a_iload 1 13), (13, false, a_ald false 14), (14, false, a_sub 15), (15, false, a_istore 5 17), (17, false, a_aload 0 18), (18, false, a_gr 6 4 21), (21, false, a_const 0 22), (22, false, a_aald 23), (23, false, a_iload 1 24), (24, false, a_ald false 25), (25, false, a_iload 2 26), (26, false, a_icmp 1 56 29), (29, false, a_iload 5 31), (31, false, a_const 0 32), (32, false, a_aload 0 33), (33, false, a_gr 6 4 36), (36, false, a_gst 4 39), (39, false, a_iload 3 40), (40, false, a_sld 41), (41, false, a_aald 42), (42, false, a_iload 1 43), (43, false, a_ald false 44), (44, false, a_const 1 45), (45, false, a_sub 46), (46, false, a_sv X M_6_contains M_7_isIn 3 49), (49, false, a_if 0 56 52), (52, false, a_const 1 53), (53, false, a_goto 57), (56, false, a_const 0 57), (57, false, a_zret M_6_contains)]
set_option maxRecDepth 20000 in
theorem t_6_contains (X : XT) : tget (tab_6_contains X) 0 = some (false, a_iload 4 2) ∧ tget (tab_6_contains X) 2 = some (false, a_aload 0 3) ∧ tget (tab_6_contains X) 3 = some (false, a_gr 6 4 6) ∧ tget (tab_6_contains X) 6 = some (false, a_gst 3 9) ∧ tget (tab_6_contains X) 9 = some (false, a_iload 3 10) ∧ tget (tab_6_contains X) 10 = some (false, a_sld 11) ∧ tget (tab_6_contains X) 11 = some (false, a_aald 12) ∧ tget (tab_6_contains X) 12 = some (false, a_iload 1 13) ∧ tget (tab_6_contains X) 13 = some (false, a_ald false 14) ∧ tget (tab_6_contains X) 14 = some (false, a_sub 15) ∧ tget (tab_6_contains X) 15 = some (false, a_istore 5 17) ∧ tget (tab_6_contains X) 17 = some (false, a_aload 0 18) ∧ tget (tab_6_contains X) 18 = some (false, a_gr 6 4 21) ∧ tget (tab_6_contains X) 21 = some (false, a_const 0 22) ∧ tget (tab_6_contains X) 22 = some (false, a_aald 23) ∧ tget (tab_6_contains X) 23 = some (false, a_iload 1 24) ∧ tget (tab_6_contains X) 24 = some (false, a_ald false 25) ∧ tget (tab_6_contains X) 25 = some (false, a_iload 2 26) ∧ tget (tab_6_contains X) 26 = some (false, a_icmp 1 56 29) ∧ tget (tab_6_contains X) 29 = some (false, a_iload 5 31) ∧ tget (tab_6_contains X) 31 = some (false, a_const 0 32) ∧ tget (tab_6_contains X) 32 = some (false, a_aload 0 33) ∧ tget (tab_6_contains X) 33 = some (false, a_gr 6 4 36) ∧ tget (tab_6_contains X) 36 = some (false, a_gst 4 39) ∧ tget (tab_6_contains X) 39 = some (false, a_iload 3 40) ∧ tget (tab_6_contains X) 40 = some (false, a_sld 41) ∧ tget (tab_6_contains X) 41 = some (false, a_aald 42) ∧ tget (tab_6_contains X) 42 = some (false, a_iload 1 43) ∧ tget (tab_6_contains X) 43 = some (false, a_ald false 44) ∧ tget (tab_6_contains X) 44 = some (false, a_const 1 45) ∧ tget (tab_6_contains X) 45 = some (false, a_sub 46) ∧ tget (tab_6_contains X) 46 = some (false, a_sv X M_6_contains M_7_isIn 3 49) ∧ tget (tab_6_contains X) 49 = some (false, a_if 0 56 52) ∧ tget (tab_6_contains X) 52 = some (false, a_const 1 53) ∧ tget (tab_6_contains X) 53 = some (false, a_goto 57) ∧ tget (tab_6_contains X) 56 = some (false, a_const 0 57) ∧ tget (tab_6_contains X) 57 = some (false, a_zret M_6_contains) := ⟨rfl, rfl, rfl, rfl, rfl, rfl, rfl, rfl, rfl, rfl, rfl, rfl, rfl, rfl, rfl, rfl, rfl, rfl, rfl, rfl, rfl, rfl, rfl, rfl, rfl, rfl, rfl, rfl, rfl, rfl, rfl, rfl, rfl, rfl, rfl, rfl, rfl⟩
theorem tok_6_contains (X : XT) : TabOK X M_6_contains (tab_6_contains X) := by
  unfold tab_6_contains
  refine tok_cons (snd_iload dX6_contains_0 rfl) ?_
  refine tok_cons (snd_aload_n dX6_contains_2 rfl rfl) ?_
  refine tok_cons (snd_gr (C := RX6) (T := TX6) (N := 11) dX6_contains_3 rfl (by decide) rfl wf6_24 inX6 rfl) ?_
  refine tok_cons (snd_gstN dX6_contains_6 (by decide) rfl (List.mem_of_getElem? (i := 1) rfl) rfl) ?_
  refine tok_cons (snd_iload_n dX6_contains_9 rfl rfl) ?_
  refine tok_cons (snd_sld dX6_contains_10 rfl) ?_
  refine tok_cons (snd_aald dX6_contains_11 rfl) ?_
  refine tok_cons (snd_iload_n dX6_contains_12 rfl rfl) ?_
  refine tok_cons (snd_iald dX6_contains_13 rfl) ?_
  refine tok_cons (snd_sub dX6_contains_14 rfl) ?_
  refine tok_cons (snd_istore dX6_contains_15 rfl (by decide)) ?_
  refine tok_cons (snd_aload_n dX6_contains_17 rfl rfl) ?_
  refine tok_cons (snd_gr (C := RX6) (T := TX6) (N := 11) dX6_contains_18 rfl (by decide) rfl wf6_24 inX6 rfl) ?_
  refine tok_cons (snd_iconst dX6_contains_21 rfl (inr_d rfl) rfl) ?_
  refine tok_cons (snd_aald dX6_contains_22 rfl) ?_
  refine tok_cons (snd_iload_n dX6_contains_23 rfl rfl) ?_
  refine tok_cons (snd_iald dX6_contains_24 rfl) ?_
  refine tok_cons (snd_iload_n dX6_contains_25 rfl rfl) ?_
  refine tok_cons (snd_icmp_ne dX6_contains_26 (by decide) rfl) ?_
  refine tok_cons (snd_iload dX6_contains_29 rfl) ?_
  refine tok_cons (snd_iconst dX6_contains_31 rfl (inr_d rfl) rfl) ?_
  refine tok_cons (snd_aload_n dX6_contains_32 rfl rfl) ?_
  refine tok_cons (snd_gr (C := RX6) (T := TX6) (N := 11) dX6_contains_33 rfl (by decide) rfl wf6_24 inX6 rfl) ?_
  refine tok_cons (snd_gstN dX6_contains_36 (by decide) rfl (List.mem_of_getElem? (i := 2) rfl) rfl) ?_
  refine tok_cons (snd_iload_n dX6_contains_39 rfl rfl) ?_
  refine tok_cons (snd_sld dX6_contains_40 rfl) ?_
  refine tok_cons (snd_aald dX6_contains_41 rfl) ?_
  refine tok_cons (snd_iload_n dX6_contains_42 rfl rfl) ?_
  refine tok_cons (snd_iald dX6_contains_43 rfl) ?_
  refine tok_cons (snd_iconst dX6_contains_44 rfl (inr_d rfl) rfl) ?_
  refine tok_cons (snd_sub dX6_contains_45 rfl) ?_
  refine tok_cons (snd_sv dX6_contains_46 mok_7_isIn ⟨ws_7_isIn, Or.inr (List.mem_of_getElem? (i := 16) rfl)⟩ pn_7_isIn (by decide) ⟨rfl, rfl⟩ rfl) ?_
  refine tok_cons (snd_if_eq dX6_contains_49 (by decide) rfl) ?_
  refine tok_cons (snd_iconst dX6_contains_52 rfl (inr_d rfl) rfl) ?_
  refine tok_cons (snd_goto dX6_contains_53 (by decide)) ?_
  refine tok_cons (snd_iconst dX6_contains_56 rfl (inr_d rfl) rfl) ?_
  refine tok_cons (snd_zret dX6_contains_57 rfl) ?_
  exact tok_nil
def tab_6_textAt (X : XT) : Tab := [(0, false, a_aload 0 1), (1, false, a_gr 6 2 4), (4, false, a_iload 1 5), (5, false, a_ald false 6), (6, false, a_istore 4 8), (8, true, a_iload 4 10), (10, false, a_aload 0 11), (11, false, a_gr 6 2 14), (14, false, a_iload 1 15), (15, false, a_const 1 16), (16, false, a_add 17), (17, false, a_ald false 18), (18, false, a_icmp 3 106 21), (21, false, a_iload 3 22), (22, false, a_aload 0 23), (23, false, a_gr 6 4 26), (26, false, a_gst 5 29), (29, false, a_iload 2 30), (30, false, a_sld 31), (31, false, a_aald 32), (32, false, a_iload 4 34), (34, false, a_ald false 35), (35, false, a_sub 36), (36, false, a_istore 5 38), (38, false, a_iload 5 40), (40, false, a_const 0 41), (41, false, a_aload 0 42), (42, false, a_gr 6 4 45), (45, false, a_gst 4 48), (48, false, a_iload 2 49), (49, false, a_sld 50), (50, false, a_aald 51), (51, false, a_iload 4 53), (53, false, a_ald false 54), (54, false, a_const 1 55), (55, false, a_sub 56), (56, false, a_sv X M_6_textAt M_7_isIn 3 59), (59, false, a_if 0 100 62), (62, false, a_aload 0 63), (63, false, a_gr 6 4 66), (66, false, a_gst 3 69), (69, false, a_iload 2 70), (70, false, a_sld 71), (71, false, a_aald 72), (72, false, a_iload 4 74), (74, false, a_ald false 75), (75, false, a_iload 5 77), (77, false, a_add 78), (78, false, a_istore 6 80), (80, false, a_const 10000 83), (83, false, a_const 100 85), (85, false, a_aload 0 86), (86, false, a_gr 6 4 89), (89, false, a_const 0 90), (90, false, a_aald 91), (91, false, a_iload 4 93), (93, false, a_ald false 94), (94, false, a_mul 95), (95, false, a_add 96), (96, false, a_iload 6 98), (98, false, a_add 99), (99, false, a_iret M_6_textAt), (100, false, a_iinc 4 1 103), (103, false, a_goto 8), (106, false, a_const 0 107), (107, false, a_iret M_6_textAt)]
set_option maxRecDepth 20000 in
theorem t_6_textAt (X : XT) : tget (tab_6_textAt X) 0 = some (false, a_aload 0 1) ∧ tget (tab_6_textAt X) 1 = some (false, a_gr 6 2 4) ∧ tget (tab_6_textAt X) 4 = some (false, a_iload 1 5) ∧ tget (tab_6_textAt X) 5 = some (false, a_ald false 6) ∧ tget (tab_6_textAt X) 6 = some (false, a_istore 4 8) ∧ tget (tab_6_textAt X) 8 = some (true, a_iload 4 10) ∧ tget (tab_6_textAt X) 10 = some (false, a_aload 0 11) ∧ tget (tab_6_textAt X) 11 = some (false, a_gr 6 2 14) ∧ tget (tab_6_textAt X) 14 = some (false, a_iload 1 15) ∧ tget (tab_6_textAt X) 15 = some (false, a_const 1 16) ∧ tget (tab_6_textAt X) 16 = some (false, a_add 17) ∧ tget (tab_6_textAt X) 17 = some (false, a_ald false 18) ∧ tget (tab_6_textAt X) 18 = some (false, a_icmp 3 106 21) ∧ tget (tab_6_textAt X) 21 = some (false, a_iload 3 22) ∧ tget (tab_6_textAt X) 22 = some (false, a_aload 0 23) ∧ tget (tab_6_textAt X) 23 = some (false, a_gr 6 4 26) ∧ tget (tab_6_textAt X) 26 = some (false, a_gst 5 29) ∧ tget (tab_6_textAt X) 29 = some (false, a_iload 2 30) ∧ tget (tab_6_textAt X) 30 = some (false, a_sld 31) ∧ tget (tab_6_textAt X) 31 = some (false, a_aald 32) ∧ tget (tab_6_textAt X) 32 = some (false, a_iload 4 34) ∧ tget (tab_6_textAt X) 34 = some (false, a_ald false 35) ∧ tget (tab_6_textAt X) 35 = some (false, a_sub 36) ∧ tget (tab_6_textAt X) 36 = some (false, a_istore 5 38) ∧ tget (tab_6_textAt X) 38 = some (false, a_iload 5 40) ∧ tget (tab_6_textAt X) 40 = some (false, a_const 0 41) ∧ tget (tab_6_textAt X) 41 = some (false, a_aload 0 42) ∧ tget (tab_6_textAt X) 42 = some (false, a_gr 6 4 45) ∧ tget (tab_6_textAt X) 45 = some (false, a_gst 4 48) ∧ tget (tab_6_textAt X) 48 = some (false, a_iload 2 49) ∧ tget (tab_6_textAt X) 49 = some (false, a_sld 50) ∧ tget (tab_6_textAt X) 50 = some (false, a_aald 51) ∧ tget (tab_6_textAt X) 51 = some (false, a_iload 4 53) ∧ tget (tab_6_textAt X) 53 = some (false, a_ald false 54) ∧ tget (tab_6_textAt X) 54 = some (false, a_const 1 55) ∧ tget (tab_6_textAt X) 55 = some (false, a_sub 56) ∧ tget (tab_6_textAt X) 56 = some (false, a_sv X M_6_textAt M_7_isIn 3 59) ∧ tget (tab_6_textAt X) 59 = some (false, a_if 0 100 62) ∧ tget (tab_6_textAt X) 62 = some (false, a_aload 0 63) ∧ tget (tab_6_textAt X) 63 = some (false, a_gr 6 4 66) ∧ tget (tab_6_textAt X) 66 = some (false, a_gst 3 69) ∧ tget (tab_6_textAt X) 69 = some (false, a_iload 2 70) ∧ tget (tab_6_textAt X) 70 = some (false, a_sld 71) ∧ tget (tab_6_textAt X) 71 = some (false, a_aald 72) ∧ tget (tab_6_textAt X) 72 = some (false, a_iload 4 74) ∧ tget (tab_6_textAt X) 74 = some (false, a_ald false 75) ∧ tget (tab_6_textAt X) 75 = some (false, a_iload 5 77) ∧ tget (tab_6_textAt X) 77 = some (false, a_add 78) ∧ tget (tab_6_textAt X) 78 = some (false, a_istore 6 80) ∧ tget (tab_6_textAt X) 80 = some (false, a_const 10000 83) ∧ tget (tab_6_textAt X) 83 = some (false, a_const 100 85) ∧ tget (tab_6_textAt X) 85 = some (false, a_aload 0 86) ∧ tget (tab_6_textAt X) 86 = some (false, a_gr 6 4 89) ∧ tget (tab_6_textAt X) 89 = some (false, a_const 0 90) ∧ tget (tab_6_textAt X) 90 = some (false, a_aald 91) ∧ tget (tab_6_textAt X) 91 = some (false, a_iload 4 93) ∧ tget (tab_6_textAt X) 93 = some (false, a_ald false 94) ∧ tget (tab_6_textAt X) 94 = some (false, a_mul 95) ∧ tget (tab_6_textAt X) 95 = some (false, a_add 96) ∧ tget (tab_6_textAt X) 96 = some (false, a_iload 6 98) ∧ tget (tab_6_textAt X) 98 = some (false, a_add 99) ∧ tget (tab_6_textAt X) 99 = some (false, a_iret M_6_textAt) ∧ tget (tab_6_textAt X) 100 = some (false, a_iinc 4 1 103) ∧ tget (tab_6_textAt X) 103 = some (false, a_goto 8) ∧ tget (tab_6_textAt X) 106 = some (false, a_const 0 107) ∧ tget (tab_6_textAt X) 107 = some (false, a_iret M_6_textAt) := ⟨rfl, rfl, rfl, rfl, rfl, rfl, rfl, rfl, rfl, rfl, rfl, rfl, rfl, rfl, rfl, rfl, rfl, rfl, rfl, rfl, rfl, rfl, rfl, rfl, rfl, rfl, rfl, rfl, rfl, rfl, rfl, rfl, rfl, rfl, rfl, rfl, rfl, rfl, rfl, rfl, rfl, rfl, rfl, rfl, rfl, rfl, rfl, rfl, rfl, rfl, rfl, rfl, rfl, rfl, rfl, rfl, rfl, rfl, rfl, rfl, rfl, rfl, rfl, rfl, rfl, rfl⟩
theorem tok_6_textAt (X : XT) : TabOK X M_6_textAt (tab_6_textAt X) := by
  unfold tab_6_textAt
  refine tok_cons (snd_aload_n dX6_textAt_0 rfl rfl) ?_
  refine tok_cons (snd_gr (C := RX6) (T := TX6) (N := 11) dX6_textAt_1 rfl (by decide) rfl wf6_15 inX6 rfl) ?_
  refine tok_cons (snd_iload_n dX6_textAt_4 rfl rfl) ?_
  refine tok_cons (snd_iald dX6_textAt_5 rfl) ?_
  refine tok_cons (snd_istore dX6_textAt_6 rfl (by decide)) ?_
  refine tok_cons (snd_iload dX6_textAt_8 rfl) ?_
  refine tok_cons (snd_aload_n dX6_textAt_10 rfl rfl) ?_
  refine tok_cons (snd_gr (C := RX6) (T := TX6) (N := 11) dX6_textAt_11 rfl (by decide) rfl wf6_15 inX6 rfl) ?_
  refine tok_cons (snd_iload_n dX6_textAt_14 rfl rfl) ?_
  refine tok_cons (snd_iconst dX6_textAt_15 rfl (inr_d rfl) rfl) ?_
  refine tok_cons (snd_add dX6_textAt_16 rfl) ?_
  refine tok_cons (snd_iald dX6_textAt_17 rfl) ?_
  refine tok_cons (snd_icmp_ge dX6_textAt_18 (by decide) rfl) ?_
  refine tok_cons (snd_iload_n dX6_textAt_21 rfl rfl) ?_
  refine tok_cons (snd_aload_n dX6_textAt_22 rfl rfl) ?_
  refine tok_cons (snd_gr (C := RX6) (T := TX6) (N := 11) dX6_textAt_23 rfl (by decide) rfl wf6_24 inX6 rfl) ?_
  refine tok_cons (snd_gstN dX6_textAt_26 (by decide) rfl (List.mem_of_getElem? (i := 3) rfl) rfl) ?_
  refine tok_cons (snd_iload_n dX6_textAt_29 rfl rfl) ?_
  refine tok_cons (snd_sld dX6_textAt_30 rfl) ?_
  refine tok_cons (snd_aald dX6_textAt_31 rfl) ?_
  refine tok_cons (snd_iload dX6_textAt_32 rfl) ?_
  refine tok_cons (snd_iald dX6_textAt_34 rfl) ?_
  refine tok_cons (snd_sub dX6_textAt_35 rfl) ?_
  refine tok_cons (snd_istore dX6_textAt_36 rfl (by decide)) ?_
  refine tok_cons (snd_iload dX6_textAt_38 rfl) ?_
  refine tok_cons (snd_iconst dX6_textAt_40 rfl (inr_d rfl) rfl) ?_
  refine tok_cons (snd_aload_n dX6_textAt_41 rfl rfl) ?_
  refine tok_cons (snd_gr (C := RX6) (T := TX6) (N := 11) dX6_textAt_42 rfl (by decide) rfl wf6_24 inX6 rfl) ?_
  refine tok_cons (snd_gstN dX6_textAt_45 (by decide) rfl (List.mem_of_getElem? (i := 2) rfl) rfl) ?_
  refine tok_cons (snd_iload_n dX6_textAt_48 rfl rfl) ?_
  refine tok_cons (snd_sld dX6_textAt_49 rfl) ?_
  refine tok_cons (snd_aald dX6_textAt_50 rfl) ?_
  refine tok_cons (snd_iload dX6_textAt_51 rfl) ?_
  refine tok_cons (snd_iald dX6_textAt_53 rfl) ?_
  refine tok_cons (snd_iconst dX6_textAt_54 rfl (inr_d rfl) rfl) ?_
  refine tok_cons (snd_sub dX6_textAt_55 rfl) ?_
  refine tok_cons (snd_sv dX6_textAt_56 mok_7_isIn ⟨ws_7_isIn, Or.inr (List.mem_of_getElem? (i := 16) rfl)⟩ pn_7_isIn (by decide) ⟨rfl, rfl⟩ rfl) ?_
  refine tok_cons (snd_if_eq dX6_textAt_59 (by decide) rfl) ?_
  refine tok_cons (snd_aload_n dX6_textAt_62 rfl rfl) ?_
  refine tok_cons (snd_gr (C := RX6) (T := TX6) (N := 11) dX6_textAt_63 rfl (by decide) rfl wf6_24 inX6 rfl) ?_
  refine tok_cons (snd_gstN dX6_textAt_66 (by decide) rfl (List.mem_of_getElem? (i := 1) rfl) rfl) ?_
  refine tok_cons (snd_iload_n dX6_textAt_69 rfl rfl) ?_
  refine tok_cons (snd_sld dX6_textAt_70 rfl) ?_
  refine tok_cons (snd_aald dX6_textAt_71 rfl) ?_
  refine tok_cons (snd_iload dX6_textAt_72 rfl) ?_
  refine tok_cons (snd_iald dX6_textAt_74 rfl) ?_
  refine tok_cons (snd_iload dX6_textAt_75 rfl) ?_
  refine tok_cons (snd_add dX6_textAt_77 rfl) ?_
  refine tok_cons (snd_istore dX6_textAt_78 rfl (by decide)) ?_
  refine tok_cons (snd_sipush dX6_textAt_80 (by decide) (inr_d rfl) rfl) ?_
  refine tok_cons (snd_bipush dX6_textAt_83 (by decide) (inr_d rfl) rfl) ?_
  refine tok_cons (snd_aload_n dX6_textAt_85 rfl rfl) ?_
  refine tok_cons (snd_gr (C := RX6) (T := TX6) (N := 11) dX6_textAt_86 rfl (by decide) rfl wf6_24 inX6 rfl) ?_
  refine tok_cons (snd_iconst dX6_textAt_89 rfl (inr_d rfl) rfl) ?_
  refine tok_cons (snd_aald dX6_textAt_90 rfl) ?_
  refine tok_cons (snd_iload dX6_textAt_91 rfl) ?_
  refine tok_cons (snd_iald dX6_textAt_93 rfl) ?_
  refine tok_cons (snd_mul dX6_textAt_94 rfl) ?_
  refine tok_cons (snd_add dX6_textAt_95 rfl) ?_
  refine tok_cons (snd_iload dX6_textAt_96 rfl) ?_
  refine tok_cons (snd_add dX6_textAt_98 rfl) ?_
  refine tok_cons (snd_iret dX6_textAt_99 rfl) ?_
  refine tok_cons (snd_iinc dX6_textAt_100 rfl rfl (by decide)) ?_
  refine tok_cons (snd_goto dX6_textAt_103 (by decide)) ?_
  refine tok_cons (snd_iconst dX6_textAt_106 rfl (inr_d rfl) rfl) ?_
  refine tok_cons (snd_iret dX6_textAt_107 rfl) ?_
  exact tok_nil
def tab_6_noteAt (X : XT) : Tab := [(0, false, a_const 2 1), (1, false, a_iload 2 2), (2, false, a_mul 3), (3, false, a_iload 3 4), (4, false, a_add 5), (5, false, a_istore 5 7), (7, false, a_aload 0 8), (8, false, a_gr 6 5 11), (11, false, a_const 1 12), (12, false, a_aald 13), (13, false, a_iload 5 15), (15, false, a_ald false 16), (16, false, a_istore 6 18), (18, false, a_aload 0 19), (19, false, a_gi 6 0 0 22), (22, false, a_iload 6 24), (24, false, a_sub 25), (25, false, a_aload 0 26), (26, false, a_gr 6 5 29), (29, false, a_const 0 30), (30, false, a_aald 31), (31, false, a_iload 5 33), (33, false, a_ald false 34), (34, false, a_max M_6_noteAt 37), (37, false, a_istore 7 39), (39, false, a_iload 4 41), (41, false, a_iload 7 43), (43, false, a_iload 7 45), (45, false, a_iload 6 47), (47, false, a_add 48), (48, false, a_const 1 49), (49, false, a_sub 50), (50, false, a_sv X M_6_noteAt M_7_isIn 3 53), (53, false, a_if 1 58 56), (56, false, a_const 0 57), (57, false, a_iret M_6_noteAt), (58, false, a_iload 4 60), (60, false, a_iload 7 62), (62, false, a_sub 63), (63, false, a_aload 1 64), (64, false, a_gr 1 4 67), (67, false, a_const 2 68), (68, false, a_ald false 69), (69, false, a_sub 70), (70, false, a_istore 8 72), (72, false, a_iload 8 74), (74, false, a_if 3 83 77), (77, false, a_const 30000 80), (80, false, a_goto 96), (83, false, a_aload 0 84), (84, false, a_aload 1 85), (85, false, a_iload 3 86), (86, false, a_cv X M_6_noteAt M_1_notes 1 2 89), (89, false, a_iload 5 91), (91, false, a_iload 8 93), (93, false, a_cv X M_6_noteAt M_6_noteLine 6 4 96), (96, false, a_iret M_6_noteAt)]
set_option maxRecDepth 20000 in
theorem t_6_noteAt (X : XT) : tget (tab_6_noteAt X) 0 = some (false, a_const 2 1) ∧ tget (tab_6_noteAt X) 1 = some (false, a_iload 2 2) ∧ tget (tab_6_noteAt X) 2 = some (false, a_mul 3) ∧ tget (tab_6_noteAt X) 3 = some (false, a_iload 3 4) ∧ tget (tab_6_noteAt X) 4 = some (false, a_add 5) ∧ tget (tab_6_noteAt X) 5 = some (false, a_istore 5 7) ∧ tget (tab_6_noteAt X) 7 = some (false, a_aload 0 8) ∧ tget (tab_6_noteAt X) 8 = some (false, a_gr 6 5 11) ∧ tget (tab_6_noteAt X) 11 = some (false, a_const 1 12) ∧ tget (tab_6_noteAt X) 12 = some (false, a_aald 13) ∧ tget (tab_6_noteAt X) 13 = some (false, a_iload 5 15) ∧ tget (tab_6_noteAt X) 15 = some (false, a_ald false 16) ∧ tget (tab_6_noteAt X) 16 = some (false, a_istore 6 18) ∧ tget (tab_6_noteAt X) 18 = some (false, a_aload 0 19) ∧ tget (tab_6_noteAt X) 19 = some (false, a_gi 6 0 0 22) ∧ tget (tab_6_noteAt X) 22 = some (false, a_iload 6 24) ∧ tget (tab_6_noteAt X) 24 = some (false, a_sub 25) ∧ tget (tab_6_noteAt X) 25 = some (false, a_aload 0 26) ∧ tget (tab_6_noteAt X) 26 = some (false, a_gr 6 5 29) ∧ tget (tab_6_noteAt X) 29 = some (false, a_const 0 30) ∧ tget (tab_6_noteAt X) 30 = some (false, a_aald 31) ∧ tget (tab_6_noteAt X) 31 = some (false, a_iload 5 33) ∧ tget (tab_6_noteAt X) 33 = some (false, a_ald false 34) ∧ tget (tab_6_noteAt X) 34 = some (false, a_max M_6_noteAt 37) ∧ tget (tab_6_noteAt X) 37 = some (false, a_istore 7 39) ∧ tget (tab_6_noteAt X) 39 = some (false, a_iload 4 41) ∧ tget (tab_6_noteAt X) 41 = some (false, a_iload 7 43) ∧ tget (tab_6_noteAt X) 43 = some (false, a_iload 7 45) ∧ tget (tab_6_noteAt X) 45 = some (false, a_iload 6 47) ∧ tget (tab_6_noteAt X) 47 = some (false, a_add 48) ∧ tget (tab_6_noteAt X) 48 = some (false, a_const 1 49) ∧ tget (tab_6_noteAt X) 49 = some (false, a_sub 50) ∧ tget (tab_6_noteAt X) 50 = some (false, a_sv X M_6_noteAt M_7_isIn 3 53) ∧ tget (tab_6_noteAt X) 53 = some (false, a_if 1 58 56) ∧ tget (tab_6_noteAt X) 56 = some (false, a_const 0 57) ∧ tget (tab_6_noteAt X) 57 = some (false, a_iret M_6_noteAt) ∧ tget (tab_6_noteAt X) 58 = some (false, a_iload 4 60) ∧ tget (tab_6_noteAt X) 60 = some (false, a_iload 7 62) ∧ tget (tab_6_noteAt X) 62 = some (false, a_sub 63) ∧ tget (tab_6_noteAt X) 63 = some (false, a_aload 1 64) ∧ tget (tab_6_noteAt X) 64 = some (false, a_gr 1 4 67) ∧ tget (tab_6_noteAt X) 67 = some (false, a_const 2 68) ∧ tget (tab_6_noteAt X) 68 = some (false, a_ald false 69) ∧ tget (tab_6_noteAt X) 69 = some (false, a_sub 70) ∧ tget (tab_6_noteAt X) 70 = some (false, a_istore 8 72) ∧ tget (tab_6_noteAt X) 72 = some (false, a_iload 8 74) ∧ tget (tab_6_noteAt X) 74 = some (false, a_if 3 83 77) ∧ tget (tab_6_noteAt X) 77 = some (false, a_const 30000 80) ∧ tget (tab_6_noteAt X) 80 = some (false, a_goto 96) ∧ tget (tab_6_noteAt X) 83 = some (false, a_aload 0 84) ∧ tget (tab_6_noteAt X) 84 = some (false, a_aload 1 85) ∧ tget (tab_6_noteAt X) 85 = some (false, a_iload 3 86) ∧ tget (tab_6_noteAt X) 86 = some (false, a_cv X M_6_noteAt M_1_notes 1 2 89) ∧ tget (tab_6_noteAt X) 89 = some (false, a_iload 5 91) ∧ tget (tab_6_noteAt X) 91 = some (false, a_iload 8 93) ∧ tget (tab_6_noteAt X) 93 = some (false, a_cv X M_6_noteAt M_6_noteLine 6 4 96) ∧ tget (tab_6_noteAt X) 96 = some (false, a_iret M_6_noteAt) := ⟨rfl, rfl, rfl, rfl, rfl, rfl, rfl, rfl, rfl, rfl, rfl, rfl, rfl, rfl, rfl, rfl, rfl, rfl, rfl, rfl, rfl, rfl, rfl, rfl, rfl, rfl, rfl, rfl, rfl, rfl, rfl, rfl, rfl, rfl, rfl, rfl, rfl, rfl, rfl, rfl, rfl, rfl, rfl, rfl, rfl, rfl, rfl, rfl, rfl, rfl, rfl, rfl, rfl, rfl, rfl, rfl, rfl⟩
theorem tok_6_noteAt (X : XT) : TabOK X M_6_noteAt (tab_6_noteAt X) := by
  unfold tab_6_noteAt
  refine tok_cons (snd_iconst dX6_noteAt_0 rfl (inr_d rfl) rfl) ?_
  refine tok_cons (snd_iload_n dX6_noteAt_1 rfl rfl) ?_
  refine tok_cons (snd_mul dX6_noteAt_2 rfl) ?_
  refine tok_cons (snd_iload_n dX6_noteAt_3 rfl rfl) ?_
  refine tok_cons (snd_add dX6_noteAt_4 rfl) ?_
  refine tok_cons (snd_istore dX6_noteAt_5 rfl (by decide)) ?_
  refine tok_cons (snd_aload_n dX6_noteAt_7 rfl rfl) ?_
  refine tok_cons (snd_gr (C := RX6) (T := TX6) (N := 11) dX6_noteAt_8 rfl (by decide) rfl wf6_27 inX6 rfl) ?_
  refine tok_cons (snd_iconst dX6_noteAt_11 rfl (inr_d rfl) rfl) ?_
  refine tok_cons (snd_aald dX6_noteAt_12 rfl) ?_
  refine tok_cons (snd_iload dX6_noteAt_13 rfl) ?_
  refine tok_cons (snd_iald dX6_noteAt_15 rfl) ?_
  refine tok_cons (snd_istore dX6_noteAt_16 rfl (by decide)) ?_
  refine tok_cons (snd_aload_n dX6_noteAt_18 rfl rfl) ?_
  refine tok_cons (snd_gi (C := RX6) (T := TX6) (N := 11) dX6_noteAt_19 rfl (by decide) rfl wf6_11 inX6 rfl rfl) ?_
  refine tok_cons (snd_iload dX6_noteAt_22 rfl) ?_
  refine tok_cons (snd_sub dX6_noteAt_24 rfl) ?_
  refine tok_cons (snd_aload_n dX6_noteAt_25 rfl rfl) ?_
  refine tok_cons (snd_gr (C := RX6) (T := TX6) (N := 11) dX6_noteAt_26 rfl (by decide) rfl wf6_27 inX6 rfl) ?_
  refine tok_cons (snd_iconst dX6_noteAt_29 rfl (inr_d rfl) rfl) ?_
  refine tok_cons (snd_aald dX6_noteAt_30 rfl) ?_
  refine tok_cons (snd_iload dX6_noteAt_31 rfl) ?_
  refine tok_cons (snd_iald dX6_noteAt_33 rfl) ?_
  refine tok_cons (snd_max dX6_noteAt_34 wm6_165 ws_max wn_Math wc_max (by decide) rfl) ?_
  refine tok_cons (snd_istore dX6_noteAt_37 rfl (by decide)) ?_
  refine tok_cons (snd_iload dX6_noteAt_39 rfl) ?_
  refine tok_cons (snd_iload dX6_noteAt_41 rfl) ?_
  refine tok_cons (snd_iload dX6_noteAt_43 rfl) ?_
  refine tok_cons (snd_iload dX6_noteAt_45 rfl) ?_
  refine tok_cons (snd_add dX6_noteAt_47 rfl) ?_
  refine tok_cons (snd_iconst dX6_noteAt_48 rfl (inr_d rfl) rfl) ?_
  refine tok_cons (snd_sub dX6_noteAt_49 rfl) ?_
  refine tok_cons (snd_sv dX6_noteAt_50 mok_7_isIn ⟨ws_7_isIn, Or.inr (List.mem_of_getElem? (i := 16) rfl)⟩ pn_7_isIn (by decide) ⟨rfl, rfl⟩ rfl) ?_
  refine tok_cons (snd_if_ne dX6_noteAt_53 (by decide) rfl) ?_
  refine tok_cons (snd_iconst dX6_noteAt_56 rfl (inr_d rfl) rfl) ?_
  refine tok_cons (snd_iret dX6_noteAt_57 rfl) ?_
  refine tok_cons (snd_iload dX6_noteAt_58 rfl) ?_
  refine tok_cons (snd_iload dX6_noteAt_60 rfl) ?_
  refine tok_cons (snd_sub dX6_noteAt_62 rfl) ?_
  refine tok_cons (snd_aload_n dX6_noteAt_63 rfl rfl) ?_
  refine tok_cons (snd_gr (C := RX1) (T := TX1) (N := 5) dX6_noteAt_64 rfl (by decide) rfl wf6_120 inX1 rfl) ?_
  refine tok_cons (snd_iconst dX6_noteAt_67 rfl (inr_d rfl) rfl) ?_
  refine tok_cons (snd_iald dX6_noteAt_68 rfl) ?_
  refine tok_cons (snd_sub dX6_noteAt_69 rfl) ?_
  refine tok_cons (snd_istore dX6_noteAt_70 rfl (by decide)) ?_
  refine tok_cons (snd_iload dX6_noteAt_72 rfl) ?_
  refine tok_cons (snd_if_ge dX6_noteAt_74 (by decide) rfl) ?_
  refine tok_cons (snd_sipush dX6_noteAt_77 (by decide) (inr_d rfl) rfl) ?_
  refine tok_cons (snd_goto dX6_noteAt_80 (by decide)) ?_
  refine tok_cons (snd_aload_n dX6_noteAt_83 rfl rfl) ?_
  refine tok_cons (snd_aload_n dX6_noteAt_84 rfl rfl) ?_
  refine tok_cons (snd_iload_n dX6_noteAt_85 rfl rfl) ?_
  refine tok_cons (snd_cv dX6_noteAt_86 mok_1_notes ⟨wm6_181, wi_1_notes, wl_1_notes⟩ (rc := (RX1, TX1, 5)) rfl rfl pn_1_notes (by decide) ⟨rfl, rfl⟩ rfl) ?_
  refine tok_cons (snd_iload dX6_noteAt_89 rfl) ?_
  refine tok_cons (snd_iload dX6_noteAt_91 rfl) ?_
  refine tok_cons (snd_cv dX6_noteAt_93 mok_6_noteLine ⟨wm6_184, wi_6_noteLine, wl_6_noteLine⟩ (rc := (RX6, TX6, 11)) rfl rfl pn_6_noteLine (by decide) ⟨rfl, rfl⟩ rfl) ?_
  refine tok_cons (snd_iret dX6_noteAt_96 rfl) ?_
  exact tok_nil
def tab_7_isSide (X : XT) : Tab := [(0, false, a_iload 0 1), (1, false, a_const 0 2), (2, false, a_const 1 3), (3, false, a_sv X M_7_isSide M_7_isIn 3 6), (6, false, a_zret M_7_isSide)]
set_option maxRecDepth 20000 in
theorem t_7_isSide (X : XT) : tget (tab_7_isSide X) 0 = some (false, a_iload 0 1) ∧ tget (tab_7_isSide X) 1 = some (false, a_const 0 2) ∧ tget (tab_7_isSide X) 2 = some (false, a_const 1 3) ∧ tget (tab_7_isSide X) 3 = some (false, a_sv X M_7_isSide M_7_isIn 3 6) ∧ tget (tab_7_isSide X) 6 = some (false, a_zret M_7_isSide) := ⟨rfl, rfl, rfl, rfl, rfl⟩
theorem tok_7_isSide (X : XT) : TabOK X M_7_isSide (tab_7_isSide X) := by
  unfold tab_7_isSide
  refine tok_cons (snd_iload_n dX7_isSide_0 rfl rfl) ?_
  refine tok_cons (snd_iconst dX7_isSide_1 rfl (inr_d rfl) rfl) ?_
  refine tok_cons (snd_iconst dX7_isSide_2 rfl (inr_d rfl) rfl) ?_
  refine tok_cons (snd_sv dX7_isSide_3 mok_7_isIn ⟨ws_7_isIn, Or.inl ⟨wm7_41, rfl⟩⟩ pn_7_isIn (by decide) ⟨rfl, rfl⟩ rfl) ?_
  refine tok_cons (snd_zret dX7_isSide_6 rfl) ?_
  exact tok_nil
def tab_7_openPlace (X : XT) : Tab := [(0, false, a_iload 1 1), (1, false, a_const 0 2), (2, false, a_iload 2 3), (3, false, a_sv X M_7_openPlace M_7_isIn 3 6), (6, false, a_if 0 27 9), (9, false, a_iload 2 10), (10, false, a_aload 0 11), (11, false, a_len 12), (12, false, a_icmp 3 27 15), (15, false, a_aload 0 16), (16, false, a_iload 1 17), (17, false, a_aload 0 18), (18, false, a_iload 1 19), (19, false, a_const 1 20), (20, false, a_add 21), (21, false, a_iload 2 22), (22, false, a_iload 1 23), (23, false, a_sub 24), (24, false, a_copy 27), (27, false, a_ret M_7_openPlace)]
set_option maxRecDepth 20000 in
theorem t_7_openPlace (X : XT) : tget (tab_7_openPlace X) 0 = some (false, a_iload 1 1) ∧ tget (tab_7_openPlace X) 1 = some (false, a_const 0 2) ∧ tget (tab_7_openPlace X) 2 = some (false, a_iload 2 3) ∧ tget (tab_7_openPlace X) 3 = some (false, a_sv X M_7_openPlace M_7_isIn 3 6) ∧ tget (tab_7_openPlace X) 6 = some (false, a_if 0 27 9) ∧ tget (tab_7_openPlace X) 9 = some (false, a_iload 2 10) ∧ tget (tab_7_openPlace X) 10 = some (false, a_aload 0 11) ∧ tget (tab_7_openPlace X) 11 = some (false, a_len 12) ∧ tget (tab_7_openPlace X) 12 = some (false, a_icmp 3 27 15) ∧ tget (tab_7_openPlace X) 15 = some (false, a_aload 0 16) ∧ tget (tab_7_openPlace X) 16 = some (false, a_iload 1 17) ∧ tget (tab_7_openPlace X) 17 = some (false, a_aload 0 18) ∧ tget (tab_7_openPlace X) 18 = some (false, a_iload 1 19) ∧ tget (tab_7_openPlace X) 19 = some (false, a_const 1 20) ∧ tget (tab_7_openPlace X) 20 = some (false, a_add 21) ∧ tget (tab_7_openPlace X) 21 = some (false, a_iload 2 22) ∧ tget (tab_7_openPlace X) 22 = some (false, a_iload 1 23) ∧ tget (tab_7_openPlace X) 23 = some (false, a_sub 24) ∧ tget (tab_7_openPlace X) 24 = some (false, a_copy 27) ∧ tget (tab_7_openPlace X) 27 = some (false, a_ret M_7_openPlace) := ⟨rfl, rfl, rfl, rfl, rfl, rfl, rfl, rfl, rfl, rfl, rfl, rfl, rfl, rfl, rfl, rfl, rfl, rfl, rfl, rfl⟩
theorem tok_7_openPlace (X : XT) : TabOK X M_7_openPlace (tab_7_openPlace X) := by
  unfold tab_7_openPlace
  refine tok_cons (snd_iload_n dX7_openPlace_0 rfl rfl) ?_
  refine tok_cons (snd_iconst dX7_openPlace_1 rfl (inr_d rfl) rfl) ?_
  refine tok_cons (snd_iload_n dX7_openPlace_2 rfl rfl) ?_
  refine tok_cons (snd_sv dX7_openPlace_3 mok_7_isIn ⟨ws_7_isIn, Or.inl ⟨wm7_41, rfl⟩⟩ pn_7_isIn (by decide) ⟨rfl, rfl⟩ rfl) ?_
  refine tok_cons (snd_if_eq dX7_openPlace_6 (by decide) rfl) ?_
  refine tok_cons (snd_iload_n dX7_openPlace_9 rfl rfl) ?_
  refine tok_cons (snd_aload_n dX7_openPlace_10 rfl rfl) ?_
  refine tok_cons (snd_len dX7_openPlace_11 rfl) ?_
  refine tok_cons (snd_icmp_ge dX7_openPlace_12 (by decide) rfl) ?_
  refine tok_cons (snd_aload_n dX7_openPlace_15 rfl rfl) ?_
  refine tok_cons (snd_iload_n dX7_openPlace_16 rfl rfl) ?_
  refine tok_cons (snd_aload_n dX7_openPlace_17 rfl rfl) ?_
  refine tok_cons (snd_iload_n dX7_openPlace_18 rfl rfl) ?_
  refine tok_cons (snd_iconst dX7_openPlace_19 rfl (inr_d rfl) rfl) ?_
  refine tok_cons (snd_add dX7_openPlace_20 rfl) ?_
  refine tok_cons (snd_iload_n dX7_openPlace_21 rfl rfl) ?_
  refine tok_cons (snd_iload_n dX7_openPlace_22 rfl rfl) ?_
  refine tok_cons (snd_sub dX7_openPlace_23 rfl) ?_
  refine tok_cons (snd_copy dX7_openPlace_24 wm7_195 wnat ws_acopy wn_Sys (by decide) rfl) ?_
  refine tok_cons (snd_ret dX7_openPlace_27 rfl) ?_
  exact tok_nil
def tab_7_closePlace (X : XT) : Tab := [(0, false, a_iload 1 1), (1, false, a_const 0 2), (2, false, a_iload 2 3), (3, false, a_const 1 4), (4, false, a_sub 5), (5, false, a_sv X M_7_closePlace M_7_isIn 3 8), (8, false, a_if 0 31 11), (11, false, a_iload 2 12), (12, false, a_aload 0 13), (13, false, a_len 14), (14, false, a_icmp 4 31 17), (17, false, a_aload 0 18), (18, false, a_iload 1 19), (19, false, a_const 1 20), (20, false, a_add 21), (21, false, a_aload 0 22), (22, false, a_iload 1 23), (23, false, a_iload 2 24), (24, false, a_iload 1 25), (25, false, a_sub 26), (26, false, a_const 1 27), (27, false, a_sub 28), (28, false, a_copy 31), (31, false, a_ret M_7_closePlace)]
set_option maxRecDepth 20000 in
theorem t_7_closePlace (X : XT) : tget (tab_7_closePlace X) 0 = some (false, a_iload 1 1) ∧ tget (tab_7_closePlace X) 1 = some (false, a_const 0 2) ∧ tget (tab_7_closePlace X) 2 = some (false, a_iload 2 3) ∧ tget (tab_7_closePlace X) 3 = some (false, a_const 1 4) ∧ tget (tab_7_closePlace X) 4 = some (false, a_sub 5) ∧ tget (tab_7_closePlace X) 5 = some (false, a_sv X M_7_closePlace M_7_isIn 3 8) ∧ tget (tab_7_closePlace X) 8 = some (false, a_if 0 31 11) ∧ tget (tab_7_closePlace X) 11 = some (false, a_iload 2 12) ∧ tget (tab_7_closePlace X) 12 = some (false, a_aload 0 13) ∧ tget (tab_7_closePlace X) 13 = some (false, a_len 14) ∧ tget (tab_7_closePlace X) 14 = some (false, a_icmp 4 31 17) ∧ tget (tab_7_closePlace X) 17 = some (false, a_aload 0 18) ∧ tget (tab_7_closePlace X) 18 = some (false, a_iload 1 19) ∧ tget (tab_7_closePlace X) 19 = some (false, a_const 1 20) ∧ tget (tab_7_closePlace X) 20 = some (false, a_add 21) ∧ tget (tab_7_closePlace X) 21 = some (false, a_aload 0 22) ∧ tget (tab_7_closePlace X) 22 = some (false, a_iload 1 23) ∧ tget (tab_7_closePlace X) 23 = some (false, a_iload 2 24) ∧ tget (tab_7_closePlace X) 24 = some (false, a_iload 1 25) ∧ tget (tab_7_closePlace X) 25 = some (false, a_sub 26) ∧ tget (tab_7_closePlace X) 26 = some (false, a_const 1 27) ∧ tget (tab_7_closePlace X) 27 = some (false, a_sub 28) ∧ tget (tab_7_closePlace X) 28 = some (false, a_copy 31) ∧ tget (tab_7_closePlace X) 31 = some (false, a_ret M_7_closePlace) := ⟨rfl, rfl, rfl, rfl, rfl, rfl, rfl, rfl, rfl, rfl, rfl, rfl, rfl, rfl, rfl, rfl, rfl, rfl, rfl, rfl, rfl, rfl, rfl, rfl⟩
theorem tok_7_closePlace (X : XT) : TabOK X M_7_closePlace (tab_7_closePlace X) := by
  unfold tab_7_closePlace
  refine tok_cons (snd_iload_n dX7_closePlace_0 rfl rfl) ?_
  refine tok_cons (snd_iconst dX7_closePlace_1 rfl (inr_d rfl) rfl) ?_
  refine tok_cons (snd_iload_n dX7_closePlace_2 rfl rfl) ?_
  refine tok_cons (snd_iconst dX7_closePlace_3 rfl (inr_d rfl) rfl) ?_
  refine tok_cons (snd_sub dX7_closePlace_4 rfl) ?_
  refine tok_cons (snd_sv dX7_closePlace_5 mok_7_isIn ⟨ws_7_isIn, Or.inl ⟨wm7_41, rfl⟩⟩ pn_7_isIn (by decide) ⟨rfl, rfl⟩ rfl) ?_
  refine tok_cons (snd_if_eq dX7_closePlace_8 (by decide) rfl) ?_
  refine tok_cons (snd_iload_n dX7_closePlace_11 rfl rfl) ?_
  refine tok_cons (snd_aload_n dX7_closePlace_12 rfl rfl) ?_
  refine tok_cons (snd_len dX7_closePlace_13 rfl) ?_
  refine tok_cons (snd_icmp_gt dX7_closePlace_14 (by decide) rfl) ?_
  refine tok_cons (snd_aload_n dX7_closePlace_17 rfl rfl) ?_
  refine tok_cons (snd_iload_n dX7_closePlace_18 rfl rfl) ?_
  refine tok_cons (snd_iconst dX7_closePlace_19 rfl (inr_d rfl) rfl) ?_
  refine tok_cons (snd_add dX7_closePlace_20 rfl) ?_
  refine tok_cons (snd_aload_n dX7_closePlace_21 rfl rfl) ?_
  refine tok_cons (snd_iload_n dX7_closePlace_22 rfl rfl) ?_
  refine tok_cons (snd_iload_n dX7_closePlace_23 rfl rfl) ?_
  refine tok_cons (snd_iload_n dX7_closePlace_24 rfl rfl) ?_
  refine tok_cons (snd_sub dX7_closePlace_25 rfl) ?_
  refine tok_cons (snd_iconst dX7_closePlace_26 rfl (inr_d rfl) rfl) ?_
  refine tok_cons (snd_sub dX7_closePlace_27 rfl) ?_
  refine tok_cons (snd_copy dX7_closePlace_28 wm7_195 wnat ws_acopy wn_Sys (by decide) rfl) ?_
  refine tok_cons (snd_ret dX7_closePlace_31 rfl) ?_
  exact tok_nil
def tab_0_considerGroup (X : XT) : Tab := [(0, false, a_aload 0 1), (1, false, a_gr 0 3 4), (4, false, a_iload 3 5), (5, false, a_ald false 6), (6, false, a_const (-1) 7), (7, false, a_icmp 1 11 10), (10, false, a_ret M_0_considerGroup), (11, false, a_aload 0 12), (12, false, a_gr 0 3 15), (15, false, a_iload 3 16), (16, false, a_ald false 17), (17, false, a_iload 3 18), (18, false, a_aload 1 19), (19, false, a_gi 1 0 0 22), (22, false, a_icmp 3 33 25), (25, false, a_aload 0 26), (26, false, a_aload 1 27), (27, false, a_cv X M_0_considerGroup M_0_blankSquares 0 2 30), (30, false, a_goto 34), (33, false, a_const 0 34), (34, false, a_add 35), (35, false, a_istore 4 37), (37, false, a_aload 0 38), (38, false, a_gr 0 3 41), (41, false, a_iload 2 42), (42, false, a_ald false 43), (43, false, a_const (-1) 44), (44, false, a_icmp 0 58 47), (47, false, a_iload 4 49), (49, false, a_aload 0 50), (50, false, a_gr 0 3 53), (53, false, a_iload 2 54), (54, false, a_ald false 55), (55, false, a_icmp 4 75 58), (58, false, a_aload 0 59), (59, false, a_gr 0 3 62), (62, false, a_iload 2 63), (63, false, a_iload 4 65), (65, false, a_ast false 66), (66, false, a_aload 0 67), (67, false, a_gr 0 4 70), (70, false, a_iload 2 71), (71, false, a_iload 3 72), (72, false, a_iload 2 73), (73, false, a_sub 74), (74, false, a_ast false 75), (75, false, a_ret M_0_considerGroup)]
set_option maxRecDepth 20000 in
theorem t_0_considerGroup (X : XT) : tget (tab_0_considerGroup X) 0 = some (false, a_aload 0 1) ∧ tget (tab_0_considerGroup X) 1 = some (false, a_gr 0 3 4) ∧ tget (tab_0_considerGroup X) 4 = some (false, a_iload 3 5) ∧ tget (tab_0_considerGroup X) 5 = some (false, a_ald false 6) ∧ tget (tab_0_considerGroup X) 6 = some (false, a_const (-1) 7) ∧ tget (tab_0_considerGroup X) 7 = some (false, a_icmp 1 11 10) ∧ tget (tab_0_considerGroup X) 10 = some (false, a_ret M_0_considerGroup) ∧ tget (tab_0_considerGroup X) 11 = some (false, a_aload 0 12) ∧ tget (tab_0_considerGroup X) 12 = some (false, a_gr 0 3 15) ∧ tget (tab_0_considerGroup X) 15 = some (false, a_iload 3 16) ∧ tget (tab_0_considerGroup X) 16 = some (false, a_ald false 17) ∧ tget (tab_0_considerGroup X) 17 = some (false, a_iload 3 18) ∧ tget (tab_0_considerGroup X) 18 = some (false, a_aload 1 19) ∧ tget (tab_0_considerGroup X) 19 = some (false, a_gi 1 0 0 22) ∧ tget (tab_0_considerGroup X) 22 = some (false, a_icmp 3 33 25) ∧ tget (tab_0_considerGroup X) 25 = some (false, a_aload 0 26) ∧ tget (tab_0_considerGroup X) 26 = some (false, a_aload 1 27) ∧ tget (tab_0_considerGroup X) 27 = some (false, a_cv X M_0_considerGroup M_0_blankSquares 0 2 30) ∧ tget (tab_0_considerGroup X) 30 = some (false, a_goto 34) ∧ tget (tab_0_considerGroup X) 33 = some (false, a_const 0 34) ∧ tget (tab_0_considerGroup X) 34 = some (false, a_add 35) ∧ tget (tab_0_considerGroup X) 35 = some (false, a_istore 4 37) ∧ tget (tab_0_considerGroup X) 37 = some (false, a_aload 0 38) ∧ tget (tab_0_considerGroup X) 38 = some (false, a_gr 0 3 41) ∧ tget (tab_0_considerGroup X) 41 = some (false, a_iload 2 42) ∧ tget (tab_0_considerGroup X) 42 = some (false, a_ald false 43) ∧ tget (tab_0_considerGroup X) 43 = some (false, a_const (-1) 44) ∧ tget (tab_0_considerGroup X) 44 = some (false, a_icmp 0 58 47) ∧ tget (tab_0_considerGroup X) 47 = some (false, a_iload 4 49) ∧ tget (tab_0_considerGroup X) 49 = some (false, a_aload 0 50) ∧ tget (tab_0_considerGroup X) 50 = some (false, a_gr 0 3 53) ∧ tget (tab_0_considerGroup X) 53 = some (false, a_iload 2 54) ∧ tget (tab_0_considerGroup X) 54 = some (false, a_ald false 55) ∧ tget (tab_0_considerGroup X) 55 = some (false, a_icmp 4 75 58) ∧ tget (tab_0_considerGroup X) 58 = some (false, a_aload 0 59) ∧ tget (tab_0_considerGroup X) 59 = some (false, a_gr 0 3 62) ∧ tget (tab_0_considerGroup X) 62 = some (false, a_iload 2 63) ∧ tget (tab_0_considerGroup X) 63 = some (false, a_iload 4 65) ∧ tget (tab_0_considerGroup X) 65 = some (false, a_ast false 66) ∧ tget (tab_0_considerGroup X) 66 = some (false, a_aload 0 67) ∧ tget (tab_0_considerGroup X) 67 = some (false, a_gr 0 4 70) ∧ tget (tab_0_considerGroup X) 70 = some (false, a_iload 2 71) ∧ tget (tab_0_considerGroup X) 71 = some (false, a_iload 3 72) ∧ tget (tab_0_considerGroup X) 72 = some (false, a_iload 2 73) ∧ tget (tab_0_considerGroup X) 73 = some (false, a_sub 74) ∧ tget (tab_0_considerGroup X) 74 = some (false, a_ast false 75) ∧ tget (tab_0_considerGroup X) 75 = some (false, a_ret M_0_considerGroup) := ⟨rfl, rfl, rfl, rfl, rfl, rfl, rfl, rfl, rfl, rfl, rfl, rfl, rfl, rfl, rfl, rfl, rfl, rfl, rfl, rfl, rfl, rfl, rfl, rfl, rfl, rfl, rfl, rfl, rfl, rfl, rfl, rfl, rfl, rfl, rfl, rfl, rfl, rfl, rfl, rfl, rfl, rfl, rfl, rfl, rfl, rfl, rfl⟩
theorem tok_0_considerGroup (X : XT) : TabOK X M_0_considerGroup (tab_0_considerGroup X) := by
  unfold tab_0_considerGroup
  refine tok_cons (snd_aload_n dX0_considerGroup_0 rfl rfl) ?_
  refine tok_cons (snd_gr (C := RX0) (T := TX0) (N := 7) dX0_considerGroup_1 rfl (by decide) rfl wf0_15 inX0 rfl) ?_
  refine tok_cons (snd_iload_n dX0_considerGroup_4 rfl rfl) ?_
  refine tok_cons (snd_iald dX0_considerGroup_5 rfl) ?_
  refine tok_cons (snd_iconst dX0_considerGroup_6 rfl (inr_d rfl) rfl) ?_
  refine tok_cons (snd_icmp_ne dX0_considerGroup_7 (by decide) rfl) ?_
  refine tok_cons (snd_ret dX0_considerGroup_10 rfl) ?_
  refine tok_cons (snd_aload_n dX0_considerGroup_11 rfl rfl) ?_
  refine tok_cons (snd_gr (C := RX0) (T := TX0) (N := 7) dX0_considerGroup_12 rfl (by decide) rfl wf0_15 inX0 rfl) ?_
  refine tok_cons (snd_iload_n dX0_considerGroup_15 rfl rfl) ?_
  refine tok_cons (snd_iald dX0_considerGroup_16 rfl) ?_
  refine tok_cons (snd_iload_n dX0_considerGroup_17 rfl rfl) ?_
  refine tok_cons (snd_aload_n dX0_considerGroup_18 rfl rfl) ?_
  refine tok_cons (snd_gi (C := RX1) (T := TX1) (N := 5) dX0_considerGroup_19 rfl (by decide) rfl wf0_39 inX1 rfl rfl) ?_
  refine tok_cons (snd_icmp_ge dX0_considerGroup_22 (by decide) rfl) ?_
  refine tok_cons (snd_aload_n dX0_considerGroup_25 rfl rfl) ?_
  refine tok_cons (snd_aload_n dX0_considerGroup_26 rfl rfl) ?_
  refine tok_cons (snd_cv dX0_considerGroup_27 mok_0_blankSquares ⟨wm0_95, wi_0_blankSquares, wl_0_blankSquares⟩ (rc := (RX0, TX0, 7)) rfl rfl pn_0_blankSquares (by decide) ⟨rfl, rfl⟩ rfl) ?_
  refine tok_cons (snd_goto dX0_considerGroup_30 (by decide)) ?_
  refine tok_cons (snd_iconst dX0_considerGroup_33 rfl (inr_d rfl) rfl) ?_
  refine tok_cons (snd_add dX0_considerGroup_34 rfl) ?_
  refine tok_cons (snd_istore dX0_considerGroup_35 rfl (by decide)) ?_
  refine tok_cons (snd_aload_n dX0_considerGroup_37 rfl rfl) ?_
  refine tok_cons (snd_gr (C := RX0) (T := TX0) (N := 7) dX0_considerGroup_38 rfl (by decide) rfl wf0_15 inX0 rfl) ?_
  refine tok_cons (snd_iload_n dX0_considerGroup_41 rfl rfl) ?_
  refine tok_cons (snd_iald dX0_considerGroup_42 rfl) ?_
  refine tok_cons (snd_iconst dX0_considerGroup_43 rfl (inr_d rfl) rfl) ?_
  refine tok_cons (snd_icmp_eq dX0_considerGroup_44 (by decide) rfl) ?_
  refine tok_cons (snd_iload dX0_considerGroup_47 rfl) ?_
  refine tok_cons (snd_aload_n dX0_considerGroup_49 rfl rfl) ?_
  refine tok_cons (snd_gr (C := RX0) (T := TX0) (N := 7) dX0_considerGroup_50 rfl (by decide) rfl wf0_15 inX0 rfl) ?_
  refine tok_cons (snd_iload_n dX0_considerGroup_53 rfl rfl) ?_
  refine tok_cons (snd_iald dX0_considerGroup_54 rfl) ?_
  refine tok_cons (snd_icmp_gt dX0_considerGroup_55 (by decide) rfl) ?_
  refine tok_cons (snd_aload_n dX0_considerGroup_58 rfl rfl) ?_
  refine tok_cons (snd_gr (C := RX0) (T := TX0) (N := 7) dX0_considerGroup_59 rfl (by decide) rfl wf0_15 inX0 rfl) ?_
  refine tok_cons (snd_iload_n dX0_considerGroup_62 rfl rfl) ?_
  refine tok_cons (snd_iload dX0_considerGroup_63 rfl) ?_
  refine tok_cons (snd_iast dX0_considerGroup_65 rfl) ?_
  refine tok_cons (snd_aload_n dX0_considerGroup_66 rfl rfl) ?_
  refine tok_cons (snd_gr (C := RX0) (T := TX0) (N := 7) dX0_considerGroup_67 rfl (by decide) rfl wf0_18 inX0 rfl) ?_
  refine tok_cons (snd_iload_n dX0_considerGroup_70 rfl rfl) ?_
  refine tok_cons (snd_iload_n dX0_considerGroup_71 rfl rfl) ?_
  refine tok_cons (snd_iload_n dX0_considerGroup_72 rfl rfl) ?_
  refine tok_cons (snd_sub dX0_considerGroup_73 rfl) ?_
  refine tok_cons (snd_iast dX0_considerGroup_74 rfl) ?_
  refine tok_cons (snd_ret dX0_considerGroup_75 rfl) ?_
  exact tok_nil
def tab_1_hasLine (X : XT) : Tab := [(0, false, a_aload 0 1), (1, false, a_iload 1 2), (2, false, a_cv X M_1_hasLine M_1_hasPair 1 2 5), (5, false, a_if 0 37 8), (8, false, a_iload 2 9), (9, false, a_sv X M_1_hasLine M_7_isSide 1 12), (12, false, a_if 0 37 15), (15, false, a_iload 3 16), (16, false, a_const 0 17), (17, false, a_aload 0 18), (18, false, a_gr 1 1 21), (21, false, a_iload 2 22), (22, false, a_aald 23), (23, false, a_iload 1 24), (24, false, a_ald false 25), (25, false, a_const 1 26), (26, false, a_sub 27), (27, false, a_sv X M_1_hasLine M_7_isIn 3 30), (30, false, a_if 0 37 33), (33, false, a_const 1 34), (34, false, a_goto 38), (37, false, a_const 0 38), (38, false, a_zret M_1_hasLine)]
set_option maxRecDepth 20000 in
theorem t_1_hasLine (X : XT) : tget (tab_1_hasLine X) 0 = some (false, a_aload 0 1) ∧ tget (tab_1_hasLine X) 1 = some (false, a_iload 1 2) ∧ tget (tab_1_hasLine X) 2 = some (false, a_cv X M_1_hasLine M_1_hasPair 1 2 5) ∧ tget (tab_1_hasLine X) 5 = some (false, a_if 0 37 8) ∧ tget (tab_1_hasLine X) 8 = some (false, a_iload 2 9) ∧ tget (tab_1_hasLine X) 9 = some (false, a_sv X M_1_hasLine M_7_isSide 1 12) ∧ tget (tab_1_hasLine X) 12 = some (false, a_if 0 37 15) ∧ tget (tab_1_hasLine X) 15 = some (false, a_iload 3 16) ∧ tget (tab_1_hasLine X) 16 = some (false, a_const 0 17) ∧ tget (tab_1_hasLine X) 17 = some (false, a_aload 0 18) ∧ tget (tab_1_hasLine X) 18 = some (false, a_gr 1 1 21) ∧ tget (tab_1_hasLine X) 21 = some (false, a_iload 2 22) ∧ tget (tab_1_hasLine X) 22 = some (false, a_aald 23) ∧ tget (tab_1_hasLine X) 23 = some (false, a_iload 1 24) ∧ tget (tab_1_hasLine X) 24 = some (false, a_ald false 25) ∧ tget (tab_1_hasLine X) 25 = some (false, a_const 1 26) ∧ tget (tab_1_hasLine X) 26 = some (false, a_sub 27) ∧ tget (tab_1_hasLine X) 27 = some (false, a_sv X M_1_hasLine M_7_isIn 3 30) ∧ tget (tab_1_hasLine X) 30 = some (false, a_if 0 37 33) ∧ tget (tab_1_hasLine X) 33 = some (false, a_const 1 34) ∧ tget (tab_1_hasLine X) 34 = some (false, a_goto 38) ∧ tget (tab_1_hasLine X) 37 = some (false, a_const 0 38) ∧ tget (tab_1_hasLine X) 38 = some (false, a_zret M_1_hasLine) := ⟨rfl, rfl, rfl, rfl, rfl, rfl, rfl, rfl, rfl, rfl, rfl, rfl, rfl, rfl, rfl, rfl, rfl, rfl, rfl, rfl, rfl, rfl, rfl⟩
theorem tok_1_hasLine (X : XT) : TabOK X M_1_hasLine (tab_1_hasLine X) := by
  unfold tab_1_hasLine
  refine tok_cons (snd_aload_n dX1_hasLine_0 rfl rfl) ?_
  refine tok_cons (snd_iload_n dX1_hasLine_1 rfl rfl) ?_
  refine tok_cons (snd_cv dX1_hasLine_2 mok_1_hasPair ⟨wm1_46, wi_1_hasPair, wl_1_hasPair⟩ (rc := (RX1, TX1, 5)) rfl rfl pn_1_hasPair (by decide) ⟨rfl, rfl⟩ rfl) ?_
  refine tok_cons (snd_if_eq dX1_hasLine_5 (by decide) rfl) ?_
  refine tok_cons (snd_iload_n dX1_hasLine_8 rfl rfl) ?_
  refine tok_cons (snd_sv dX1_hasLine_9 mok_7_isSide ⟨ws_7_isSide, Or.inr (List.mem_of_getElem? (i := 13) rfl)⟩ pn_7_isSide (by decide) ⟨rfl, rfl⟩ rfl) ?_
  refine tok_cons (snd_if_eq dX1_hasLine_12 (by decide) rfl) ?_
  refine tok_cons (snd_iload_n dX1_hasLine_15 rfl rfl) ?_
  refine tok_cons (snd_iconst dX1_hasLine_16 rfl (inr_d rfl) rfl) ?_
  refine tok_cons (snd_aload_n dX1_hasLine_17 rfl rfl) ?_
  refine tok_cons (snd_gr (C := RX1) (T := TX1) (N := 5) dX1_hasLine_18 rfl (by decide) rfl wf1_11 inX1 rfl) ?_
  refine tok_cons (snd_iload_n dX1_hasLine_21 rfl rfl) ?_
  refine tok_cons (snd_aald dX1_hasLine_22 rfl) ?_
  refine tok_cons (snd_iload_n dX1_hasLine_23 rfl rfl) ?_
  refine tok_cons (snd_iald dX1_hasLine_24 rfl) ?_
  refine tok_cons (snd_iconst dX1_hasLine_25 rfl (inr_d rfl) rfl) ?_
  refine tok_cons (snd_sub dX1_hasLine_26 rfl) ?_
  refine tok_cons (snd_sv dX1_hasLine_27 mok_7_isIn ⟨ws_7_isIn, Or.inr (List.mem_of_getElem? (i := 11) rfl)⟩ pn_7_isIn (by decide) ⟨rfl, rfl⟩ rfl) ?_
  refine tok_cons (snd_if_eq dX1_hasLine_30 (by decide) rfl) ?_
  refine tok_cons (snd_iconst dX1_hasLine_33 rfl (inr_d rfl) rfl) ?_
  refine tok_cons (snd_goto dX1_hasLine_34 (by decide)) ?_
  refine tok_cons (snd_iconst dX1_hasLine_37 rfl (inr_d rfl) rfl) ?_
  refine tok_cons (snd_zret dX1_hasLine_38 rfl) ?_
  exact tok_nil
def tab_1_copyFrom (X : XT) : Tab := [(0, false, a_aload 0 1), (1, false, a_aload 1 2), (2, false, a_gi 1 0 0 5), (5, false, a_pi 1 0 0 false 8), (8, false, a_aload 1 9), (9, false, a_gr 1 1 12), (12, false, a_aload 0 13), (13, false, a_gr 1 1 16), (16, false, a_sn X M_1_copyFrom M_7_copyTable 2 19), (19, false, a_aload 0 20), (20, false, a_gr 1 2 23), (23, false, a_aload 1 24), (24, false, a_gr 1 2 27), (27, false, a_cn X M_1_copyFrom M_4_copyFrom 4 2 30), (30, false, a_aload 0 31), (31, false, a_gr 1 3 34), (34, false, a_aload 1 35), (35, false, a_gr 1 3 38), (38, false, a_cn X M_1_copyFrom M_4_copyFrom 4 2 41), (41, false, a_aload 1 42), (42, false, a_gr 1 4 45), (45, false, a_const 0 46), (46, false, a_aload 0 47), (47, false, a_gr 1 4 50), (50, false, a_const 0 51), (51, false, a_const 6 53), (53, false, a_copy 56), (56, false, a_ret M_1_copyFrom)]
set_option maxRecDepth 20000 in
theorem t_1_copyFrom (X : XT) : tget (tab_1_copyFrom X) 0 = some (false, a_aload 0 1) ∧ tget (tab_1_copyFrom X) 1 = some (false, a_aload 1 2) ∧ tget (tab_1_copyFrom X) 2 = some (false, a_gi 1 0 0 5) ∧ tget (tab_1_copyFrom X) 5 = some (false, a_pi 1 0 0 false 8) ∧ tget (tab_1_copyFrom X) 8 = some (false, a_aload 1 9) ∧ tget (tab_1_copyFrom X) 9 = some (false, a_gr 1 1 12) ∧ tget (tab_1_copyFrom X) 12 = some (false, a_aload 0 13) ∧ tget (tab_1_copyFrom X) 13 = some (false, a_gr 1 1 16) ∧ tget (tab_1_copyFrom X) 16 = some (false, a_sn X M_1_copyFrom M_7_copyTable 2 19) ∧ tget (tab_1_copyFrom X) 19 = some (false, a_aload 0 20) ∧ tget (tab_1_copyFrom X) 20 = some (false, a_gr 1 2 23) ∧ tget (tab_1_copyFrom X) 23 = some (false, a_aload 1 24) ∧ tget (tab_1_copyFrom X) 24 = some (false, a_gr 1 2 27) ∧ tget (tab_1_copyFrom X) 27 = some (false, a_cn X M_1_copyFrom M_4_copyFrom 4 2 30) ∧ tget (tab_1_copyFrom X) 30 = some (false, a_aload 0 31) ∧ tget (tab_1_copyFrom X) 31 = some (false, a_gr 1 3 34) ∧ tget (tab_1_copyFrom X) 34 = some (false, a_aload 1 35) ∧ tget (tab_1_copyFrom X) 35 = some (false, a_gr 1 3 38) ∧ tget (tab_1_copyFrom X) 38 = some (false, a_cn X M_1_copyFrom M_4_copyFrom 4 2 41) ∧ tget (tab_1_copyFrom X) 41 = some (false, a_aload 1 42) ∧ tget (tab_1_copyFrom X) 42 = some (false, a_gr 1 4 45) ∧ tget (tab_1_copyFrom X) 45 = some (false, a_const 0 46) ∧ tget (tab_1_copyFrom X) 46 = some (false, a_aload 0 47) ∧ tget (tab_1_copyFrom X) 47 = some (false, a_gr 1 4 50) ∧ tget (tab_1_copyFrom X) 50 = some (false, a_const 0 51) ∧ tget (tab_1_copyFrom X) 51 = some (false, a_const 6 53) ∧ tget (tab_1_copyFrom X) 53 = some (false, a_copy 56) ∧ tget (tab_1_copyFrom X) 56 = some (false, a_ret M_1_copyFrom) := ⟨rfl, rfl, rfl, rfl, rfl, rfl, rfl, rfl, rfl, rfl, rfl, rfl, rfl, rfl, rfl, rfl, rfl, rfl, rfl, rfl, rfl, rfl, rfl, rfl, rfl, rfl, rfl, rfl⟩
theorem tok_1_copyFrom (X : XT) : TabOK X M_1_copyFrom (tab_1_copyFrom X) := by
  unfold tab_1_copyFrom
  refine tok_cons (snd_aload_n dX1_copyFrom_0 rfl rfl) ?_
  refine tok_cons (snd_aload_n dX1_copyFrom_1 rfl rfl) ?_
  refine tok_cons (snd_gi (C := RX1) (T := TX1) (N := 5) dX1_copyFrom_2 rfl (by decide) rfl wf1_38 inX1 rfl rfl) ?_
  refine tok_cons (snd_pi (C := RX1) (T := TX1) (N := 5) (ty0 := tyX1) dX1_copyFrom_5 rfl (by decide) rfl wf1_38 inX1 tyX1_ok nmX1 (by decide +kernel) rfl rfl) ?_
  refine tok_cons (snd_aload_n dX1_copyFrom_8 rfl rfl) ?_
  refine tok_cons (snd_gr (C := RX1) (T := TX1) (N := 5) dX1_copyFrom_9 rfl (by decide) rfl wf1_11 inX1 rfl) ?_
  refine tok_cons (snd_aload_n dX1_copyFrom_12 rfl rfl) ?_
  refine tok_cons (snd_gr (C := RX1) (T := TX1) (N := 5) dX1_copyFrom_13 rfl (by decide) rfl wf1_11 inX1 rfl) ?_
  refine tok_cons (snd_sn dX1_copyFrom_16 mok_7_copyTable ⟨ws_7_copyTable, Or.inr (List.mem_of_getElem? (i := 9) rfl)⟩ pn_7_copyTable (by decide) ⟨rfl, rfl⟩ rfl) ?_
  refine tok_cons (snd_aload_n dX1_copyFrom_19 rfl rfl) ?_
  refine tok_cons (snd_gr (C := RX1) (T := TX1) (N := 5) dX1_copyFrom_20 rfl (by decide) rfl wf1_19 inX1 rfl) ?_
  refine tok_cons (snd_aload_n dX1_copyFrom_23 rfl rfl) ?_
  refine tok_cons (snd_gr (C := RX1) (T := TX1) (N := 5) dX1_copyFrom_24 rfl (by decide) rfl wf1_19 inX1 rfl) ?_
  refine tok_cons (snd_cn dX1_copyFrom_27 mok_4_copyFrom ⟨wm1_72, wi_4_copyFrom, wl_4_copyFrom⟩ (rc := (RX4, TX4, 2)) rfl rfl pn_4_copyFrom (by decide) ⟨rfl, rfl⟩ rfl) ?_
  refine tok_cons (snd_aload_n dX1_copyFrom_30 rfl rfl) ?_
  refine tok_cons (snd_gr (C := RX1) (T := TX1) (N := 5) dX1_copyFrom_31 rfl (by decide) rfl wf1_23 inX1 rfl) ?_
  refine tok_cons (snd_aload_n dX1_copyFrom_34 rfl rfl) ?_
  refine tok_cons (snd_gr (C := RX1) (T := TX1) (N := 5) dX1_copyFrom_35 rfl (by decide) rfl wf1_23 inX1 rfl) ?_
  refine tok_cons (snd_cn dX1_copyFrom_38 mok_4_copyFrom ⟨wm1_72, wi_4_copyFrom, wl_4_copyFrom⟩ (rc := (RX4, TX4, 2)) rfl rfl pn_4_copyFrom (by decide) ⟨rfl, rfl⟩ rfl) ?_
  refine tok_cons (snd_aload_n dX1_copyFrom_41 rfl rfl) ?_
  refine tok_cons (snd_gr (C := RX1) (T := TX1) (N := 5) dX1_copyFrom_42 rfl (by decide) rfl wf1_35 inX1 rfl) ?_
  refine tok_cons (snd_iconst dX1_copyFrom_45 rfl (inr_d rfl) rfl) ?_
  refine tok_cons (snd_aload_n dX1_copyFrom_46 rfl rfl) ?_
  refine tok_cons (snd_gr (C := RX1) (T := TX1) (N := 5) dX1_copyFrom_47 rfl (by decide) rfl wf1_35 inX1 rfl) ?_
  refine tok_cons (snd_iconst dX1_copyFrom_50 rfl (inr_d rfl) rfl) ?_
  refine tok_cons (snd_bipush dX1_copyFrom_51 (by decide) (inr_d rfl) rfl) ?_
  refine tok_cons (snd_copy dX1_copyFrom_53 wm1_76 wnat ws_acopy wn_Sys (by decide) rfl) ?_
  refine tok_cons (snd_ret dX1_copyFrom_56 rfl) ?_
  exact tok_nil
def tab_4_place (X : XT) : Tab := [(0, false, a_aload 0 1), (1, false, a_iload 1 2), (2, false, a_iload 2 3), (3, false, a_const 1 4), (4, false, a_add 5), (5, false, a_cv X M_4_place M_4_before 4 3 8), (8, false, a_istore 4 10), (10, false, a_aload 0 11), (11, false, a_gi 4 0 0 14), (14, false, a_const 40 16), (16, false, a_icmp 2 22 19), (19, false, a_iload 4 21), (21, false, a_iret M_4_place), (22, false, a_const 0 23), (23, false, a_istore 5 25), (25, false, a_iload 5 27), (27, false, a_const 3 28), (28, false, a_icmp 3 53 31), (31, false, a_aload 0 32), (32, false, a_gr 4 1 35), (35, false, a_iload 5 37), (37, false, a_aald 38), (38, false, a_iload 4 40), (40, false, a_aload 0 41), (41, false, a_gi 4 0 0 44), (44, false, a_sn X M_4_place M_7_openPlace 3 47), (47, false, a_iinc 5 1 50), (50, false, a_goto 25), (53, false, a_aload 0 54), (54, false, a_gr 4 1 57), (57, false, a_const 0 58), (58, false, a_aald 59), (59, false, a_iload 4 61), (61, false, a_iload 1 62), (62, false, a_ast false 63), (63, false, a_aload 0 64), (64, false, a_gr 4 1 67), (67, false, a_const 1 68), (68, false, a_aald 69), (69, false, a_iload 4 71), (71, false, a_iload 2 72), (72, false, a_ast false 73), (73, false, a_aload 0 74), (74, false, a_gr 4 1 77), (77, false, a_const 2 78), (78, false, a_aald 79), (79, false, a_iload 4 81), (81, false, a_iload 3 82), (82, false, a_ast false 83), (83, false, a_aload 0 84), (84, false, a_dup 85), (85, false, a_gi 4 0 0 88), (88, false, a_const 1 89), (89, false, a_add 90), (90, false, a_pi 4 0 0 false 93), (93, false, a_iload 4 95), (95, false, a_iret M_4_place)]
set_option maxRecDepth 20000 in
theorem t_4_place (X : XT) : tget (tab_4_place X) 0 = some (false, a_aload 0 1) ∧ tget (tab_4_place X) 1 = some (false, a_iload 1 2) ∧ tget (tab_4_place X) 2 = some (false, a_iload 2 3) ∧ tget (tab_4_place X) 3 = some (false, a_const 1 4) ∧ tget (tab_4_place X) 4 = some (false, a_add 5) ∧ tget (tab_4_place X) 5 = some (false, a_cv X M_4_place M_4_before 4 3 8) ∧ tget (tab_4_place X) 8 = some (false, a_istore 4 10) ∧ tget (tab_4_place X) 10 = some (false, a_aload 0 11) ∧ tget (tab_4_place X) 11 = some (false, a_gi 4 0 0 14) ∧ tget (tab_4_place X) 14 = some (false, a_const 40 16) ∧ tget (tab_4_place X) 16 = some (false, a_icmp 2 22 19) ∧ tget (tab_4_place X) 19 = some (false, a_iload 4 21) ∧ tget (tab_4_place X) 21 = some (false, a_iret M_4_place) ∧ tget (tab_4_place X) 22 = some (false, a_const 0 23) ∧ tget (tab_4_place X) 23 = some (false, a_istore 5 25) ∧ tget (tab_4_place X) 25 = some (false, a_iload 5 27) ∧ tget (tab_4_place X) 27 = some (false, a_const 3 28) ∧ tget (tab_4_place X) 28 = some (false, a_icmp 3 53 31) ∧ tget (tab_4_place X) 31 = some (false, a_aload 0 32) ∧ tget (tab_4_place X) 32 = some (false, a_gr 4 1 35) ∧ tget (tab_4_place X) 35 = some (false, a_iload 5 37) ∧ tget (tab_4_place X) 37 = some (false, a_aald 38) ∧ tget (tab_4_place X) 38 = some (false, a_iload 4 40) ∧ tget (tab_4_place X) 40 = some (false, a_aload 0 41) ∧ tget (tab_4_place X) 41 = some (false, a_gi 4 0 0 44) ∧ tget (tab_4_place X) 44 = some (false, a_sn X M_4_place M_7_openPlace 3 47) ∧ tget (tab_4_place X) 47 = some (false, a_iinc 5 1 50) ∧ tget (tab_4_place X) 50 = some (false, a_goto 25) ∧ tget (tab_4_place X) 53 = some (false, a_aload 0 54) ∧ tget (tab_4_place X) 54 = some (false, a_gr 4 1 57) ∧ tget (tab_4_place X) 57 = some (false, a_const 0 58) ∧ tget (tab_4_place X) 58 = some (false, a_aald 59) ∧ tget (tab_4_place X) 59 = some (false, a_iload 4 61) ∧ tget (tab_4_place X) 61 = some (false, a_iload 1 62) ∧ tget (tab_4_place X) 62 = some (false, a_ast false 63) ∧ tget (tab_4_place X) 63 = some (false, a_aload 0 64) ∧ tget (tab_4_place X) 64 = some (false, a_gr 4 1 67) ∧ tget (tab_4_place X) 67 = some (false, a_const 1 68) ∧ tget (tab_4_place X) 68 = some (false, a_aald 69) ∧ tget (tab_4_place X) 69 = some (false, a_iload 4 71) ∧ tget (tab_4_place X) 71 = some (false, a_iload 2 72) ∧ tget (tab_4_place X) 72 = some (false, a_ast false 73) ∧ tget (tab_4_place X) 73 = some (false, a_aload 0 74) ∧ tget (tab_4_place X) 74 = some (false, a_gr 4 1 77) ∧ tget (tab_4_place X) 77 = some (false, a_const 2 78) ∧ tget (tab_4_place X) 78 = some (false, a_aald 79) ∧ tget (tab_4_place X) 79 = some (false, a_iload 4 81) ∧ tget (tab_4_place X) 81 = some (false, a_iload 3 82) ∧ tget (tab_4_place X) 82 = some (false, a_ast false 83) ∧ tget (tab_4_place X) 83 = some (false, a_aload 0 84) ∧ tget (tab_4_place X) 84 = some (false, a_dup 85) ∧ tget (tab_4_place X) 85 = some (false, a_gi 4 0 0 88) ∧ tget (tab_4_place X) 88 = some (false, a_const 1 89) ∧ tget (tab_4_place X) 89 = some (false, a_add 90) ∧ tget (tab_4_place X) 90 = some (false, a_pi 4 0 0 false 93) ∧ tget (tab_4_place X) 93 = some (false, a_iload 4 95) ∧ tget (tab_4_place X) 95 = some (false, a_iret M_4_place) := ⟨rfl, rfl, rfl, rfl, rfl, rfl, rfl, rfl, rfl, rfl, rfl, rfl, rfl, rfl, rfl, rfl, rfl, rfl, rfl, rfl, rfl, rfl, rfl, rfl, rfl, rfl, rfl, rfl, rfl, rfl, rfl, rfl, rfl, rfl, rfl, rfl, rfl, rfl, rfl, rfl, rfl, rfl, rfl, rfl, rfl, rfl, rfl, rfl, rfl, rfl, rfl, rfl, rfl, rfl, rfl, rfl, rfl⟩
theorem tok_4_place (X : XT) : TabOK X M_4_place (tab_4_place X) := by
  unfold tab_4_place
  refine tok_cons (snd_aload_n dX4_place_0 rfl rfl) ?_
  refine tok_cons (snd_iload_n dX4_place_1 rfl rfl) ?_
  refine tok_cons (snd_iload_n dX4_place_2 rfl rfl) ?_
  refine tok_cons (snd_iconst dX4_place_3 rfl (inr_d rfl) rfl) ?_
  refine tok_cons (snd_add dX4_place_4 rfl) ?_
  refine tok_cons (snd_cv dX4_place_5 mok_4_before ⟨wm4_24, wi_4_before, wl_4_before⟩ (rc := (RX4, TX4, 2)) rfl rfl pn_4_before (by decide) ⟨rfl, rfl⟩ rfl) ?_
  refine tok_cons (snd_istore dX4_place_8 rfl (by decide)) ?_
  refine tok_cons (snd_aload_n dX4_place_10 rfl rfl) ?_
  refine tok_cons (snd_gi (C := RX4) (T := TX4) (N := 2) dX4_place_11 rfl (by decide) rfl wf4_20 inX4 rfl rfl) ?_
  refine tok_cons (snd_bipush dX4_place_14 (by decide) (inr_d rfl) rfl) ?_
  refine tok_cons (snd_icmp_lt dX4_place_16 (by decide) rfl) ?_
  refine tok_cons (snd_iload dX4_place_19 rfl) ?_
  refine tok_cons (snd_iret dX4_place_21 rfl) ?_
  refine tok_cons (snd_iconst dX4_place_22 rfl (inr_d rfl) rfl) ?_
  refine tok_cons (snd_istore dX4_place_23 rfl (by decide)) ?_
  refine tok_cons (snd_iload dX4_place_25 rfl) ?_
  refine tok_cons (snd_iconst dX4_place_27 rfl (inr_d rfl) rfl) ?_
  refine tok_cons (snd_icmp_ge dX4_place_28 (by decide) rfl) ?_
  refine tok_cons (snd_aload_n dX4_place_31 rfl rfl) ?_
  refine tok_cons (snd_gr (C := RX4) (T := TX4) (N := 2) dX4_place_32 rfl (by decide) rfl wf4_11 inX4 rfl) ?_
  refine tok_cons (snd_iload dX4_place_35 rfl) ?_
  refine tok_cons (snd_aald dX4_place_37 rfl) ?_
  refine tok_cons (snd_iload dX4_place_38 rfl) ?_
  refine tok_cons (snd_aload_n dX4_place_40 rfl rfl) ?_
  refine tok_cons (snd_gi (C := RX4) (T := TX4) (N := 2) dX4_place_41 rfl (by decide) rfl wf4_20 inX4 rfl rfl) ?_
  refine tok_cons (snd_sn dX4_place_44 mok_7_openPlace ⟨ws_7_openPlace, Or.inr (List.mem_of_getElem? (i := 14) rfl)⟩ pn_7_openPlace (by decide) ⟨rfl, rfl⟩ rfl) ?_
  refine tok_cons (snd_iinc dX4_place_47 rfl rfl (by decide)) ?_
  refine tok_cons (snd_goto dX4_place_50 (by decide)) ?_
  refine tok_cons (snd_aload_n dX4_place_53 rfl rfl) ?_
  refine tok_cons (snd_gr (C := RX4) (T := TX4) (N := 2) dX4_place_54 rfl (by decide) rfl wf4_11 inX4 rfl) ?_
  refine tok_cons (snd_iconst dX4_place_57 rfl (inr_d rfl) rfl) ?_
  refine tok_cons (snd_aald dX4_place_58 rfl) ?_
  refine tok_cons (snd_iload dX4_place_59 rfl) ?_
  refine tok_cons (snd_iload_n dX4_place_61 rfl rfl) ?_
  refine tok_cons (snd_iast dX4_place_62 rfl) ?_
  refine tok_cons (snd_aload_n dX4_place_63 rfl rfl) ?_
  refine tok_cons (snd_gr (C := RX4) (T := TX4) (N := 2) dX4_place_64 rfl (by decide) rfl wf4_11 inX4 rfl) ?_
  refine tok_cons (snd_iconst dX4_place_67 rfl (inr_d rfl) rfl) ?_
  refine tok_cons (snd_aald dX4_place_68 rfl) ?_
  refine tok_cons (snd_iload dX4_place_69 rfl) ?_
  refine tok_cons (snd_iload_n dX4_place_71 rfl rfl) ?_
  refine tok_cons (snd_iast dX4_place_72 rfl) ?_
  refine tok_cons (snd_aload_n dX4_place_73 rfl rfl) ?_
  refine tok_cons (snd_gr (C := RX4) (T := TX4) (N := 2) dX4_place_74 rfl (by decide) rfl wf4_11 inX4 rfl) ?_
  refine tok_cons (snd_iconst dX4_place_77 rfl (inr_d rfl) rfl) ?_
  refine tok_cons (snd_aald dX4_place_78 rfl) ?_
  refine tok_cons (snd_iload dX4_place_79 rfl) ?_
  refine tok_cons (snd_iload_n dX4_place_81 rfl rfl) ?_
  refine tok_cons (snd_iast dX4_place_82 rfl) ?_
  refine tok_cons (snd_aload_n dX4_place_83 rfl rfl) ?_
  refine tok_cons (snd_dup dX4_place_84 rfl) ?_
  refine tok_cons (snd_gi (C := RX4) (T := TX4) (N := 2) dX4_place_85 rfl (by decide) rfl wf4_20 inX4 rfl rfl) ?_
  refine tok_cons (snd_iconst dX4_place_88 rfl (inr_d rfl) rfl) ?_
  refine tok_cons (snd_add dX4_place_89 rfl) ?_
  refine tok_cons (snd_pi (C := RX4) (T := TX4) (N := 2) (ty0 := tyX4) dX4_place_90 rfl (by decide) rfl wf4_20 inX4 tyX4_ok nmX4 (by decide +kernel) rfl rfl) ?_
  refine tok_cons (snd_iload dX4_place_93 rfl) ?_
  refine tok_cons (snd_iret dX4_place_95 rfl) ?_
  exact tok_nil
def tab_4_drop (X : XT) : Tab := [(0, false, a_const 0 1), (1, false, a_istore 2 2), (2, false, a_iload 2 3), (3, false, a_const 3 4), (4, false, a_icmp 3 27 7), (7, false, a_aload 0 8), (8, false, a_gr 4 1 11), (11, false, a_iload 2 12), (12, false, a_aald 13), (13, false, a_iload 1 14), (14, false, a_aload 0 15), (15, false, a_gi 4 0 0 18), (18, false, a_sn X M_4_drop M_7_closePlace 3 21), (21, false, a_iinc 2 1 24), (24, false, a_goto 2), (27, false, a_aload 0 28), (28, false, a_dup 29), (29, false, a_gi 4 0 0 32), (32, false, a_const 1 33), (33, false, a_sub 34), (34, false, a_pi 4 0 0 false 37), (37, false, a_ret M_4_drop)]
set_option maxRecDepth 20000 in
theorem t_4_drop (X : XT) : tget (tab_4_drop X) 0 = some (false, a_const 0 1) ∧ tget (tab_4_drop X) 1 = some (false, a_istore 2 2) ∧ tget (tab_4_drop X) 2 = some (false, a_iload 2 3) ∧ tget (tab_4_drop X) 3 = some (false, a_const 3 4) ∧ tget (tab_4_drop X) 4 = some (false, a_icmp 3 27 7) ∧ tget (tab_4_drop X) 7 = some (false, a_aload 0 8) ∧ tget (tab_4_drop X) 8 = some (false, a_gr 4 1 11) ∧ tget (tab_4_drop X) 11 = some (false, a_iload 2 12) ∧ tget (tab_4_drop X) 12 = some (false, a_aald 13) ∧ tget (tab_4_drop X) 13 = some (false, a_iload 1 14) ∧ tget (tab_4_drop X) 14 = some (false, a_aload 0 15) ∧ tget (tab_4_drop X) 15 = some (false, a_gi 4 0 0 18) ∧ tget (tab_4_drop X) 18 = some (false, a_sn X M_4_drop M_7_closePlace 3 21) ∧ tget (tab_4_drop X) 21 = some (false, a_iinc 2 1 24) ∧ tget (tab_4_drop X) 24 = some (false, a_goto 2) ∧ tget (tab_4_drop X) 27 = some (false, a_aload 0 28) ∧ tget (tab_4_drop X) 28 = some (false, a_dup 29) ∧ tget (tab_4_drop X) 29 = some (false, a_gi 4 0 0 32) ∧ tget (tab_4_drop X) 32 = some (false, a_const 1 33) ∧ tget (tab_4_drop X) 33 = some (false, a_sub 34) ∧ tget (tab_4_drop X) 34 = some (false, a_pi 4 0 0 false 37) ∧ tget (tab_4_drop X) 37 = some (false, a_ret M_4_drop) := ⟨rfl, rfl, rfl, rfl, rfl, rfl, rfl, rfl, rfl, rfl, rfl, rfl, rfl, rfl, rfl, rfl, rfl, rfl, rfl, rfl, rfl, rfl⟩
theorem tok_4_drop (X : XT) : TabOK X M_4_drop (tab_4_drop X) := by
  unfold tab_4_drop
  refine tok_cons (snd_iconst dX4_drop_0 rfl (inr_d rfl) rfl) ?_
  refine tok_cons (snd_istore_n dX4_drop_1 rfl rfl (by decide)) ?_
  refine tok_cons (snd_iload_n dX4_drop_2 rfl rfl) ?_
  refine tok_cons (snd_iconst dX4_drop_3 rfl (inr_d rfl) rfl) ?_
  refine tok_cons (snd_icmp_ge dX4_drop_4 (by decide) rfl) ?_
  refine tok_cons (snd_aload_n dX4_drop_7 rfl rfl) ?_
  refine tok_cons (snd_gr (C := RX4) (T := TX4) (N := 2) dX4_drop_8 rfl (by decide) rfl wf4_11 inX4 rfl) ?_
  refine tok_cons (snd_iload_n dX4_drop_11 rfl rfl) ?_
  refine tok_cons (snd_aald dX4_drop_12 rfl) ?_
  refine tok_cons (snd_iload_n dX4_drop_13 rfl rfl) ?_
  refine tok_cons (snd_aload_n dX4_drop_14 rfl rfl) ?_
  refine tok_cons (snd_gi (C := RX4) (T := TX4) (N := 2) dX4_drop_15 rfl (by decide) rfl wf4_20 inX4 rfl rfl) ?_
  refine tok_cons (snd_sn dX4_drop_18 mok_7_closePlace ⟨ws_7_closePlace, Or.inr (List.mem_of_getElem? (i := 15) rfl)⟩ pn_7_closePlace (by decide) ⟨rfl, rfl⟩ rfl) ?_
  refine tok_cons (snd_iinc dX4_drop_21 rfl rfl (by decide)) ?_
  refine tok_cons (snd_goto dX4_drop_24 (by decide)) ?_
  refine tok_cons (snd_aload_n dX4_drop_27 rfl rfl) ?_
  refine tok_cons (snd_dup dX4_drop_28 rfl) ?_
  refine tok_cons (snd_gi (C := RX4) (T := TX4) (N := 2) dX4_drop_29 rfl (by decide) rfl wf4_20 inX4 rfl rfl) ?_
  refine tok_cons (snd_iconst dX4_drop_32 rfl (inr_d rfl) rfl) ?_
  refine tok_cons (snd_sub dX4_drop_33 rfl) ?_
  refine tok_cons (snd_pi (C := RX4) (T := TX4) (N := 2) (ty0 := tyX4) dX4_drop_34 rfl (by decide) rfl wf4_20 inX4 tyX4_ok nmX4 (by decide +kernel) rfl rfl) ?_
  refine tok_cons (snd_ret dX4_drop_37 rfl) ?_
  exact tok_nil
def tab_4_movePairs (X : XT) : Tab := [(0, false, a_aload 0 1), (1, false, a_iload 1 2), (2, false, a_const 0 3), (3, false, a_cv X M_4_movePairs M_4_before 4 3 6), (6, false, a_istore 3 7), (7, true, a_iload 3 8), (8, false, a_aload 0 9), (9, false, a_gi 4 0 0 12), (12, false, a_icmp 3 33 15), (15, false, a_aload 0 16), (16, false, a_gr 4 1 19), (19, false, a_const 0 20), (20, false, a_aald 21), (21, false, a_iload 3 22), (22, false, a_dup2 23), (23, false, a_ald false 24), (24, false, a_iload 2 25), (25, false, a_add 26), (26, false, a_ast false 27), (27, false, a_iinc 3 1 30), (30, false, a_goto 7), (33, false, a_ret M_4_movePairs)]
set_option maxRecDepth 20000 in
theorem t_4_movePairs (X : XT) : tget (tab_4_movePairs X) 0 = some (false, a_aload 0 1) ∧ tget (tab_4_movePairs X) 1 = some (false, a_iload 1 2) ∧ tget (tab_4_movePairs X) 2 = some (false, a_const 0 3) ∧ tget (tab_4_movePairs X) 3 = some (false, a_cv X M_4_movePairs M_4_before 4 3 6) ∧ tget (tab_4_movePairs X) 6 = some (false, a_istore 3 7) ∧ tget (tab_4_movePairs X) 7 = some (true, a_iload 3 8) ∧ tget (tab_4_movePairs X) 8 = some (false, a_aload 0 9) ∧ tget (tab_4_movePairs X) 9 = some (false, a_gi 4 0 0 12) ∧ tget (tab_4_movePairs X) 12 = some (false, a_icmp 3 33 15) ∧ tget (tab_4_movePairs X) 15 = some (false, a_aload 0 16) ∧ tget (tab_4_movePairs X) 16 = some (false, a_gr 4 1 19) ∧ tget (tab_4_movePairs X) 19 = some (false, a_const 0 20) ∧ tget (tab_4_movePairs X) 20 = some (false, a_aald 21) ∧ tget (tab_4_movePairs X) 21 = some (false, a_iload 3 22) ∧ tget (tab_4_movePairs X) 22 = some (false, a_dup2 23) ∧ tget (tab_4_movePairs X) 23 = some (false, a_ald false 24) ∧ tget (tab_4_movePairs X) 24 = some (false, a_iload 2 25) ∧ tget (tab_4_movePairs X) 25 = some (false, a_add 26) ∧ tget (tab_4_movePairs X) 26 = some (false, a_ast false 27) ∧ tget (tab_4_movePairs X) 27 = some (false, a_iinc 3 1 30) ∧ tget (tab_4_movePairs X) 30 = some (false, a_goto 7) ∧ tget (tab_4_movePairs X) 33 = some (false, a_ret M_4_movePairs) := ⟨rfl, rfl, rfl, rfl, rfl, rfl, rfl, rfl, rfl, rfl, rfl, rfl, rfl, rfl, rfl, rfl, rfl, rfl, rfl, rfl, rfl, rfl⟩
theorem tok_4_movePairs (X : XT) : TabOK X M_4_movePairs (tab_4_movePairs X) := by
  unfold tab_4_movePairs
  refine tok_cons (snd_aload_n dX4_movePairs_0 rfl rfl) ?_
  refine tok_cons (snd_iload_n dX4_movePairs_1 rfl rfl) ?_
  refine tok_cons (snd_iconst dX4_movePairs_2 rfl (inr_d rfl) rfl) ?_
  refine tok_cons (snd_cv dX4_movePairs_3 mok_4_before ⟨wm4_24, wi_4_before, wl_4_before⟩ (rc := (RX4, TX4, 2)) rfl rfl pn_4_before (by decide) ⟨rfl, rfl⟩ rfl) ?_
  refine tok_cons (snd_istore_n dX4_movePairs_6 rfl rfl (by decide)) ?_
  refine tok_cons (snd_iload_n dX4_movePairs_7 rfl rfl) ?_
  refine tok_cons (snd_aload_n dX4_movePairs_8 rfl rfl) ?_
  refine tok_cons (snd_gi (C := RX4) (T := TX4) (N := 2) dX4_movePairs_9 rfl (by decide) rfl wf4_20 inX4 rfl rfl) ?_
  refine tok_cons (snd_icmp_ge dX4_movePairs_12 (by decide) rfl) ?_
  refine tok_cons (snd_aload_n dX4_movePairs_15 rfl rfl) ?_
  refine tok_cons (snd_gr (C := RX4) (T := TX4) (N := 2) dX4_movePairs_16 rfl (by decide) rfl wf4_11 inX4 rfl) ?_
  refine tok_cons (snd_iconst dX4_movePairs_19 rfl (inr_d rfl) rfl) ?_
  refine tok_cons (snd_aald dX4_movePairs_20 rfl) ?_
  refine tok_cons (snd_iload_n dX4_movePairs_21 rfl rfl) ?_
  refine tok_cons (snd_dup2 dX4_movePairs_22 rfl) ?_
  refine tok_cons (snd_iald dX4_movePairs_23 rfl) ?_
  refine tok_cons (snd_iload_n dX4_movePairs_24 rfl rfl) ?_
  refine tok_cons (snd_add dX4_movePairs_25 rfl) ?_
  refine tok_cons (snd_iast dX4_movePairs_26 rfl) ?_
  refine tok_cons (snd_iinc dX4_movePairs_27 rfl rfl (by decide)) ?_
  refine tok_cons (snd_goto dX4_movePairs_30 (by decide)) ?_
  refine tok_cons (snd_ret dX4_movePairs_33 rfl) ?_
  exact tok_nil
def tab_5_takePair (X : XT) : Tab := [(0, false, a_aload 0 1), (1, false, a_iload 2 2), (2, false, a_pi 5 0 0 false 5), (5, false, a_const 0 6), (6, false, a_istore 3 7), (7, false, a_iload 3 8), (8, false, a_const 2 9), (9, false, a_icmp 3 51 12), (12, false, a_aload 0 13), (13, false, a_gr 5 1 16), (16, false, a_iload 3 17), (17, false, a_const 0 18), (18, false, a_ast false 19), (19, false, a_aload 0 20), (20, false, a_gr 5 2 23), (23, false, a_iload 3 24), (24, false, a_aload 1 25), (25, false, a_iload 2 26), (26, false, a_cv X M_5_takePair M_1_hasPair 1 2 29), (29, false, a_if 0 43 32), (32, false, a_aload 1 33), (33, false, a_gr 1 1 36), (36, false, a_iload 3 37), (37, false, a_aald 38), (38, false, a_iload 2 39), (39, false, a_ald false 40), (40, false, a_goto 44), (43, false, a_const 0 44), (44, false, a_ast false 45), (45, false, a_iinc 3 1 48), (48, false, a_goto 7), (51, false, a_ret M_5_takePair)]
set_option maxRecDepth 20000 in
theorem t_5_takePair (X : XT) : tget (tab_5_takePair X) 0 = some (false, a_aload 0 1) ∧ tget (tab_5_takePair X) 1 = some (false, a_iload 2 2) ∧ tget (tab_5_takePair X) 2 = some (false, a_pi 5 0 0 false 5) ∧ tget (tab_5_takePair X) 5 = some (false, a_const 0 6) ∧ tget (tab_5_takePair X) 6 = some (false, a_istore 3 7) ∧ tget (tab_5_takePair X) 7 = some (false, a_iload 3 8) ∧ tget (tab_5_takePair X) 8 = some (false, a_const 2 9) ∧ tget (tab_5_takePair X) 9 = some (false, a_icmp 3 51 12) ∧ tget (tab_5_takePair X) 12 = some (false, a_aload 0 13) ∧ tget (tab_5_takePair X) 13 = some (false, a_gr 5 1 16) ∧ tget (tab_5_takePair X) 16 = some (false, a_iload 3 17) ∧ tget (tab_5_takePair X) 17 = some (false, a_const 0 18) ∧ tget (tab_5_takePair X) 18 = some (false, a_ast false 19) ∧ tget (tab_5_takePair X) 19 = some (false, a_aload 0 20) ∧ tget (tab_5_takePair X) 20 = some (false, a_gr 5 2 23) ∧ tget (tab_5_takePair X) 23 = some (false, a_iload 3 24) ∧ tget (tab_5_takePair X) 24 = some (false, a_aload 1 25) ∧ tget (tab_5_takePair X) 25 = some (false, a_iload 2 26) ∧ tget (tab_5_takePair X) 26 = some (false, a_cv X M_5_takePair M_1_hasPair 1 2 29) ∧ tget (tab_5_takePair X) 29 = some (false, a_if 0 43 32) ∧ tget (tab_5_takePair X) 32 = some (false, a_aload 1 33) ∧ tget (tab_5_takePair X) 33 = some (false, a_gr 1 1 36) ∧ tget (tab_5_takePair X) 36 = some (false, a_iload 3 37) ∧ tget (tab_5_takePair X) 37 = some (false, a_aald 38) ∧ tget (tab_5_takePair X) 38 = some (false, a_iload 2 39) ∧ tget (tab_5_takePair X) 39 = some (false, a_ald false 40) ∧ tget (tab_5_takePair X) 40 = some (false, a_goto 44) ∧ tget (tab_5_takePair X) 43 = some (false, a_const 0 44) ∧ tget (tab_5_takePair X) 44 = some (false, a_ast false 45) ∧ tget (tab_5_takePair X) 45 = some (false, a_iinc 3 1 48) ∧ tget (tab_5_takePair X) 48 = some (false, a_goto 7) ∧ tget (tab_5_takePair X) 51 = some (false, a_ret M_5_takePair) := ⟨rfl, rfl, rfl, rfl, rfl, rfl, rfl, rfl, rfl, rfl, rfl, rfl, rfl, rfl, rfl, rfl, rfl, rfl, rfl, rfl, rfl, rfl, rfl, rfl, rfl, rfl, rfl, rfl, rfl, rfl, rfl, rfl⟩
theorem tok_5_takePair (X : XT) : TabOK X M_5_takePair (tab_5_takePair X) := by
  unfold tab_5_takePair
  refine tok_cons (snd_aload_n dX5_takePair_0 rfl rfl) ?_
  refine tok_cons (snd_iload_n dX5_takePair_1 rfl rfl) ?_
  refine tok_cons (snd_pi (C := RX5) (T := TX5) (N := 3) (ty0 := tyX5) dX5_takePair_2 rfl (by decide) rfl wf5_18 inX5 tyX5_ok nmX5 (by decide +kernel) rfl rfl) ?_
  refine tok_cons (snd_iconst dX5_takePair_5 rfl (inr_d rfl) rfl) ?_
  refine tok_cons (snd_istore_n dX5_takePair_6 rfl rfl (by decide)) ?_
  refine tok_cons (snd_iload_n dX5_takePair_7 rfl rfl) ?_
  refine tok_cons (snd_iconst dX5_takePair_8 rfl (inr_d rfl) rfl) ?_
  refine tok_cons (snd_icmp_ge dX5_takePair_9 (by decide) rfl) ?_
  refine tok_cons (snd_aload_n dX5_takePair_12 rfl rfl) ?_
  refine tok_cons (snd_gr (C := RX5) (T := TX5) (N := 3) dX5_takePair_13 rfl (by decide) rfl wf5_9 inX5 rfl) ?_
  refine tok_cons (snd_iload_n dX5_takePair_16 rfl rfl) ?_
  refine tok_cons (snd_iconst dX5_takePair_17 rfl (inr_d rfl) rfl) ?_
  refine tok_cons (snd_iast dX5_takePair_18 rfl) ?_
  refine tok_cons (snd_aload_n dX5_takePair_19 rfl rfl) ?_
  refine tok_cons (snd_gr (C := RX5) (T := TX5) (N := 3) dX5_takePair_20 rfl (by decide) rfl wf5_15 inX5 rfl) ?_
  refine tok_cons (snd_iload_n dX5_takePair_23 rfl rfl) ?_
  refine tok_cons (snd_aload_n dX5_takePair_24 rfl rfl) ?_
  refine tok_cons (snd_iload_n dX5_takePair_25 rfl rfl) ?_
  refine tok_cons (snd_cv dX5_takePair_26 mok_1_hasPair ⟨wm5_22, wi_1_hasPair, wl_1_hasPair⟩ (rc := (RX1, TX1, 5)) rfl rfl pn_1_hasPair (by decide) ⟨rfl, rfl⟩ rfl) ?_
  refine tok_cons (snd_if_eq dX5_takePair_29 (by decide) rfl) ?_
  refine tok_cons (snd_aload_n dX5_takePair_32 rfl rfl) ?_
  refine tok_cons (snd_gr (C := RX1) (T := TX1) (N := 5) dX5_takePair_33 rfl (by decide) rfl wf5_28 inX1 rfl) ?_
  refine tok_cons (snd_iload_n dX5_takePair_36 rfl rfl) ?_
  refine tok_cons (snd_aald dX5_takePair_37 rfl) ?_
  refine tok_cons (snd_iload_n dX5_takePair_38 rfl rfl) ?_
  refine tok_cons (snd_iald dX5_takePair_39 rfl) ?_
  refine tok_cons (snd_goto dX5_takePair_40 (by decide)) ?_
  refine tok_cons (snd_iconst dX5_takePair_43 rfl (inr_d rfl) rfl) ?_
  refine tok_cons (snd_iast dX5_takePair_44 rfl) ?_
  refine tok_cons (snd_iinc dX5_takePair_45 rfl rfl (by decide)) ?_
  refine tok_cons (snd_goto dX5_takePair_48 (by decide)) ?_
  refine tok_cons (snd_ret dX5_takePair_51 rfl) ?_
  exact tok_nil
def tab_6_fits (X : XT) : Tab := [(0, false, a_aload 0 1), (1, false, a_gr 6 8 4), (4, false, a_aload 0 5), (5, false, a_gr 6 7 8), (8, false, a_cn X M_6_fits M_2_copyFrom 2 2 11), (11, false, a_aload 0 12), (12, false, a_gr 6 8 15), (15, false, a_aload 1 16), (16, false, a_aload 2 17), (17, false, a_cn X M_6_fits M_2_put 2 3 20), (20, false, a_aload 0 21), (21, false, a_gr 6 8 24), (24, false, a_aload 0 25), (25, false, a_gi 6 0 0 28), (28, false, a_aload 1 29), (29, false, a_gr 1 4 32), (32, false, a_const 2 33), (33, false, a_ald false 34), (34, false, a_aload 1 35), (35, false, a_gr 1 4 38), (38, false, a_const 4 39), (39, false, a_ald false 40), (40, false, a_cv X M_6_fits M_2_fits 2 4 43), (43, false, a_zret M_6_fits)]
set_option maxRecDepth 20000 in
theorem t_6_fits (X : XT) : tget (tab_6_fits X) 0 = some (false, a_aload 0 1) ∧ tget (tab_6_fits X) 1 = some (false, a_gr 6 8 4) ∧ tget (tab_6_fits X) 4 = some (false, a_aload 0 5) ∧ tget (tab_6_fits X) 5 = some (false, a_gr 6 7 8) ∧ tget (tab_6_fits X) 8 = some (false, a_cn X M_6_fits M_2_copyFrom 2 2 11) ∧ tget (tab_6_fits X) 11 = some (false, a_aload 0 12) ∧ tget (tab_6_fits X) 12 = some (false, a_gr 6 8 15) ∧ tget (tab_6_fits X) 15 = some (false, a_aload 1 16) ∧ tget (tab_6_fits X) 16 = some (false, a_aload 2 17) ∧ tget (tab_6_fits X) 17 = some (false, a_cn X M_6_fits M_2_put 2 3 20) ∧ tget (tab_6_fits X) 20 = some (false, a_aload 0 21) ∧ tget (tab_6_fits X) 21 = some (false, a_gr 6 8 24) ∧ tget (tab_6_fits X) 24 = some (false, a_aload 0 25) ∧ tget (tab_6_fits X) 25 = some (false, a_gi 6 0 0 28) ∧ tget (tab_6_fits X) 28 = some (false, a_aload 1 29) ∧ tget (tab_6_fits X) 29 = some (false, a_gr 1 4 32) ∧ tget (tab_6_fits X) 32 = some (false, a_const 2 33) ∧ tget (tab_6_fits X) 33 = some (false, a_ald false 34) ∧ tget (tab_6_fits X) 34 = some (false, a_aload 1 35) ∧ tget (tab_6_fits X) 35 = some (false, a_gr 1 4 38) ∧ tget (tab_6_fits X) 38 = some (false, a_const 4 39) ∧ tget (tab_6_fits X) 39 = some (false, a_ald false 40) ∧ tget (tab_6_fits X) 40 = some (false, a_cv X M_6_fits M_2_fits 2 4 43) ∧ tget (tab_6_fits X) 43 = some (false, a_zret M_6_fits) := ⟨rfl, rfl, rfl, rfl, rfl, rfl, rfl, rfl, rfl, rfl, rfl, rfl, rfl, rfl, rfl, rfl, rfl, rfl, rfl, rfl, rfl, rfl, rfl, rfl⟩
theorem tok_6_fits (X : XT) : TabOK X M_6_fits (tab_6_fits X) := by
  unfold tab_6_fits
  refine tok_cons (snd_aload_n dX6_fits_0 rfl rfl) ?_
  refine tok_cons (snd_gr (C := RX6) (T := TX6) (N := 11) dX6_fits_1 rfl (by decide) rfl wf6_37 inX6 rfl) ?_
  refine tok_cons (snd_aload_n dX6_fits_4 rfl rfl) ?_
  refine tok_cons (snd_gr (C := RX6) (T := TX6) (N := 11) dX6_fits_5 rfl (by decide) rfl wf6_33 inX6 rfl) ?_
  refine tok_cons (snd_cn dX6_fits_8 mok_2_copyFrom ⟨wm6_112, wi_2_copyFrom, wl_2_copyFrom⟩ (rc := (RX2, TX2, 7)) rfl rfl pn_2_copyFrom (by decide) ⟨rfl, rfl⟩ rfl) ?_
  refine tok_cons (snd_aload_n dX6_fits_11 rfl rfl) ?_
  refine tok_cons (snd_gr (C := RX6) (T := TX6) (N := 11) dX6_fits_12 rfl (by decide) rfl wf6_37 inX6 rfl) ?_
  refine tok_cons (snd_aload_n dX6_fits_15 rfl rfl) ?_
  refine tok_cons (snd_aload_n dX6_fits_16 rfl rfl) ?_
  refine tok_cons (snd_cn dX6_fits_17 mok_2_put ⟨wm6_116, wi_2_put, wl_2_put⟩ (rc := (RX2, TX2, 7)) rfl rfl pn_2_put (by decide) ⟨rfl, rfl⟩ rfl) ?_
  refine tok_cons (snd_aload_n dX6_fits_20 rfl rfl) ?_
  refine tok_cons (snd_gr (C := RX6) (T := TX6) (N := 11) dX6_fits_21 rfl (by decide) rfl wf6_37 inX6 rfl) ?_
  refine tok_cons (snd_aload_n dX6_fits_24 rfl rfl) ?_
  refine tok_cons (snd_gi (C := RX6) (T := TX6) (N := 11) dX6_fits_25 rfl (by decide) rfl wf6_11 inX6 rfl rfl) ?_
  refine tok_cons (snd_aload_n dX6_fits_28 rfl rfl) ?_
  refine tok_cons (snd_gr (C := RX1) (T := TX1) (N := 5) dX6_fits_29 rfl (by decide) rfl wf6_120 inX1 rfl) ?_
  refine tok_cons (snd_iconst dX6_fits_32 rfl (inr_d rfl) rfl) ?_
  refine tok_cons (snd_iald dX6_fits_33 rfl) ?_
  refine tok_cons (snd_aload_n dX6_fits_34 rfl rfl) ?_
  refine tok_cons (snd_gr (C := RX1) (T := TX1) (N := 5) dX6_fits_35 rfl (by decide) rfl wf6_120 inX1 rfl) ?_
  refine tok_cons (snd_iconst dX6_fits_38 rfl (inr_d rfl) rfl) ?_
  refine tok_cons (snd_iald dX6_fits_39 rfl) ?_
  refine tok_cons (snd_cv dX6_fits_40 mok_2_fits ⟨wm6_123, wi_2_fits, wl_2_fits⟩ (rc := (RX2, TX2, 7)) rfl rfl pn_2_fits (by decide) ⟨rfl, rfl⟩ rfl) ?_
  refine tok_cons (snd_zret dX6_fits_43 rfl) ?_
  exact tok_nil
def tab_6_addSegment (X : XT) : Tab := [(0, false, a_aload 0 1), (1, false, a_gi 6 6 6 4), (4, false, a_const 600 7), (7, false, a_icmp 2 11 10), (10, false, a_ret M_6_addSegment), (11, false, a_aload 0 12), (12, false, a_gr 6 4 15), (15, false, a_const 0 16), (16, false, a_aald 17), (17, false, a_aload 0 18), (18, false, a_gi 6 6 6 21), (21, false, a_aload 2 22), (22, false, a_gi 5 0 0 25), (25, false, a_ast false 26), (26, false, a_aload 0 27), (27, false, a_gr 6 4 30), (30, false, a_const 7 32), (32, false, a_aald 33), (33, false, a_aload 0 34), (34, false, a_gi 6 6 6 37), (37, false, a_iload 3 38), (38, false, a_ast false 39), (39, false, a_const 0 40), (40, false, a_istore 4 42), (42, false, a_iload 4 44), (44, false, a_const 2 45), (45, false, a_icmp 3 126 48), (48, false, a_aload 0 49), (49, false, a_gr 6 4 52), (52, false, a_gst 3 55), (55, false, a_iload 4 57), (57, false, a_sld 58), (58, false, a_aald 59), (59, false, a_aload 0 60), (60, false, a_gi 6 6 6 63), (63, false, a_aload 2 64), (64, false, a_gr 5 1 67), (67, false, a_iload 4 69), (69, false, a_ald false 70), (70, false, a_ast false 71), (71, false, a_aload 0 72), (72, false, a_gr 6 4 75), (75, false, a_gst 4 78), (78, false, a_iload 4 80), (80, false, a_sld 81), (81, false, a_aald 82), (82, false, a_aload 0 83), (83, false, a_gi 6 6 6 86), (86, false, a_aload 2 87), (87, false, a_gr 5 2 90), (90, false, a_iload 4 92), (92, false, a_ald false 93), (93, false, a_ast false 94), (94, false, a_aload 0 95), (95, false, a_gr 6 4 98), (98, false, a_gst 5 101), (101, false, a_iload 4 103), (103, false, a_sld 104), (104, false, a_aald 105), (105, false, a_aload 0 106), (106, false, a_gi 6 6 6 109), (109, false, a_aload 0 110), (110, false, a_gr 6 7 113), (113, false, a_gr 2 1 116), (116, false, a_iload 4 118), (118, false, a_ald false 119), (119, false, a_ast false 120), (120, false, a_iinc 4 1 123), (123, false, a_goto 42), (126, false, a_aload 0 127), (127, false, a_dup 128), (128, false, a_gi 6 6 6 131), (131, false, a_const 1 132), (132, false, a_add 133), (133, false, a_pi 6 6 6 false 136), (136, false, a_aload 0 137), (137, false, a_gr 6 7 140), (140, false, a_aload 1 141), (141, false, a_aload 2 142), (142, false, a_cn X M_6_addSegment M_2_put 2 3 145), (145, false, a_ret M_6_addSegment)]
set_option maxRecDepth 20000 in
theorem t_6_addSegment (X : XT) : tget (tab_6_addSegment X) 0 = some (false, a_aload 0 1) ∧ tget (tab_6_addSegment X) 1 = some (false, a_gi 6 6 6 4) ∧ tget (tab_6_addSegment X) 4 = some (false, a_const 600 7) ∧ tget (tab_6_addSegment X) 7 = some (false, a_icmp 2 11 10) ∧ tget (tab_6_addSegment X) 10 = some (false, a_ret M_6_addSegment) ∧ tget (tab_6_addSegment X) 11 = some (false, a_aload 0 12) ∧ tget (tab_6_addSegment X) 12 = some (false, a_gr 6 4 15) ∧ tget (tab_6_addSegment X) 15 = some (false, a_const 0 16) ∧ tget (tab_6_addSegment X) 16 = some (false, a_aald 17) ∧ tget (tab_6_addSegment X) 17 = some (false, a_aload 0 18) ∧ tget (tab_6_addSegment X) 18 = some (false, a_gi 6 6 6 21) ∧ tget (tab_6_addSegment X) 21 = some (false, a_aload 2 22) ∧ tget (tab_6_addSegment X) 22 = some (false, a_gi 5 0 0 25) ∧ tget (tab_6_addSegment X) 25 = some (false, a_ast false 26) ∧ tget (tab_6_addSegment X) 26 = some (false, a_aload 0 27) ∧ tget (tab_6_addSegment X) 27 = some (false, a_gr 6 4 30) ∧ tget (tab_6_addSegment X) 30 = some (false, a_const 7 32) ∧ tget (tab_6_addSegment X) 32 = some (false, a_aald 33) ∧ tget (tab_6_addSegment X) 33 = some (false, a_aload 0 34) ∧ tget (tab_6_addSegment X) 34 = some (false, a_gi 6 6 6 37) ∧ tget (tab_6_addSegment X) 37 = some (false, a_iload 3 38) ∧ tget (tab_6_addSegment X) 38 = some (false, a_ast false 39) ∧ tget (tab_6_addSegment X) 39 = some (false, a_const 0 40) ∧ tget (tab_6_addSegment X) 40 = some (false, a_istore 4 42) ∧ tget (tab_6_addSegment X) 42 = some (false, a_iload 4 44) ∧ tget (tab_6_addSegment X) 44 = some (false, a_const 2 45) ∧ tget (tab_6_addSegment X) 45 = some (false, a_icmp 3 126 48) ∧ tget (tab_6_addSegment X) 48 = some (false, a_aload 0 49) ∧ tget (tab_6_addSegment X) 49 = some (false, a_gr 6 4 52) ∧ tget (tab_6_addSegment X) 52 = some (false, a_gst 3 55) ∧ tget (tab_6_addSegment X) 55 = some (false, a_iload 4 57) ∧ tget (tab_6_addSegment X) 57 = some (false, a_sld 58) ∧ tget (tab_6_addSegment X) 58 = some (false, a_aald 59) ∧ tget (tab_6_addSegment X) 59 = some (false, a_aload 0 60) ∧ tget (tab_6_addSegment X) 60 = some (false, a_gi 6 6 6 63) ∧ tget (tab_6_addSegment X) 63 = some (false, a_aload 2 64) ∧ tget (tab_6_addSegment X) 64 = some (false, a_gr 5 1 67) ∧ tget (tab_6_addSegment X) 67 = some (false, a_iload 4 69) ∧ tget (tab_6_addSegment X) 69 = some (false, a_ald false 70) ∧ tget (tab_6_addSegment X) 70 = some (false, a_ast false 71) ∧ tget (tab_6_addSegment X) 71 = some (false, a_aload 0 72) ∧ tget (tab_6_addSegment X) 72 = some (false, a_gr 6 4 75) ∧ tget (tab_6_addSegment X) 75 = some (false, a_gst 4 78) ∧ tget (tab_6_addSegment X) 78 = some (false, a_iload 4 80) ∧ tget (tab_6_addSegment X) 80 = some (false, a_sld 81) ∧ tget (tab_6_addSegment X) 81 = some (false, a_aald 82) ∧ tget (tab_6_addSegment X) 82 = some (false, a_aload 0 83) ∧ tget (tab_6_addSegment X) 83 = some (false, a_gi 6 6 6 86) ∧ tget (tab_6_addSegment X) 86 = some (false, a_aload 2 87) ∧ tget (tab_6_addSegment X) 87 = some (false, a_gr 5 2 90) ∧ tget (tab_6_addSegment X) 90 = some (false, a_iload 4 92) ∧ tget (tab_6_addSegment X) 92 = some (false, a_ald false 93) ∧ tget (tab_6_addSegment X) 93 = some (false, a_ast false 94) ∧ tget (tab_6_addSegment X) 94 = some (false, a_aload 0 95) ∧ tget (tab_6_addSegment X) 95 = some (false, a_gr 6 4 98) ∧ tget (tab_6_addSegment X) 98 = some (false, a_gst 5 101) ∧ tget (tab_6_addSegment X) 101 = some (false, a_iload 4 103) ∧ tget (tab_6_addSegment X) 103 = some (false, a_sld 104) ∧ tget (tab_6_addSegment X) 104 = some (false, a_aald 105) ∧ tget (tab_6_addSegment X) 105 = some (false, a_aload 0 106) ∧ tget (tab_6_addSegment X) 106 = some (false, a_gi 6 6 6 109) ∧ tget (tab_6_addSegment X) 109 = some (false, a_aload 0 110) ∧ tget (tab_6_addSegment X) 110 = some (false, a_gr 6 7 113) ∧ tget (tab_6_addSegment X) 113 = some (false, a_gr 2 1 116) ∧ tget (tab_6_addSegment X) 116 = some (false, a_iload 4 118) ∧ tget (tab_6_addSegment X) 118 = some (false, a_ald false 119) ∧ tget (tab_6_addSegment X) 119 = some (false, a_ast false 120) ∧ tget (tab_6_addSegment X) 120 = some (false, a_iinc 4 1 123) ∧ tget (tab_6_addSegment X) 123 = some (false, a_goto 42) ∧ tget (tab_6_addSegment X) 126 = some (false, a_aload 0 127) ∧ tget (tab_6_addSegment X) 127 = some (false, a_dup 128) ∧ tget (tab_6_addSegment X) 128 = some (false, a_gi 6 6 6 131) ∧ tget (tab_6_addSegment X) 131 = some (false, a_const 1 132) ∧ tget (tab_6_addSegment X) 132 = some (false, a_add 133) ∧ tget (tab_6_addSegment X) 133 = some (false, a_pi 6 6 6 false 136) ∧ tget (tab_6_addSegment X) 136 = some (false, a_aload 0 137) ∧ tget (tab_6_addSegment X) 137 = some (false, a_gr 6 7 140) ∧ tget (tab_6_addSegment X) 140 = some (false, a_aload 1 141) ∧ tget (tab_6_addSegment X) 141 = some (false, a_aload 2 142) ∧ tget (tab_6_addSegment X) 142 = some (false, a_cn X M_6_addSegment M_2_put 2 3 145) ∧ tget (tab_6_addSegment X) 145 = some (false, a_ret M_6_addSegment) := ⟨rfl, rfl, rfl, rfl, rfl, rfl, rfl, rfl, rfl, rfl, rfl, rfl, rfl, rfl, rfl, rfl, rfl, rfl, rfl, rfl, rfl, rfl, rfl, rfl, rfl, rfl, rfl, rfl, rfl, rfl, rfl, rfl, rfl, rfl, rfl, rfl, rfl, rfl, rfl, rfl, rfl, rfl, rfl, rfl, rfl, rfl, rfl, rfl, rfl, rfl, rfl, rfl, rfl, rfl, rfl, rfl, rfl, rfl, rfl, rfl, rfl, rfl, rfl, rfl, rfl, rfl, rfl, rfl, rfl, rfl, rfl, rfl, rfl, rfl, rfl, rfl, rfl, rfl, rfl, rfl, rfl⟩
theorem tok_6_addSegment (X : XT) : TabOK X M_6_addSegment (tab_6_addSegment X) := by
  unfold tab_6_addSegment
  refine tok_cons (snd_aload_n dX6_addSegment_0 rfl rfl) ?_
  refine tok_cons (snd_gi (C := RX6) (T := TX6) (N := 11) dX6_addSegment_1 rfl (by decide) rfl wf6_53 inX6 rfl rfl) ?_
  refine tok_cons (snd_sipush dX6_addSegment_4 (by decide) (inr_d rfl) rfl) ?_
  refine tok_cons (snd_icmp_lt dX6_addSegment_7 (by decide) rfl) ?_
  refine tok_cons (snd_ret dX6_addSegment_10 rfl) ?_
  refine tok_cons (snd_aload_n dX6_addSegment_11 rfl rfl) ?_
  refine tok_cons (snd_gr (C := RX6) (T := TX6) (N := 11) dX6_addSegment_12 rfl (by decide) rfl wf6_24 inX6 rfl) ?_
  refine tok_cons (snd_iconst dX6_addSegment_15 rfl (inr_d rfl) rfl) ?_
  refine tok_cons (snd_aald dX6_addSegment_16 rfl) ?_
  refine tok_cons (snd_aload_n dX6_addSegment_17 rfl rfl) ?_
  refine tok_cons (snd_gi (C := RX6) (T := TX6) (N := 11) dX6_addSegment_18 rfl (by decide) rfl wf6_53 inX6 rfl rfl) ?_
  refine tok_cons (snd_aload_n dX6_addSegment_21 rfl rfl) ?_
  refine tok_cons (snd_gi (C := RX5) (T := TX5) (N := 3) dX6_addSegment_22 rfl (by decide) rfl wf6_64 inX5 rfl rfl) ?_
  refine tok_cons (snd_iast dX6_addSegment_25 rfl) ?_
  refine tok_cons (snd_aload_n dX6_addSegment_26 rfl rfl) ?_
  refine tok_cons (snd_gr (C := RX6) (T := TX6) (N := 11) dX6_addSegment_27 rfl (by decide) rfl wf6_24 inX6 rfl) ?_
  refine tok_cons (snd_bipush dX6_addSegment_30 (by decide) (inr_d rfl) rfl) ?_
  refine tok_cons (snd_aald dX6_addSegment_32 rfl) ?_
  refine tok_cons (snd_aload_n dX6_addSegment_33 rfl rfl) ?_
  refine tok_cons (snd_gi (C := RX6) (T := TX6) (N := 11) dX6_addSegment_34 rfl (by decide) rfl wf6_53 inX6 rfl rfl) ?_
  refine tok_cons (snd_iload_n dX6_addSegment_37 rfl rfl) ?_
  refine tok_cons (snd_iast dX6_addSegment_38 rfl) ?_
  refine tok_cons (snd_iconst dX6_addSegment_39 rfl (inr_d rfl) rfl) ?_
  refine tok_cons (snd_istore dX6_addSegment_40 rfl (by decide)) ?_
  refine tok_cons (snd_iload dX6_addSegment_42 rfl) ?_
  refine tok_cons (snd_iconst dX6_addSegment_44 rfl (inr_d rfl) rfl) ?_
  refine tok_cons (snd_icmp_ge dX6_addSegment_45 (by decide) rfl) ?_
  refine tok_cons (snd_aload_n dX6_addSegment_48 rfl rfl) ?_
  refine tok_cons (snd_gr (C := RX6) (T := TX6) (N := 11) dX6_addSegment_49 rfl (by decide) rfl wf6_24 inX6 rfl) ?_
  refine tok_cons (snd_gstN dX6_addSegment_52 (by decide) rfl (List.mem_of_getElem? (i := 1) rfl) rfl) ?_
  refine tok_cons (snd_iload dX6_addSegment_55 rfl) ?_
  refine tok_cons (snd_sld dX6_addSegment_57 rfl) ?_
  refine tok_cons (snd_aald dX6_addSegment_58 rfl) ?_
  refine tok_cons (snd_aload_n dX6_addSegment_59 rfl rfl) ?_
  refine tok_cons (snd_gi (C := RX6) (T := TX6) (N := 11) dX6_addSegment_60 rfl (by decide) rfl wf6_53 inX6 rfl rfl) ?_
  refine tok_cons (snd_aload_n dX6_addSegment_63 rfl rfl) ?_
  refine tok_cons (snd_gr (C := RX5) (T := TX5) (N := 3) dX6_addSegment_64 rfl (by decide) rfl wf6_145 inX5 rfl) ?_
  refine tok_cons (snd_iload dX6_addSegment_67 rfl) ?_
  refine tok_cons (snd_iald dX6_addSegment_69 rfl) ?_
  refine tok_cons (snd_iast dX6_addSegment_70 rfl) ?_
  refine tok_cons (snd_aload_n dX6_addSegment_71 rfl rfl) ?_
  refine tok_cons (snd_gr (C := RX6) (T := TX6) (N := 11) dX6_addSegment_72 rfl (by decide) rfl wf6_24 inX6 rfl) ?_
  refine tok_cons (snd_gstN dX6_addSegment_75 (by decide) rfl (List.mem_of_getElem? (i := 2) rfl) rfl) ?_
  refine tok_cons (snd_iload dX6_addSegment_78 rfl) ?_
  refine tok_cons (snd_sld dX6_addSegment_80 rfl) ?_
  refine tok_cons (snd_aald dX6_addSegment_81 rfl) ?_
  refine tok_cons (snd_aload_n dX6_addSegment_82 rfl rfl) ?_
  refine tok_cons (snd_gi (C := RX6) (T := TX6) (N := 11) dX6_addSegment_83 rfl (by decide) rfl wf6_53 inX6 rfl rfl) ?_
  refine tok_cons (snd_aload_n dX6_addSegment_86 rfl rfl) ?_
  refine tok_cons (snd_gr (C := RX5) (T := TX5) (N := 3) dX6_addSegment_87 rfl (by decide) rfl wf6_126 inX5 rfl) ?_
  refine tok_cons (snd_iload dX6_addSegment_90 rfl) ?_
  refine tok_cons (snd_iald dX6_addSegment_92 rfl) ?_
  refine tok_cons (snd_iast dX6_addSegment_93 rfl) ?_
  refine tok_cons (snd_aload_n dX6_addSegment_94 rfl rfl) ?_
  refine tok_cons (snd_gr (C := RX6) (T := TX6) (N := 11) dX6_addSegment_95 rfl (by decide) rfl wf6_24 inX6 rfl) ?_
  refine tok_cons (snd_gstN dX6_addSegment_98 (by decide) rfl (List.mem_of_getElem? (i := 3) rfl) rfl) ?_
  refine tok_cons (snd_iload dX6_addSegment_101 rfl) ?_
  refine tok_cons (snd_sld dX6_addSegment_103 rfl) ?_
  refine tok_cons (snd_aald dX6_addSegment_104 rfl) ?_
  refine tok_cons (snd_aload_n dX6_addSegment_105 rfl rfl) ?_
  refine tok_cons (snd_gi (C := RX6) (T := TX6) (N := 11) dX6_addSegment_106 rfl (by decide) rfl wf6_53 inX6 rfl rfl) ?_
  refine tok_cons (snd_aload_n dX6_addSegment_109 rfl rfl) ?_
  refine tok_cons (snd_gr (C := RX6) (T := TX6) (N := 11) dX6_addSegment_110 rfl (by decide) rfl wf6_33 inX6 rfl) ?_
  refine tok_cons (snd_gr (C := RX2) (T := TX2) (N := 7) dX6_addSegment_113 rfl (by decide) rfl wf6_129 inX2 rfl) ?_
  refine tok_cons (snd_iload dX6_addSegment_116 rfl) ?_
  refine tok_cons (snd_iald dX6_addSegment_118 rfl) ?_
  refine tok_cons (snd_iast dX6_addSegment_119 rfl) ?_
  refine tok_cons (snd_iinc dX6_addSegment_120 rfl rfl (by decide)) ?_
  refine tok_cons (snd_goto dX6_addSegment_123 (by decide)) ?_
  refine tok_cons (snd_aload_n dX6_addSegment_126 rfl rfl) ?_
  refine tok_cons (snd_dup dX6_addSegment_127 rfl) ?_
  refine tok_cons (snd_gi (C := RX6) (T := TX6) (N := 11) dX6_addSegment_128 rfl (by decide) rfl wf6_53 inX6 rfl rfl) ?_
  refine tok_cons (snd_iconst dX6_addSegment_131 rfl (inr_d rfl) rfl) ?_
  refine tok_cons (snd_add dX6_addSegment_132 rfl) ?_
  refine tok_cons (snd_pi (C := RX6) (T := TX6) (N := 11) (ty0 := tyX6) dX6_addSegment_133 rfl (by decide) rfl wf6_53 inX6 tyX6_ok nmX6 (by decide +kernel) rfl rfl) ?_
  refine tok_cons (snd_aload_n dX6_addSegment_136 rfl rfl) ?_
  refine tok_cons (snd_gr (C := RX6) (T := TX6) (N := 11) dX6_addSegment_137 rfl (by decide) rfl wf6_33 inX6 rfl) ?_
  refine tok_cons (snd_aload_n dX6_addSegment_140 rfl rfl) ?_
  refine tok_cons (snd_aload_n dX6_addSegment_141 rfl rfl) ?_
  refine tok_cons (snd_cn dX6_addSegment_142 mok_2_put ⟨wm6_116, wi_2_put, wl_2_put⟩ (rc := (RX2, TX2, 7)) rfl rfl pn_2_put (by decide) ⟨rfl, rfl⟩ rfl) ?_
  refine tok_cons (snd_ret dX6_addSegment_145 rfl) ?_
  exact tok_nil
def tab_6_endSpread (X : XT) : Tab := [(0, false, a_const 0 1), (1, false, a_istore 2 2), (2, false, a_iload 2 3), (3, false, a_const 2 4), (4, false, a_icmp 3 202 7), (7, false, a_const 2 8), (8, false, a_aload 0 9), (9, false, a_gi 6 1 1 12), (12, false, a_mul 13), (13, false, a_iload 2 14), (14, false, a_add 15), (15, false, a_istore 3 16), (16, false, a_aload 0 17), (17, false, a_gr 6 7 20), (20, false, a_iload 2 21), (21, false, a_aload 1 22), (22, false, a_aload 0 23), (23, false, a_gi 6 0 0 26), (26, false, a_cv X M_6_endSpread M_2_carriedFrom 2 4 29), (29, false, a_istore 4 31), (31, false, a_aload 0 32), (32, false, a_gr 6 7 35), (35, false, a_iload 2 36), (36, false, a_aload 1 37), (37, false, a_gr 1 4 40), (40, false, a_const 2 41), (41, false, a_ald false 42), (42, false, a_iload 4 44), (44, false, a_cv X M_6_endSpread M_2_noteRows 2 4 47), (47, false, a_istore 5 49), (49, false, a_aload 0 50), (50, false, a_gr 6 5 53), (53, false, a_const 0 54), (54, false, a_aald 55), (55, false, a_iload 3 56), (56, false, a_aload 0 57), (57, false, a_gr 6 7 60), (60, false, a_gr 2 0 63), (63, false, a_iload 2 64), (64, false, a_ald false 65), (65, false, a_ast false 66), (66, false, a_aload 0 67), (67, false, a_gr 6 5 70), (70, false, a_const 1 71), (71, false, a_aald 72), (72, false, a_iload 3 73), (73, false, a_iload 5 75), (75, false, a_ast false 76), (76, false, a_aload 0 77), (77, false, a_gr 6 5 80), (80, false, a_const 2 81), (81, false, a_aald 82), (82, false, a_iload 3 83), (83, false, a_const 0 84), (84, false, a_aload 0 85), (85, false, a_gi 6 0 0 88), (88, false, a_aload 0 89), (89, false, a_gr 6 7 92), (92, false, a_gr 2 0 95), (95, false, a_iload 2 96), (96, false, a_ald false 97), (97, false, a_sub 98), (98, false, a_iload 5 100), (100, false, a_sub 101), (101, false, a_max M_6_endSpread 104), (104, false, a_ast false 105), (105, false, a_aload 0 106), (106, false, a_gr 6 5 109), (109, false, a_const 3 110), (110, false, a_aald 111), (111, false, a_iload 3 112), (112, false, a_aload 0 113), (113, false, a_gr 6 7 116), (116, false, a_gr 2 2 119), (119, false, a_iload 2 120), (120, false, a_ald false 121), (121, false, a_ast false 122), (122, false, a_aload 0 123), (123, false, a_gr 6 5 126), (126, false, a_const 4 127), (127, false, a_aald 128), (128, false, a_iload 3 129), (129, false, a_iload 4 131), (131, false, a_ast false 132), (132, false, a_aload 0 133), (133, false, a_gr 6 5 136), (136, false, a_const 5 137), (137, false, a_aald 138), (138, false, a_iload 3 139), (139, false, a_aload 0 140), (140, false, a_gr 6 7 143), (143, false, a_gr 2 4 146), (146, false, a_iload 2 147), (147, false, a_ald false 148), (148, false, a_ast false 149), (149, false, a_aload 0 150), (150, false, a_gr 6 5 153), (153, false, a_const 6 155), (155, false, a_aald 156), (156, false, a_iload 3 157), (157, false, a_aload 0 158), (158, false, a_gr 6 7 161), (161, false, a_gr 2 3 164), (164, false, a_iload 2 165), (165, false, a_ald false 166), (166, false, a_ast false 167), (167, false, a_aload 0 168), (168, false, a_gr 6 7 171), (171, false, a_iload 2 172), (172, false, a_iload 4 174), (174, false, a_aload 0 175), (175, false, a_gr 6 7 178), (178, false, a_gr 2 3 181), (181, false, a_iload 2 182), (182, false, a_ald false 183), (183, false, a_aload 0 184), (184, false, a_gr 6 7 187), (187, false, a_gr 2 4 190), (190, false, a_iload 2 191), (191, false, a_ald false 192), (192, false, a_add 193), (193, false, a_cn X M_6_endSpread M_2_turn 2 4 196), (196, false, a_iinc 2 1 199), (199, false, a_goto 2), (202, false, a_aload 0 203), (203, false, a_dup 204), (204, false, a_gi 6 1 1 207), (207, false, a_const 1 208), (208, false, a_add 209), (209, false, a_pi 6 1 1 false 212), (212, false, a_aload 0 213), (213, false, a_gr 6 2 216), (216, false, a_aload 0 217), (217, false, a_gi 6 1 1 220), (220, false, a_aload 0 221), (221, false, a_gi 6 6 6 224), (224, false, a_ast false 225), (225, false, a_ret M_6_endSpread)]
set_option maxRecDepth 20000 in
theorem t_6_endSpread (X : XT) : tget (tab_6_endSpread X) 0 = some (false, a_const 0 1) ∧ tget (tab_6_endSpread X) 1 = some (false, a_istore 2 2) ∧ tget (tab_6_endSpread X) 2 = some (false, a_iload 2 3) ∧ tget (tab_6_endSpread X) 3 = some (false, a_const 2 4) ∧ tget (tab_6_endSpread X) 4 = some (false, a_icmp 3 202 7) ∧ tget (tab_6_endSpread X) 7 = some (false, a_const 2 8) ∧ tget (tab_6_endSpread X) 8 = some (false, a_aload 0 9) ∧ tget (tab_6_endSpread X) 9 = some (false, a_gi 6 1 1 12) ∧ tget (tab_6_endSpread X) 12 = some (false, a_mul 13) ∧ tget (tab_6_endSpread X) 13 = some (false, a_iload 2 14) ∧ tget (tab_6_endSpread X) 14 = some (false, a_add 15) ∧ tget (tab_6_endSpread X) 15 = some (false, a_istore 3 16) ∧ tget (tab_6_endSpread X) 16 = some (false, a_aload 0 17) ∧ tget (tab_6_endSpread X) 17 = some (false, a_gr 6 7 20) ∧ tget (tab_6_endSpread X) 20 = some (false, a_iload 2 21) ∧ tget (tab_6_endSpread X) 21 = some (false, a_aload 1 22) ∧ tget (tab_6_endSpread X) 22 = some (false, a_aload 0 23) ∧ tget (tab_6_endSpread X) 23 = some (false, a_gi 6 0 0 26) ∧ tget (tab_6_endSpread X) 26 = some (false, a_cv X M_6_endSpread M_2_carriedFrom 2 4 29) ∧ tget (tab_6_endSpread X) 29 = some (false, a_istore 4 31) ∧ tget (tab_6_endSpread X) 31 = some (false, a_aload 0 32) ∧ tget (tab_6_endSpread X) 32 = some (false, a_gr 6 7 35) ∧ tget (tab_6_endSpread X) 35 = some (false, a_iload 2 36) ∧ tget (tab_6_endSpread X) 36 = some (false, a_aload 1 37) ∧ tget (tab_6_endSpread X) 37 = some (false, a_gr 1 4 40) ∧ tget (tab_6_endSpread X) 40 = some (false, a_const 2 41) ∧ tget (tab_6_endSpread X) 41 = some (false, a_ald false 42) ∧ tget (tab_6_endSpread X) 42 = some (false, a_iload 4 44) ∧ tget (tab_6_endSpread X) 44 = some (false, a_cv X M_6_endSpread M_2_noteRows 2 4 47) ∧ tget (tab_6_endSpread X) 47 = some (false, a_istore 5 49) ∧ tget (tab_6_endSpread X) 49 = some (false, a_aload 0 50) ∧ tget (tab_6_endSpread X) 50 = some (false, a_gr 6 5 53) ∧ tget (tab_6_endSpread X) 53 = some (false, a_const 0 54) ∧ tget (tab_6_endSpread X) 54 = some (false, a_aald 55) ∧ tget (tab_6_endSpread X) 55 = some (false, a_iload 3 56) ∧ tget (tab_6_endSpread X) 56 = some (false, a_aload 0 57) ∧ tget (tab_6_endSpread X) 57 = some (false, a_gr 6 7 60) ∧ tget (tab_6_endSpread X) 60 = some (false, a_gr 2 0 63) ∧ tget (tab_6_endSpread X) 63 = some (false, a_iload 2 64) ∧ tget (tab_6_endSpread X) 64 = some (false, a_ald false 65) ∧ tget (tab_6_endSpread X) 65 = some (false, a_ast false 66) ∧ tget (tab_6_endSpread X) 66 = some (false, a_aload 0 67) ∧ tget (tab_6_endSpread X) 67 = some (false, a_gr 6 5 70) ∧ tget (tab_6_endSpread X) 70 = some (false, a_const 1 71) ∧ tget (tab_6_endSpread X) 71 = some (false, a_aald 72) ∧ tget (tab_6_endSpread X) 72 = some (false, a_iload 3 73) ∧ tget (tab_6_endSpread X) 73 = some (false, a_iload 5 75) ∧ tget (tab_6_endSpread X) 75 = some (false, a_ast false 76) ∧ tget (tab_6_endSpread X) 76 = some (false, a_aload 0 77) ∧ tget (tab_6_endSpread X) 77 = some (false, a_gr 6 5 80) ∧ tget (tab_6_endSpread X) 80 = some (false, a_const 2 81) ∧ tget (tab_6_endSpread X) 81 = some (false, a_aald 82) ∧ tget (tab_6_endSpread X) 82 = some (false, a_iload 3 83) ∧ tget (tab_6_endSpread X) 83 = some (false, a_const 0 84) ∧ tget (tab_6_endSpread X) 84 = some (false, a_aload 0 85) ∧ tget (tab_6_endSpread X) 85 = some (false, a_gi 6 0 0 88) ∧ tget (tab_6_endSpread X) 88 = some (false, a_aload 0 89) ∧ tget (tab_6_endSpread X) 89 = some (false, a_gr 6 7 92) ∧ tget (tab_6_endSpread X) 92 = some (false, a_gr 2 0 95) ∧ tget (tab_6_endSpread X) 95 = some (false, a_iload 2 96) ∧ tget (tab_6_endSpread X) 96 = some (false, a_ald false 97) ∧ tget (tab_6_endSpread X) 97 = some (false, a_sub 98) ∧ tget (tab_6_endSpread X) 98 = some (false, a_iload 5 100) ∧ tget (tab_6_endSpread X) 100 = some (false, a_sub 101) ∧ tget (tab_6_endSpread X) 101 = some (false, a_max M_6_endSpread 104) ∧ tget (tab_6_endSpread X) 104 = some (false, a_ast false 105) ∧ tget (tab_6_endSpread X) 105 = some (false, a_aload 0 106) ∧ tget (tab_6_endSpread X) 106 = some (false, a_gr 6 5 109) ∧ tget (tab_6_endSpread X) 109 = some (false, a_const 3 110) ∧ tget (tab_6_endSpread X) 110 = some (false, a_aald 111) ∧ tget (tab_6_endSpread X) 111 = some (false, a_iload 3 112) ∧ tget (tab_6_endSpread X) 112 = some (false, a_aload 0 113) ∧ tget (tab_6_endSpread X) 113 = some (false, a_gr 6 7 116) ∧ tget (tab_6_endSpread X) 116 = some (false, a_gr 2 2 119) ∧ tget (tab_6_endSpread X) 119 = some (false, a_iload 2 120) ∧ tget (tab_6_endSpread X) 120 = some (false, a_ald false 121) ∧ tget (tab_6_endSpread X) 121 = some (false, a_ast false 122) ∧ tget (tab_6_endSpread X) 122 = some (false, a_aload 0 123) ∧ tget (tab_6_endSpread X) 123 = some (false, a_gr 6 5 126) ∧ tget (tab_6_endSpread X) 126 = some (false, a_const 4 127) ∧ tget (tab_6_endSpread X) 127 = some (false, a_aald 128) ∧ tget (tab_6_endSpread X) 128 = some (false, a_iload 3 129) ∧ tget (tab_6_endSpread X) 129 = some (false, a_iload 4 131) ∧ tget (tab_6_endSpread X) 131 = some (false, a_ast false 132) ∧ tget (tab_6_endSpread X) 132 = some (false, a_aload 0 133) ∧ tget (tab_6_endSpread X) 133 = some (false, a_gr 6 5 136) ∧ tget (tab_6_endSpread X) 136 = some (false, a_const 5 137) ∧ tget (tab_6_endSpread X) 137 = some (false, a_aald 138) ∧ tget (tab_6_endSpread X) 138 = some (false, a_iload 3 139) ∧ tget (tab_6_endSpread X) 139 = some (false, a_aload 0 140) ∧ tget (tab_6_endSpread X) 140 = some (false, a_gr 6 7 143) ∧ tget (tab_6_endSpread X) 143 = some (false, a_gr 2 4 146) ∧ tget (tab_6_endSpread X) 146 = some (false, a_iload 2 147) ∧ tget (tab_6_endSpread X) 147 = some (false, a_ald false 148) ∧ tget (tab_6_endSpread X) 148 = some (false, a_ast false 149) ∧ tget (tab_6_endSpread X) 149 = some (false, a_aload 0 150) ∧ tget (tab_6_endSpread X) 150 = some (false, a_gr 6 5 153) ∧ tget (tab_6_endSpread X) 153 = some (false, a_const 6 155) ∧ tget (tab_6_endSpread X) 155 = some (false, a_aald 156) ∧ tget (tab_6_endSpread X) 156 = some (false, a_iload 3 157) ∧ tget (tab_6_endSpread X) 157 = some (false, a_aload 0 158) ∧ tget (tab_6_endSpread X) 158 = some (false, a_gr 6 7 161) ∧ tget (tab_6_endSpread X) 161 = some (false, a_gr 2 3 164) ∧ tget (tab_6_endSpread X) 164 = some (false, a_iload 2 165) ∧ tget (tab_6_endSpread X) 165 = some (false, a_ald false 166) ∧ tget (tab_6_endSpread X) 166 = some (false, a_ast false 167) ∧ tget (tab_6_endSpread X) 167 = some (false, a_aload 0 168) ∧ tget (tab_6_endSpread X) 168 = some (false, a_gr 6 7 171) ∧ tget (tab_6_endSpread X) 171 = some (false, a_iload 2 172) ∧ tget (tab_6_endSpread X) 172 = some (false, a_iload 4 174) ∧ tget (tab_6_endSpread X) 174 = some (false, a_aload 0 175) ∧ tget (tab_6_endSpread X) 175 = some (false, a_gr 6 7 178) ∧ tget (tab_6_endSpread X) 178 = some (false, a_gr 2 3 181) ∧ tget (tab_6_endSpread X) 181 = some (false, a_iload 2 182) ∧ tget (tab_6_endSpread X) 182 = some (false, a_ald false 183) ∧ tget (tab_6_endSpread X) 183 = some (false, a_aload 0 184) ∧ tget (tab_6_endSpread X) 184 = some (false, a_gr 6 7 187) ∧ tget (tab_6_endSpread X) 187 = some (false, a_gr 2 4 190) ∧ tget (tab_6_endSpread X) 190 = some (false, a_iload 2 191) ∧ tget (tab_6_endSpread X) 191 = some (false, a_ald false 192) ∧ tget (tab_6_endSpread X) 192 = some (false, a_add 193) ∧ tget (tab_6_endSpread X) 193 = some (false, a_cn X M_6_endSpread M_2_turn 2 4 196) ∧ tget (tab_6_endSpread X) 196 = some (false, a_iinc 2 1 199) ∧ tget (tab_6_endSpread X) 199 = some (false, a_goto 2) ∧ tget (tab_6_endSpread X) 202 = some (false, a_aload 0 203) ∧ tget (tab_6_endSpread X) 203 = some (false, a_dup 204) ∧ tget (tab_6_endSpread X) 204 = some (false, a_gi 6 1 1 207) ∧ tget (tab_6_endSpread X) 207 = some (false, a_const 1 208) ∧ tget (tab_6_endSpread X) 208 = some (false, a_add 209) ∧ tget (tab_6_endSpread X) 209 = some (false, a_pi 6 1 1 false 212) ∧ tget (tab_6_endSpread X) 212 = some (false, a_aload 0 213) ∧ tget (tab_6_endSpread X) 213 = some (false, a_gr 6 2 216) ∧ tget (tab_6_endSpread X) 216 = some (false, a_aload 0 217) ∧ tget (tab_6_endSpread X) 217 = some (false, a_gi 6 1 1 220) ∧ tget (tab_6_endSpread X) 220 = some (false, a_aload 0 221) ∧ tget (tab_6_endSpread X) 221 = some (false, a_gi 6 6 6 224) ∧ tget (tab_6_endSpread X) 224 = some (false, a_ast false 225) ∧ tget (tab_6_endSpread X) 225 = some (false, a_ret M_6_endSpread) := ⟨rfl, rfl, rfl, rfl, rfl, rfl, rfl, rfl, rfl, rfl, rfl, rfl, rfl, rfl, rfl, rfl, rfl, rfl, rfl, rfl, rfl, rfl, rfl, rfl, rfl, rfl, rfl, rfl, rfl, rfl, rfl, rfl, rfl, rfl, rfl, rfl, rfl, rfl, rfl, rfl, rfl, rfl, rfl, rfl, rfl, rfl, rfl, rfl, rfl, rfl, rfl, rfl, rfl, rfl, rfl, rfl, rfl, rfl, rfl, rfl, rfl, rfl, rfl, rfl, rfl, rfl, rfl, rfl, rfl, rfl, rfl, rfl, rfl, rfl, rfl, rfl, rfl, rfl, rfl, rfl, rfl, rfl, rfl, rfl, rfl, rfl, rfl, rfl, rfl, rfl, rfl, rfl, rfl, rfl, rfl, rfl, rfl, rfl, rfl, rfl, rfl, rfl, rfl, rfl, rfl, rfl, rfl, rfl, rfl, rfl, rfl, rfl, rfl, rfl, rfl, rfl, rfl, rfl, rfl, rfl, rfl, rfl, rfl, rfl, rfl, rfl, rfl, rfl, rfl, rfl, rfl, rfl, rfl, rfl, rfl, rfl, rfl, rfl⟩
theorem tok_6_endSpread (X : XT) : TabOK X M_6_endSpread (tab_6_endSpread X) := by
  unfold tab_6_endSpread
  refine tok_cons (snd_iconst dX6_endSpread_0 rfl (inr_d rfl) rfl) ?_
  refine tok_cons (snd_istore_n dX6_endSpread_1 rfl rfl (by decide)) ?_
  refine tok_cons (snd_iload_n dX6_endSpread_2 rfl rfl) ?_
  refine tok_cons (snd_iconst dX6_endSpread_3 rfl (inr_d rfl) rfl) ?_
  refine tok_cons (snd_icmp_ge dX6_endSpread_4 (by decide) rfl) ?_
  refine tok_cons (snd_iconst dX6_endSpread_7 rfl (inr_d rfl) rfl) ?_
  refine tok_cons (snd_aload_n dX6_endSpread_8 rfl rfl) ?_
  refine tok_cons (snd_gi (C := RX6) (T := TX6) (N := 11) dX6_endSpread_9 rfl (by decide) rfl wf6_50 inX6 rfl rfl) ?_
  refine tok_cons (snd_mul dX6_endSpread_12 rfl) ?_
  refine tok_cons (snd_iload_n dX6_endSpread_13 rfl rfl) ?_
  refine tok_cons (snd_add dX6_endSpread_14 rfl) ?_
  refine tok_cons (snd_istore_n dX6_endSpread_15 rfl rfl (by decide)) ?_
  refine tok_cons (snd_aload_n dX6_endSpread_16 rfl rfl) ?_
  refine tok_cons (snd_gr (C := RX6) (T := TX6) (N := 11) dX6_endSpread_17 rfl (by decide) rfl wf6_33 inX6 rfl) ?_
  refine tok_cons (snd_iload_n dX6_endSpread_20 rfl rfl) ?_
  refine tok_cons (snd_aload_n dX6_endSpread_21 rfl rfl) ?_
  refine tok_cons (snd_aload_n dX6_endSpread_22 rfl rfl) ?_
  refine tok_cons (snd_gi (C := RX6) (T := TX6) (N := 11) dX6_endSpread_23 rfl (by decide) rfl wf6_11 inX6 rfl rfl) ?_
  refine tok_cons (snd_cv dX6_endSpread_26 mok_2_carriedFrom ⟨wm6_154, wi_2_carriedFrom, wl_2_carriedFrom⟩ (rc := (RX2, TX2, 7)) rfl rfl pn_2_carriedFrom (by decide) ⟨rfl, rfl⟩ rfl) ?_
  refine tok_cons (snd_istore dX6_endSpread_29 rfl (by decide)) ?_
  refine tok_cons (snd_aload_n dX6_endSpread_31 rfl rfl) ?_
  refine tok_cons (snd_gr (C := RX6) (T := TX6) (N := 11) dX6_endSpread_32 rfl (by decide) rfl wf6_33 inX6 rfl) ?_
  refine tok_cons (snd_iload_n dX6_endSpread_35 rfl rfl) ?_
  refine tok_cons (snd_aload_n dX6_endSpread_36 rfl rfl) ?_
  refine tok_cons (snd_gr (C := RX1) (T := TX1) (N := 5) dX6_endSpread_37 rfl (by decide) rfl wf6_120 inX1 rfl) ?_
  refine tok_cons (snd_iconst dX6_endSpread_40 rfl (inr_d rfl) rfl) ?_
  refine tok_cons (snd_iald dX6_endSpread_41 rfl) ?_
  refine tok_cons (snd_iload dX6_endSpread_42 rfl) ?_
  refine tok_cons (snd_cv dX6_endSpread_44 mok_2_noteRows ⟨wm6_158, wi_2_noteRows, wl_2_noteRows⟩ (rc := (RX2, TX2, 7)) rfl rfl pn_2_noteRows (by decide) ⟨rfl, rfl⟩ rfl) ?_
  refine tok_cons (snd_istore dX6_endSpread_47 rfl (by decide)) ?_
  refine tok_cons (snd_aload_n dX6_endSpread_49 rfl rfl) ?_
  refine tok_cons (snd_gr (C := RX6) (T := TX6) (N := 11) dX6_endSpread_50 rfl (by decide) rfl wf6_27 inX6 rfl) ?_
  refine tok_cons (snd_iconst dX6_endSpread_53 rfl (inr_d rfl) rfl) ?_
  refine tok_cons (snd_aald dX6_endSpread_54 rfl) ?_
  refine tok_cons (snd_iload_n dX6_endSpread_55 rfl rfl) ?_
  refine tok_cons (snd_aload_n dX6_endSpread_56 rfl rfl) ?_
  refine tok_cons (snd_gr (C := RX6) (T := TX6) (N := 11) dX6_endSpread_57 rfl (by decide) rfl wf6_33 inX6 rfl) ?_
  refine tok_cons (snd_gr (C := RX2) (T := TX2) (N := 7) dX6_endSpread_60 rfl (by decide) rfl wf6_162 inX2 rfl) ?_
  refine tok_cons (snd_iload_n dX6_endSpread_63 rfl rfl) ?_
  refine tok_cons (snd_iald dX6_endSpread_64 rfl) ?_
  refine tok_cons (snd_iast dX6_endSpread_65 rfl) ?_
  refine tok_cons (snd_aload_n dX6_endSpread_66 rfl rfl) ?_
  refine tok_cons (snd_gr (C := RX6) (T := TX6) (N := 11) dX6_endSpread_67 rfl (by decide) rfl wf6_27 inX6 rfl) ?_
  refine tok_cons (snd_iconst dX6_endSpread_70 rfl (inr_d rfl) rfl) ?_
  refine tok_cons (snd_aald dX6_endSpread_71 rfl) ?_
  refine tok_cons (snd_iload_n dX6_endSpread_72 rfl rfl) ?_
  refine tok_cons (snd_iload dX6_endSpread_73 rfl) ?_
  refine tok_cons (snd_iast dX6_endSpread_75 rfl) ?_
  refine tok_cons (snd_aload_n dX6_endSpread_76 rfl rfl) ?_
  refine tok_cons (snd_gr (C := RX6) (T := TX6) (N := 11) dX6_endSpread_77 rfl (by decide) rfl wf6_27 inX6 rfl) ?_
  refine tok_cons (snd_iconst dX6_endSpread_80 rfl (inr_d rfl) rfl) ?_
  refine tok_cons (snd_aald dX6_endSpread_81 rfl) ?_
  refine tok_cons (snd_iload_n dX6_endSpread_82 rfl rfl) ?_
  refine tok_cons (snd_iconst dX6_endSpread_83 rfl (inr_d rfl) rfl) ?_
  refine tok_cons (snd_aload_n dX6_endSpread_84 rfl rfl) ?_
  refine tok_cons (snd_gi (C := RX6) (T := TX6) (N := 11) dX6_endSpread_85 rfl (by decide) rfl wf6_11 inX6 rfl rfl) ?_
  refine tok_cons (snd_aload_n dX6_endSpread_88 rfl rfl) ?_
  refine tok_cons (snd_gr (C := RX6) (T := TX6) (N := 11) dX6_endSpread_89 rfl (by decide) rfl wf6_33 inX6 rfl) ?_
  refine tok_cons (snd_gr (C := RX2) (T := TX2) (N := 7) dX6_endSpread_92 rfl (by decide) rfl wf6_162 inX2 rfl) ?_
  refine tok_cons (snd_iload_n dX6_endSpread_95 rfl rfl) ?_
  refine tok_cons (snd_iald dX6_endSpread_96 rfl) ?_
  refine tok_cons (snd_sub dX6_endSpread_97 rfl) ?_
  refine tok_cons (snd_iload dX6_endSpread_98 rfl) ?_
  refine tok_cons (snd_sub dX6_endSpread_100 rfl) ?_
  refine tok_cons (snd_max dX6_endSpread_101 wm6_165 ws_max wn_Math wc_max (by decide) rfl) ?_
  refine tok_cons (snd_iast dX6_endSpread_104 rfl) ?_
  refine tok_cons (snd_aload_n dX6_endSpread_105 rfl rfl) ?_
  refine tok_cons (snd_gr (C := RX6) (T := TX6) (N := 11) dX6_endSpread_106 rfl (by decide) rfl wf6_27 inX6 rfl) ?_
  refine tok_cons (snd_iconst dX6_endSpread_109 rfl (inr_d rfl) rfl) ?_
  refine tok_cons (snd_aald dX6_endSpread_110 rfl) ?_
  refine tok_cons (snd_iload_n dX6_endSpread_111 rfl rfl) ?_
  refine tok_cons (snd_aload_n dX6_endSpread_112 rfl rfl) ?_
  refine tok_cons (snd_gr (C := RX6) (T := TX6) (N := 11) dX6_endSpread_113 rfl (by decide) rfl wf6_33 inX6 rfl) ?_
  refine tok_cons (snd_gr (C := RX2) (T := TX2) (N := 7) dX6_endSpread_116 rfl (by decide) rfl wf6_85 inX2 rfl) ?_
  refine tok_cons (snd_iload_n dX6_endSpread_119 rfl rfl) ?_
  refine tok_cons (snd_iald dX6_endSpread_120 rfl) ?_
  refine tok_cons (snd_iast dX6_endSpread_121 rfl) ?_
  refine tok_cons (snd_aload_n dX6_endSpread_122 rfl rfl) ?_
  refine tok_cons (snd_gr (C := RX6) (T := TX6) (N := 11) dX6_endSpread_123 rfl (by decide) rfl wf6_27 inX6 rfl) ?_
  refine tok_cons (snd_iconst dX6_endSpread_126 rfl (inr_d rfl) rfl) ?_
  refine tok_cons (snd_aald dX6_endSpread_127 rfl) ?_
  refine tok_cons (snd_iload_n dX6_endSpread_128 rfl rfl) ?_
  refine tok_cons (snd_iload dX6_endSpread_129 rfl) ?_
  refine tok_cons (snd_iast dX6_endSpread_131 rfl) ?_
  refine tok_cons (snd_aload_n dX6_endSpread_132 rfl rfl) ?_
  refine tok_cons (snd_gr (C := RX6) (T := TX6) (N := 11) dX6_endSpread_133 rfl (by decide) rfl wf6_27 inX6 rfl) ?_
  refine tok_cons (snd_iconst dX6_endSpread_136 rfl (inr_d rfl) rfl) ?_
  refine tok_cons (snd_aald dX6_endSpread_137 rfl) ?_
  refine tok_cons (snd_iload_n dX6_endSpread_138 rfl rfl) ?_
  refine tok_cons (snd_aload_n dX6_endSpread_139 rfl rfl) ?_
  refine tok_cons (snd_gr (C := RX6) (T := TX6) (N := 11) dX6_endSpread_140 rfl (by decide) rfl wf6_33 inX6 rfl) ?_
  refine tok_cons (snd_gr (C := RX2) (T := TX2) (N := 7) dX6_endSpread_143 rfl (by decide) rfl wf6_168 inX2 rfl) ?_
  refine tok_cons (snd_iload_n dX6_endSpread_146 rfl rfl) ?_
  refine tok_cons (snd_iald dX6_endSpread_147 rfl) ?_
  refine tok_cons (snd_iast dX6_endSpread_148 rfl) ?_
  refine tok_cons (snd_aload_n dX6_endSpread_149 rfl rfl) ?_
  refine tok_cons (snd_gr (C := RX6) (T := TX6) (N := 11) dX6_endSpread_150 rfl (by decide) rfl wf6_27 inX6 rfl) ?_
  refine tok_cons (snd_bipush dX6_endSpread_153 (by decide) (inr_d rfl) rfl) ?_
  refine tok_cons (snd_aald dX6_endSpread_155 rfl) ?_
  refine tok_cons (snd_iload_n dX6_endSpread_156 rfl rfl) ?_
  refine tok_cons (snd_aload_n dX6_endSpread_157 rfl rfl) ?_
  refine tok_cons (snd_gr (C := RX6) (T := TX6) (N := 11) dX6_endSpread_158 rfl (by decide) rfl wf6_33 inX6 rfl) ?_
  refine tok_cons (snd_gr (C := RX2) (T := TX2) (N := 7) dX6_endSpread_161 rfl (by decide) rfl wf6_171 inX2 rfl) ?_
  refine tok_cons (snd_iload_n dX6_endSpread_164 rfl rfl) ?_
  refine tok_cons (snd_iald dX6_endSpread_165 rfl) ?_
  refine tok_cons (snd_iast dX6_endSpread_166 rfl) ?_
  refine tok_cons (snd_aload_n dX6_endSpread_167 rfl rfl) ?_
  refine tok_cons (snd_gr (C := RX6) (T := TX6) (N := 11) dX6_endSpread_168 rfl (by decide) rfl wf6_33 inX6 rfl) ?_
  refine tok_cons (snd_iload_n dX6_endSpread_171 rfl rfl) ?_
  refine tok_cons (snd_iload dX6_endSpread_172 rfl) ?_
  refine tok_cons (snd_aload_n dX6_endSpread_174 rfl rfl) ?_
  refine tok_cons (snd_gr (C := RX6) (T := TX6) (N := 11) dX6_endSpread_175 rfl (by decide) rfl wf6_33 inX6 rfl) ?_
  refine tok_cons (snd_gr (C := RX2) (T := TX2) (N := 7) dX6_endSpread_178 rfl (by decide) rfl wf6_171 inX2 rfl) ?_
  refine tok_cons (snd_iload_n dX6_endSpread_181 rfl rfl) ?_
  refine tok_cons (snd_iald dX6_endSpread_182 rfl) ?_
  refine tok_cons (snd_aload_n dX6_endSpread_183 rfl rfl) ?_
  refine tok_cons (snd_gr (C := RX6) (T := TX6) (N := 11) dX6_endSpread_184 rfl (by decide) rfl wf6_33 inX6 rfl) ?_
  refine tok_cons (snd_gr (C := RX2) (T := TX2) (N := 7) dX6_endSpread_187 rfl (by decide) rfl wf6_168 inX2 rfl) ?_
  refine tok_cons (snd_iload_n dX6_endSpread_190 rfl rfl) ?_
  refine tok_cons (snd_iald dX6_endSpread_191 rfl) ?_
  refine tok_cons (snd_add dX6_endSpread_192 rfl) ?_
  refine tok_cons (snd_cn dX6_endSpread_193 mok_2_turn ⟨wm6_60, wi_2_turn, wl_2_turn⟩ (rc := (RX2, TX2, 7)) rfl rfl pn_2_turn (by decide) ⟨rfl, rfl⟩ rfl) ?_
  refine tok_cons (snd_iinc dX6_endSpread_196 rfl rfl (by decide)) ?_
  refine tok_cons (snd_goto dX6_endSpread_199 (by decide)) ?_
  refine tok_cons (snd_aload_n dX6_endSpread_202 rfl rfl) ?_
  refine tok_cons (snd_dup dX6_endSpread_203 rfl) ?_
  refine tok_cons (snd_gi (C := RX6) (T := TX6) (N := 11) dX6_endSpread_204 rfl (by decide) rfl wf6_50 inX6 rfl rfl) ?_
  refine tok_cons (snd_iconst dX6_endSpread_207 rfl (inr_d rfl) rfl) ?_
  refine tok_cons (snd_add dX6_endSpread_208 rfl) ?_
  refine tok_cons (snd_pi (C := RX6) (T := TX6) (N := 11) (ty0 := tyX6) dX6_endSpread_209 rfl (by decide) rfl wf6_50 inX6 tyX6_ok nmX6 (by decide +kernel) rfl rfl) ?_
  refine tok_cons (snd_aload_n dX6_endSpread_212 rfl rfl) ?_
  refine tok_cons (snd_gr (C := RX6) (T := TX6) (N := 11) dX6_endSpread_213 rfl (by decide) rfl wf6_15 inX6 rfl) ?_
  refine tok_cons (snd_aload_n dX6_endSpread_216 rfl rfl) ?_
  refine tok_cons (snd_gi (C := RX6) (T := TX6) (N := 11) dX6_endSpread_217 rfl (by decide) rfl wf6_50 inX6 rfl rfl) ?_
  refine tok_cons (snd_aload_n dX6_endSpread_220 rfl rfl) ?_
  refine tok_cons (snd_gi (C := RX6) (T := TX6) (N := 11) dX6_endSpread_221 rfl (by decide) rfl wf6_53 inX6 rfl rfl) ?_
  refine tok_cons (snd_iast dX6_endSpread_224 rfl) ?_
  refine tok_cons (snd_ret dX6_endSpread_225 rfl) ?_
  exact tok_nil
def tab_6_segmentWith (X : XT) : Tab := [(0, false, a_const 0 1), (1, false, a_istore 4 3), (3, true, a_iload 4 5), (5, false, a_aload 0 6), (6, false, a_gi 6 6 6 9), (9, false, a_const 1 10), (10, false, a_sub 11), (11, false, a_icmp 3 32 14), (14, false, a_aload 0 15), (15, false, a_iload 4 17), (17, false, a_iload 1 18), (18, false, a_iload 2 19), (19, false, a_iload 3 20), (20, false, a_cv X M_6_segmentWith M_6_contains 6 5 23), (23, false, a_if 1 32 26), (26, false, a_iinc 4 1 29), (29, false, a_goto 3), (32, false, a_iload 4 34), (34, false, a_iret M_6_segmentWith)]
set_option maxRecDepth 20000 in
theorem t_6_segmentWith (X : XT) : tget (tab_6_segmentWith X) 0 = some (false, a_const 0 1) ∧ tget (tab_6_segmentWith X) 1 = some (false, a_istore 4 3) ∧ tget (tab_6_segmentWith X) 3 = some (true, a_iload 4 5) ∧ tget (tab_6_segmentWith X) 5 = some (false, a_aload 0 6) ∧ tget (tab_6_segmentWith X) 6 = some (false, a_gi 6 6 6 9) ∧ tget (tab_6_segmentWith X) 9 = some (false, a_const 1 10) ∧ tget (tab_6_segmentWith X) 10 = some (false, a_sub 11) ∧ tget (tab_6_segmentWith X) 11 = some (false, a_icmp 3 32 14) ∧ tget (tab_6_segmentWith X) 14 = some (false, a_aload 0 15) ∧ tget (tab_6_segmentWith X) 15 = some (false, a_iload 4 17) ∧ tget (tab_6_segmentWith X) 17 = some (false, a_iload 1 18) ∧ tget (tab_6_segmentWith X) 18 = some (false, a_iload 2 19) ∧ tget (tab_6_segmentWith X) 19 = some (false, a_iload 3 20) ∧ tget (tab_6_segmentWith X) 20 = some (false, a_cv X M_6_segmentWith M_6_contains 6 5 23) ∧ tget (tab_6_segmentWith X) 23 = some (false, a_if 1 32 26) ∧ tget (tab_6_segmentWith X) 26 = some (false, a_iinc 4 1 29) ∧ tget (tab_6_segmentWith X) 29 = some (false, a_goto 3) ∧ tget (tab_6_segmentWith X) 32 = some (false, a_iload 4 34) ∧ tget (tab_6_segmentWith X) 34 = some (false, a_iret M_6_segmentWith) := ⟨rfl, rfl, rfl, rfl, rfl, rfl, rfl, rfl, rfl, rfl, rfl, rfl, rfl, rfl, rfl, rfl, rfl, rfl, rfl⟩
theorem tok_6_segmentWith (X : XT) : TabOK X M_6_segmentWith (tab_6_segmentWith X) := by
  unfold tab_6_segmentWith
  refine tok_cons (snd_iconst dX6_segmentWith_0 rfl (inr_d rfl) rfl) ?_
  refine tok_cons (snd_istore dX6_segmentWith_1 rfl (by decide)) ?_
  refine tok_cons (snd_iload dX6_segmentWith_3 rfl) ?_
  refine tok_cons (snd_aload_n dX6_segmentWith_5 rfl rfl) ?_
  refine tok_cons (snd_gi (C := RX6) (T := TX6) (N := 11) dX6_segmentWith_6 rfl (by decide) rfl wf6_53 inX6 rfl rfl) ?_
  refine tok_cons (snd_iconst dX6_segmentWith_9 rfl (inr_d rfl) rfl) ?_
  refine tok_cons (snd_sub dX6_segmentWith_10 rfl) ?_
  refine tok_cons (snd_icmp_ge dX6_segmentWith_11 (by decide) rfl) ?_
  refine tok_cons (snd_aload_n dX6_segmentWith_14 rfl rfl) ?_
  refine tok_cons (snd_iload dX6_segmentWith_15 rfl) ?_
  refine tok_cons (snd_iload_n dX6_segmentWith_17 rfl rfl) ?_
  refine tok_cons (snd_iload_n dX6_segmentWith_18 rfl rfl) ?_
  refine tok_cons (snd_iload_n dX6_segmentWith_19 rfl rfl) ?_
  refine tok_cons (snd_cv dX6_segmentWith_20 mok_6_contains ⟨wm6_177, wi_6_contains, wl_6_contains⟩ (rc := (RX6, TX6, 11)) rfl rfl pn_6_contains (by decide) ⟨rfl, rfl⟩ rfl) ?_
  refine tok_cons (snd_if_ne dX6_segmentWith_23 (by decide) rfl) ?_
  refine tok_cons (snd_iinc dX6_segmentWith_26 rfl rfl (by decide)) ?_
  refine tok_cons (snd_goto dX6_segmentWith_29 (by decide)) ?_
  refine tok_cons (snd_iload dX6_segmentWith_32 rfl) ?_
  refine tok_cons (snd_iret dX6_segmentWith_34 rfl) ?_
  exact tok_nil
def tab_7_pairInfo (X : XT) : Tab := [(0, false, a_aload 0 1), (1, false, a_gr 7 0 4), (4, false, a_iload 1 5), (5, false, a_cv X M_7_pairInfo M_1_hasPair 1 2 8), (8, false, a_if 0 20 11), (11, false, a_iload 2 12), (12, false, a_const 0 13), (13, false, a_const 3 14), (14, false, a_sv X M_7_pairInfo M_7_isIn 3 17), (17, false, a_if 1 22 20), (20, false, a_const (-1) 21), (21, false, a_iret M_7_pairInfo), (22, false, a_aload 0 23), (23, false, a_gr 7 0 26), (26, false, a_gr 1 1 29), (29, false, a_iload 2 30), (30, false, a_aald 31), (31, false, a_iload 1 32), (32, false, a_ald false 33), (33, false, a_iret M_7_pairInfo)]
set_option maxRecDepth 20000 in
theorem t_7_pairInfo (X : XT) : tget (tab_7_pairInfo X) 0 = some (false, a_aload 0 1) ∧ tget (tab_7_pairInfo X) 1 = some (false, a_gr 7 0 4) ∧ tget (tab_7_pairInfo X) 4 = some (false, a_iload 1 5) ∧ tget (tab_7_pairInfo X) 5 = some (false, a_cv X M_7_pairInfo M_1_hasPair 1 2 8) ∧ tget (tab_7_pairInfo X) 8 = some (false, a_if 0 20 11) ∧ tget (tab_7_pairInfo X) 11 = some (false, a_iload 2 12) ∧ tget (tab_7_pairInfo X) 12 = some (false, a_const 0 13) ∧ tget (tab_7_pairInfo X) 13 = some (false, a_const 3 14) ∧ tget (tab_7_pairInfo X) 14 = some (false, a_sv X M_7_pairInfo M_7_isIn 3 17) ∧ tget (tab_7_pairInfo X) 17 = some (false, a_if 1 22 20) ∧ tget (tab_7_pairInfo X) 20 = some (false, a_const (-1) 21) ∧ tget (tab_7_pairInfo X) 21 = some (false, a_iret M_7_pairInfo) ∧ tget (tab_7_pairInfo X) 22 = some (false, a_aload 0 23) ∧ tget (tab_7_pairInfo X) 23 = some (false, a_gr 7 0 26) ∧ tget (tab_7_pairInfo X) 26 = some (false, a_gr 1 1 29) ∧ tget (tab_7_pairInfo X) 29 = some (false, a_iload 2 30) ∧ tget (tab_7_pairInfo X) 30 = some (false, a_aald 31) ∧ tget (tab_7_pairInfo X) 31 = some (false, a_iload 1 32) ∧ tget (tab_7_pairInfo X) 32 = some (false, a_ald false 33) ∧ tget (tab_7_pairInfo X) 33 = some (false, a_iret M_7_pairInfo) := ⟨rfl, rfl, rfl, rfl, rfl, rfl, rfl, rfl, rfl, rfl, rfl, rfl, rfl, rfl, rfl, rfl, rfl, rfl, rfl, rfl⟩
theorem tok_7_pairInfo (X : XT) : TabOK X M_7_pairInfo (tab_7_pairInfo X) := by
  unfold tab_7_pairInfo
  refine tok_cons (snd_aload_n dX7_pairInfo_0 rfl rfl) ?_
  refine tok_cons (snd_gr (C := RX7) (T := TX7) (N := 4) dX7_pairInfo_1 rfl (by decide) rfl wf7_10 inX7 rfl) ?_
  refine tok_cons (snd_iload_n dX7_pairInfo_4 rfl rfl) ?_
  refine tok_cons (snd_cv dX7_pairInfo_5 mok_1_hasPair ⟨wm7_52, wi_1_hasPair, wl_1_hasPair⟩ (rc := (RX1, TX1, 5)) rfl rfl pn_1_hasPair (by decide) ⟨rfl, rfl⟩ rfl) ?_
  refine tok_cons (snd_if_eq dX7_pairInfo_8 (by decide) rfl) ?_
  refine tok_cons (snd_iload_n dX7_pairInfo_11 rfl rfl) ?_
  refine tok_cons (snd_iconst dX7_pairInfo_12 rfl (inr_d rfl) rfl) ?_
  refine tok_cons (snd_iconst dX7_pairInfo_13 rfl (inr_d rfl) rfl) ?_
  refine tok_cons (snd_sv dX7_pairInfo_14 mok_7_isIn ⟨ws_7_isIn, Or.inl ⟨wm7_41, rfl⟩⟩ pn_7_isIn (by decide) ⟨rfl, rfl⟩ rfl) ?_
  refine tok_cons (snd_if_ne dX7_pairInfo_17 (by decide) rfl) ?_
  refine tok_cons (snd_iconst dX7_pairInfo_20 rfl (inr_d rfl) rfl) ?_
  refine tok_cons (snd_iret dX7_pairInfo_21 rfl) ?_
  refine tok_cons (snd_aload_n dX7_pairInfo_22 rfl rfl) ?_
  refine tok_cons (snd_gr (C := RX7) (T := TX7) (N := 4) dX7_pairInfo_23 rfl (by decide) rfl wf7_10 inX7 rfl) ?_
  refine tok_cons (snd_gr (C := RX1) (T := TX1) (N := 5) dX7_pairInfo_26 rfl (by decide) rfl wf7_112 inX1 rfl) ?_
  refine tok_cons (snd_iload_n dX7_pairInfo_29 rfl rfl) ?_
  refine tok_cons (snd_aald dX7_pairInfo_30 rfl) ?_
  refine tok_cons (snd_iload_n dX7_pairInfo_31 rfl rfl) ?_
  refine tok_cons (snd_iald dX7_pairInfo_32 rfl) ?_
  refine tok_cons (snd_iret dX7_pairInfo_33 rfl) ?_
  exact tok_nil
def tab_7_noteCount (X : XT) : Tab := [(0, false, a_iload 1 1), (1, false, a_sv X M_7_noteCount M_7_isSide 1 4), (4, false, a_if 0 21 7), (7, false, a_aload 0 8), (8, false, a_gr 7 0 11), (11, false, a_iload 1 12), (12, false, a_cv X M_7_noteCount M_1_notes 1 2 15), (15, false, a_gi 4 0 0 18), (18, false, a_goto 22), (21, false, a_const (-1) 22), (22, false, a_iret M_7_noteCount)]
set_option maxRecDepth 20000 in
theorem t_7_noteCount (X : XT) : tget (tab_7_noteCount X) 0 = some (false, a_iload 1 1) ∧ tget (tab_7_noteCount X) 1 = some (false, a_sv X M_7_noteCount M_7_isSide 1 4) ∧ tget (tab_7_noteCount X) 4 = some (false, a_if 0 21 7) ∧ tget (tab_7_noteCount X) 7 = some (false, a_aload 0 8) ∧ tget (tab_7_noteCount X) 8 = some (false, a_gr 7 0 11) ∧ tget (tab_7_noteCount X) 11 = some (false, a_iload 1 12) ∧ tget (tab_7_noteCount X) 12 = some (false, a_cv X M_7_noteCount M_1_notes 1 2 15) ∧ tget (tab_7_noteCount X) 15 = some (false, a_gi 4 0 0 18) ∧ tget (tab_7_noteCount X) 18 = some (false, a_goto 22) ∧ tget (tab_7_noteCount X) 21 = some (false, a_const (-1) 22) ∧ tget (tab_7_noteCount X) 22 = some (false, a_iret M_7_noteCount) := ⟨rfl, rfl, rfl, rfl, rfl, rfl, rfl, rfl, rfl, rfl, rfl⟩
theorem tok_7_noteCount (X : XT) : TabOK X M_7_noteCount (tab_7_noteCount X) := by
  unfold tab_7_noteCount
  refine tok_cons (snd_iload_n dX7_noteCount_0 rfl rfl) ?_
  refine tok_cons (snd_sv dX7_noteCount_1 mok_7_isSide ⟨ws_7_isSide, Or.inl ⟨wm7_60, rfl⟩⟩ pn_7_isSide (by decide) ⟨rfl, rfl⟩ rfl) ?_
  refine tok_cons (snd_if_eq dX7_noteCount_4 (by decide) rfl) ?_
  refine tok_cons (snd_aload_n dX7_noteCount_7 rfl rfl) ?_
  refine tok_cons (snd_gr (C := RX7) (T := TX7) (N := 4) dX7_noteCount_8 rfl (by decide) rfl wf7_10 inX7 rfl) ?_
  refine tok_cons (snd_iload_n dX7_noteCount_11 rfl rfl) ?_
  refine tok_cons (snd_cv dX7_noteCount_12 mok_1_notes ⟨wm7_63, wi_1_notes, wl_1_notes⟩ (rc := (RX1, TX1, 5)) rfl rfl pn_1_notes (by decide) ⟨rfl, rfl⟩ rfl) ?_
  refine tok_cons (snd_gi (C := RX4) (T := TX4) (N := 2) dX7_noteCount_15 rfl (by decide) rfl wf7_84 inX4 rfl rfl) ?_
  refine tok_cons (snd_goto dX7_noteCount_18 (by decide)) ?_
  refine tok_cons (snd_iconst dX7_noteCount_21 rfl (inr_d rfl) rfl) ?_
  refine tok_cons (snd_iret dX7_noteCount_22 rfl) ?_
  exact tok_nil
def tab_7_noteInfo (X : XT) : Tab := [(0, false, a_iload 1 1), (1, false, a_sv X M_7_noteInfo M_7_isSide 1 4), (4, false, a_if 0 20 7), (7, false, a_iload 2 8), (8, false, a_if 2 20 11), (11, false, a_iload 3 12), (12, false, a_const 0 13), (13, false, a_const 2 14), (14, false, a_sv X M_7_noteInfo M_7_isIn 3 17), (17, false, a_if 1 22 20), (20, false, a_const (-1) 21), (21, false, a_iret M_7_noteInfo), (22, false, a_aload 0 23), (23, false, a_gr 7 0 26), (26, false, a_iload 1 27), (27, false, a_cv X M_7_noteInfo M_1_notes 1 2 30), (30, false, a_astore 4 32), (32, false, a_iload 2 33), (33, false, a_aload 4 35), (35, false, a_gi 4 0 0 38), (38, false, a_icmp 3 53 41), (41, false, a_aload 4 43), (43, false, a_gr 4 1 46), (46, false, a_iload 3 47), (47, false, a_aald 48), (48, false, a_iload 2 49), (49, false, a_ald false 50), (50, false, a_goto 55), (53, false, a_const (-4) 55), (55, false, a_iret M_7_noteInfo)]
set_option maxRecDepth 20000 in
theorem t_7_noteInfo (X : XT) : tget (tab_7_noteInfo X) 0 = some (false, a_iload 1 1) ∧ tget (tab_7_noteInfo X) 1 = some (false, a_sv X M_7_noteInfo M_7_isSide 1 4) ∧ tget (tab_7_noteInfo X) 4 = some (false, a_if 0 20 7) ∧ tget (tab_7_noteInfo X) 7 = some (false, a_iload 2 8) ∧ tget (tab_7_noteInfo X) 8 = some (false, a_if 2 20 11) ∧ tget (tab_7_noteInfo X) 11 = some (false, a_iload 3 12) ∧ tget (tab_7_noteInfo X) 12 = some (false, a_const 0 13) ∧ tget (tab_7_noteInfo X) 13 = some (false, a_const 2 14) ∧ tget (tab_7_noteInfo X) 14 = some (false, a_sv X M_7_noteInfo M_7_isIn 3 17) ∧ tget (tab_7_noteInfo X) 17 = some (false, a_if 1 22 20) ∧ tget (tab_7_noteInfo X) 20 = some (false, a_const (-1) 21) ∧ tget (tab_7_noteInfo X) 21 = some (false, a_iret M_7_noteInfo) ∧ tget (tab_7_noteInfo X) 22 = some (false, a_aload 0 23) ∧ tget (tab_7_noteInfo X) 23 = some (false, a_gr 7 0 26) ∧ tget (tab_7_noteInfo X) 26 = some (false, a_iload 1 27) ∧ tget (tab_7_noteInfo X) 27 = some (false, a_cv X M_7_noteInfo M_1_notes 1 2 30) ∧ tget (tab_7_noteInfo X) 30 = some (false, a_astore 4 32) ∧ tget (tab_7_noteInfo X) 32 = some (false, a_iload 2 33) ∧ tget (tab_7_noteInfo X) 33 = some (false, a_aload 4 35) ∧ tget (tab_7_noteInfo X) 35 = some (false, a_gi 4 0 0 38) ∧ tget (tab_7_noteInfo X) 38 = some (false, a_icmp 3 53 41) ∧ tget (tab_7_noteInfo X) 41 = some (false, a_aload 4 43) ∧ tget (tab_7_noteInfo X) 43 = some (false, a_gr 4 1 46) ∧ tget (tab_7_noteInfo X) 46 = some (false, a_iload 3 47) ∧ tget (tab_7_noteInfo X) 47 = some (false, a_aald 48) ∧ tget (tab_7_noteInfo X) 48 = some (false, a_iload 2 49) ∧ tget (tab_7_noteInfo X) 49 = some (false, a_ald false 50) ∧ tget (tab_7_noteInfo X) 50 = some (false, a_goto 55) ∧ tget (tab_7_noteInfo X) 53 = some (false, a_const (-4) 55) ∧ tget (tab_7_noteInfo X) 55 = some (false, a_iret M_7_noteInfo) := ⟨rfl, rfl, rfl, rfl, rfl, rfl, rfl, rfl, rfl, rfl, rfl, rfl, rfl, rfl, rfl, rfl, rfl, rfl, rfl, rfl, rfl, rfl, rfl, rfl, rfl, rfl, rfl, rfl, rfl, rfl⟩
theorem tok_7_noteInfo (X : XT) : TabOK X M_7_noteInfo (tab_7_noteInfo X) := by
  unfold tab_7_noteInfo
  refine tok_cons (snd_iload_n dX7_noteInfo_0 rfl rfl) ?_
  refine tok_cons (snd_sv dX7_noteInfo_1 mok_7_isSide ⟨ws_7_isSide, Or.inl ⟨wm7_60, rfl⟩⟩ pn_7_isSide (by decide) ⟨rfl, rfl⟩ rfl) ?_
  refine tok_cons (snd_if_eq dX7_noteInfo_4 (by decide) rfl) ?_
  refine tok_cons (snd_iload_n dX7_noteInfo_7 rfl rfl) ?_
  refine tok_cons (snd_if_lt dX7_noteInfo_8 (by decide) rfl) ?_
  refine tok_cons (snd_iload_n dX7_noteInfo_11 rfl rfl) ?_
  refine tok_cons (snd_iconst dX7_noteInfo_12 rfl (inr_d rfl) rfl) ?_
  refine tok_cons (snd_iconst dX7_noteInfo_13 rfl (inr_d rfl) rfl) ?_
  refine tok_cons (snd_sv dX7_noteInfo_14 mok_7_isIn ⟨ws_7_isIn, Or.inl ⟨wm7_41, rfl⟩⟩ pn_7_isIn (by decide) ⟨rfl, rfl⟩ rfl) ?_
  refine tok_cons (snd_if_ne dX7_noteInfo_17 (by decide) rfl) ?_
  refine tok_cons (snd_iconst dX7_noteInfo_20 rfl (inr_d rfl) rfl) ?_
  refine tok_cons (snd_iret dX7_noteInfo_21 rfl) ?_
  refine tok_cons (snd_aload_n dX7_noteInfo_22 rfl rfl) ?_
  refine tok_cons (snd_gr (C := RX7) (T := TX7) (N := 4) dX7_noteInfo_23 rfl (by decide) rfl wf7_10 inX7 rfl) ?_
  refine tok_cons (snd_iload_n dX7_noteInfo_26 rfl rfl) ?_
  refine tok_cons (snd_cv dX7_noteInfo_27 mok_1_notes ⟨wm7_63, wi_1_notes, wl_1_notes⟩ (rc := (RX1, TX1, 5)) rfl rfl pn_1_notes (by decide) ⟨rfl, rfl⟩ rfl) ?_
  refine tok_cons (snd_astore dX7_noteInfo_30 rfl (by decide)) ?_
  refine tok_cons (snd_iload_n dX7_noteInfo_32 rfl rfl) ?_
  refine tok_cons (snd_aload dX7_noteInfo_33 rfl) ?_
  refine tok_cons (snd_gi (C := RX4) (T := TX4) (N := 2) dX7_noteInfo_35 rfl (by decide) rfl wf7_84 inX4 rfl rfl) ?_
  refine tok_cons (snd_icmp_ge dX7_noteInfo_38 (by decide) rfl) ?_
  refine tok_cons (snd_aload dX7_noteInfo_41 rfl) ?_
  refine tok_cons (snd_gr (C := RX4) (T := TX4) (N := 2) dX7_noteInfo_43 rfl (by decide) rfl wf7_116 inX4 rfl) ?_
  refine tok_cons (snd_iload_n dX7_noteInfo_46 rfl rfl) ?_
  refine tok_cons (snd_aald dX7_noteInfo_47 rfl) ?_
  refine tok_cons (snd_iload_n dX7_noteInfo_48 rfl rfl) ?_
  refine tok_cons (snd_iald dX7_noteInfo_49 rfl) ?_
  refine tok_cons (snd_goto dX7_noteInfo_50 (by decide)) ?_
  refine tok_cons (snd_bipush dX7_noteInfo_53 (by decide) (inr_d rfl) rfl) ?_
  refine tok_cons (snd_iret dX7_noteInfo_55 rfl) ?_
  exact tok_nil
def tab_0_searchFrom (X : XT) : Tab := [(0, false, a_aload 0 1), (1, false, a_gr 0 3 4), (4, false, a_iload 2 5), (5, false, a_const (-1) 6), (6, false, a_ast false 7), (7, false, a_aload 0 8), (8, false, a_gr 0 5 11), (11, false, a_const 0 12), (12, false, a_const 0 13), (13, false, a_aload 1 14), (14, false, a_gr 1 2 17), (17, false, a_iload 2 18), (18, false, a_const 0 19), (19, false, a_cv X M_0_searchFrom M_4_before 4 3 22), (22, false, a_cn X M_0_searchFrom M_2_turn 2 4 25), (25, false, a_aload 0 26), (26, false, a_gr 0 5 29), (29, false, a_const 1 30), (30, false, a_const 0 31), (31, false, a_aload 1 32), (32, false, a_gr 1 3 35), (35, false, a_iload 2 36), (36, false, a_const 0 37), (37, false, a_cv X M_0_searchFrom M_4_before 4 3 40), (40, false, a_cn X M_0_searchFrom M_2_turn 2 4 43), (43, false, a_iload 2 44), (44, false, a_istore 3 45), (45, true, a_iload 3 46), (46, false, a_aload 1 47), (47, false, a_gi 1 0 0 50), (50, false, a_icmp 3 131 53), (53, false, a_iload 3 54), (54, false, a_iload 2 55), (55, false, a_icmp 5 71 58), (58, false, a_aload 1 59), (59, false, a_gr 1 1 62), (62, false, a_const 3 63), (63, false, a_aald 64), (64, false, a_iload 3 65), (65, false, a_ald false 66), (66, false, a_const 1 67), (67, false, a_icmp 1 71 70), (70, false, a_ret M_0_searchFrom), (71, false, a_aload 0 72), (72, false, a_gr 0 6 75), (75, false, a_aload 1 76), (76, false, a_iload 3 77), (77, false, a_cn X M_0_searchFrom M_5_takePair 5 3 80), (80, false, a_aload 0 81), (81, false, a_gr 0 5 84), (84, false, a_aload 1 85), (85, false, a_aload 0 86), (86, false, a_gr 0 6 89), (89, false, a_cn X M_0_searchFrom M_2_put 2 3 92), (92, false, a_aload 0 93), (93, false, a_gr 0 5 96), (96, false, a_aload 1 97), (97, false, a_gr 1 4 100), (100, false, a_const 0 101), (101, false, a_ald false 102), (102, false, a_aload 1 103), (103, false, a_gr 1 4 106), (106, false, a_const 2 107), (107, false, a_ald false 108), (108, false, a_const 0 109), (109, false, a_cv X M_0_searchFrom M_2_fits 2 4 112), (112, false, a_if 1 116 115), (115, false, a_ret M_0_searchFrom), (116, false, a_aload 0 117), (117, false, a_aload 1 118), (118, false, a_iload 2 119), (119, false, a_iload 3 120), (120, false, a_const 1 121), (121, false, a_add 122), (122, false, a_cn X M_0_searchFrom M_0_considerGroup 0 4 125), (125, false, a_iinc 3 1 128), (128, false, a_goto 45), (131, false, a_ret M_0_searchFrom)]
set_option maxRecDepth 20000 in
theorem t_0_searchFrom (X : XT) : tget (tab_0_searchFrom X) 0 = some (false, a_aload 0 1) ∧ tget (tab_0_searchFrom X) 1 = some (false, a_gr 0 3 4) ∧ tget (tab_0_searchFrom X) 4 = some (false, a_iload 2 5) ∧ tget (tab_0_searchFrom X) 5 = some (false, a_const (-1) 6) ∧ tget (tab_0_searchFrom X) 6 = some (false, a_ast false 7) ∧ tget (tab_0_searchFrom X) 7 = some (false, a_aload 0 8) ∧ tget (tab_0_searchFrom X) 8 = some (false, a_gr 0 5 11) ∧ tget (tab_0_searchFrom X) 11 = some (false, a_const 0 12) ∧ tget (tab_0_searchFrom X) 12 = some (false, a_const 0 13) ∧ tget (tab_0_searchFrom X) 13 = some (false, a_aload 1 14) ∧ tget (tab_0_searchFrom X) 14 = some (false, a_gr 1 2 17) ∧ tget (tab_0_searchFrom X) 17 = some (false, a_iload 2 18) ∧ tget (tab_0_searchFrom X) 18 = some (false, a_const 0 19) ∧ tget (tab_0_searchFrom X) 19 = some (false, a_cv X M_0_searchFrom M_4_before 4 3 22) ∧ tget (tab_0_searchFrom X) 22 = some (false, a_cn X M_0_searchFrom M_2_turn 2 4 25) ∧ tget (tab_0_searchFrom X) 25 = some (false, a_aload 0 26) ∧ tget (tab_0_searchFrom X) 26 = some (false, a_gr 0 5 29) ∧ tget (tab_0_searchFrom X) 29 = some (false, a_const 1 30) ∧ tget (tab_0_searchFrom X) 30 = some (false, a_const 0 31) ∧ tget (tab_0_searchFrom X) 31 = some (false, a_aload 1 32) ∧ tget (tab_0_searchFrom X) 32 = some (false, a_gr 1 3 35) ∧ tget (tab_0_searchFrom X) 35 = some (false, a_iload 2 36) ∧ tget (tab_0_searchFrom X) 36 = some (false, a_const 0 37) ∧ tget (tab_0_searchFrom X) 37 = some (false, a_cv X M_0_searchFrom M_4_before 4 3 40) ∧ tget (tab_0_searchFrom X) 40 = some (false, a_cn X M_0_searchFrom M_2_turn 2 4 43) ∧ tget (tab_0_searchFrom X) 43 = some (false, a_iload 2 44) ∧ tget (tab_0_searchFrom X) 44 = some (false, a_istore 3 45) ∧ tget (tab_0_searchFrom X) 45 = some (true, a_iload 3 46) ∧ tget (tab_0_searchFrom X) 46 = some (false, a_aload 1 47) ∧ tget (tab_0_searchFrom X) 47 = some (false, a_gi 1 0 0 50) ∧ tget (tab_0_searchFrom X) 50 = some (false, a_icmp 3 131 53) ∧ tget (tab_0_searchFrom X) 53 = some (false, a_iload 3 54) ∧ tget (tab_0_searchFrom X) 54 = some (false, a_iload 2 55) ∧ tget (tab_0_searchFrom X) 55 = some (false, a_icmp 5 71 58) ∧ tget (tab_0_searchFrom X) 58 = some (false, a_aload 1 59) ∧ tget (tab_0_searchFrom X) 59 = some (false, a_gr 1 1 62) ∧ tget (tab_0_searchFrom X) 62 = some (false, a_const 3 63) ∧ tget (tab_0_searchFrom X) 63 = some (false, a_aald 64) ∧ tget (tab_0_searchFrom X) 64 = some (false, a_iload 3 65) ∧ tget (tab_0_searchFrom X) 65 = some (false, a_ald false 66) ∧ tget (tab_0_searchFrom X) 66 = some (false, a_const 1 67) ∧ tget (tab_0_searchFrom X) 67 = some (false, a_icmp 1 71 70) ∧ tget (tab_0_searchFrom X) 70 = some (false, a_ret M_0_searchFrom) ∧ tget (tab_0_searchFrom X) 71 = some (false, a_aload 0 72) ∧ tget (tab_0_searchFrom X) 72 = some (false, a_gr 0 6 75) ∧ tget (tab_0_searchFrom X) 75 = some (false, a_aload 1 76) ∧ tget (tab_0_searchFrom X) 76 = some (false, a_iload 3 77) ∧ tget (tab_0_searchFrom X) 77 = some (false, a_cn X M_0_searchFrom M_5_takePair 5 3 80) ∧ tget (tab_0_searchFrom X) 80 = some (false, a_aload 0 81) ∧ tget (tab_0_searchFrom X) 81 = some (false, a_gr 0 5 84) ∧ tget (tab_0_searchFrom X) 84 = some (false, a_aload 1 85) ∧ tget (tab_0_searchFrom X) 85 = some (false, a_aload 0 86) ∧ tget (tab_0_searchFrom X) 86 = some (false, a_gr 0 6 89) ∧ tget (tab_0_searchFrom X) 89 = some (false, a_cn X M_0_searchFrom M_2_put 2 3 92) ∧ tget (tab_0_searchFrom X) 92 = some (false, a_aload 0 93) ∧ tget (tab_0_searchFrom X) 93 = some (false, a_gr 0 5 96) ∧ tget (tab_0_searchFrom X) 96 = some (false, a_aload 1 97) ∧ tget (tab_0_searchFrom X) 97 = some (false, a_gr 1 4 100) ∧ tget (tab_0_searchFrom X) 100 = some (false, a_const 0 101) ∧ tget (tab_0_searchFrom X) 101 = some (false, a_ald false 102) ∧ tget (tab_0_searchFrom X) 102 = some (false, a_aload 1 103) ∧ tget (tab_0_searchFrom X) 103 = some (false, a_gr 1 4 106) ∧ tget (tab_0_searchFrom X) 106 = some (false, a_const 2 107) ∧ tget (tab_0_searchFrom X) 107 = some (false, a_ald false 108) ∧ tget (tab_0_searchFrom X) 108 = some (false, a_const 0 109) ∧ tget (tab_0_searchFrom X) 109 = some (false, a_cv X M_0_searchFrom M_2_fits 2 4 112) ∧ tget (tab_0_searchFrom X) 112 = some (false, a_if 1 116 115) ∧ tget (tab_0_searchFrom X) 115 = some (false, a_ret M_0_searchFrom) ∧ tget (tab_0_searchFrom X) 116 = some (false, a_aload 0 117) ∧ tget (tab_0_searchFrom X) 117 = some (false, a_aload 1 118) ∧ tget (tab_0_searchFrom X) 118 = some (false, a_iload 2 119) ∧ tget (tab_0_searchFrom X) 119 = some (false, a_iload 3 120) ∧ tget (tab_0_searchFrom X) 120 = some (false, a_const 1 121) ∧ tget (tab_0_searchFrom X) 121 = some (false, a_add 122) ∧ tget (tab_0_searchFrom X) 122 = some (false, a_cn X M_0_searchFrom M_0_considerGroup 0 4 125) ∧ tget (tab_0_searchFrom X) 125 = some (false, a_iinc 3 1 128) ∧ tget (tab_0_searchFrom X) 128 = some (false, a_goto 45) ∧ tget (tab_0_searchFrom X) 131 = some (false, a_ret M_0_searchFrom) := ⟨rfl, rfl, rfl, rfl, rfl, rfl, rfl, rfl, rfl, rfl, rfl, rfl, rfl, rfl, rfl, rfl, rfl, rfl, rfl, rfl, rfl, rfl, rfl, rfl, rfl, rfl, rfl, rfl, rfl, rfl, rfl, rfl, rfl, rfl, rfl, rfl, rfl, rfl, rfl, rfl, rfl, rfl, rfl, rfl, rfl, rfl, rfl, rfl, rfl, rfl, rfl, rfl, rfl, rfl, rfl, rfl, rfl, rfl, rfl, rfl, rfl, rfl, rfl, rfl, rfl, rfl, rfl, rfl, rfl, rfl, rfl, rfl, rfl, rfl, rfl, rfl, rfl, rfl⟩
theorem tok_0_searchFrom (X : XT) : TabOK X M_0_searchFrom (tab_0_searchFrom X) := by
  unfold tab_0_searchFrom
  refine tok_cons (snd_aload_n dX0_searchFrom_0 rfl rfl) ?_
  refine tok_cons (snd_gr (C := RX0) (T := TX0) (N := 7) dX0_searchFrom_1 rfl (by decide) rfl wf0_15 inX0 rfl) ?_
  refine tok_cons (snd_iload_n dX0_searchFrom_4 rfl rfl) ?_
  refine tok_cons (snd_iconst dX0_searchFrom_5 rfl (inr_d rfl) rfl) ?_
  refine tok_cons (snd_iast dX0_searchFrom_6 rfl) ?_
  refine tok_cons (snd_aload_n dX0_searchFrom_7 rfl rfl) ?_
  refine tok_cons (snd_gr (C := RX0) (T := TX0) (N := 7) dX0_searchFrom_8 rfl (by decide) rfl wf0_24 inX0 rfl) ?_
  refine tok_cons (snd_iconst dX0_searchFrom_11 rfl (inr_d rfl) rfl) ?_
  refine tok_cons (snd_iconst dX0_searchFrom_12 rfl (inr_d rfl) rfl) ?_
  refine tok_cons (snd_aload_n dX0_searchFrom_13 rfl rfl) ?_
  refine tok_cons (snd_gr (C := RX1) (T := TX1) (N := 5) dX0_searchFrom_14 rfl (by decide) rfl wf0_56 inX1 rfl) ?_
  refine tok_cons (snd_iload_n dX0_searchFrom_17 rfl rfl) ?_
  refine tok_cons (snd_iconst dX0_searchFrom_18 rfl (inr_d rfl) rfl) ?_
  refine tok_cons (snd_cv dX0_searchFrom_19 mok_4_before ⟨wm0_60, wi_4_before, wl_4_before⟩ (rc := (RX4, TX4, 2)) rfl rfl pn_4_before (by decide) ⟨rfl, rfl⟩ rfl) ?_
  refine tok_cons (snd_cn dX0_searchFrom_22 mok_2_turn ⟨wm0_66, wi_2_turn, wl_2_turn⟩ (rc := (RX2, TX2, 7)) rfl rfl pn_2_turn (by decide) ⟨rfl, rfl⟩ rfl) ?_
  refine tok_cons (snd_aload_n dX0_searchFrom_25 rfl rfl) ?_
  refine tok_cons (snd_gr (C := RX0) (T := TX0) (N := 7) dX0_searchFrom_26 rfl (by decide) rfl wf0_24 inX0 rfl) ?_
  refine tok_cons (snd_iconst dX0_searchFrom_29 rfl (inr_d rfl) rfl) ?_
  refine tok_cons (snd_iconst dX0_searchFrom_30 rfl (inr_d rfl) rfl) ?_
  refine tok_cons (snd_aload_n dX0_searchFrom_31 rfl rfl) ?_
  refine tok_cons (snd_gr (C := RX1) (T := TX1) (N := 5) dX0_searchFrom_32 rfl (by decide) rfl wf0_70 inX1 rfl) ?_
  refine tok_cons (snd_iload_n dX0_searchFrom_35 rfl rfl) ?_
  refine tok_cons (snd_iconst dX0_searchFrom_36 rfl (inr_d rfl) rfl) ?_
  refine tok_cons (snd_cv dX0_searchFrom_37 mok_4_before ⟨wm0_60, wi_4_before, wl_4_before⟩ (rc := (RX4, TX4, 2)) rfl rfl pn_4_before (by decide) ⟨rfl, rfl⟩ rfl) ?_
  refine tok_cons (snd_cn dX0_searchFrom_40 mok_2_turn ⟨wm0_66, wi_2_turn, wl_2_turn⟩ (rc := (RX2, TX2, 7)) rfl rfl pn_2_turn (by decide) ⟨rfl, rfl⟩ rfl) ?_
  refine tok_cons (snd_iload_n dX0_searchFrom_43 rfl rfl) ?_
  refine tok_cons (snd_istore_n dX0_searchFrom_44 rfl rfl (by decide)) ?_
  refine tok_cons (snd_iload_n dX0_searchFrom_45 rfl rfl) ?_
  refine tok_cons (snd_aload_n dX0_searchFrom_46 rfl rfl) ?_
  refine tok_cons (snd_gi (C := RX1) (T := TX1) (N := 5) dX0_searchFrom_47 rfl (by decide) rfl wf0_39 inX1 rfl rfl) ?_
  refine tok_cons (snd_icmp_ge dX0_searchFrom_50 (by decide) rfl) ?_
  refine tok_cons (snd_iload_n dX0_searchFrom_53 rfl rfl) ?_
  refine tok_cons (snd_iload_n dX0_searchFrom_54 rfl rfl) ?_
  refine tok_cons (snd_icmp_le dX0_searchFrom_55 (by decide) rfl) ?_
  refine tok_cons (snd_aload_n dX0_searchFrom_58 rfl rfl) ?_
  refine tok_cons (snd_gr (C := RX1) (T := TX1) (N := 5) dX0_searchFrom_59 rfl (by decide) rfl wf0_73 inX1 rfl) ?_
  refine tok_cons (snd_iconst dX0_searchFrom_62 rfl (inr_d rfl) rfl) ?_
  refine tok_cons (snd_aald dX0_searchFrom_63 rfl) ?_
  refine tok_cons (snd_iload_n dX0_searchFrom_64 rfl rfl) ?_
  refine tok_cons (snd_iald dX0_searchFrom_65 rfl) ?_
  refine tok_cons (snd_iconst dX0_searchFrom_66 rfl (inr_d rfl) rfl) ?_
  refine tok_cons (snd_icmp_ne dX0_searchFrom_67 (by decide) rfl) ?_
  refine tok_cons (snd_ret dX0_searchFrom_70 rfl) ?_
  refine tok_cons (snd_aload_n dX0_searchFrom_71 rfl rfl) ?_
  refine tok_cons (snd_gr (C := RX0) (T := TX0) (N := 7) dX0_searchFrom_72 rfl (by decide) rfl wf0_31 inX0 rfl) ?_
  refine tok_cons (snd_aload_n dX0_searchFrom_75 rfl rfl) ?_
  refine tok_cons (snd_iload_n dX0_searchFrom_76 rfl rfl) ?_
  refine tok_cons (snd_cn dX0_searchFrom_77 mok_5_takePair ⟨wm0_77, wi_5_takePair, wl_5_takePair⟩ (rc := (RX5, TX5, 3)) rfl rfl pn_5_takePair (by decide) ⟨rfl, rfl⟩ rfl) ?_
  refine tok_cons (snd_aload_n dX0_searchFrom_80 rfl rfl) ?_
  refine tok_cons (snd_gr (C := RX0) (T := TX0) (N := 7) dX0_searchFrom_81 rfl (by decide) rfl wf0_24 inX0 rfl) ?_
  refine tok_cons (snd_aload_n dX0_searchFrom_84 rfl rfl) ?_
  refine tok_cons (snd_aload_n dX0_searchFrom_85 rfl rfl) ?_
  refine tok_cons (snd_gr (C := RX0) (T := TX0) (N := 7) dX0_searchFrom_86 rfl (by decide) rfl wf0_31 inX0 rfl) ?_
  refine tok_cons (snd_cn dX0_searchFrom_89 mok_2_put ⟨wm0_80, wi_2_put, wl_2_put⟩ (rc := (RX2, TX2, 7)) rfl rfl pn_2_put (by decide) ⟨rfl, rfl⟩ rfl) ?_
  refine tok_cons (snd_aload_n dX0_searchFrom_92 rfl rfl) ?_
  refine tok_cons (snd_gr (C := RX0) (T := TX0) (N := 7) dX0_searchFrom_93 rfl (by decide) rfl wf0_24 inX0 rfl) ?_
  refine tok_cons (snd_aload_n dX0_searchFrom_96 rfl rfl) ?_
  refine tok_cons (snd_gr (C := RX1) (T := TX1) (N := 5) dX0_searchFrom_97 rfl (by decide) rfl wf0_84 inX1 rfl) ?_
  refine tok_cons (snd_iconst dX0_searchFrom_100 rfl (inr_d rfl) rfl) ?_
  refine tok_cons (snd_iald dX0_searchFrom_101 rfl) ?_
  refine tok_cons (snd_aload_n dX0_searchFrom_102 rfl rfl) ?_
  refine tok_cons (snd_gr (C := RX1) (T := TX1) (N := 5) dX0_searchFrom_103 rfl (by decide) rfl wf0_84 inX1 rfl) ?_
  refine tok_cons (snd_iconst dX0_searchFrom_106 rfl (inr_d rfl) rfl) ?_
  refine tok_cons (snd_iald dX0_searchFrom_107 rfl) ?_
  refine tok_cons (snd_iconst dX0_searchFrom_108 rfl (inr_d rfl) rfl) ?_
  refine tok_cons (snd_cv dX0_searchFrom_109 mok_2_fits ⟨wm0_87, wi_2_fits, wl_2_fits⟩ (rc := (RX2, TX2, 7)) rfl rfl pn_2_fits (by decide) ⟨rfl, rfl⟩ rfl) ?_
  refine tok_cons (snd_if_ne dX0_searchFrom_112 (by decide) rfl) ?_
  refine tok_cons (snd_ret dX0_searchFrom_115 rfl) ?_
  refine tok_cons (snd_aload_n dX0_searchFrom_116 rfl rfl) ?_
  refine tok_cons (snd_aload_n dX0_searchFrom_117 rfl rfl) ?_
  refine tok_cons (snd_iload_n dX0_searchFrom_118 rfl rfl) ?_
  refine tok_cons (snd_iload_n dX0_searchFrom_119 rfl rfl) ?_
  refine tok_cons (snd_iconst dX0_searchFrom_120 rfl (inr_d rfl) rfl) ?_
  refine tok_cons (snd_add dX0_searchFrom_121 rfl) ?_
  refine tok_cons (snd_cn dX0_searchFrom_122 mok_0_considerGroup ⟨wm0_91, wi_0_considerGroup, wl_0_considerGroup⟩ (rc := (RX0, TX0, 7)) rfl rfl pn_0_considerGroup (by decide) ⟨rfl, rfl⟩ rfl) ?_
  refine tok_cons (snd_iinc dX0_searchFrom_125 rfl rfl (by decide)) ?_
  refine tok_cons (snd_goto dX0_searchFrom_128 (by decide)) ?_
  refine tok_cons (snd_ret dX0_searchFrom_131 rfl) ?_
  exact tok_nil
def tab_1_placePair (X : XT) : Tab := [(0, false, a_const 0 1), (1, false, a_istore 4 3), (3, false, a_iload 4 5), (5, false, a_const 4 6), (6, false, a_icmp 3 30 9), (9, false, a_aload 0 10), (10, false, a_gr 1 1 13), (13, false, a_iload 4 15), (15, false, a_aald 16), (16, false, a_iload 1 17), (17, false, a_aload 0 18), (18, false, a_gi 1 0 0 21), (21, false, a_sn X M_1_placePair M_7_openPlace 3 24), (24, false, a_iinc 4 1 27), (27, false, a_goto 3), (30, false, a_aload 0 31), (31, false, a_gr 1 1 34), (34, false, a_const 0 35), (35, false, a_aald 36), (36, false, a_iload 1 37), (37, false, a_iload 2 38), (38, false, a_ast false 39), (39, false, a_aload 0 40), (40, false, a_gr 1 1 43), (43, false, a_const 1 44), (44, false, a_aald 45), (45, false, a_iload 1 46), (46, false, a_iload 3 47), (47, false, a_ast false 48), (48, false, a_aload 0 49), (49, false, a_gr 1 1 52), (52, false, a_const 2 53), (53, false, a_aald 54), (54, false, a_iload 1 55), (55, false, a_const 0 56), (56, false, a_ast false 57), (57, false, a_aload 0 58), (58, false, a_gr 1 1 61), (61, false, a_const 3 62), (62, false, a_aald 63), (63, false, a_iload 1 64), (64, false, a_const 0 65), (65, false, a_ast false 66), (66, false, a_aload 0 67), (67, false, a_dup 68), (68, false, a_gi 1 0 0 71), (71, false, a_const 1 72), (72, false, a_add 73), (73, false, a_pi 1 0 0 false 76), (76, false, a_aload 0 77), (77, false, a_gr 1 2 80), (80, false, a_iload 1 81), (81, false, a_const 1 82), (82, false, a_cn X M_1_placePair M_4_movePairs 4 3 85), (85, false, a_aload 0 86), (86, false, a_gr 1 3 89), (89, false, a_iload 1 90), (90, false, a_const 1 91), (91, false, a_cn X M_1_placePair M_4_movePairs 4 3 94), (94, false, a_ret M_1_placePair)]
set_option maxRecDepth 20000 in
theorem t_1_placePair (X : XT) : tget (tab_1_placePair X) 0 = some (false, a_const 0 1) ∧ tget (tab_1_placePair X) 1 = some (false, a_istore 4 3) ∧ tget (tab_1_placePair X) 3 = some (false, a_iload 4 5) ∧ tget (tab_1_placePair X) 5 = some (false, a_const 4 6) ∧ tget (tab_1_placePair X) 6 = some (false, a_icmp 3 30 9) ∧ tget (tab_1_placePair X) 9 = some (false, a_aload 0 10) ∧ tget (tab_1_placePair X) 10 = some (false, a_gr 1 1 13) ∧ tget (tab_1_placePair X) 13 = some (false, a_iload 4 15) ∧ tget (tab_1_placePair X) 15 = some (false, a_aald 16) ∧ tget (tab_1_placePair X) 16 = some (false, a_iload 1 17) ∧ tget (tab_1_placePair X) 17 = some (false, a_aload 0 18) ∧ tget (tab_1_placePair X) 18 = some (false, a_gi 1 0 0 21) ∧ tget (tab_1_placePair X) 21 = some (false, a_sn X M_1_placePair M_7_openPlace 3 24) ∧ tget (tab_1_placePair X) 24 = some (false, a_iinc 4 1 27) ∧ tget (tab_1_placePair X) 27 = some (false, a_goto 3) ∧ tget (tab_1_placePair X) 30 = some (false, a_aload 0 31) ∧ tget (tab_1_placePair X) 31 = some (false, a_gr 1 1 34) ∧ tget (tab_1_placePair X) 34 = some (false, a_const 0 35) ∧ tget (tab_1_placePair X) 35 = some (false, a_aald 36) ∧ tget (tab_1_placePair X) 36 = some (false, a_iload 1 37) ∧ tget (tab_1_placePair X) 37 = some (false, a_iload 2 38) ∧ tget (tab_1_placePair X) 38 = some (false, a_ast false 39) ∧ tget (tab_1_placePair X) 39 = some (false, a_aload 0 40) ∧ tget (tab_1_placePair X) 40 = some (false, a_gr 1 1 43) ∧ tget (tab_1_placePair X) 43 = some (false, a_const 1 44) ∧ tget (tab_1_placePair X) 44 = some (false, a_aald 45) ∧ tget (tab_1_placePair X) 45 = some (false, a_iload 1 46) ∧ tget (tab_1_placePair X) 46 = some (false, a_iload 3 47) ∧ tget (tab_1_placePair X) 47 = some (false, a_ast false 48) ∧ tget (tab_1_placePair X) 48 = some (false, a_aload 0 49) ∧ tget (tab_1_placePair X) 49 = some (false, a_gr 1 1 52) ∧ tget (tab_1_placePair X) 52 = some (false, a_const 2 53) ∧ tget (tab_1_placePair X) 53 = some (false, a_aald 54) ∧ tget (tab_1_placePair X) 54 = some (false, a_iload 1 55) ∧ tget (tab_1_placePair X) 55 = some (false, a_const 0 56) ∧ tget (tab_1_placePair X) 56 = some (false, a_ast false 57) ∧ tget (tab_1_placePair X) 57 = some (false, a_aload 0 58) ∧ tget (tab_1_placePair X) 58 = some (false, a_gr 1 1 61) ∧ tget (tab_1_placePair X) 61 = some (false, a_const 3 62) ∧ tget (tab_1_placePair X) 62 = some (false, a_aald 63) ∧ tget (tab_1_placePair X) 63 = some (false, a_iload 1 64) ∧ tget (tab_1_placePair X) 64 = some (false, a_const 0 65) ∧ tget (tab_1_placePair X) 65 = some (false, a_ast false 66) ∧ tget (tab_1_placePair X) 66 = some (false, a_aload 0 67) ∧ tget (tab_1_placePair X) 67 = some (false, a_dup 68) ∧ tget (tab_1_placePair X) 68 = some (false, a_gi 1 0 0 71) ∧ tget (tab_1_placePair X) 71 = some (false, a_const 1 72) ∧ tget (tab_1_placePair X) 72 = some (false, a_add 73) ∧ tget (tab_1_placePair X) 73 = some (false, a_pi 1 0 0 false 76) ∧ tget (tab_1_placePair X) 76 = some (false, a_aload 0 77) ∧ tget (tab_1_placePair X) 77 = some (false, a_gr 1 2 80) ∧ tget (tab_1_placePair X) 80 = some (false, a_iload 1 81) ∧ tget (tab_1_placePair X) 81 = some (false, a_const 1 82) ∧ tget (tab_1_placePair X) 82 = some (false, a_cn X M_1_placePair M_4_movePairs 4 3 85) ∧ tget (tab_1_placePair X) 85 = some (false, a_aload 0 86) ∧ tget (tab_1_placePair X) 86 = some (false, a_gr 1 3 89) ∧ tget (tab_1_placePair X) 89 = some (false, a_iload 1 90) ∧ tget (tab_1_placePair X) 90 = some (false, a_const 1 91) ∧ tget (tab_1_placePair X) 91 = some (false, a_cn X M_1_placePair M_4_movePairs 4 3 94) ∧ tget (tab_1_placePair X) 94 = some (false, a_ret M_1_placePair) := ⟨rfl, rfl, rfl, rfl, rfl, rfl, rfl, rfl, rfl, rfl, rfl, rfl, rfl, rfl, rfl, rfl, rfl, rfl, rfl, rfl, rfl, rfl, rfl, rfl, rfl, rfl, rfl, rfl, rfl, rfl, rfl, rfl, rfl, rfl, rfl, rfl, rfl, rfl, rfl, rfl, rfl, rfl, rfl, rfl, rfl, rfl, rfl, rfl, rfl, rfl, rfl, rfl, rfl, rfl, rfl, rfl, rfl, rfl, rfl, rfl⟩
theorem tok_1_placePair (X : XT) : TabOK X M_1_placePair (tab_1_placePair X) := by
  unfold tab_1_placePair
  refine tok_cons (snd_iconst dX1_placePair_0 rfl (inr_d rfl) rfl) ?_
  refine tok_cons (snd_istore dX1_placePair_1 rfl (by decide)) ?_
  refine tok_cons (snd_iload dX1_placePair_3 rfl) ?_
  refine tok_cons (snd_iconst dX1_placePair_5 rfl (inr_d rfl) rfl) ?_
  refine tok_cons (snd_icmp_ge dX1_placePair_6 (by decide) rfl) ?_
  refine tok_cons (snd_aload_n dX1_placePair_9 rfl rfl) ?_
  refine tok_cons (snd_gr (C := RX1) (T := TX1) (N := 5) dX1_placePair_10 rfl (by decide) rfl wf1_11 inX1 rfl) ?_
  refine tok_cons (snd_iload dX1_placePair_13 rfl) ?_
  refine tok_cons (snd_aald dX1_placePair_15 rfl) ?_
  refine tok_cons (snd_iload_n dX1_placePair_16 rfl rfl) ?_
  refine tok_cons (snd_aload_n dX1_placePair_17 rfl rfl) ?_
  refine tok_cons (snd_gi (C := RX1) (T := TX1) (N := 5) dX1_placePair_18 rfl (by decide) rfl wf1_38 inX1 rfl rfl) ?_
  refine tok_cons (snd_sn dX1_placePair_21 mok_7_openPlace ⟨ws_7_openPlace, Or.inr (List.mem_of_getElem? (i := 12) rfl)⟩ pn_7_openPlace (by decide) ⟨rfl, rfl⟩ rfl) ?_
  refine tok_cons (snd_iinc dX1_placePair_24 rfl rfl (by decide)) ?_
  refine tok_cons (snd_goto dX1_placePair_27 (by decide)) ?_
  refine tok_cons (snd_aload_n dX1_placePair_30 rfl rfl) ?_
  refine tok_cons (snd_gr (C := RX1) (T := TX1) (N := 5) dX1_placePair_31 rfl (by decide) rfl wf1_11 inX1 rfl) ?_
  refine tok_cons (snd_iconst dX1_placePair_34 rfl (inr_d rfl) rfl) ?_
  refine tok_cons (snd_aald dX1_placePair_35 rfl) ?_
  refine tok_cons (snd_iload_n dX1_placePair_36 rfl rfl) ?_
  refine tok_cons (snd_iload_n dX1_placePair_37 rfl rfl) ?_
  refine tok_cons (snd_iast dX1_placePair_38 rfl) ?_
  refine tok_cons (snd_aload_n dX1_placePair_39 rfl rfl) ?_
  refine tok_cons (snd_gr (C := RX1) (T := TX1) (N := 5) dX1_placePair_40 rfl (by decide) rfl wf1_11 inX1 rfl) ?_
  refine tok_cons (snd_iconst dX1_placePair_43 rfl (inr_d rfl) rfl) ?_
  refine tok_cons (snd_aald dX1_placePair_44 rfl) ?_
  refine tok_cons (snd_iload_n dX1_placePair_45 rfl rfl) ?_
  refine tok_cons (snd_iload_n dX1_placePair_46 rfl rfl) ?_
  refine tok_cons (snd_iast dX1_placePair_47 rfl) ?_
  refine tok_cons (snd_aload_n dX1_placePair_48 rfl rfl) ?_
  refine tok_cons (snd_gr (C := RX1) (T := TX1) (N := 5) dX1_placePair_49 rfl (by decide) rfl wf1_11 inX1 rfl) ?_
  refine tok_cons (snd_iconst dX1_placePair_52 rfl (inr_d rfl) rfl) ?_
  refine tok_cons (snd_aald dX1_placePair_53 rfl) ?_
  refine tok_cons (snd_iload_n dX1_placePair_54 rfl rfl) ?_
  refine tok_cons (snd_iconst dX1_placePair_55 rfl (inr_d rfl) rfl) ?_
  refine tok_cons (snd_iast dX1_placePair_56 rfl) ?_
  refine tok_cons (snd_aload_n dX1_placePair_57 rfl rfl) ?_
  refine tok_cons (snd_gr (C := RX1) (T := TX1) (N := 5) dX1_placePair_58 rfl (by decide) rfl wf1_11 inX1 rfl) ?_
  refine tok_cons (snd_iconst dX1_placePair_61 rfl (inr_d rfl) rfl) ?_
  refine tok_cons (snd_aald dX1_placePair_62 rfl) ?_
  refine tok_cons (snd_iload_n dX1_placePair_63 rfl rfl) ?_
  refine tok_cons (snd_iconst dX1_placePair_64 rfl (inr_d rfl) rfl) ?_
  refine tok_cons (snd_iast dX1_placePair_65 rfl) ?_
  refine tok_cons (snd_aload_n dX1_placePair_66 rfl rfl) ?_
  refine tok_cons (snd_dup dX1_placePair_67 rfl) ?_
  refine tok_cons (snd_gi (C := RX1) (T := TX1) (N := 5) dX1_placePair_68 rfl (by decide) rfl wf1_38 inX1 rfl rfl) ?_
  refine tok_cons (snd_iconst dX1_placePair_71 rfl (inr_d rfl) rfl) ?_
  refine tok_cons (snd_add dX1_placePair_72 rfl) ?_
  refine tok_cons (snd_pi (C := RX1) (T := TX1) (N := 5) (ty0 := tyX1) dX1_placePair_73 rfl (by decide) rfl wf1_38 inX1 tyX1_ok nmX1 (by decide +kernel) rfl rfl) ?_
  refine tok_cons (snd_aload_n dX1_placePair_76 rfl rfl) ?_
  refine tok_cons (snd_gr (C := RX1) (T := TX1) (N := 5) dX1_placePair_77 rfl (by decide) rfl wf1_19 inX1 rfl) ?_
  refine tok_cons (snd_iload_n dX1_placePair_80 rfl rfl) ?_
  refine tok_cons (snd_iconst dX1_placePair_81 rfl (inr_d rfl) rfl) ?_
  refine tok_cons (snd_cn dX1_placePair_82 mok_4_movePairs ⟨wm1_57, wi_4_movePairs, wl_4_movePairs⟩ (rc := (RX4, TX4, 2)) rfl rfl pn_4_movePairs (by decide) ⟨rfl, rfl⟩ rfl) ?_
  refine tok_cons (snd_aload_n dX1_placePair_85 rfl rfl) ?_
  refine tok_cons (snd_gr (C := RX1) (T := TX1) (N := 5) dX1_placePair_86 rfl (by decide) rfl wf1_23 inX1 rfl) ?_
  refine tok_cons (snd_iload_n dX1_placePair_89 rfl rfl) ?_
  refine tok_cons (snd_iconst dX1_placePair_90 rfl (inr_d rfl) rfl) ?_
  refine tok_cons (snd_cn dX1_placePair_91 mok_4_movePairs ⟨wm1_57, wi_4_movePairs, wl_4_movePairs⟩ (rc := (RX4, TX4, 2)) rfl rfl pn_4_movePairs (by decide) ⟨rfl, rfl⟩ rfl) ?_
  refine tok_cons (snd_ret dX1_placePair_94 rfl) ?_
  exact tok_nil
def tab_3_record (X : XT) : Tab := [(0, false, a_aload 0 1), (1, false, a_gr 3 2 4), (4, false, a_aload 0 5), (5, false, a_gi 3 1 1 8), (8, false, a_aald 9), (9, false, a_astore 2 10), (10, false, a_aload 2 11), (11, false, a_ifnull 14), (14, false, a_aload 2 15), (15, false, a_aload 1 16), (16, false, a_cn X M_3_record M_1_copyFrom 1 2 19), (19, false, a_aload 0 20), (20, false, a_aload 0 21), (21, false, a_gi 3 1 1 24), (24, false, a_const 1 25), (25, false, a_add 26), (26, false, a_const 6 28), (28, false, a_icmp 3 40 31), (31, false, a_aload 0 32), (32, false, a_gi 3 1 1 35), (35, false, a_const 1 36), (36, false, a_add 37), (37, false, a_goto 41), (40, false, a_const 0 41), (41, false, a_pi 3 1 1 false 44), (44, false, a_aload 0 45), (45, false, a_aload 0 46), (46, false, a_gi 3 0 0 49), (49, false, a_const 1 50), (50, false, a_add 51), (51, false, a_const 6 53), (53, false, a_min M_3_record 56), (56, false, a_pi 3 0 0 false 59), (59, false, a_ret M_3_record)]
set_option maxRecDepth 20000 in
theorem t_3_record (X : XT) : tget (tab_3_record X) 0 = some (false, a_aload 0 1) ∧ tget (tab_3_record X) 1 = some (false, a_gr 3 2 4) ∧ tget (tab_3_record X) 4 = some (false, a_aload 0 5) ∧ tget (tab_3_record X) 5 = some (false, a_gi 3 1 1 8) ∧ tget (tab_3_record X) 8 = some (false, a_aald 9) ∧ tget (tab_3_record X) 9 = some (false, a_astore 2 10) ∧ tget (tab_3_record X) 10 = some (false, a_aload 2 11) ∧ tget (tab_3_record X) 11 = some (false, a_ifnull 14) ∧ tget (tab_3_record X) 14 = some (false, a_aload 2 15) ∧ tget (tab_3_record X) 15 = some (false, a_aload 1 16) ∧ tget (tab_3_record X) 16 = some (false, a_cn X M_3_record M_1_copyFrom 1 2 19) ∧ tget (tab_3_record X) 19 = some (false, a_aload 0 20) ∧ tget (tab_3_record X) 20 = some (false, a_aload 0 21) ∧ tget (tab_3_record X) 21 = some (false, a_gi 3 1 1 24) ∧ tget (tab_3_record X) 24 = some (false, a_const 1 25) ∧ tget (tab_3_record X) 25 = some (false, a_add 26) ∧ tget (tab_3_record X) 26 = some (false, a_const 6 28) ∧ tget (tab_3_record X) 28 = some (false, a_icmp 3 40 31) ∧ tget (tab_3_record X) 31 = some (false, a_aload 0 32) ∧ tget (tab_3_record X) 32 = some (false, a_gi 3 1 1 35) ∧ tget (tab_3_record X) 35 = some (false, a_const 1 36) ∧ tget (tab_3_record X) 36 = some (false, a_add 37) ∧ tget (tab_3_record X) 37 = some (false, a_goto 41) ∧ tget (tab_3_record X) 40 = some (false, a_const 0 41) ∧ tget (tab_3_record X) 41 = some (false, a_pi 3 1 1 false 44) ∧ tget (tab_3_record X) 44 = some (false, a_aload 0 45) ∧ tget (tab_3_record X) 45 = some (false, a_aload 0 46) ∧ tget (tab_3_record X) 46 = some (false, a_gi 3 0 0 49) ∧ tget (tab_3_record X) 49 = some (false, a_const 1 50) ∧ tget (tab_3_record X) 50 = some (false, a_add 51) ∧ tget (tab_3_record X) 51 = some (false, a_const 6 53) ∧ tget (tab_3_record X) 53 = some (false, a_min M_3_record 56) ∧ tget (tab_3_record X) 56 = some (false, a_pi 3 0 0 false 59) ∧ tget (tab_3_record X) 59 = some (false, a_ret M_3_record) := ⟨rfl, rfl, rfl, rfl, rfl, rfl, rfl, rfl, rfl, rfl, rfl, rfl, rfl, rfl, rfl, rfl, rfl, rfl, rfl, rfl, rfl, rfl, rfl, rfl, rfl, rfl, rfl, rfl, rfl, rfl, rfl, rfl, rfl, rfl⟩
theorem tok_3_record (X : XT) : TabOK X M_3_record (tab_3_record X) := by
  unfold tab_3_record
  refine tok_cons (snd_aload_n dX3_record_0 rfl rfl) ?_
  refine tok_cons (snd_gr (C := RX3) (T := TX3) (N := 3) dX3_record_1 rfl (by decide) rfl wf3_11 inX3 rfl) ?_
  refine tok_cons (snd_aload_n dX3_record_4 rfl rfl) ?_
  refine tok_cons (snd_gi (C := RX3) (T := TX3) (N := 3) dX3_record_5 rfl (by decide) rfl wf3_18 inX3 rfl rfl) ?_
  refine tok_cons (snd_aald dX3_record_8 rfl) ?_
  refine tok_cons (snd_astore_n dX3_record_9 rfl rfl (by decide)) ?_
  refine tok_cons (snd_aload_n dX3_record_10 rfl rfl) ?_
  refine tok_cons (snd_ifnull dX3_record_11 rfl) ?_
  refine tok_cons (snd_aload_n dX3_record_14 rfl rfl) ?_
  refine tok_cons (snd_aload_n dX3_record_15 rfl rfl) ?_
  refine tok_cons (snd_cn dX3_record_16 mok_1_copyFrom ⟨wm3_22, wi_1_copyFrom, wl_1_copyFrom⟩ (rc := (RX1, TX1, 5)) rfl rfl pn_1_copyFrom (by decide) ⟨rfl, rfl⟩ rfl) ?_
  refine tok_cons (snd_aload_n dX3_record_19 rfl rfl) ?_
  refine tok_cons (snd_aload_n dX3_record_20 rfl rfl) ?_
  refine tok_cons (snd_gi (C := RX3) (T := TX3) (N := 3) dX3_record_21 rfl (by decide) rfl wf3_18 inX3 rfl rfl) ?_
  refine tok_cons (snd_iconst dX3_record_24 rfl (inr_d rfl) rfl) ?_
  refine tok_cons (snd_add dX3_record_25 rfl) ?_
  refine tok_cons (snd_bipush dX3_record_26 (by decide) (inr_d rfl) rfl) ?_
  refine tok_cons (snd_icmp_ge dX3_record_28 (by decide) rfl) ?_
  refine tok_cons (snd_aload_n dX3_record_31 rfl rfl) ?_
  refine tok_cons (snd_gi (C := RX3) (T := TX3) (N := 3) dX3_record_32 rfl (by decide) rfl wf3_18 inX3 rfl rfl) ?_
  refine tok_cons (snd_iconst dX3_record_35 rfl (inr_d rfl) rfl) ?_
  refine tok_cons (snd_add dX3_record_36 rfl) ?_
  refine tok_cons (snd_goto dX3_record_37 (by decide)) ?_
  refine tok_cons (snd_iconst dX3_record_40 rfl (inr_d rfl) rfl) ?_
  refine tok_cons (snd_pi (C := RX3) (T := TX3) (N := 3) (ty0 := tyX3) dX3_record_41 rfl (by decide) rfl wf3_18 inX3 tyX3_ok nmX3 (by decide +kernel) rfl rfl) ?_
  refine tok_cons (snd_aload_n dX3_record_44 rfl rfl) ?_
  refine tok_cons (snd_aload_n dX3_record_45 rfl rfl) ?_
  refine tok_cons (snd_gi (C := RX3) (T := TX3) (N := 3) dX3_record_46 rfl (by decide) rfl wf3_26 inX3 rfl rfl) ?_
  refine tok_cons (snd_iconst dX3_record_49 rfl (inr_d rfl) rfl) ?_
  refine tok_cons (snd_add dX3_record_50 rfl) ?_
  refine tok_cons (snd_bipush dX3_record_51 (by decide) (inr_d rfl) rfl) ?_
  refine tok_cons (snd_min dX3_record_53 wm3_29 ws_min wn_Math wc_min (by decide) rfl) ?_
  refine tok_cons (snd_pi (C := RX3) (T := TX3) (N := 3) (ty0 := tyX3) dX3_record_56 rfl (by decide) rfl wf3_26 inX3 tyX3_ok nmX3 (by decide +kernel) rfl rfl) ?_
  refine tok_cons (snd_ret dX3_record_59 rfl) ?_
  exact tok_nil
def tab_3_restore (X : XT) : Tab := [(0, false, a_aload 0 1), (1, false, a_aload 0 2), (2, false, a_gi 3 1 1 5), (5, false, a_if 5 17 8), (8, false, a_aload 0 9), (9, false, a_gi 3 1 1 12), (12, false, a_const 1 13), (13, false, a_sub 14), (14, false, a_goto 18), (17, false, a_const 5 18), (18, false, a_pi 3 1 1 false 21), (21, false, a_aload 0 22), (22, false, a_dup 23), (23, false, a_gi 3 0 0 26), (26, false, a_const 1 27), (27, false, a_sub 28), (28, false, a_pi 3 0 0 false 31), (31, false, a_aload 0 32), (32, false, a_gr 3 2 35), (35, false, a_aload 0 36), (36, false, a_gi 3 1 1 39), (39, false, a_aald 40), (40, false, a_astore 2 41), (41, false, a_aload 2 42), (42, false, a_ifnull 45), (45, false, a_aload 1 46), (46, false, a_aload 2 47), (47, false, a_cn X M_3_restore M_1_copyFrom 1 2 50), (50, false, a_ret M_3_restore)]
set_option maxRecDepth 20000 in
theorem t_3_restore (X : XT) : tget (tab_3_restore X) 0 = some (false, a_aload 0 1) ∧ tget (tab_3_restore X) 1 = some (false, a_aload 0 2) ∧ tget (tab_3_restore X) 2 = some (false, a_gi 3 1 1 5) ∧ tget (tab_3_restore X) 5 = some (false, a_if 5 17 8) ∧ tget (tab_3_restore X) 8 = some (false, a_aload 0 9) ∧ tget (tab_3_restore X) 9 = some (false, a_gi 3 1 1 12) ∧ tget (tab_3_restore X) 12 = some (false, a_const 1 13) ∧ tget (tab_3_restore X) 13 = some (false, a_sub 14) ∧ tget (tab_3_restore X) 14 = some (false, a_goto 18) ∧ tget (tab_3_restore X) 17 = some (false, a_const 5 18) ∧ tget (tab_3_restore X) 18 = some (false, a_pi 3 1 1 false 21) ∧ tget (tab_3_restore X) 21 = some (false, a_aload 0 22) ∧ tget (tab_3_restore X) 22 = some (false, a_dup 23) ∧ tget (tab_3_restore X) 23 = some (false, a_gi 3 0 0 26) ∧ tget (tab_3_restore X) 26 = some (false, a_const 1 27) ∧ tget (tab_3_restore X) 27 = some (false, a_sub 28) ∧ tget (tab_3_restore X) 28 = some (false, a_pi 3 0 0 false 31) ∧ tget (tab_3_restore X) 31 = some (false, a_aload 0 32) ∧ tget (tab_3_restore X) 32 = some (false, a_gr 3 2 35) ∧ tget (tab_3_restore X) 35 = some (false, a_aload 0 36) ∧ tget (tab_3_restore X) 36 = some (false, a_gi 3 1 1 39) ∧ tget (tab_3_restore X) 39 = some (false, a_aald 40) ∧ tget (tab_3_restore X) 40 = some (false, a_astore 2 41) ∧ tget (tab_3_restore X) 41 = some (false, a_aload 2 42) ∧ tget (tab_3_restore X) 42 = some (false, a_ifnull 45) ∧ tget (tab_3_restore X) 45 = some (false, a_aload 1 46) ∧ tget (tab_3_restore X) 46 = some (false, a_aload 2 47) ∧ tget (tab_3_restore X) 47 = some (false, a_cn X M_3_restore M_1_copyFrom 1 2 50) ∧ tget (tab_3_restore X) 50 = some (false, a_ret M_3_restore) := ⟨rfl, rfl, rfl, rfl, rfl, rfl, rfl, rfl, rfl, rfl, rfl, rfl, rfl, rfl, rfl, rfl, rfl, rfl, rfl, rfl, rfl, rfl, rfl, rfl, rfl, rfl, rfl, rfl, rfl⟩
theorem tok_3_restore (X : XT) : TabOK X M_3_restore (tab_3_restore X) := by
  unfold tab_3_restore
  refine tok_cons (snd_aload_n dX3_restore_0 rfl rfl) ?_
  refine tok_cons (snd_aload_n dX3_restore_1 rfl rfl) ?_
  refine tok_cons (snd_gi (C := RX3) (T := TX3) (N := 3) dX3_restore_2 rfl (by decide) rfl wf3_18 inX3 rfl rfl) ?_
  refine tok_cons (snd_if_le dX3_restore_5 (by decide) rfl) ?_
  refine tok_cons (snd_aload_n dX3_restore_8 rfl rfl) ?_
  refine tok_cons (snd_gi (C := RX3) (T := TX3) (N := 3) dX3_restore_9 rfl (by decide) rfl wf3_18 inX3 rfl rfl) ?_
  refine tok_cons (snd_iconst dX3_restore_12 rfl (inr_d rfl) rfl) ?_
  refine tok_cons (snd_sub dX3_restore_13 rfl) ?_
  refine tok_cons (snd_goto dX3_restore_14 (by decide)) ?_
  refine tok_cons (snd_iconst dX3_restore_17 rfl (inr_d rfl) rfl) ?_
  refine tok_cons (snd_pi (C := RX3) (T := TX3) (N := 3) (ty0 := tyX3) dX3_restore_18 rfl (by decide) rfl wf3_18 inX3 tyX3_ok nmX3 (by decide +kernel) rfl rfl) ?_
  refine tok_cons (snd_aload_n dX3_restore_21 rfl rfl) ?_
  refine tok_cons (snd_dup dX3_restore_22 rfl) ?_
  refine tok_cons (snd_gi (C := RX3) (T := TX3) (N := 3) dX3_restore_23 rfl (by decide) rfl wf3_26 inX3 rfl rfl) ?_
  refine tok_cons (snd_iconst dX3_restore_26 rfl (inr_d rfl) rfl) ?_
  refine tok_cons (snd_sub dX3_restore_27 rfl) ?_
  refine tok_cons (snd_pi (C := RX3) (T := TX3) (N := 3) (ty0 := tyX3) dX3_restore_28 rfl (by decide) rfl wf3_26 inX3 tyX3_ok nmX3 (by decide +kernel) rfl rfl) ?_
  refine tok_cons (snd_aload_n dX3_restore_31 rfl rfl) ?_
  refine tok_cons (snd_gr (C := RX3) (T := TX3) (N := 3) dX3_restore_32 rfl (by decide) rfl wf3_11 inX3 rfl) ?_
  refine tok_cons (snd_aload_n dX3_restore_35 rfl rfl) ?_
  refine tok_cons (snd_gi (C := RX3) (T := TX3) (N := 3) dX3_restore_36 rfl (by decide) rfl wf3_18 inX3 rfl rfl) ?_
  refine tok_cons (snd_aald dX3_restore_39 rfl) ?_
  refine tok_cons (snd_astore_n dX3_restore_40 rfl rfl (by decide)) ?_
  refine tok_cons (snd_aload_n dX3_restore_41 rfl rfl) ?_
  refine tok_cons (snd_ifnull dX3_restore_42 rfl) ?_
  refine tok_cons (snd_aload_n dX3_restore_45 rfl rfl) ?_
  refine tok_cons (snd_aload_n dX3_restore_46 rfl rfl) ?_
  refine tok_cons (snd_cn dX3_restore_47 mok_1_copyFrom ⟨wm3_22, wi_1_copyFrom, wl_1_copyFrom⟩ (rc := (RX1, TX1, 5)) rfl rfl pn_1_copyFrom (by decide) ⟨rfl, rfl⟩ rfl) ?_
  refine tok_cons (snd_ret dX3_restore_50 rfl) ?_
  exact tok_nil
def tab_6_putRest (X : XT) : Tab := [(0, false, a_aload 0 1), (1, false, a_aload 1 2), (2, false, a_aload 0 3), (3, false, a_gr 6 9 6), (6, false, a_const 0 7), (7, false, a_cn X M_6_putRest M_6_addSegment 6 4 10), (10, false, a_aload 0 11), (11, false, a_gr 6 9 14), (14, false, a_aload 1 15), (15, false, a_aload 0 16), (16, false, a_gr 6 9 19), (19, false, a_gi 5 0 0 22), (22, false, a_const 1 23), (23, false, a_add 24), (24, false, a_cn X M_6_putRest M_5_takePair 5 3 27), (27, false, a_ret M_6_putRest)]
set_option maxRecDepth 20000 in
theorem t_6_putRest (X : XT) : tget (tab_6_putRest X) 0 = some (false, a_aload 0 1) ∧ tget (tab_6_putRest X) 1 = some (false, a_aload 1 2) ∧ tget (tab_6_putRest X) 2 = some (false, a_aload 0 3) ∧ tget (tab_6_putRest X) 3 = some (false, a_gr 6 9 6) ∧ tget (tab_6_putRest X) 6 = some (false, a_const 0 7) ∧ tget (tab_6_putRest X) 7 = some (false, a_cn X M_6_putRest M_6_addSegment 6 4 10) ∧ tget (tab_6_putRest X) 10 = some (false, a_aload 0 11) ∧ tget (tab_6_putRest X) 11 = some (false, a_gr 6 9 14) ∧ tget (tab_6_putRest X) 14 = some (false, a_aload 1 15) ∧ tget (tab_6_putRest X) 15 = some (false, a_aload 0 16) ∧ tget (tab_6_putRest X) 16 = some (false, a_gr 6 9 19) ∧ tget (tab_6_putRest X) 19 = some (false, a_gi 5 0 0 22) ∧ tget (tab_6_putRest X) 22 = some (false, a_const 1 23) ∧ tget (tab_6_putRest X) 23 = some (false, a_add 24) ∧ tget (tab_6_putRest X) 24 = some (false, a_cn X M_6_putRest M_5_takePair 5 3 27) ∧ tget (tab_6_putRest X) 27 = some (false, a_ret M_6_putRest) := ⟨rfl, rfl, rfl, rfl, rfl, rfl, rfl, rfl, rfl, rfl, rfl, rfl, rfl, rfl, rfl, rfl⟩
theorem tok_6_putRest (X : XT) : TabOK X M_6_putRest (tab_6_putRest X) := by
  unfold tab_6_putRest
  refine tok_cons (snd_aload_n dX6_putRest_0 rfl rfl) ?_
  refine tok_cons (snd_aload_n dX6_putRest_1 rfl rfl) ?_
  refine tok_cons (snd_aload_n dX6_putRest_2 rfl rfl) ?_
  refine tok_cons (snd_gr (C := RX6) (T := TX6) (N := 11) dX6_putRest_3 rfl (by decide) rfl wf6_43 inX6 rfl) ?_
  refine tok_cons (snd_iconst dX6_putRest_6 rfl (inr_d rfl) rfl) ?_
  refine tok_cons (snd_cn dX6_putRest_7 mok_6_addSegment ⟨wm6_104, wi_6_addSegment, wl_6_addSegment⟩ (rc := (RX6, TX6, 11)) rfl rfl pn_6_addSegment (by decide) ⟨rfl, rfl⟩ rfl) ?_
  refine tok_cons (snd_aload_n dX6_putRest_10 rfl rfl) ?_
  refine tok_cons (snd_gr (C := RX6) (T := TX6) (N := 11) dX6_putRest_11 rfl (by decide) rfl wf6_43 inX6 rfl) ?_
  refine tok_cons (snd_aload_n dX6_putRest_14 rfl rfl) ?_
  refine tok_cons (snd_aload_n dX6_putRest_15 rfl rfl) ?_
  refine tok_cons (snd_gr (C := RX6) (T := TX6) (N := 11) dX6_putRest_16 rfl (by decide) rfl wf6_43 inX6 rfl) ?_
  refine tok_cons (snd_gi (C := RX5) (T := TX5) (N := 3) dX6_putRest_19 rfl (by decide) rfl wf6_64 inX5 rfl rfl) ?_
  refine tok_cons (snd_iconst dX6_putRest_22 rfl (inr_d rfl) rfl) ?_
  refine tok_cons (snd_add dX6_putRest_23 rfl) ?_
  refine tok_cons (snd_cn dX6_putRest_24 mok_5_takePair ⟨wm6_56, wi_5_takePair, wl_5_takePair⟩ (rc := (RX5, TX5, 3)) rfl rfl pn_5_takePair (by decide) ⟨rfl, rfl⟩ rfl) ?_
  refine tok_cons (snd_ret dX6_putRest_27 rfl) ?_
  exact tok_nil
def tab_6_findStart (X : XT) : Tab := [(0, false, a_aload 1 1), (1, false, a_gr 1 4 4), (4, false, a_const 3 5), (5, false, a_ald false 6), (6, false, a_istore 2 7), (7, false, a_aload 0 8), (8, false, a_gr 6 9 11), (11, false, a_gr 5 2 14), (14, false, a_const 0 15), (15, false, a_ald false 16), (16, false, a_istore 3 17), (17, false, a_aload 0 18), (18, false, a_gr 6 9 21), (21, false, a_gr 5 2 24), (24, false, a_const 1 25), (25, false, a_ald false 26), (26, false, a_istore 4 28), (28, false, a_iload 3 29), (29, false, a_if 4 34 32), (32, false, a_const 0 33), (33, false, a_zret M_6_findStart), (34, false, a_iload 3 35), (35, false, a_iload 2 36), (36, false, a_sub 37), (37, false, a_aload 0 38), (38, false, a_gi 6 0 0 41), (41, false, a_aload 0 42), (42, false, a_gr 6 7 45), (45, false, a_gr 2 1 48), (48, false, a_const 0 49), (49, false, a_ald false 50), (50, false, a_sub 51), (51, false, a_min M_6_findStart 54), (54, false, a_istore 5 56), (56, false, a_iload 5 58), (58, false, a_istore 6 60), (60, true, a_iload 6 62), (62, false, a_iload 2 63), (63, false, a_icmp 2 131 66), (66, false, a_const 2 67), (67, false, a_iload 6 69), (69, false, a_mul 70), (70, false, a_iload 4 72), (72, false, a_mul 73), (73, false, a_iload 3 74), (74, false, a_add 75), (75, false, a_const 2 76), (76, false, a_iload 3 77), (77, false, a_mul 78), (78, false, a_div 79), (79, false, a_istore 7 81), (81, false, a_iload 7 83), (83, false, a_iload 2 84), (84, false, a_icmp 2 125 87), (87, false, a_iload 4 89), (89, false, a_iload 7 91), (91, false, a_sub 92), (92, false, a_iload 2 93), (93, false, a_icmp 2 125 96), (96, false, a_aload 0 97), (97, false, a_gr 6 10 100), (100, false, a_aload 0 101), (101, false, a_gr 6 9 104), (104, false, a_iload 6 106), (106, false, a_iload 7 108), (108, false, a_cn X M_6_findStart M_5_takeStart 5 4 111), (111, false, a_aload 0 112), (112, false, a_aload 1 113), (113, false, a_aload 0 114), (114, false, a_gr 6 10 117), (117, false, a_cv X M_6_findStart M_6_fits 6 3 120), (120, false, a_if 0 125 123), (123, false, a_const 1 124), (124, false, a_zret M_6_findStart), (125, false, a_iinc 6 (-1) 128), (128, false, a_goto 60), (131, false, a_const 0 132), (132, false, a_zret M_6_findStart)]
set_option maxRecDepth 20000 in
theorem t_6_findStart (X : XT) : tget (tab_6_findStart X) 0 = some (false, a_aload 1 1) ∧ tget (tab_6_findStart X) 1 = some (false, a_gr 1 4 4) ∧ tget (tab_6_findStart X) 4 = some (false, a_const 3 5) ∧ tget (tab_6_findStart X) 5 = some (false, a_ald false 6) ∧ tget (tab_6_findStart X) 6 = some (false, a_istore 2 7) ∧ tget (tab_6_findStart X) 7 = some (false, a_aload 0 8) ∧ tget (tab_6_findStart X) 8 = some (false, a_gr 6 9 11) ∧ tget (tab_6_findStart X) 11 = some (false, a_gr 5 2 14) ∧ tget (tab_6_findStart X) 14 = some (false, a_const 0 15) ∧ tget (tab_6_findStart X) 15 = some (false, a_ald false 16) ∧ tget (tab_6_findStart X) 16 = some (false, a_istore 3 17) ∧ tget (tab_6_findStart X) 17 = some (false, a_aload 0 18) ∧ tget (tab_6_findStart X) 18 = some (false, a_gr 6 9 21) ∧ tget (tab_6_findStart X) 21 = some (false, a_gr 5 2 24) ∧ tget (tab_6_findStart X) 24 = some (false, a_const 1 25) ∧ tget (tab_6_findStart X) 25 = some (false, a_ald false 26) ∧ tget (tab_6_findStart X) 26 = some (false, a_istore 4 28) ∧ tget (tab_6_findStart X) 28 = some (false, a_iload 3 29) ∧ tget (tab_6_findStart X) 29 = some (false, a_if 4 34 32) ∧ tget (tab_6_findStart X) 32 = some (false, a_const 0 33) ∧ tget (tab_6_findStart X) 33 = some (false, a_zret M_6_findStart) ∧ tget (tab_6_findStart X) 34 = some (false, a_iload 3 35) ∧ tget (tab_6_findStart X) 35 = some (false, a_iload 2 36) ∧ tget (tab_6_findStart X) 36 = some (false, a_sub 37) ∧ tget (tab_6_findStart X) 37 = some (false, a_aload 0 38) ∧ tget (tab_6_findStart X) 38 = some (false, a_gi 6 0 0 41) ∧ tget (tab_6_findStart X) 41 = some (false, a_aload 0 42) ∧ tget (tab_6_findStart X) 42 = some (false, a_gr 6 7 45) ∧ tget (tab_6_findStart X) 45 = some (false, a_gr 2 1 48) ∧ tget (tab_6_findStart X) 48 = some (false, a_const 0 49) ∧ tget (tab_6_findStart X) 49 = some (false, a_ald false 50) ∧ tget (tab_6_findStart X) 50 = some (false, a_sub 51) ∧ tget (tab_6_findStart X) 51 = some (false, a_min M_6_findStart 54) ∧ tget (tab_6_findStart X) 54 = some (false, a_istore 5 56) ∧ tget (tab_6_findStart X) 56 = some (false, a_iload 5 58) ∧ tget (tab_6_findStart X) 58 = some (false, a_istore 6 60) ∧ tget (tab_6_findStart X) 60 = some (true, a_iload 6 62) ∧ tget (tab_6_findStart X) 62 = some (false, a_iload 2 63) ∧ tget (tab_6_findStart X) 63 = some (false, a_icmp 2 131 66) ∧ tget (tab_6_findStart X) 66 = some (false, a_const 2 67) ∧ tget (tab_6_findStart X) 67 = some (false, a_iload 6 69) ∧ tget (tab_6_findStart X) 69 = some (false, a_mul 70) ∧ tget (tab_6_findStart X) 70 = some (false, a_iload 4 72) ∧ tget (tab_6_findStart X) 72 = some (false, a_mul 73) ∧ tget (tab_6_findStart X) 73 = some (false, a_iload 3 74) ∧ tget (tab_6_findStart X) 74 = some (false, a_add 75) ∧ tget (tab_6_findStart X) 75 = some (false, a_const 2 76) ∧ tget (tab_6_findStart X) 76 = some (false, a_iload 3 77) ∧ tget (tab_6_findStart X) 77 = some (false, a_mul 78) ∧ tget (tab_6_findStart X) 78 = some (false, a_div 79) ∧ tget (tab_6_findStart X) 79 = some (false, a_istore 7 81) ∧ tget (tab_6_findStart X) 81 = some (false, a_iload 7 83) ∧ tget (tab_6_findStart X) 83 = some (false, a_iload 2 84) ∧ tget (tab_6_findStart X) 84 = some (false, a_icmp 2 125 87) ∧ tget (tab_6_findStart X) 87 = some (false, a_iload 4 89) ∧ tget (tab_6_findStart X) 89 = some (false, a_iload 7 91) ∧ tget (tab_6_findStart X) 91 = some (false, a_sub 92) ∧ tget (tab_6_findStart X) 92 = some (false, a_iload 2 93) ∧ tget (tab_6_findStart X) 93 = some (false, a_icmp 2 125 96) ∧ tget (tab_6_findStart X) 96 = some (false, a_aload 0 97) ∧ tget (tab_6_findStart X) 97 = some (false, a_gr 6 10 100) ∧ tget (tab_6_findStart X) 100 = some (false, a_aload 0 101) ∧ tget (tab_6_findStart X) 101 = some (false, a_gr 6 9 104) ∧ tget (tab_6_findStart X) 104 = some (false, a_iload 6 106) ∧ tget (tab_6_findStart X) 106 = some (false, a_iload 7 108) ∧ tget (tab_6_findStart X) 108 = some (false, a_cn X M_6_findStart M_5_takeStart 5 4 111) ∧ tget (tab_6_findStart X) 111 = some (false, a_aload 0 112) ∧ tget (tab_6_findStart X) 112 = some (false, a_aload 1 113) ∧ tget (tab_6_findStart X) 113 = some (false, a_aload 0 114) ∧ tget (tab_6_findStart X) 114 = some (false, a_gr 6 10 117) ∧ tget (tab_6_findStart X) 117 = some (false, a_cv X M_6_findStart M_6_fits 6 3 120) ∧ tget (tab_6_findStart X) 120 = some (false, a_if 0 125 123) ∧ tget (tab_6_findStart X) 123 = some (false, a_const 1 124) ∧ tget (tab_6_findStart X) 124 = some (false, a_zret M_6_findStart) ∧ tget (tab_6_findStart X) 125 = some (false, a_iinc 6 (-1) 128) ∧ tget (tab_6_findStart X) 128 = some (false, a_goto 60) ∧ tget (tab_6_findStart X) 131 = some (false, a_const 0 132) ∧ tget (tab_6_findStart X) 132 = some (false, a_zret M_6_findStart) := ⟨rfl, rfl, rfl, rfl, rfl, rfl, rfl, rfl, rfl, rfl, rfl, rfl, rfl, rfl, rfl, rfl, rfl, rfl, rfl, rfl, rfl, rfl, rfl, rfl, rfl, rfl, rfl, rfl, rfl, rfl, rfl, rfl, rfl, rfl, rfl, rfl, rfl, rfl, rfl, rfl, rfl, rfl, rfl, rfl, rfl, rfl, rfl, rfl, rfl, rfl, rfl, rfl, rfl, rfl, rfl, rfl, rfl, rfl, rfl, rfl, rfl, rfl, rfl, rfl, rfl, rfl, rfl, rfl, rfl, rfl, rfl, rfl, rfl, rfl, rfl, rfl, rfl, rfl⟩
theorem tok_6_findStart (X : XT) : TabOK X M_6_findStart (tab_6_findStart X) := by
  unfold tab_6_findStart
  refine tok_cons (snd_aload_n dX6_findStart_0 rfl rfl) ?_
  refine tok_cons (snd_gr (C := RX1) (T := TX1) (N := 5) dX6_findStart_1 rfl (by decide) rfl wf6_120 inX1 rfl) ?_
  refine tok_cons (snd_iconst dX6_findStart_4 rfl (inr_d rfl) rfl) ?_
  refine tok_cons (snd_iald dX6_findStart_5 rfl) ?_
  refine tok_cons (snd_istore_n dX6_findStart_6 rfl rfl (by decide)) ?_
  refine tok_cons (snd_aload_n dX6_findStart_7 rfl rfl) ?_
  refine tok_cons (snd_gr (C := RX6) (T := TX6) (N := 11) dX6_findStart_8 rfl (by decide) rfl wf6_43 inX6 rfl) ?_
  refine tok_cons (snd_gr (C := RX5) (T := TX5) (N := 3) dX6_findStart_11 rfl (by decide) rfl wf6_126 inX5 rfl) ?_
  refine tok_cons (snd_iconst dX6_findStart_14 rfl (inr_d rfl) rfl) ?_
  refine tok_cons (snd_iald dX6_findStart_15 rfl) ?_
  refine tok_cons (snd_istore_n dX6_findStart_16 rfl rfl (by decide)) ?_
  refine tok_cons (snd_aload_n dX6_findStart_17 rfl rfl) ?_
  refine tok_cons (snd_gr (C := RX6) (T := TX6) (N := 11) dX6_findStart_18 rfl (by decide) rfl wf6_43 inX6 rfl) ?_
  refine tok_cons (snd_gr (C := RX5) (T := TX5) (N := 3) dX6_findStart_21 rfl (by decide) rfl wf6_126 inX5 rfl) ?_
  refine tok_cons (snd_iconst dX6_findStart_24 rfl (inr_d rfl) rfl) ?_
  refine tok_cons (snd_iald dX6_findStart_25 rfl) ?_
  refine tok_cons (snd_istore dX6_findStart_26 rfl (by decide)) ?_
  refine tok_cons (snd_iload_n dX6_findStart_28 rfl rfl) ?_
  refine tok_cons (snd_if_gt dX6_findStart_29 (by decide) rfl) ?_
  refine tok_cons (snd_iconst dX6_findStart_32 rfl (inr_d rfl) rfl) ?_
  refine tok_cons (snd_zret dX6_findStart_33 rfl) ?_
  refine tok_cons (snd_iload_n dX6_findStart_34 rfl rfl) ?_
  refine tok_cons (snd_iload_n dX6_findStart_35 rfl rfl) ?_
  refine tok_cons (snd_sub dX6_findStart_36 rfl) ?_
  refine tok_cons (snd_aload_n dX6_findStart_37 rfl rfl) ?_
  refine tok_cons (snd_gi (C := RX6) (T := TX6) (N := 11) dX6_findStart_38 rfl (by decide) rfl wf6_11 inX6 rfl rfl) ?_
  refine tok_cons (snd_aload_n dX6_findStart_41 rfl rfl) ?_
  refine tok_cons (snd_gr (C := RX6) (T := TX6) (N := 11) dX6_findStart_42 rfl (by decide) rfl wf6_33 inX6 rfl) ?_
  refine tok_cons (snd_gr (C := RX2) (T := TX2) (N := 7) dX6_findStart_45 rfl (by decide) rfl wf6_129 inX2 rfl) ?_
  refine tok_cons (snd_iconst dX6_findStart_48 rfl (inr_d rfl) rfl) ?_
  refine tok_cons (snd_iald dX6_findStart_49 rfl) ?_
  refine tok_cons (snd_sub dX6_findStart_50 rfl) ?_
  refine tok_cons (snd_min dX6_findStart_51 wm6_132 ws_min wn_Math wc_min (by decide) rfl) ?_
  refine tok_cons (snd_istore dX6_findStart_54 rfl (by decide)) ?_
  refine tok_cons (snd_iload dX6_findStart_56 rfl) ?_
  refine tok_cons (snd_istore dX6_findStart_58 rfl (by decide)) ?_
  refine tok_cons (snd_iload dX6_findStart_60 rfl) ?_
  refine tok_cons (snd_iload_n dX6_findStart_62 rfl rfl) ?_
  refine tok_cons (snd_icmp_lt dX6_findStart_63 (by decide) rfl) ?_
  refine tok_cons (snd_iconst dX6_findStart_66 rfl (inr_d rfl) rfl) ?_
  refine tok_cons (snd_iload dX6_findStart_67 rfl) ?_
  refine tok_cons (snd_mul dX6_findStart_69 rfl) ?_
  refine tok_cons (snd_iload dX6_findStart_70 rfl) ?_
  refine tok_cons (snd_mul dX6_findStart_72 rfl) ?_
  refine tok_cons (snd_iload_n dX6_findStart_73 rfl rfl) ?_
  refine tok_cons (snd_add dX6_findStart_74 rfl) ?_
  refine tok_cons (snd_iconst dX6_findStart_75 rfl (inr_d rfl) rfl) ?_
  refine tok_cons (snd_iload_n dX6_findStart_76 rfl rfl) ?_
  refine tok_cons (snd_mul dX6_findStart_77 rfl) ?_
  refine tok_cons (snd_div dX6_findStart_78 rfl) ?_
  refine tok_cons (snd_istore dX6_findStart_79 rfl (by decide)) ?_
  refine tok_cons (snd_iload dX6_findStart_81 rfl) ?_
  refine tok_cons (snd_iload_n dX6_findStart_83 rfl rfl) ?_
  refine tok_cons (snd_icmp_lt dX6_findStart_84 (by decide) rfl) ?_
  refine tok_cons (snd_iload dX6_findStart_87 rfl) ?_
  refine tok_cons (snd_iload dX6_findStart_89 rfl) ?_
  refine tok_cons (snd_sub dX6_findStart_91 rfl) ?_
  refine tok_cons (snd_iload_n dX6_findStart_92 rfl rfl) ?_
  refine tok_cons (snd_icmp_lt dX6_findStart_93 (by decide) rfl) ?_
  refine tok_cons (snd_aload_n dX6_findStart_96 rfl rfl) ?_
  refine tok_cons (snd_gr (C := RX6) (T := TX6) (N := 11) dX6_findStart_97 rfl (by decide) rfl wf6_47 inX6 rfl) ?_
  refine tok_cons (snd_aload_n dX6_findStart_100 rfl rfl) ?_
  refine tok_cons (snd_gr (C := RX6) (T := TX6) (N := 11) dX6_findStart_101 rfl (by decide) rfl wf6_43 inX6 rfl) ?_
  refine tok_cons (snd_iload dX6_findStart_104 rfl) ?_
  refine tok_cons (snd_iload dX6_findStart_106 rfl) ?_
  refine tok_cons (snd_cn dX6_findStart_108 mok_5_takeStart ⟨wm6_138, wi_5_takeStart, wl_5_takeStart⟩ (rc := (RX5, TX5, 3)) rfl rfl pn_5_takeStart (by decide) ⟨rfl, rfl⟩ rfl) ?_
  refine tok_cons (snd_aload_n dX6_findStart_111 rfl rfl) ?_
  refine tok_cons (snd_aload_n dX6_findStart_112 rfl rfl) ?_
  refine tok_cons (snd_aload_n dX6_findStart_113 rfl rfl) ?_
  refine tok_cons (snd_gr (C := RX6) (T := TX6) (N := 11) dX6_findStart_114 rfl (by decide) rfl wf6_47 inX6 rfl) ?_
  refine tok_cons (snd_cv dX6_findStart_117 mok_6_fits ⟨wm6_94, wi_6_fits, wl_6_fits⟩ (rc := (RX6, TX6, 11)) rfl rfl pn_6_fits (by decide) ⟨rfl, rfl⟩ rfl) ?_
  refine tok_cons (snd_if_eq dX6_findStart_120 (by decide) rfl) ?_
  refine tok_cons (snd_iconst dX6_findStart_123 rfl (inr_d rfl) rfl) ?_
  refine tok_cons (snd_zret dX6_findStart_124 rfl) ?_
  refine tok_cons (snd_iinc dX6_findStart_125 rfl rfl (by decide)) ?_
  refine tok_cons (snd_goto dX6_findStart_128 (by decide)) ?_
  refine tok_cons (snd_iconst dX6_findStart_131 rfl (inr_d rfl) rfl) ?_
  refine tok_cons (snd_zret dX6_findStart_132 rfl) ?_
  exact tok_nil
def tab_0_search (X : XT) : Tab := [(0, false, a_aload 0 1), (1, false, a_gi 0 0 0 4), (4, false, a_if 0 8 7), (7, false, a_ret M_0_search), (8, false, a_aload 0 9), (9, false, a_const 1 10), (10, false, a_pi 0 0 0 true 13), (13, false, a_aload 0 14), (14, false, a_gr 0 3 17), (17, false, a_aload 1 18), (18, false, a_gi 1 0 0 21), (21, false, a_const 0 22), (22, false, a_ast false 23), (23, false, a_aload 1 24), (24, false, a_gi 1 0 0 27), (27, false, a_const 1 28), (28, false, a_sub 29), (29, false, a_istore 2 30), (30, true, a_iload 2 31), (31, false, a_if 2 46 34), (34, false, a_aload 0 35), (35, false, a_aload 1 36), (36, false, a_iload 2 37), (37, false, a_cn X M_0_search M_0_searchFrom 0 3 40), (40, false, a_iinc 2 (-1) 43), (43, false, a_goto 30), (46, false, a_aload 0 47), (47, false, a_const 0 48), (48, false, a_pi 0 1 1 false 51), (51, false, a_const 0 52), (52, false, a_istore 2 53), (53, true, a_aload 0 54), (54, false, a_cv X M_0_search M_0_isAllowed 0 1 57), (57, false, a_if 0 109 60), (60, false, a_iload 2 61), (61, false, a_aload 1 62), (62, false, a_gi 1 0 0 65), (65, false, a_icmp 3 109 68), (68, false, a_aload 0 69), (69, false, a_gi 0 1 1 72), (72, false, a_const 20 74), (74, false, a_icmp 3 109 77), (77, false, a_aload 0 78), (78, false, a_gr 0 2 81), (81, false, a_aload 0 82), (82, false, a_gi 0 1 1 85), (85, false, a_iload 2 86), (86, false, a_ast false 87), (87, false, a_aload 0 88), (88, false, a_dup 89), (89, false, a_gi 0 1 1 92), (92, false, a_const 1 93), (93, false, a_add 94), (94, false, a_pi 0 1 1 false 97), (97, false, a_iload 2 98), (98, false, a_aload 0 99), (99, false, a_gr 0 4 102), (102, false, a_iload 2 103), (103, false, a_ald false 104), (104, false, a_add 105), (105, false, a_istore 2 106), (106, false, a_goto 53), (109, false, a_ret M_0_search)]
set_option maxRecDepth 20000 in
theorem t_0_search (X : XT) : tget (tab_0_search X) 0 = some (false, a_aload 0 1) ∧ tget (tab_0_search X) 1 = some (false, a_gi 0 0 0 4) ∧ tget (tab_0_search X) 4 = some (false, a_if 0 8 7) ∧ tget (tab_0_search X) 7 = some (false, a_ret M_0_search) ∧ tget (tab_0_search X) 8 = some (false, a_aload 0 9) ∧ tget (tab_0_search X) 9 = some (false, a_const 1 10) ∧ tget (tab_0_search X) 10 = some (false, a_pi 0 0 0 true 13) ∧ tget (tab_0_search X) 13 = some (false, a_aload 0 14) ∧ tget (tab_0_search X) 14 = some (false, a_gr 0 3 17) ∧ tget (tab_0_search X) 17 = some (false, a_aload 1 18) ∧ tget (tab_0_search X) 18 = some (false, a_gi 1 0 0 21) ∧ tget (tab_0_search X) 21 = some (false, a_const 0 22) ∧ tget (tab_0_search X) 22 = some (false, a_ast false 23) ∧ tget (tab_0_search X) 23 = some (false, a_aload 1 24) ∧ tget (tab_0_search X) 24 = some (false, a_gi 1 0 0 27) ∧ tget (tab_0_search X) 27 = some (false, a_const 1 28) ∧ tget (tab_0_search X) 28 = some (false, a_sub 29) ∧ tget (tab_0_search X) 29 = some (false, a_istore 2 30) ∧ tget (tab_0_search X) 30 = some (true, a_iload 2 31) ∧ tget (tab_0_search X) 31 = some (false, a_if 2 46 34) ∧ tget (tab_0_search X) 34 = some (false, a_aload 0 35) ∧ tget (tab_0_search X) 35 = some (false, a_aload 1 36) ∧ tget (tab_0_search X) 36 = some (false, a_iload 2 37) ∧ tget (tab_0_search X) 37 = some (false, a_cn X M_0_search M_0_searchFrom 0 3 40) ∧ tget (tab_0_search X) 40 = some (false, a_iinc 2 (-1) 43) ∧ tget (tab_0_search X) 43 = some (false, a_goto 30) ∧ tget (tab_0_search X) 46 = some (false, a_aload 0 47) ∧ tget (tab_0_search X) 47 = some (false, a_const 0 48) ∧ tget (tab_0_search X) 48 = some (false, a_pi 0 1 1 false 51) ∧ tget (tab_0_search X) 51 = some (false, a_const 0 52) ∧ tget (tab_0_search X) 52 = some (false, a_istore 2 53) ∧ tget (tab_0_search X) 53 = some (true, a_aload 0 54) ∧ tget (tab_0_search X) 54 = some (false, a_cv X M_0_search M_0_isAllowed 0 1 57) ∧ tget (tab_0_search X) 57 = some (false, a_if 0 109 60) ∧ tget (tab_0_search X) 60 = some (false, a_iload 2 61) ∧ tget (tab_0_search X) 61 = some (false, a_aload 1 62) ∧ tget (tab_0_search X) 62 = some (false, a_gi 1 0 0 65) ∧ tget (tab_0_search X) 65 = some (false, a_icmp 3 109 68) ∧ tget (tab_0_search X) 68 = some (false, a_aload 0 69) ∧ tget (tab_0_search X) 69 = some (false, a_gi 0 1 1 72) ∧ tget (tab_0_search X) 72 = some (false, a_const 20 74) ∧ tget (tab_0_search X) 74 = some (false, a_icmp 3 109 77) ∧ tget (tab_0_search X) 77 = some (false, a_aload 0 78) ∧ tget (tab_0_search X) 78 = some (false, a_gr 0 2 81) ∧ tget (tab_0_search X) 81 = some (false, a_aload 0 82) ∧ tget (tab_0_search X) 82 = some (false, a_gi 0 1 1 85) ∧ tget (tab_0_search X) 85 = some (false, a_iload 2 86) ∧ tget (tab_0_search X) 86 = some (false, a_ast false 87) ∧ tget (tab_0_search X) 87 = some (false, a_aload 0 88) ∧ tget (tab_0_search X) 88 = some (false, a_dup 89) ∧ tget (tab_0_search X) 89 = some (false, a_gi 0 1 1 92) ∧ tget (tab_0_search X) 92 = some (false, a_const 1 93) ∧ tget (tab_0_search X) 93 = some (false, a_add 94) ∧ tget (tab_0_search X) 94 = some (false, a_pi 0 1 1 false 97) ∧ tget (tab_0_search X) 97 = some (false, a_iload 2 98) ∧ tget (tab_0_search X) 98 = some (false, a_aload 0 99) ∧ tget (tab_0_search X) 99 = some (false, a_gr 0 4 102) ∧ tget (tab_0_search X) 102 = some (false, a_iload 2 103) ∧ tget (tab_0_search X) 103 = some (false, a_ald false 104) ∧ tget (tab_0_search X) 104 = some (false, a_add 105) ∧ tget (tab_0_search X) 105 = some (false, a_istore 2 106) ∧ tget (tab_0_search X) 106 = some (false, a_goto 53) ∧ tget (tab_0_search X) 109 = some (false, a_ret M_0_search) := ⟨rfl, rfl, rfl, rfl, rfl, rfl, rfl, rfl, rfl, rfl, rfl, rfl, rfl, rfl, rfl, rfl, rfl, rfl, rfl, rfl, rfl, rfl, rfl, rfl, rfl, rfl, rfl, rfl, rfl, rfl, rfl, rfl, rfl, rfl, rfl, rfl, rfl, rfl, rfl, rfl, rfl, rfl, rfl, rfl, rfl, rfl, rfl, rfl, rfl, rfl, rfl, rfl, rfl, rfl, rfl, rfl, rfl, rfl, rfl, rfl, rfl, rfl, rfl⟩
theorem tok_0_search (X : XT) : TabOK X M_0_search (tab_0_search X) := by
  unfold tab_0_search
  refine tok_cons (snd_aload_n dX0_search_0 rfl rfl) ?_
  refine tok_cons (snd_gi (C := RX0) (T := TX0) (N := 7) dX0_search_1 rfl (by decide) rfl wf0_35 inX0 rfl rfl) ?_
  refine tok_cons (snd_if_eq dX0_search_4 (by decide) rfl) ?_
  refine tok_cons (snd_ret dX0_search_7 rfl) ?_
  refine tok_cons (snd_aload_n dX0_search_8 rfl rfl) ?_
  refine tok_cons (snd_iconst dX0_search_9 rfl (inr_d rfl) rfl) ?_
  refine tok_cons (snd_pi (C := RX0) (T := TX0) (N := 7) (ty0 := tyX0) dX0_search_10 rfl (by decide) rfl wf0_35 inX0 tyX0_ok nmX0 (by decide +kernel) rfl rfl) ?_
  refine tok_cons (snd_aload_n dX0_search_13 rfl rfl) ?_
  refine tok_cons (snd_gr (C := RX0) (T := TX0) (N := 7) dX0_search_14 rfl (by decide) rfl wf0_15 inX0 rfl) ?_
  refine tok_cons (snd_aload_n dX0_search_17 rfl rfl) ?_
  refine tok_cons (snd_gi (C := RX1) (T := TX1) (N := 5) dX0_search_18 rfl (by decide) rfl wf0_39 inX1 rfl rfl) ?_
  refine tok_cons (snd_iconst dX0_search_21 rfl (inr_d rfl) rfl) ?_
  refine tok_cons (snd_iast dX0_search_22 rfl) ?_
  refine tok_cons (snd_aload_n dX0_search_23 rfl rfl) ?_
  refine tok_cons (snd_gi (C := RX1) (T := TX1) (N := 5) dX0_search_24 rfl (by decide) rfl wf0_39 inX1 rfl rfl) ?_
  refine tok_cons (snd_iconst dX0_search_27 rfl (inr_d rfl) rfl) ?_
  refine tok_cons (snd_sub dX0_search_28 rfl) ?_
  refine tok_cons (snd_istore_n dX0_search_29 rfl rfl (by decide)) ?_
  refine tok_cons (snd_iload_n dX0_search_30 rfl rfl) ?_
  refine tok_cons (snd_if_lt dX0_search_31 (by decide) rfl) ?_
  refine tok_cons (snd_aload_n dX0_search_34 rfl rfl) ?_
  refine tok_cons (snd_aload_n dX0_search_35 rfl rfl) ?_
  refine tok_cons (snd_iload_n dX0_search_36 rfl rfl) ?_
  refine tok_cons (snd_cn dX0_search_37 mok_0_searchFrom ⟨wm0_45, wi_0_searchFrom, wl_0_searchFrom⟩ (rc := (RX0, TX0, 7)) rfl rfl pn_0_searchFrom (by decide) ⟨rfl, rfl⟩ rfl) ?_
  refine tok_cons (snd_iinc dX0_search_40 rfl rfl (by decide)) ?_
  refine tok_cons (snd_goto dX0_search_43 (by decide)) ?_
  refine tok_cons (snd_aload_n dX0_search_46 rfl rfl) ?_
  refine tok_cons (snd_iconst dX0_search_47 rfl (inr_d rfl) rfl) ?_
  refine tok_cons (snd_pi (C := RX0) (T := TX0) (N := 7) (ty0 := tyX0) dX0_search_48 rfl (by decide) rfl wf0_49 inX0 tyX0_ok nmX0 (by decide +kernel) rfl rfl) ?_
  refine tok_cons (snd_iconst dX0_search_51 rfl (inr_d rfl) rfl) ?_
  refine tok_cons (snd_istore_n dX0_search_52 rfl rfl (by decide)) ?_
  refine tok_cons (snd_aload_n dX0_search_53 rfl rfl) ?_
  refine tok_cons (snd_cv dX0_search_54 mok_0_isAllowed ⟨wm0_52, wi_0_isAllowed, wl_0_isAllowed⟩ (rc := (RX0, TX0, 7)) rfl rfl pn_0_isAllowed (by decide) ⟨rfl, rfl⟩ rfl) ?_
  refine tok_cons (snd_if_eq dX0_search_57 (by decide) rfl) ?_
  refine tok_cons (snd_iload_n dX0_search_60 rfl rfl) ?_
  refine tok_cons (snd_aload_n dX0_search_61 rfl rfl) ?_
  refine tok_cons (snd_gi (C := RX1) (T := TX1) (N := 5) dX0_search_62 rfl (by decide) rfl wf0_39 inX1 rfl rfl) ?_
  refine tok_cons (snd_icmp_ge dX0_search_65 (by decide) rfl) ?_
  refine tok_cons (snd_aload_n dX0_search_68 rfl rfl) ?_
  refine tok_cons (snd_gi (C := RX0) (T := TX0) (N := 7) dX0_search_69 rfl (by decide) rfl wf0_49 inX0 rfl rfl) ?_
  refine tok_cons (snd_bipush dX0_search_72 (by decide) (inr_d rfl) rfl) ?_
  refine tok_cons (snd_icmp_ge dX0_search_74 (by decide) rfl) ?_
  refine tok_cons (snd_aload_n dX0_search_77 rfl rfl) ?_
  refine tok_cons (snd_gr (C := RX0) (T := TX0) (N := 7) dX0_search_78 rfl (by decide) rfl wf0_9 inX0 rfl) ?_
  refine tok_cons (snd_aload_n dX0_search_81 rfl rfl) ?_
  refine tok_cons (snd_gi (C := RX0) (T := TX0) (N := 7) dX0_search_82 rfl (by decide) rfl wf0_49 inX0 rfl rfl) ?_
  refine tok_cons (snd_iload_n dX0_search_85 rfl rfl) ?_
  refine tok_cons (snd_iast dX0_search_86 rfl) ?_
  refine tok_cons (snd_aload_n dX0_search_87 rfl rfl) ?_
  refine tok_cons (snd_dup dX0_search_88 rfl) ?_
  refine tok_cons (snd_gi (C := RX0) (T := TX0) (N := 7) dX0_search_89 rfl (by decide) rfl wf0_49 inX0 rfl rfl) ?_
  refine tok_cons (snd_iconst dX0_search_92 rfl (inr_d rfl) rfl) ?_
  refine tok_cons (snd_add dX0_search_93 rfl) ?_
  refine tok_cons (snd_pi (C := RX0) (T := TX0) (N := 7) (ty0 := tyX0) dX0_search_94 rfl (by decide) rfl wf0_49 inX0 tyX0_ok nmX0 (by decide +kernel) rfl rfl) ?_
  refine tok_cons (snd_iload_n dX0_search_97 rfl rfl) ?_
  refine tok_cons (snd_aload_n dX0_search_98 rfl rfl) ?_
  refine tok_cons (snd_gr (C := RX0) (T := TX0) (N := 7) dX0_search_99 rfl (by decide) rfl wf0_18 inX0 rfl) ?_
  refine tok_cons (snd_iload_n dX0_search_102 rfl rfl) ?_
  refine tok_cons (snd_iald dX0_search_103 rfl) ?_
  refine tok_cons (snd_add dX0_search_104 rfl) ?_
  refine tok_cons (snd_istore_n dX0_search_105 rfl rfl (by decide)) ?_
  refine tok_cons (snd_goto dX0_search_106 (by decide)) ?_
  refine tok_cons (snd_ret dX0_search_109 rfl) ?_
  exact tok_nil
def tab_6_putNext (X : XT) : Tab := [(0, false, a_aload 1 1), (1, false, a_aload 0 2), (2, false, a_gr 6 9 5), (5, false, a_gi 5 0 0 8), (8, false, a_cv X M_6_putNext M_1_hasPair 1 2 11), (11, false, a_if 1 16 14), (14, false, a_const 0 15), (15, false, a_zret M_6_putNext), (16, false, a_aload 0 17), (17, false, a_gi 6 6 6 20), (20, false, a_aload 0 21), (21, false, a_gr 6 2 24), (24, false, a_aload 0 25), (25, false, a_gi 6 1 1 28), (28, false, a_ald false 29), (29, false, a_icmp 1 36 32), (32, false, a_const 1 33), (33, false, a_goto 37), (36, false, a_const 0 37), (37, false, a_istore 2 38), (38, false, a_iload 2 39), (39, false, a_if 1 72 42), (42, false, a_aload 0 43), (43, false, a_gr 6 9 46), (46, false, a_cv X M_6_putNext M_5_isBegun 5 1 49), (49, false, a_if 1 72 52), (52, false, a_aload 1 53), (53, false, a_gr 1 1 56), (56, false, a_const 3 57), (57, false, a_aald 58), (58, false, a_aload 0 59), (59, false, a_gr 6 9 62), (62, false, a_gi 5 0 0 65), (65, false, a_ald false 66), (66, false, a_const 1 67), (67, false, a_icmp 1 72 70), (70, false, a_const 0 71), (71, false, a_zret M_6_putNext), (72, false, a_aload 0 73), (73, false, a_aload 1 74), (74, false, a_aload 0 75), (75, false, a_gr 6 9 78), (78, false, a_cv X M_6_putNext M_6_fits 6 3 81), (81, false, a_if 0 91 84), (84, false, a_aload 0 85), (85, false, a_aload 1 86), (86, false, a_cn X M_6_putNext M_6_putRest 6 2 89), (89, false, a_const 1 90), (90, false, a_zret M_6_putNext), (91, false, a_aload 1 92), (92, false, a_gr 1 1 95), (95, false, a_const 2 96), (96, false, a_aald 97), (97, false, a_aload 0 98), (98, false, a_gr 6 9 101), (101, false, a_gi 5 0 0 104), (104, false, a_ald false 105), (105, false, a_if 1 140 108), (108, false, a_aload 0 109), (109, false, a_aload 1 110), (110, false, a_cv X M_6_putNext M_6_findStart 6 2 113), (113, false, a_if 0 140 116), (116, false, a_aload 0 117), (117, false, a_aload 1 118), (118, false, a_aload 0 119), (119, false, a_gr 6 10 122), (122, false, a_const 1 123), (123, false, a_cn X M_6_putNext M_6_addSegment 6 4 126), (126, false, a_aload 0 127), (127, false, a_gr 6 9 130), (130, false, a_aload 0 131), (131, false, a_gr 6 10 134), (134, false, a_cn X M_6_putNext M_5_dropStart 5 2 137), (137, false, a_goto 159), (140, false, a_iload 2 141), (141, false, a_if 0 159 144), (144, false, a_aload 0 145), (145, false, a_gr 6 3 148), (148, false, a_aload 0 149), (149, false, a_gi 6 1 1 152), (152, false, a_const 1 153), (153, false, a_ast false 154), (154, false, a_aload 0 155), (155, false, a_aload 1 156), (156, false, a_cn X M_6_putNext M_6_putRest 6 2 159), (159, false, a_const 0 160), (160, false, a_zret M_6_putNext)]
set_option maxRecDepth 20000 in
theorem t_6_putNext (X : XT) : tget (tab_6_putNext X) 0 = some (false, a_aload 1 1) ∧ tget (tab_6_putNext X) 1 = some (false, a_aload 0 2) ∧ tget (tab_6_putNext X) 2 = some (false, a_gr 6 9 5) ∧ tget (tab_6_putNext X) 5 = some (false, a_gi 5 0 0 8) ∧ tget (tab_6_putNext X) 8 = some (false, a_cv X M_6_putNext M_1_hasPair 1 2 11) ∧ tget (tab_6_putNext X) 11 = some (false, a_if 1 16 14) ∧ tget (tab_6_putNext X) 14 = some (false, a_const 0 15) ∧ tget (tab_6_putNext X) 15 = some (false, a_zret M_6_putNext) ∧ tget (tab_6_putNext X) 16 = some (false, a_aload 0 17) ∧ tget (tab_6_putNext X) 17 = some (false, a_gi 6 6 6 20) ∧ tget (tab_6_putNext X) 20 = some (false, a_aload 0 21) ∧ tget (tab_6_putNext X) 21 = some (false, a_gr 6 2 24) ∧ tget (tab_6_putNext X) 24 = some (false, a_aload 0 25) ∧ tget (tab_6_putNext X) 25 = some (false, a_gi 6 1 1 28) ∧ tget (tab_6_putNext X) 28 = some (false, a_ald false 29) ∧ tget (tab_6_putNext X) 29 = some (false, a_icmp 1 36 32) ∧ tget (tab_6_putNext X) 32 = some (false, a_const 1 33) ∧ tget (tab_6_putNext X) 33 = some (false, a_goto 37) ∧ tget (tab_6_putNext X) 36 = some (false, a_const 0 37) ∧ tget (tab_6_putNext X) 37 = some (false, a_istore 2 38) ∧ tget (tab_6_putNext X) 38 = some (false, a_iload 2 39) ∧ tget (tab_6_putNext X) 39 = some (false, a_if 1 72 42) ∧ tget (tab_6_putNext X) 42 = some (false, a_aload 0 43) ∧ tget (tab_6_putNext X) 43 = some (false, a_gr 6 9 46) ∧ tget (tab_6_putNext X) 46 = some (false, a_cv X M_6_putNext M_5_isBegun 5 1 49) ∧ tget (tab_6_putNext X) 49 = some (false, a_if 1 72 52) ∧ tget (tab_6_putNext X) 52 = some (false, a_aload 1 53) ∧ tget (tab_6_putNext X) 53 = some (false, a_gr 1 1 56) ∧ tget (tab_6_putNext X) 56 = some (false, a_const 3 57) ∧ tget (tab_6_putNext X) 57 = some (false, a_aald 58) ∧ tget (tab_6_putNext X) 58 = some (false, a_aload 0 59) ∧ tget (tab_6_putNext X) 59 = some (false, a_gr 6 9 62) ∧ tget (tab_6_putNext X) 62 = some (false, a_gi 5 0 0 65) ∧ tget (tab_6_putNext X) 65 = some (false, a_ald false 66) ∧ tget (tab_6_putNext X) 66 = some (false, a_const 1 67) ∧ tget (tab_6_putNext X) 67 = some (false, a_icmp 1 72 70) ∧ tget (tab_6_putNext X) 70 = some (false, a_const 0 71) ∧ tget (tab_6_putNext X) 71 = some (false, a_zret M_6_putNext) ∧ tget (tab_6_putNext X) 72 = some (false, a_aload 0 73) ∧ tget (tab_6_putNext X) 73 = some (false, a_aload 1 74) ∧ tget (tab_6_putNext X) 74 = some (false, a_aload 0 75) ∧ tget (tab_6_putNext X) 75 = some (false, a_gr 6 9 78) ∧ tget (tab_6_putNext X) 78 = some (false, a_cv X M_6_putNext M_6_fits 6 3 81) ∧ tget (tab_6_putNext X) 81 = some (false, a_if 0 91 84) ∧ tget (tab_6_putNext X) 84 = some (false, a_aload 0 85) ∧ tget (tab_6_putNext X) 85 = some (false, a_aload 1 86) ∧ tget (tab_6_putNext X) 86 = some (false, a_cn X M_6_putNext M_6_putRest 6 2 89) ∧ tget (tab_6_putNext X) 89 = some (false, a_const 1 90) ∧ tget (tab_6_putNext X) 90 = some (false, a_zret M_6_putNext) ∧ tget (tab_6_putNext X) 91 = some (false, a_aload 1 92) ∧ tget (tab_6_putNext X) 92 = some (false, a_gr 1 1 95) ∧ tget (tab_6_putNext X) 95 = some (false, a_const 2 96) ∧ tget (tab_6_putNext X) 96 = some (false, a_aald 97) ∧ tget (tab_6_putNext X) 97 = some (false, a_aload 0 98) ∧ tget (tab_6_putNext X) 98 = some (false, a_gr 6 9 101) ∧ tget (tab_6_putNext X) 101 = some (false, a_gi 5 0 0 104) ∧ tget (tab_6_putNext X) 104 = some (false, a_ald false 105) ∧ tget (tab_6_putNext X) 105 = some (false, a_if 1 140 108) ∧ tget (tab_6_putNext X) 108 = some (false, a_aload 0 109) ∧ tget (tab_6_putNext X) 109 = some (false, a_aload 1 110) ∧ tget (tab_6_putNext X) 110 = some (false, a_cv X M_6_putNext M_6_findStart 6 2 113) ∧ tget (tab_6_putNext X) 113 = some (false, a_if 0 140 116) ∧ tget (tab_6_putNext X) 116 = some (false, a_aload 0 117) ∧ tget (tab_6_putNext X) 117 = some (false, a_aload 1 118) ∧ tget (tab_6_putNext X) 118 = some (false, a_aload 0 119) ∧ tget (tab_6_putNext X) 119 = some (false, a_gr 6 10 122) ∧ tget (tab_6_putNext X) 122 = some (false, a_const 1 123) ∧ tget (tab_6_putNext X) 123 = some (false, a_cn X M_6_putNext M_6_addSegment 6 4 126) ∧ tget (tab_6_putNext X) 126 = some (false, a_aload 0 127) ∧ tget (tab_6_putNext X) 127 = some (false, a_gr 6 9 130) ∧ tget (tab_6_putNext X) 130 = some (false, a_aload 0 131) ∧ tget (tab_6_putNext X) 131 = some (false, a_gr 6 10 134) ∧ tget (tab_6_putNext X) 134 = some (false, a_cn X M_6_putNext M_5_dropStart 5 2 137) ∧ tget (tab_6_putNext X) 137 = some (false, a_goto 159) ∧ tget (tab_6_putNext X) 140 = some (false, a_iload 2 141) ∧ tget (tab_6_putNext X) 141 = some (false, a_if 0 159 144) ∧ tget (tab_6_putNext X) 144 = some (false, a_aload 0 145) ∧ tget (tab_6_putNext X) 145 = some (false, a_gr 6 3 148) ∧ tget (tab_6_putNext X) 148 = some (false, a_aload 0 149) ∧ tget (tab_6_putNext X) 149 = some (false, a_gi 6 1 1 152) ∧ tget (tab_6_putNext X) 152 = some (false, a_const 1 153) ∧ tget (tab_6_putNext X) 153 = some (false, a_ast false 154) ∧ tget (tab_6_putNext X) 154 = some (false, a_aload 0 155) ∧ tget (tab_6_putNext X) 155 = some (false, a_aload 1 156) ∧ tget (tab_6_putNext X) 156 = some (false, a_cn X M_6_putNext M_6_putRest 6 2 159) ∧ tget (tab_6_putNext X) 159 = some (false, a_const 0 160) ∧ tget (tab_6_putNext X) 160 = some (false, a_zret M_6_putNext) := ⟨rfl, rfl, rfl, rfl, rfl, rfl, rfl, rfl, rfl, rfl, rfl, rfl, rfl, rfl, rfl, rfl, rfl, rfl, rfl, rfl, rfl, rfl, rfl, rfl, rfl, rfl, rfl, rfl, rfl, rfl, rfl, rfl, rfl, rfl, rfl, rfl, rfl, rfl, rfl, rfl, rfl, rfl, rfl, rfl, rfl, rfl, rfl, rfl, rfl, rfl, rfl, rfl, rfl, rfl, rfl, rfl, rfl, rfl, rfl, rfl, rfl, rfl, rfl, rfl, rfl, rfl, rfl, rfl, rfl, rfl, rfl, rfl, rfl, rfl, rfl, rfl, rfl, rfl, rfl, rfl, rfl, rfl, rfl, rfl, rfl, rfl, rfl⟩
theorem tok_6_putNext (X : XT) : TabOK X M_6_putNext (tab_6_putNext X) := by
  unfold tab_6_putNext
  refine tok_cons (snd_aload_n dX6_putNext_0 rfl rfl) ?_
  refine tok_cons (snd_aload_n dX6_putNext_1 rfl rfl) ?_
  refine tok_cons (snd_gr (C := RX6) (T := TX6) (N := 11) dX6_putNext_2 rfl (by decide) rfl wf6_43 inX6 rfl) ?_
  refine tok_cons (snd_gi (C := RX5) (T := TX5) (N := 3) dX6_putNext_5 rfl (by decide) rfl wf6_64 inX5 rfl rfl) ?_
  refine tok_cons (snd_cv dX6_putNext_8 mok_1_hasPair ⟨wm6_67, wi_1_hasPair, wl_1_hasPair⟩ (rc := (RX1, TX1, 5)) rfl rfl pn_1_hasPair (by decide) ⟨rfl, rfl⟩ rfl) ?_
  refine tok_cons (snd_if_ne dX6_putNext_11 (by decide) rfl) ?_
  refine tok_cons (snd_iconst dX6_putNext_14 rfl (inr_d rfl) rfl) ?_
  refine tok_cons (snd_zret dX6_putNext_15 rfl) ?_
  refine tok_cons (snd_aload_n dX6_putNext_16 rfl rfl) ?_
  refine tok_cons (snd_gi (C := RX6) (T := TX6) (N := 11) dX6_putNext_17 rfl (by decide) rfl wf6_53 inX6 rfl rfl) ?_
  refine tok_cons (snd_aload_n dX6_putNext_20 rfl rfl) ?_
  refine tok_cons (snd_gr (C := RX6) (T := TX6) (N := 11) dX6_putNext_21 rfl (by decide) rfl wf6_15 inX6 rfl) ?_
  refine tok_cons (snd_aload_n dX6_putNext_24 rfl rfl) ?_
  refine tok_cons (snd_gi (C := RX6) (T := TX6) (N := 11) dX6_putNext_25 rfl (by decide) rfl wf6_50 inX6 rfl rfl) ?_
  refine tok_cons (snd_iald dX6_putNext_28 rfl) ?_
  refine tok_cons (snd_icmp_ne dX6_putNext_29 (by decide) rfl) ?_
  refine tok_cons (snd_iconst dX6_putNext_32 rfl (inr_d rfl) rfl) ?_
  refine tok_cons (snd_goto dX6_putNext_33 (by decide)) ?_
  refine tok_cons (snd_iconst dX6_putNext_36 rfl (inr_d rfl) rfl) ?_
  refine tok_cons (snd_istore_n dX6_putNext_37 rfl rfl (by decide)) ?_
  refine tok_cons (snd_iload_n dX6_putNext_38 rfl rfl) ?_
  refine tok_cons (snd_if_ne dX6_putNext_39 (by decide) rfl) ?_
  refine tok_cons (snd_aload_n dX6_putNext_42 rfl rfl) ?_
  refine tok_cons (snd_gr (C := RX6) (T := TX6) (N := 11) dX6_putNext_43 rfl (by decide) rfl wf6_43 inX6 rfl) ?_
  refine tok_cons (snd_cv dX6_putNext_46 mok_5_isBegun ⟨wm6_88, wi_5_isBegun, wl_5_isBegun⟩ (rc := (RX5, TX5, 3)) rfl rfl pn_5_isBegun (by decide) ⟨rfl, rfl⟩ rfl) ?_
  refine tok_cons (snd_if_ne dX6_putNext_49 (by decide) rfl) ?_
  refine tok_cons (snd_aload_n dX6_putNext_52 rfl rfl) ?_
  refine tok_cons (snd_gr (C := RX1) (T := TX1) (N := 5) dX6_putNext_53 rfl (by decide) rfl wf6_91 inX1 rfl) ?_
  refine tok_cons (snd_iconst dX6_putNext_56 rfl (inr_d rfl) rfl) ?_
  refine tok_cons (snd_aald dX6_putNext_57 rfl) ?_
  refine tok_cons (snd_aload_n dX6_putNext_58 rfl rfl) ?_
  refine tok_cons (snd_gr (C := RX6) (T := TX6) (N := 11) dX6_putNext_59 rfl (by decide) rfl wf6_43 inX6 rfl) ?_
  refine tok_cons (snd_gi (C := RX5) (T := TX5) (N := 3) dX6_putNext_62 rfl (by decide) rfl wf6_64 inX5 rfl rfl) ?_
  refine tok_cons (snd_iald dX6_putNext_65 rfl) ?_
  refine tok_cons (snd_iconst dX6_putNext_66 rfl (inr_d rfl) rfl) ?_
  refine tok_cons (snd_icmp_ne dX6_putNext_67 (by decide) rfl) ?_
  refine tok_cons (snd_iconst dX6_putNext_70 rfl (inr_d rfl) rfl) ?_
  refine tok_cons (snd_zret dX6_putNext_71 rfl) ?_
  refine tok_cons (snd_aload_n dX6_putNext_72 rfl rfl) ?_
  refine tok_cons (snd_aload_n dX6_putNext_73 rfl rfl) ?_
  refine tok_cons (snd_aload_n dX6_putNext_74 rfl rfl) ?_
  refine tok_cons (snd_gr (C := RX6) (T := TX6) (N := 11) dX6_putNext_75 rfl (by decide) rfl wf6_43 inX6 rfl) ?_
  refine tok_cons (snd_cv dX6_putNext_78 mok_6_fits ⟨wm6_94, wi_6_fits, wl_6_fits⟩ (rc := (RX6, TX6, 11)) rfl rfl pn_6_fits (by decide) ⟨rfl, rfl⟩ rfl) ?_
  refine tok_cons (snd_if_eq dX6_putNext_81 (by decide) rfl) ?_
  refine tok_cons (snd_aload_n dX6_putNext_84 rfl rfl) ?_
  refine tok_cons (snd_aload_n dX6_putNext_85 rfl rfl) ?_
  refine tok_cons (snd_cn dX6_putNext_86 mok_6_putRest ⟨wm6_98, wi_6_putRest, wl_6_putRest⟩ (rc := (RX6, TX6, 11)) rfl rfl pn_6_putRest (by decide) ⟨rfl, rfl⟩ rfl) ?_
  refine tok_cons (snd_iconst dX6_putNext_89 rfl (inr_d rfl) rfl) ?_
  refine tok_cons (snd_zret dX6_putNext_90 rfl) ?_
  refine tok_cons (snd_aload_n dX6_putNext_91 rfl rfl) ?_
  refine tok_cons (snd_gr (C := RX1) (T := TX1) (N := 5) dX6_putNext_92 rfl (by decide) rfl wf6_91 inX1 rfl) ?_
  refine tok_cons (snd_iconst dX6_putNext_95 rfl (inr_d rfl) rfl) ?_
  refine tok_cons (snd_aald dX6_putNext_96 rfl) ?_
  refine tok_cons (snd_aload_n dX6_putNext_97 rfl rfl) ?_
  refine tok_cons (snd_gr (C := RX6) (T := TX6) (N := 11) dX6_putNext_98 rfl (by decide) rfl wf6_43 inX6 rfl) ?_
  refine tok_cons (snd_gi (C := RX5) (T := TX5) (N := 3) dX6_putNext_101 rfl (by decide) rfl wf6_64 inX5 rfl rfl) ?_
  refine tok_cons (snd_iald dX6_putNext_104 rfl) ?_
  refine tok_cons (snd_if_ne dX6_putNext_105 (by decide) rfl) ?_
  refine tok_cons (snd_aload_n dX6_putNext_108 rfl rfl) ?_
  refine tok_cons (snd_aload_n dX6_putNext_109 rfl rfl) ?_
  refine tok_cons (snd_cv dX6_putNext_110 mok_6_findStart ⟨wm6_101, wi_6_findStart, wl_6_findStart⟩ (rc := (RX6, TX6, 11)) rfl rfl pn_6_findStart (by decide) ⟨rfl, rfl⟩ rfl) ?_
  refine tok_cons (snd_if_eq dX6_putNext_113 (by decide) rfl) ?_
  refine tok_cons (snd_aload_n dX6_putNext_116 rfl rfl) ?_
  refine tok_cons (snd_aload_n dX6_putNext_117 rfl rfl) ?_
  refine tok_cons (snd_aload_n dX6_putNext_118 rfl rfl) ?_
  refine tok_cons (snd_gr (C := RX6) (T := TX6) (N := 11) dX6_putNext_119 rfl (by decide) rfl wf6_47 inX6 rfl) ?_
  refine tok_cons (snd_iconst dX6_putNext_122 rfl (inr_d rfl) rfl) ?_
  refine tok_cons (snd_cn dX6_putNext_123 mok_6_addSegment ⟨wm6_104, wi_6_addSegment, wl_6_addSegment⟩ (rc := (RX6, TX6, 11)) rfl rfl pn_6_addSegment (by decide) ⟨rfl, rfl⟩ rfl) ?_
  refine tok_cons (snd_aload_n dX6_putNext_126 rfl rfl) ?_
  refine tok_cons (snd_gr (C := RX6) (T := TX6) (N := 11) dX6_putNext_127 rfl (by decide) rfl wf6_43 inX6 rfl) ?_
  refine tok_cons (snd_aload_n dX6_putNext_130 rfl rfl) ?_
  refine tok_cons (snd_gr (C := RX6) (T := TX6) (N := 11) dX6_putNext_131 rfl (by decide) rfl wf6_47 inX6 rfl) ?_
  refine tok_cons (snd_cn dX6_putNext_134 mok_5_dropStart ⟨wm6_108, wi_5_dropStart, wl_5_dropStart⟩ (rc := (RX5, TX5, 3)) rfl rfl pn_5_dropStart (by decide) ⟨rfl, rfl⟩ rfl) ?_
  refine tok_cons (snd_goto dX6_putNext_137 (by decide)) ?_
  refine tok_cons (snd_iload_n dX6_putNext_140 rfl rfl) ?_
  refine tok_cons (snd_if_eq dX6_putNext_141 (by decide) rfl) ?_
  refine tok_cons (snd_aload_n dX6_putNext_144 rfl rfl) ?_
  refine tok_cons (snd_gr (C := RX6) (T := TX6) (N := 11) dX6_putNext_145 rfl (by decide) rfl wf6_19 inX6 rfl) ?_
  refine tok_cons (snd_aload_n dX6_putNext_148 rfl rfl) ?_
  refine tok_cons (snd_gi (C := RX6) (T := TX6) (N := 11) dX6_putNext_149 rfl (by decide) rfl wf6_50 inX6 rfl rfl) ?_
  refine tok_cons (snd_iconst dX6_putNext_152 rfl (inr_d rfl) rfl) ?_
  refine tok_cons (snd_iast dX6_putNext_153 rfl) ?_
  refine tok_cons (snd_aload_n dX6_putNext_154 rfl rfl) ?_
  refine tok_cons (snd_aload_n dX6_putNext_155 rfl rfl) ?_
  refine tok_cons (snd_cn dX6_putNext_156 mok_6_putRest ⟨wm6_98, wi_6_putRest, wl_6_putRest⟩ (rc := (RX6, TX6, 11)) rfl rfl pn_6_putRest (by decide) ⟨rfl, rfl⟩ rfl) ?_
  refine tok_cons (snd_iconst dX6_putNext_159 rfl (inr_d rfl) rfl) ?_
  refine tok_cons (snd_zret dX6_putNext_160 rfl) ?_
  exact tok_nil
def tab_7_undo (X : XT) : Tab := [(0, false, a_aload 0 1), (1, false, a_gr 7 1 4), (4, false, a_gi 3 0 0 7), (7, false, a_if 4 13 10), (10, false, a_const (-2) 12), (12, false, a_iret M_7_undo), (13, false, a_aload 0 14), (14, false, a_gr 7 1 17), (17, false, a_aload 0 18), (18, false, a_gr 7 0 21), (21, false, a_cn X M_7_undo M_3_restore 3 2 24), (24, false, a_aload 0 25), (25, false, a_cn X M_7_undo M_7_forgetResults 7 1 28), (28, false, a_aload 0 29), (29, false, a_gr 7 1 32), (32, false, a_gi 3 0 0 35), (35, false, a_iret M_7_undo)]
set_option maxRecDepth 20000 in
theorem t_7_undo (X : XT) : tget (tab_7_undo X) 0 = some (false, a_aload 0 1) ∧ tget (tab_7_undo X) 1 = some (false, a_gr 7 1 4) ∧ tget (tab_7_undo X) 4 = some (false, a_gi 3 0 0 7) ∧ tget (tab_7_undo X) 7 = some (false, a_if 4 13 10) ∧ tget (tab_7_undo X) 10 = some (false, a_const (-2) 12) ∧ tget (tab_7_undo X) 12 = some (false, a_iret M_7_undo) ∧ tget (tab_7_undo X) 13 = some (false, a_aload 0 14) ∧ tget (tab_7_undo X) 14 = some (false, a_gr 7 1 17) ∧ tget (tab_7_undo X) 17 = some (false, a_aload 0 18) ∧ tget (tab_7_undo X) 18 = some (false, a_gr 7 0 21) ∧ tget (tab_7_undo X) 21 = some (false, a_cn X M_7_undo M_3_restore 3 2 24) ∧ tget (tab_7_undo X) 24 = some (false, a_aload 0 25) ∧ tget (tab_7_undo X) 25 = some (false, a_cn X M_7_undo M_7_forgetResults 7 1 28) ∧ tget (tab_7_undo X) 28 = some (false, a_aload 0 29) ∧ tget (tab_7_undo X) 29 = some (false, a_gr 7 1 32) ∧ tget (tab_7_undo X) 32 = some (false, a_gi 3 0 0 35) ∧ tget (tab_7_undo X) 35 = some (false, a_iret M_7_undo) := ⟨rfl, rfl, rfl, rfl, rfl, rfl, rfl, rfl, rfl, rfl, rfl, rfl, rfl, rfl, rfl, rfl, rfl⟩
theorem tok_7_undo (X : XT) : TabOK X M_7_undo (tab_7_undo X) := by
  unfold tab_7_undo
  refine tok_cons (snd_aload_n dX7_undo_0 rfl rfl) ?_
  refine tok_cons (snd_gr (C := RX7) (T := TX7) (N := 4) dX7_undo_1 rfl (by decide) rfl wf7_19 inX7 rfl) ?_
  refine tok_cons (snd_gi (C := RX3) (T := TX3) (N := 3) dX7_undo_4 rfl (by decide) rfl wf7_104 inX3 rfl rfl) ?_
  refine tok_cons (snd_if_gt dX7_undo_7 (by decide) rfl) ?_
  refine tok_cons (snd_bipush dX7_undo_10 (by decide) (inr_d rfl) rfl) ?_
  refine tok_cons (snd_iret dX7_undo_12 rfl) ?_
  refine tok_cons (snd_aload_n dX7_undo_13 rfl rfl) ?_
  refine tok_cons (snd_gr (C := RX7) (T := TX7) (N := 4) dX7_undo_14 rfl (by decide) rfl wf7_19 inX7 rfl) ?_
  refine tok_cons (snd_aload_n dX7_undo_17 rfl rfl) ?_
  refine tok_cons (snd_gr (C := RX7) (T := TX7) (N := 4) dX7_undo_18 rfl (by decide) rfl wf7_10 inX7 rfl) ?_
  refine tok_cons (snd_cn dX7_undo_21 mok_3_restore ⟨wm7_105, wi_3_restore, wl_3_restore⟩ (rc := (RX3, TX3, 3)) rfl rfl pn_3_restore (by decide) ⟨rfl, rfl⟩ rfl) ?_
  refine tok_cons (snd_aload_n dX7_undo_24 rfl rfl) ?_
  refine tok_cons (snd_cn dX7_undo_25 mok_7_forgetResults ⟨wm7_109, wi_7_forgetResults, wl_7_forgetResults⟩ (rc := (RX7, TX7, 4)) rfl rfl pn_7_forgetResults (by decide) ⟨rfl, rfl⟩ rfl) ?_
  refine tok_cons (snd_aload_n dX7_undo_28 rfl rfl) ?_
  refine tok_cons (snd_gr (C := RX7) (T := TX7) (N := 4) dX7_undo_29 rfl (by decide) rfl wf7_19 inX7 rfl) ?_
  refine tok_cons (snd_gi (C := RX3) (T := TX3) (N := 3) dX7_undo_32 rfl (by decide) rfl wf7_104 inX3 rfl rfl) ?_
  refine tok_cons (snd_iret dX7_undo_35 rfl) ?_
  exact tok_nil
def tab_7_beginChange (X : XT) : Tab := [(0, false, a_aload 0 1), (1, false, a_gr 7 1 4), (4, false, a_aload 0 5), (5, false, a_gr 7 0 8), (8, false, a_cn X M_7_beginChange M_3_record 3 2 11), (11, false, a_aload 0 12), (12, false, a_cn X M_7_beginChange M_7_forgetResults 7 1 15), (15, false, a_ret M_7_beginChange)]
set_option maxRecDepth 20000 in
theorem t_7_beginChange (X : XT) : tget (tab_7_beginChange X) 0 = some (false, a_aload 0 1) ∧ tget (tab_7_beginChange X) 1 = some (false, a_gr 7 1 4) ∧ tget (tab_7_beginChange X) 4 = some (false, a_aload 0 5) ∧ tget (tab_7_beginChange X) 5 = some (false, a_gr 7 0 8) ∧ tget (tab_7_beginChange X) 8 = some (false, a_cn X M_7_beginChange M_3_record 3 2 11) ∧ tget (tab_7_beginChange X) 11 = some (false, a_aload 0 12) ∧ tget (tab_7_beginChange X) 12 = some (false, a_cn X M_7_beginChange M_7_forgetResults 7 1 15) ∧ tget (tab_7_beginChange X) 15 = some (false, a_ret M_7_beginChange) := ⟨rfl, rfl, rfl, rfl, rfl, rfl, rfl, rfl⟩
theorem tok_7_beginChange (X : XT) : TabOK X M_7_beginChange (tab_7_beginChange X) := by
  unfold tab_7_beginChange
  refine tok_cons (snd_aload_n dX7_beginChange_0 rfl rfl) ?_
  refine tok_cons (snd_gr (C := RX7) (T := TX7) (N := 4) dX7_beginChange_1 rfl (by decide) rfl wf7_19 inX7 rfl) ?_
  refine tok_cons (snd_aload_n dX7_beginChange_4 rfl rfl) ?_
  refine tok_cons (snd_gr (C := RX7) (T := TX7) (N := 4) dX7_beginChange_5 rfl (by decide) rfl wf7_10 inX7 rfl) ?_
  refine tok_cons (snd_cn dX7_beginChange_8 mok_3_record ⟨wm7_185, wi_3_record, wl_3_record⟩ (rc := (RX3, TX3, 3)) rfl rfl pn_3_record (by decide) ⟨rfl, rfl⟩ rfl) ?_
  refine tok_cons (snd_aload_n dX7_beginChange_11 rfl rfl) ?_
  refine tok_cons (snd_cn dX7_beginChange_12 mok_7_forgetResults ⟨wm7_109, wi_7_forgetResults, wl_7_forgetResults⟩ (rc := (RX7, TX7, 4)) rfl rfl pn_7_forgetResults (by decide) ⟨rfl, rfl⟩ rfl) ?_
  refine tok_cons (snd_ret dX7_beginChange_15 rfl) ?_
  exact tok_nil
def tab_6_arrange (X : XT) : Tab := [(0, false, a_aload 0 1), (1, false, a_gi 6 0 0 4), (4, false, a_iload 2 5), (5, false, a_icmp 1 9 8), (8, false, a_ret M_6_arrange), (9, false, a_aload 0 10), (10, false, a_iload 2 11), (11, false, a_pi 6 0 0 false 14), (14, false, a_aload 0 15), (15, false, a_const 0 16), (16, false, a_pi 6 1 1 false 19), (19, false, a_aload 0 20), (20, false, a_const 0 21), (21, false, a_pi 6 6 6 false 24), (24, false, a_aload 0 25), (25, false, a_gr 6 9 28), (28, false, a_aload 1 29), (29, false, a_const 0 30), (30, false, a_cn X M_6_arrange M_5_takePair 5 3 33), (33, false, a_aload 0 34), (34, false, a_gr 6 7 37), (37, false, a_const 0 38), (38, false, a_const 0 39), (39, false, a_const 0 40), (40, false, a_cn X M_6_arrange M_2_turn 2 4 43), (43, false, a_aload 0 44), (44, false, a_gr 6 7 47), (47, false, a_const 1 48), (48, false, a_const 0 49), (49, false, a_const 0 50), (50, false, a_cn X M_6_arrange M_2_turn 2 4 53), (53, false, a_const 0 54), (54, false, a_istore 3 55), (55, true, a_iload 3 56), (56, false, a_const 601 59), (59, false, a_icmp 3 135 62), (62, false, a_aload 1 63), (63, false, a_aload 0 64), (64, false, a_gr 6 9 67), (67, false, a_gi 5 0 0 70), (70, false, a_cv X M_6_arrange M_1_hasPair 1 2 73), (73, false, a_if 1 83 76), (76, false, a_aload 0 77), (77, false, a_cv X M_6_arrange M_6_isCarried 6 1 80), (80, false, a_if 0 135 83), (83, false, a_aload 0 84), (84, false, a_gr 6 3 87), (87, false, a_aload 0 88), (88, false, a_gi 6 1 1 91), (91, false, a_const 0 92), (92, false, a_ast false 93), (93, false, a_const 1 94), (94, false, a_istore 4 96), (96, false, a_const 0 97), (97, false, a_istore 5 99), (99, true, a_iload 4 101), (101, false, a_if 0 124 104), (104, false, a_iload 5 106), (106, false, a_const 20 108), (108, false, a_icmp 3 124 111), (111, false, a_aload 0 112), (112, false, a_aload 1 113), (113, false, a_cv X M_6_arrange M_6_putNext 6 2 116), (116, false, a_istore 4 118), (118, false, a_iinc 5 1 121), (121, false, a_goto 99), (124, false, a_aload 0 125), (125, false, a_aload 1 126), (126, false, a_cn X M_6_arrange M_6_endSpread 6 2 129), (129, false, a_iinc 3 1 132), (132, false, a_goto 55), (135, false, a_ret M_6_arrange)]
set_option maxRecDepth 20000 in
theorem t_6_arrange (X : XT) : tget (tab_6_arrange X) 0 = some (false, a_aload 0 1) ∧ tget (tab_6_arrange X) 1 = some (false, a_gi 6 0 0 4) ∧ tget (tab_6_arrange X) 4 = some (false, a_iload 2 5) ∧ tget (tab_6_arrange X) 5 = some (false, a_icmp 1 9 8) ∧ tget (tab_6_arrange X) 8 = some (false, a_ret M_6_arrange) ∧ tget (tab_6_arrange X) 9 = some (false, a_aload 0 10) ∧ tget (tab_6_arrange X) 10 = some (false, a_iload 2 11) ∧ tget (tab_6_arrange X) 11 = some (false, a_pi 6 0 0 false 14) ∧ tget (tab_6_arrange X) 14 = some (false, a_aload 0 15) ∧ tget (tab_6_arrange X) 15 = some (false, a_const 0 16) ∧ tget (tab_6_arrange X) 16 = some (false, a_pi 6 1 1 false 19) ∧ tget (tab_6_arrange X) 19 = some (false, a_aload 0 20) ∧ tget (tab_6_arrange X) 20 = some (false, a_const 0 21) ∧ tget (tab_6_arrange X) 21 = some (false, a_pi 6 6 6 false 24) ∧ tget (tab_6_arrange X) 24 = some (false, a_aload 0 25) ∧ tget (tab_6_arrange X) 25 = some (false, a_gr 6 9 28) ∧ tget (tab_6_arrange X) 28 = some (false, a_aload 1 29) ∧ tget (tab_6_arrange X) 29 = some (false, a_const 0 30) ∧ tget (tab_6_arrange X) 30 = some (false, a_cn X M_6_arrange M_5_takePair 5 3 33) ∧ tget (tab_6_arrange X) 33 = some (false, a_aload 0 34) ∧ tget (tab_6_arrange X) 34 = some (false, a_gr 6 7 37) ∧ tget (tab_6_arrange X) 37 = some (false, a_const 0 38) ∧ tget (tab_6_arrange X) 38 = some (false, a_const 0 39) ∧ tget (tab_6_arrange X) 39 = some (false, a_const 0 40) ∧ tget (tab_6_arrange X) 40 = some (false, a_cn X M_6_arrange M_2_turn 2 4 43) ∧ tget (tab_6_arrange X) 43 = some (false, a_aload 0 44) ∧ tget (tab_6_arrange X) 44 = some (false, a_gr 6 7 47) ∧ tget (tab_6_arrange X) 47 = some (false, a_const 1 48) ∧ tget (tab_6_arrange X) 48 = some (false, a_const 0 49) ∧ tget (tab_6_arrange X) 49 = some (false, a_const 0 50) ∧ tget (tab_6_arrange X) 50 = some (false, a_cn X M_6_arrange M_2_turn 2 4 53) ∧ tget (tab_6_arrange X) 53 = some (false, a_const 0 54) ∧ tget (tab_6_arrange X) 54 = some (false, a_istore 3 55) ∧ tget (tab_6_arrange X) 55 = some (true, a_iload 3 56) ∧ tget (tab_6_arrange X) 56 = some (false, a_const 601 59) ∧ tget (tab_6_arrange X) 59 = some (false, a_icmp 3 135 62) ∧ tget (tab_6_arrange X) 62 = some (false, a_aload 1 63) ∧ tget (tab_6_arrange X) 63 = some (false, a_aload 0 64) ∧ tget (tab_6_arrange X) 64 = some (false, a_gr 6 9 67) ∧ tget (tab_6_arrange X) 67 = some (false, a_gi 5 0 0 70) ∧ tget (tab_6_arrange X) 70 = some (false, a_cv X M_6_arrange M_1_hasPair 1 2 73) ∧ tget (tab_6_arrange X) 73 = some (false, a_if 1 83 76) ∧ tget (tab_6_arrange X) 76 = some (false, a_aload 0 77) ∧ tget (tab_6_arrange X) 77 = some (false, a_cv X M_6_arrange M_6_isCarried 6 1 80) ∧ tget (tab_6_arrange X) 80 = some (false, a_if 0 135 83) ∧ tget (tab_6_arrange X) 83 = some (false, a_aload 0 84) ∧ tget (tab_6_arrange X) 84 = some (false, a_gr 6 3 87) ∧ tget (tab_6_arrange X) 87 = some (false, a_aload 0 88) ∧ tget (tab_6_arrange X) 88 = some (false, a_gi 6 1 1 91) ∧ tget (tab_6_arrange X) 91 = some (false, a_const 0 92) ∧ tget (tab_6_arrange X) 92 = some (false, a_ast false 93) ∧ tget (tab_6_arrange X) 93 = some (false, a_const 1 94) ∧ tget (tab_6_arrange X) 94 = some (false, a_istore 4 96) ∧ tget (tab_6_arrange X) 96 = some (false, a_const 0 97) ∧ tget (tab_6_arrange X) 97 = some (false, a_istore 5 99) ∧ tget (tab_6_arrange X) 99 = some (true, a_iload 4 101) ∧ tget (tab_6_arrange X) 101 = some (false, a_if 0 124 104) ∧ tget (tab_6_arrange X) 104 = some (false, a_iload 5 106) ∧ tget (tab_6_arrange X) 106 = some (false, a_const 20 108) ∧ tget (tab_6_arrange X) 108 = some (false, a_icmp 3 124 111) ∧ tget (tab_6_arrange X) 111 = some (false, a_aload 0 112) ∧ tget (tab_6_arrange X) 112 = some (false, a_aload 1 113) ∧ tget (tab_6_arrange X) 113 = some (false, a_cv X M_6_arrange M_6_putNext 6 2 116) ∧ tget (tab_6_arrange X) 116 = some (false, a_istore 4 118) ∧ tget (tab_6_arrange X) 118 = some (false, a_iinc 5 1 121) ∧ tget (tab_6_arrange X) 121 = some (false, a_goto 99) ∧ tget (tab_6_arrange X) 124 = some (false, a_aload 0 125) ∧ tget (tab_6_arrange X) 125 = some (false, a_aload 1 126) ∧ tget (tab_6_arrange X) 126 = some (false, a_cn X M_6_arrange M_6_endSpread 6 2 129) ∧ tget (tab_6_arrange X) 129 = some (false, a_iinc 3 1 132) ∧ tget (tab_6_arrange X) 132 = some (false, a_goto 55) ∧ tget (tab_6_arrange X) 135 = some (false, a_ret M_6_arrange) := ⟨rfl, rfl, rfl, rfl, rfl, rfl, rfl, rfl, rfl, rfl, rfl, rfl, rfl, rfl, rfl, rfl, rfl, rfl, rfl, rfl, rfl, rfl, rfl, rfl, rfl, rfl, rfl, rfl, rfl, rfl, rfl, rfl, rfl, rfl, rfl, rfl, rfl, rfl, rfl, rfl, rfl, rfl, rfl, rfl, rfl, rfl, rfl, rfl, rfl, rfl, rfl, rfl, rfl, rfl, rfl, rfl, rfl, rfl, rfl, rfl, rfl, rfl, rfl, rfl, rfl, rfl, rfl, rfl, rfl, rfl, rfl, rfl⟩
theorem tok_6_arrange (X : XT) : TabOK X M_6_arrange (tab_6_arrange X) := by
  unfold tab_6_arrange
  refine tok_cons (snd_aload_n dX6_arrange_0 rfl rfl) ?_
  refine tok_cons (snd_gi (C := RX6) (T := TX6) (N := 11) dX6_arrange_1 rfl (by decide) rfl wf6_11 inX6 rfl rfl) ?_
  refine tok_cons (snd_iload_n dX6_arrange_4 rfl rfl) ?_
  refine tok_cons (snd_icmp_ne dX6_arrange_5 (by decide) rfl) ?_
  refine tok_cons (snd_ret dX6_arrange_8 rfl) ?_
  refine tok_cons (snd_aload_n dX6_arrange_9 rfl rfl) ?_
  refine tok_cons (snd_iload_n dX6_arrange_10 rfl rfl) ?_
  refine tok_cons (snd_pi (C := RX6) (T := TX6) (N := 11) (ty0 := tyX6) dX6_arrange_11 rfl (by decide) rfl wf6_11 inX6 tyX6_ok nmX6 (by decide +kernel) rfl rfl) ?_
  refine tok_cons (snd_aload_n dX6_arrange_14 rfl rfl) ?_
  refine tok_cons (snd_iconst dX6_arrange_15 rfl (inr_d rfl) rfl) ?_
  refine tok_cons (snd_pi (C := RX6) (T := TX6) (N := 11) (ty0 := tyX6) dX6_arrange_16 rfl (by decide) rfl wf6_50 inX6 tyX6_ok nmX6 (by decide +kernel) rfl rfl) ?_
  refine tok_cons (snd_aload_n dX6_arrange_19 rfl rfl) ?_
  refine tok_cons (snd_iconst dX6_arrange_20 rfl (inr_d rfl) rfl) ?_
  refine tok_cons (snd_pi (C := RX6) (T := TX6) (N := 11) (ty0 := tyX6) dX6_arrange_21 rfl (by decide) rfl wf6_53 inX6 tyX6_ok nmX6 (by decide +kernel) rfl rfl) ?_
  refine tok_cons (snd_aload_n dX6_arrange_24 rfl rfl) ?_
  refine tok_cons (snd_gr (C := RX6) (T := TX6) (N := 11) dX6_arrange_25 rfl (by decide) rfl wf6_43 inX6 rfl) ?_
  refine tok_cons (snd_aload_n dX6_arrange_28 rfl rfl) ?_
  refine tok_cons (snd_iconst dX6_arrange_29 rfl (inr_d rfl) rfl) ?_
  refine tok_cons (snd_cn dX6_arrange_30 mok_5_takePair ⟨wm6_56, wi_5_takePair, wl_5_takePair⟩ (rc := (RX5, TX5, 3)) rfl rfl pn_5_takePair (by decide) ⟨rfl, rfl⟩ rfl) ?_
  refine tok_cons (snd_aload_n dX6_arrange_33 rfl rfl) ?_
  refine tok_cons (snd_gr (C := RX6) (T := TX6) (N := 11) dX6_arrange_34 rfl (by decide) rfl wf6_33 inX6 rfl) ?_
  refine tok_cons (snd_iconst dX6_arrange_37 rfl (inr_d rfl) rfl) ?_
  refine tok_cons (snd_iconst dX6_arrange_38 rfl (inr_d rfl) rfl) ?_
  refine tok_cons (snd_iconst dX6_arrange_39 rfl (inr_d rfl) rfl) ?_
  refine tok_cons (snd_cn dX6_arrange_40 mok_2_turn ⟨wm6_60, wi_2_turn, wl_2_turn⟩ (rc := (RX2, TX2, 7)) rfl rfl pn_2_turn (by decide) ⟨rfl, rfl⟩ rfl) ?_
  refine tok_cons (snd_aload_n dX6_arrange_43 rfl rfl) ?_
  refine tok_cons (snd_gr (C := RX6) (T := TX6) (N := 11) dX6_arrange_44 rfl (by decide) rfl wf6_33 inX6 rfl) ?_
  refine tok_cons (snd_iconst dX6_arrange_47 rfl (inr_d rfl) rfl) ?_
  refine tok_cons (snd_iconst dX6_arrange_48 rfl (inr_d rfl) rfl) ?_
  refine tok_cons (snd_iconst dX6_arrange_49 rfl (inr_d rfl) rfl) ?_
  refine tok_cons (snd_cn dX6_arrange_50 mok_2_turn ⟨wm6_60, wi_2_turn, wl_2_turn⟩ (rc := (RX2, TX2, 7)) rfl rfl pn_2_turn (by decide) ⟨rfl, rfl⟩ rfl) ?_
  refine tok_cons (snd_iconst dX6_arrange_53 rfl (inr_d rfl) rfl) ?_
  refine tok_cons (snd_istore_n dX6_arrange_54 rfl rfl (by decide)) ?_
  refine tok_cons (snd_iload_n dX6_arrange_55 rfl rfl) ?_
  refine tok_cons (snd_sipush dX6_arrange_56 (by decide) (inr_d rfl) rfl) ?_
  refine tok_cons (snd_icmp_ge dX6_arrange_59 (by decide) rfl) ?_
  refine tok_cons (snd_aload_n dX6_arrange_62 rfl rfl) ?_
  refine tok_cons (snd_aload_n dX6_arrange_63 rfl rfl) ?_
  refine tok_cons (snd_gr (C := RX6) (T := TX6) (N := 11) dX6_arrange_64 rfl (by decide) rfl wf6_43 inX6 rfl) ?_
  refine tok_cons (snd_gi (C := RX5) (T := TX5) (N := 3) dX6_arrange_67 rfl (by decide) rfl wf6_64 inX5 rfl rfl) ?_
  refine tok_cons (snd_cv dX6_arrange_70 mok_1_hasPair ⟨wm6_67, wi_1_hasPair, wl_1_hasPair⟩ (rc := (RX1, TX1, 5)) rfl rfl pn_1_hasPair (by decide) ⟨rfl, rfl⟩ rfl) ?_
  refine tok_cons (snd_if_ne dX6_arrange_73 (by decide) rfl) ?_
  refine tok_cons (snd_aload_n dX6_arrange_76 rfl rfl) ?_
  refine tok_cons (snd_cv dX6_arrange_77 mok_6_isCarried ⟨wm6_73, wi_6_isCarried, wl_6_isCarried⟩ (rc := (RX6, TX6, 11)) rfl rfl pn_6_isCarried (by decide) ⟨rfl, rfl⟩ rfl) ?_
  refine tok_cons (snd_if_eq dX6_arrange_80 (by decide) rfl) ?_
  refine tok_cons (snd_aload_n dX6_arrange_83 rfl rfl) ?_
  refine tok_cons (snd_gr (C := RX6) (T := TX6) (N := 11) dX6_arrange_84 rfl (by decide) rfl wf6_19 inX6 rfl) ?_
  refine tok_cons (snd_aload_n dX6_arrange_87 rfl rfl) ?_
  refine tok_cons (snd_gi (C := RX6) (T := TX6) (N := 11) dX6_arrange_88 rfl (by decide) rfl wf6_50 inX6 rfl rfl) ?_
  refine tok_cons (snd_iconst dX6_arrange_91 rfl (inr_d rfl) rfl) ?_
  refine tok_cons (snd_iast dX6_arrange_92 rfl) ?_
  refine tok_cons (snd_iconst dX6_arrange_93 rfl (inr_d rfl) rfl) ?_
  refine tok_cons (snd_istore dX6_arrange_94 rfl (by decide)) ?_
  refine tok_cons (snd_iconst dX6_arrange_96 rfl (inr_d rfl) rfl) ?_
  refine tok_cons (snd_istore dX6_arrange_97 rfl (by decide)) ?_
  refine tok_cons (snd_iload dX6_arrange_99 rfl) ?_
  refine tok_cons (snd_if_eq dX6_arrange_101 (by decide) rfl) ?_
  refine tok_cons (snd_iload dX6_arrange_104 rfl) ?_
  refine tok_cons (snd_bipush dX6_arrange_106 (by decide) (inr_d rfl) rfl) ?_
  refine tok_cons (snd_icmp_ge dX6_arrange_108 (by decide) rfl) ?_
  refine tok_cons (snd_aload_n dX6_arrange_111 rfl rfl) ?_
  refine tok_cons (snd_aload_n dX6_arrange_112 rfl rfl) ?_
  refine tok_cons (snd_cv dX6_arrange_113 mok_6_putNext ⟨wm6_77, wi_6_putNext, wl_6_putNext⟩ (rc := (RX6, TX6, 11)) rfl rfl pn_6_putNext (by decide) ⟨rfl, rfl⟩ rfl) ?_
  refine tok_cons (snd_istore dX6_arrange_116 rfl (by decide)) ?_
  refine tok_cons (snd_iinc dX6_arrange_118 rfl rfl (by decide)) ?_
  refine tok_cons (snd_goto dX6_arrange_121 (by decide)) ?_
  refine tok_cons (snd_aload_n dX6_arrange_124 rfl rfl) ?_
  refine tok_cons (snd_aload_n dX6_arrange_125 rfl rfl) ?_
  refine tok_cons (snd_cn dX6_arrange_126 mok_6_endSpread ⟨wm6_81, wi_6_endSpread, wl_6_endSpread⟩ (rc := (RX6, TX6, 11)) rfl rfl pn_6_endSpread (by decide) ⟨rfl, rfl⟩ rfl) ?_
  refine tok_cons (snd_iinc dX6_arrange_129 rfl rfl (by decide)) ?_
  refine tok_cons (snd_goto dX6_arrange_132 (by decide)) ?_
  refine tok_cons (snd_ret dX6_arrange_135 rfl) ?_
  exact tok_nil
def tab_7_insert (X : XT) : Tab := [(0, false, a_iload 1 1), (1, false, a_const 0 2), (2, false, a_aload 0 3), (3, false, a_gr 7 0 6), (6, false, a_gi 1 0 0 9), (9, false, a_sv X M_7_insert M_7_isIn 3 12), (12, false, a_if 0 35 15), (15, false, a_iload 2 16), (16, false, a_const 1 17), (17, false, a_const 30 19), (19, false, a_sv X M_7_insert M_7_isIn 3 22), (22, false, a_if 0 35 25), (25, false, a_iload 3 26), (26, false, a_const 1 27), (27, false, a_const 30 29), (29, false, a_sv X M_7_insert M_7_isIn 3 32), (32, false, a_if 1 37 35), (35, false, a_const (-1) 36), (36, false, a_iret M_7_insert), (37, false, a_aload 0 38), (38, false, a_gr 7 0 41), (41, false, a_gi 1 0 0 44), (44, false, a_const 20 46), (46, false, a_icmp 2 52 49), (49, false, a_const (-3) 51), (51, false, a_iret M_7_insert), (52, false, a_aload 0 53), (53, false, a_cn X M_7_insert M_7_beginChange 7 1 56), (56, false, a_aload 0 57), (57, false, a_gr 7 0 60), (60, false, a_iload 1 61), (61, false, a_iload 2 62), (62, false, a_iload 3 63), (63, false, a_cn X M_7_insert M_1_placePair 1 4 66), (66, false, a_aload 0 67), (67, false, a_gr 7 0 70), (70, false, a_gi 1 0 0 73), (73, false, a_iret M_7_insert)]
set_option maxRecDepth 20000 in
theorem t_7_insert (X : XT) : tget (tab_7_insert X) 0 = some (false, a_iload 1 1) ∧ tget (tab_7_insert X) 1 = some (false, a_const 0 2) ∧ tget (tab_7_insert X) 2 = some (false, a_aload 0 3) ∧ tget (tab_7_insert X) 3 = some (false, a_gr 7 0 6) ∧ tget (tab_7_insert X) 6 = some (false, a_gi 1 0 0 9) ∧ tget (tab_7_insert X) 9 = some (false, a_sv X M_7_insert M_7_isIn 3 12) ∧ tget (tab_7_insert X) 12 = some (false, a_if 0 35 15) ∧ tget (tab_7_insert X) 15 = some (false, a_iload 2 16) ∧ tget (tab_7_insert X) 16 = some (false, a_const 1 17) ∧ tget (tab_7_insert X) 17 = some (false, a_const 30 19) ∧ tget (tab_7_insert X) 19 = some (false, a_sv X M_7_insert M_7_isIn 3 22) ∧ tget (tab_7_insert X) 22 = some (false, a_if 0 35 25) ∧ tget (tab_7_insert X) 25 = some (false, a_iload 3 26) ∧ tget (tab_7_insert X) 26 = some (false, a_const 1 27) ∧ tget (tab_7_insert X) 27 = some (false, a_const 30 29) ∧ tget (tab_7_insert X) 29 = some (false, a_sv X M_7_insert M_7_isIn 3 32) ∧ tget (tab_7_insert X) 32 = some (false, a_if 1 37 35) ∧ tget (tab_7_insert X) 35 = some (false, a_const (-1) 36) ∧ tget (tab_7_insert X) 36 = some (false, a_iret M_7_insert) ∧ tget (tab_7_insert X) 37 = some (false, a_aload 0 38) ∧ tget (tab_7_insert X) 38 = some (false, a_gr 7 0 41) ∧ tget (tab_7_insert X) 41 = some (false, a_gi 1 0 0 44) ∧ tget (tab_7_insert X) 44 = some (false, a_const 20 46) ∧ tget (tab_7_insert X) 46 = some (false, a_icmp 2 52 49) ∧ tget (tab_7_insert X) 49 = some (false, a_const (-3) 51) ∧ tget (tab_7_insert X) 51 = some (false, a_iret M_7_insert) ∧ tget (tab_7_insert X) 52 = some (false, a_aload 0 53) ∧ tget (tab_7_insert X) 53 = some (false, a_cn X M_7_insert M_7_beginChange 7 1 56) ∧ tget (tab_7_insert X) 56 = some (false, a_aload 0 57) ∧ tget (tab_7_insert X) 57 = some (false, a_gr 7 0 60) ∧ tget (tab_7_insert X) 60 = some (false, a_iload 1 61) ∧ tget (tab_7_insert X) 61 = some (false, a_iload 2 62) ∧ tget (tab_7_insert X) 62 = some (false, a_iload 3 63) ∧ tget (tab_7_insert X) 63 = some (false, a_cn X M_7_insert M_1_placePair 1 4 66) ∧ tget (tab_7_insert X) 66 = some (false, a_aload 0 67) ∧ tget (tab_7_insert X) 67 = some (false, a_gr 7 0 70) ∧ tget (tab_7_insert X) 70 = some (false, a_gi 1 0 0 73) ∧ tget (tab_7_insert X) 73 = some (false, a_iret M_7_insert) := ⟨rfl, rfl, rfl, rfl, rfl, rfl, rfl, rfl, rfl, rfl, rfl, rfl, rfl, rfl, rfl, rfl, rfl, rfl, rfl, rfl, rfl, rfl, rfl, rfl, rfl, rfl, rfl, rfl, rfl, rfl, rfl, rfl, rfl, rfl, rfl, rfl, rfl, rfl⟩
theorem tok_7_insert (X : XT) : TabOK X M_7_insert (tab_7_insert X) := by
  unfold tab_7_insert
  refine tok_cons (snd_iload_n dX7_insert_0 rfl rfl) ?_
  refine tok_cons (snd_iconst dX7_insert_1 rfl (inr_d rfl) rfl) ?_
  refine tok_cons (snd_aload_n dX7_insert_2 rfl rfl) ?_
  refine tok_cons (snd_gr (C := RX7) (T := TX7) (N := 4) dX7_insert_3 rfl (by decide) rfl wf7_10 inX7 rfl) ?_
  refine tok_cons (snd_gi (C := RX1) (T := TX1) (N := 5) dX7_insert_6 rfl (by decide) rfl wf7_37 inX1 rfl rfl) ?_
  refine tok_cons (snd_sv dX7_insert_9 mok_7_isIn ⟨ws_7_isIn, Or.inl ⟨wm7_41, rfl⟩⟩ pn_7_isIn (by decide) ⟨rfl, rfl⟩ rfl) ?_
  refine tok_cons (snd_if_eq dX7_insert_12 (by decide) rfl) ?_
  refine tok_cons (snd_iload_n dX7_insert_15 rfl rfl) ?_
  refine tok_cons (snd_iconst dX7_insert_16 rfl (inr_d rfl) rfl) ?_
  refine tok_cons (snd_bipush dX7_insert_17 (by decide) (inr_d rfl) rfl) ?_
  refine tok_cons (snd_sv dX7_insert_19 mok_7_isIn ⟨ws_7_isIn, Or.inl ⟨wm7_41, rfl⟩⟩ pn_7_isIn (by decide) ⟨rfl, rfl⟩ rfl) ?_
  refine tok_cons (snd_if_eq dX7_insert_22 (by decide) rfl) ?_
  refine tok_cons (snd_iload_n dX7_insert_25 rfl rfl) ?_
  refine tok_cons (snd_iconst dX7_insert_26 rfl (inr_d rfl) rfl) ?_
  refine tok_cons (snd_bipush dX7_insert_27 (by decide) (inr_d rfl) rfl) ?_
  refine tok_cons (snd_sv dX7_insert_29 mok_7_isIn ⟨ws_7_isIn, Or.inl ⟨wm7_41, rfl⟩⟩ pn_7_isIn (by decide) ⟨rfl, rfl⟩ rfl) ?_
  refine tok_cons (snd_if_ne dX7_insert_32 (by decide) rfl) ?_
  refine tok_cons (snd_iconst dX7_insert_35 rfl (inr_d rfl) rfl) ?_
  refine tok_cons (snd_iret dX7_insert_36 rfl) ?_
  refine tok_cons (snd_aload_n dX7_insert_37 rfl rfl) ?_
  refine tok_cons (snd_gr (C := RX7) (T := TX7) (N := 4) dX7_insert_38 rfl (by decide) rfl wf7_10 inX7 rfl) ?_
  refine tok_cons (snd_gi (C := RX1) (T := TX1) (N := 5) dX7_insert_41 rfl (by decide) rfl wf7_37 inX1 rfl rfl) ?_
  refine tok_cons (snd_bipush dX7_insert_44 (by decide) (inr_d rfl) rfl) ?_
  refine tok_cons (snd_icmp_lt dX7_insert_46 (by decide) rfl) ?_
  refine tok_cons (snd_bipush dX7_insert_49 (by decide) (inr_d rfl) rfl) ?_
  refine tok_cons (snd_iret dX7_insert_51 rfl) ?_
  refine tok_cons (snd_aload_n dX7_insert_52 rfl rfl) ?_
  refine tok_cons (snd_cn dX7_insert_53 mok_7_beginChange ⟨wm7_45, wi_7_beginChange, wl_7_beginChange⟩ (rc := (RX7, TX7, 4)) rfl rfl pn_7_beginChange (by decide) ⟨rfl, rfl⟩ rfl) ?_
  refine tok_cons (snd_aload_n dX7_insert_56 rfl rfl) ?_
  refine tok_cons (snd_gr (C := RX7) (T := TX7) (N := 4) dX7_insert_57 rfl (by decide) rfl wf7_10 inX7 rfl) ?_
  refine tok_cons (snd_iload_n dX7_insert_60 rfl rfl) ?_
  refine tok_cons (snd_iload_n dX7_insert_61 rfl rfl) ?_
  refine tok_cons (snd_iload_n dX7_insert_62 rfl rfl) ?_
  refine tok_cons (snd_cn dX7_insert_63 mok_1_placePair ⟨wm7_48, wi_1_placePair, wl_1_placePair⟩ (rc := (RX1, TX1, 5)) rfl rfl pn_1_placePair (by decide) ⟨rfl, rfl⟩ rfl) ?_
  refine tok_cons (snd_aload_n dX7_insert_66 rfl rfl) ?_
  refine tok_cons (snd_gr (C := RX7) (T := TX7) (N := 4) dX7_insert_67 rfl (by decide) rfl wf7_10 inX7 rfl) ?_
  refine tok_cons (snd_gi (C := RX1) (T := TX1) (N := 5) dX7_insert_70 rfl (by decide) rfl wf7_37 inX1 rfl rfl) ?_
  refine tok_cons (snd_iret dX7_insert_73 rfl) ?_
  exact tok_nil
def tab_7_addNote (X : XT) : Tab := [(0, false, a_aload 0 1), (1, false, a_gr 7 0 4), (4, false, a_iload 1 5), (5, false, a_iload 2 6), (6, false, a_iload 3 7), (7, false, a_cv X M_7_addNote M_1_hasLine 1 4 10), (10, false, a_if 0 24 13), (13, false, a_iload 4 15), (15, false, a_const 1 16), (16, false, a_const 10 18), (18, false, a_sv X M_7_addNote M_7_isIn 3 21), (21, false, a_if 1 26 24), (24, false, a_const (-1) 25), (25, false, a_iret M_7_addNote), (26, false, a_aload 0 27), (27, false, a_gr 7 0 30), (30, false, a_gr 1 2 33), (33, false, a_gi 4 0 0 36), (36, false, a_aload 0 37), (37, false, a_gr 7 0 40), (40, false, a_gr 1 3 43), (43, false, a_gi 4 0 0 46), (46, false, a_add 47), (47, false, a_const 40 49), (49, false, a_icmp 2 55 52), (52, false, a_const (-3) 54), (54, false, a_iret M_7_addNote), (55, false, a_aload 0 56), (56, false, a_cn X M_7_addNote M_7_beginChange 7 1 59), (59, false, a_aload 0 60), (60, false, a_gr 7 0 63), (63, false, a_iload 2 64), (64, false, a_cv X M_7_addNote M_1_notes 1 2 67), (67, false, a_iload 1 68), (68, false, a_iload 3 69), (69, false, a_iload 4 71), (71, false, a_cv X M_7_addNote M_4_place 4 4 74), (74, false, a_iret M_7_addNote)]
set_option maxRecDepth 20000 in
theorem t_7_addNote (X : XT) : tget (tab_7_addNote X) 0 = some (false, a_aload 0 1) ∧ tget (tab_7_addNote X) 1 = some (false, a_gr 7 0 4) ∧ tget (tab_7_addNote X) 4 = some (false, a_iload 1 5) ∧ tget (tab_7_addNote X) 5 = some (false, a_iload 2 6) ∧ tget (tab_7_addNote X) 6 = some (false, a_iload 3 7) ∧ tget (tab_7_addNote X) 7 = some (false, a_cv X M_7_addNote M_1_hasLine 1 4 10) ∧ tget (tab_7_addNote X) 10 = some (false, a_if 0 24 13) ∧ tget (tab_7_addNote X) 13 = some (false, a_iload 4 15) ∧ tget (tab_7_addNote X) 15 = some (false, a_const 1 16) ∧ tget (tab_7_addNote X) 16 = some (false, a_const 10 18) ∧ tget (tab_7_addNote X) 18 = some (false, a_sv X M_7_addNote M_7_isIn 3 21) ∧ tget (tab_7_addNote X) 21 = some (false, a_if 1 26 24) ∧ tget (tab_7_addNote X) 24 = some (false, a_const (-1) 25) ∧ tget (tab_7_addNote X) 25 = some (false, a_iret M_7_addNote) ∧ tget (tab_7_addNote X) 26 = some (false, a_aload 0 27) ∧ tget (tab_7_addNote X) 27 = some (false, a_gr 7 0 30) ∧ tget (tab_7_addNote X) 30 = some (false, a_gr 1 2 33) ∧ tget (tab_7_addNote X) 33 = some (false, a_gi 4 0 0 36) ∧ tget (tab_7_addNote X) 36 = some (false, a_aload 0 37) ∧ tget (tab_7_addNote X) 37 = some (false, a_gr 7 0 40) ∧ tget (tab_7_addNote X) 40 = some (false, a_gr 1 3 43) ∧ tget (tab_7_addNote X) 43 = some (false, a_gi 4 0 0 46) ∧ tget (tab_7_addNote X) 46 = some (false, a_add 47) ∧ tget (tab_7_addNote X) 47 = some (false, a_const 40 49) ∧ tget (tab_7_addNote X) 49 = some (false, a_icmp 2 55 52) ∧ tget (tab_7_addNote X) 52 = some (false, a_const (-3) 54) ∧ tget (tab_7_addNote X) 54 = some (false, a_iret M_7_addNote) ∧ tget (tab_7_addNote X) 55 = some (false, a_aload 0 56) ∧ tget (tab_7_addNote X) 56 = some (false, a_cn X M_7_addNote M_7_beginChange 7 1 59) ∧ tget (tab_7_addNote X) 59 = some (false, a_aload 0 60) ∧ tget (tab_7_addNote X) 60 = some (false, a_gr 7 0 63) ∧ tget (tab_7_addNote X) 63 = some (false, a_iload 2 64) ∧ tget (tab_7_addNote X) 64 = some (false, a_cv X M_7_addNote M_1_notes 1 2 67) ∧ tget (tab_7_addNote X) 67 = some (false, a_iload 1 68) ∧ tget (tab_7_addNote X) 68 = some (false, a_iload 3 69) ∧ tget (tab_7_addNote X) 69 = some (false, a_iload 4 71) ∧ tget (tab_7_addNote X) 71 = some (false, a_cv X M_7_addNote M_4_place 4 4 74) ∧ tget (tab_7_addNote X) 74 = some (false, a_iret M_7_addNote) := ⟨rfl, rfl, rfl, rfl, rfl, rfl, rfl, rfl, rfl, rfl, rfl, rfl, rfl, rfl, rfl, rfl, rfl, rfl, rfl, rfl, rfl, rfl, rfl, rfl, rfl, rfl, rfl, rfl, rfl, rfl, rfl, rfl, rfl, rfl, rfl, rfl, rfl, rfl⟩
theorem tok_7_addNote (X : XT) : TabOK X M_7_addNote (tab_7_addNote X) := by
  unfold tab_7_addNote
  refine tok_cons (snd_aload_n dX7_addNote_0 rfl rfl) ?_
  refine tok_cons (snd_gr (C := RX7) (T := TX7) (N := 4) dX7_addNote_1 rfl (by decide) rfl wf7_10 inX7 rfl) ?_
  refine tok_cons (snd_iload_n dX7_addNote_4 rfl rfl) ?_
  refine tok_cons (snd_iload_n dX7_addNote_5 rfl rfl) ?_
  refine tok_cons (snd_iload_n dX7_addNote_6 rfl rfl) ?_
  refine tok_cons (snd_cv dX7_addNote_7 mok_1_hasLine ⟨wm7_77, wi_1_hasLine, wl_1_hasLine⟩ (rc := (RX1, TX1, 5)) rfl rfl pn_1_hasLine (by decide) ⟨rfl, rfl⟩ rfl) ?_
  refine tok_cons (snd_if_eq dX7_addNote_10 (by decide) rfl) ?_
  refine tok_cons (snd_iload dX7_addNote_13 rfl) ?_
  refine tok_cons (snd_iconst dX7_addNote_15 rfl (inr_d rfl) rfl) ?_
  refine tok_cons (snd_bipush dX7_addNote_16 (by decide) (inr_d rfl) rfl) ?_
  refine tok_cons (snd_sv dX7_addNote_18 mok_7_isIn ⟨ws_7_isIn, Or.inl ⟨wm7_41, rfl⟩⟩ pn_7_isIn (by decide) ⟨rfl, rfl⟩ rfl) ?_
  refine tok_cons (snd_if_ne dX7_addNote_21 (by decide) rfl) ?_
  refine tok_cons (snd_iconst dX7_addNote_24 rfl (inr_d rfl) rfl) ?_
  refine tok_cons (snd_iret dX7_addNote_25 rfl) ?_
  refine tok_cons (snd_aload_n dX7_addNote_26 rfl rfl) ?_
  refine tok_cons (snd_gr (C := RX7) (T := TX7) (N := 4) dX7_addNote_27 rfl (by decide) rfl wf7_10 inX7 rfl) ?_
  refine tok_cons (snd_gr (C := RX1) (T := TX1) (N := 5) dX7_addNote_30 rfl (by decide) rfl wf7_80 inX1 rfl) ?_
  refine tok_cons (snd_gi (C := RX4) (T := TX4) (N := 2) dX7_addNote_33 rfl (by decide) rfl wf7_84 inX4 rfl rfl) ?_
  refine tok_cons (snd_aload_n dX7_addNote_36 rfl rfl) ?_
  refine tok_cons (snd_gr (C := RX7) (T := TX7) (N := 4) dX7_addNote_37 rfl (by decide) rfl wf7_10 inX7 rfl) ?_
  refine tok_cons (snd_gr (C := RX1) (T := TX1) (N := 5) dX7_addNote_40 rfl (by decide) rfl wf7_85 inX1 rfl) ?_
  refine tok_cons (snd_gi (C := RX4) (T := TX4) (N := 2) dX7_addNote_43 rfl (by decide) rfl wf7_84 inX4 rfl rfl) ?_
  refine tok_cons (snd_add dX7_addNote_46 rfl) ?_
  refine tok_cons (snd_bipush dX7_addNote_47 (by decide) (inr_d rfl) rfl) ?_
  refine tok_cons (snd_icmp_lt dX7_addNote_49 (by decide) rfl) ?_
  refine tok_cons (snd_bipush dX7_addNote_52 (by decide) (inr_d rfl) rfl) ?_
  refine tok_cons (snd_iret dX7_addNote_54 rfl) ?_
  refine tok_cons (snd_aload_n dX7_addNote_55 rfl rfl) ?_
  refine tok_cons (snd_cn dX7_addNote_56 mok_7_beginChange ⟨wm7_45, wi_7_beginChange, wl_7_beginChange⟩ (rc := (RX7, TX7, 4)) rfl rfl pn_7_beginChange (by decide) ⟨rfl, rfl⟩ rfl) ?_
  refine tok_cons (snd_aload_n dX7_addNote_59 rfl rfl) ?_
  refine tok_cons (snd_gr (C := RX7) (T := TX7) (N := 4) dX7_addNote_60 rfl (by decide) rfl wf7_10 inX7 rfl) ?_
  refine tok_cons (snd_iload_n dX7_addNote_63 rfl rfl) ?_
  refine tok_cons (snd_cv dX7_addNote_64 mok_1_notes ⟨wm7_63, wi_1_notes, wl_1_notes⟩ (rc := (RX1, TX1, 5)) rfl rfl pn_1_notes (by decide) ⟨rfl, rfl⟩ rfl) ?_
  refine tok_cons (snd_iload_n dX7_addNote_67 rfl rfl) ?_
  refine tok_cons (snd_iload_n dX7_addNote_68 rfl rfl) ?_
  refine tok_cons (snd_iload dX7_addNote_69 rfl) ?_
  refine tok_cons (snd_cv dX7_addNote_71 mok_4_place ⟨wm7_88, wi_4_place, wl_4_place⟩ (rc := (RX4, TX4, 2)) rfl rfl pn_4_place (by decide) ⟨rfl, rfl⟩ rfl) ?_
  refine tok_cons (snd_iret dX7_addNote_74 rfl) ?_
  exact tok_nil
def tab_7_removeNote (X : XT) : Tab := [(0, false, a_iload 1 1), (1, false, a_sv X M_7_removeNote M_7_isSide 1 4), (4, false, a_if 0 11 7), (7, false, a_iload 2 8), (8, false, a_if 3 13 11), (11, false, a_const (-1) 12), (12, false, a_iret M_7_removeNote), (13, false, a_aload 0 14), (14, false, a_gr 7 0 17), (17, false, a_iload 1 18), (18, false, a_cv X M_7_removeNote M_1_notes 1 2 21), (21, false, a_astore 3 22), (22, false, a_iload 2 23), (23, false, a_aload 3 24), (24, false, a_gi 4 0 0 27), (27, false, a_icmp 2 33 30), (30, false, a_const (-4) 32), (32, false, a_iret M_7_removeNote), (33, false, a_aload 0 34), (34, false, a_cn X M_7_removeNote M_7_beginChange 7 1 37), (37, false, a_aload 3 38), (38, false, a_iload 2 39), (39, false, a_cn X M_7_removeNote M_4_drop 4 2 42), (42, false, a_aload 3 43), (43, false, a_gi 4 0 0 46), (46, false, a_iret M_7_removeNote)]
set_option maxRecDepth 20000 in
theorem t_7_removeNote (X : XT) : tget (tab_7_removeNote X) 0 = some (false, a_iload 1 1) ∧ tget (tab_7_removeNote X) 1 = some (false, a_sv X M_7_removeNote M_7_isSide 1 4) ∧ tget (tab_7_removeNote X) 4 = some (false, a_if 0 11 7) ∧ tget (tab_7_removeNote X) 7 = some (false, a_iload 2 8) ∧ tget (tab_7_removeNote X) 8 = some (false, a_if 3 13 11) ∧ tget (tab_7_removeNote X) 11 = some (false, a_const (-1) 12) ∧ tget (tab_7_removeNote X) 12 = some (false, a_iret M_7_removeNote) ∧ tget (tab_7_removeNote X) 13 = some (false, a_aload 0 14) ∧ tget (tab_7_removeNote X) 14 = some (false, a_gr 7 0 17) ∧ tget (tab_7_removeNote X) 17 = some (false, a_iload 1 18) ∧ tget (tab_7_removeNote X) 18 = some (false, a_cv X M_7_removeNote M_1_notes 1 2 21) ∧ tget (tab_7_removeNote X) 21 = some (false, a_astore 3 22) ∧ tget (tab_7_removeNote X) 22 = some (false, a_iload 2 23) ∧ tget (tab_7_removeNote X) 23 = some (false, a_aload 3 24) ∧ tget (tab_7_removeNote X) 24 = some (false, a_gi 4 0 0 27) ∧ tget (tab_7_removeNote X) 27 = some (false, a_icmp 2 33 30) ∧ tget (tab_7_removeNote X) 30 = some (false, a_const (-4) 32) ∧ tget (tab_7_removeNote X) 32 = some (false, a_iret M_7_removeNote) ∧ tget (tab_7_removeNote X) 33 = some (false, a_aload 0 34) ∧ tget (tab_7_removeNote X) 34 = some (false, a_cn X M_7_removeNote M_7_beginChange 7 1 37) ∧ tget (tab_7_removeNote X) 37 = some (false, a_aload 3 38) ∧ tget (tab_7_removeNote X) 38 = some (false, a_iload 2 39) ∧ tget (tab_7_removeNote X) 39 = some (false, a_cn X M_7_removeNote M_4_drop 4 2 42) ∧ tget (tab_7_removeNote X) 42 = some (false, a_aload 3 43) ∧ tget (tab_7_removeNote X) 43 = some (false, a_gi 4 0 0 46) ∧ tget (tab_7_removeNote X) 46 = some (false, a_iret M_7_removeNote) := ⟨rfl, rfl, rfl, rfl, rfl, rfl, rfl, rfl, rfl, rfl, rfl, rfl, rfl, rfl, rfl, rfl, rfl, rfl, rfl, rfl, rfl, rfl, rfl, rfl, rfl, rfl⟩
theorem tok_7_removeNote (X : XT) : TabOK X M_7_removeNote (tab_7_removeNote X) := by
  unfold tab_7_removeNote
  refine tok_cons (snd_iload_n dX7_removeNote_0 rfl rfl) ?_
  refine tok_cons (snd_sv dX7_removeNote_1 mok_7_isSide ⟨ws_7_isSide, Or.inl ⟨wm7_60, rfl⟩⟩ pn_7_isSide (by decide) ⟨rfl, rfl⟩ rfl) ?_
  refine tok_cons (snd_if_eq dX7_removeNote_4 (by decide) rfl) ?_
  refine tok_cons (snd_iload_n dX7_removeNote_7 rfl rfl) ?_
  refine tok_cons (snd_if_ge dX7_removeNote_8 (by decide) rfl) ?_
  refine tok_cons (snd_iconst dX7_removeNote_11 rfl (inr_d rfl) rfl) ?_
  refine tok_cons (snd_iret dX7_removeNote_12 rfl) ?_
  refine tok_cons (snd_aload_n dX7_removeNote_13 rfl rfl) ?_
  refine tok_cons (snd_gr (C := RX7) (T := TX7) (N := 4) dX7_removeNote_14 rfl (by decide) rfl wf7_10 inX7 rfl) ?_
  refine tok_cons (snd_iload_n dX7_removeNote_17 rfl rfl) ?_
  refine tok_cons (snd_cv dX7_removeNote_18 mok_1_notes ⟨wm7_63, wi_1_notes, wl_1_notes⟩ (rc := (RX1, TX1, 5)) rfl rfl pn_1_notes (by decide) ⟨rfl, rfl⟩ rfl) ?_
  refine tok_cons (snd_astore_n dX7_removeNote_21 rfl rfl (by decide)) ?_
  refine tok_cons (snd_iload_n dX7_removeNote_22 rfl rfl) ?_
  refine tok_cons (snd_aload_n dX7_removeNote_23 rfl rfl) ?_
  refine tok_cons (snd_gi (C := RX4) (T := TX4) (N := 2) dX7_removeNote_24 rfl (by decide) rfl wf7_84 inX4 rfl rfl) ?_
  refine tok_cons (snd_icmp_lt dX7_removeNote_27 (by decide) rfl) ?_
  refine tok_cons (snd_bipush dX7_removeNote_30 (by decide) (inr_d rfl) rfl) ?_
  refine tok_cons (snd_iret dX7_removeNote_32 rfl) ?_
  refine tok_cons (snd_aload_n dX7_removeNote_33 rfl rfl) ?_
  refine tok_cons (snd_cn dX7_removeNote_34 mok_7_beginChange ⟨wm7_45, wi_7_beginChange, wl_7_beginChange⟩ (rc := (RX7, TX7, 4)) rfl rfl pn_7_beginChange (by decide) ⟨rfl, rfl⟩ rfl) ?_
  refine tok_cons (snd_aload_n dX7_removeNote_37 rfl rfl) ?_
  refine tok_cons (snd_iload_n dX7_removeNote_38 rfl rfl) ?_
  refine tok_cons (snd_cn dX7_removeNote_39 mok_4_drop ⟨wm7_91, wi_4_drop, wl_4_drop⟩ (rc := (RX4, TX4, 2)) rfl rfl pn_4_drop (by decide) ⟨rfl, rfl⟩ rfl) ?_
  refine tok_cons (snd_aload_n dX7_removeNote_42 rfl rfl) ?_
  refine tok_cons (snd_gi (C := RX4) (T := TX4) (N := 2) dX7_removeNote_43 rfl (by decide) rfl wf7_84 inX4 rfl rfl) ?_
  refine tok_cons (snd_iret dX7_removeNote_46 rfl) ?_
  exact tok_nil
def tab_7_set (X : XT) : Tab := [(0, false, a_iload 1 1), (1, false, a_const 0 2), (2, false, a_const 5 3), (3, false, a_sv X M_7_set M_7_isIn 3 6), (6, false, a_if 0 26 9), (9, false, a_iload 2 10), (10, false, a_gst 1 13), (13, false, a_iload 1 14), (14, false, a_sld 15), (15, false, a_gst 2 18), (18, false, a_iload 1 19), (19, false, a_sld 20), (20, false, a_sv X M_7_set M_7_isIn 3 23), (23, false, a_if 1 28 26), (26, false, a_const (-1) 27), (27, false, a_iret M_7_set), (28, false, a_aload 0 29), (29, false, a_cn X M_7_set M_7_beginChange 7 1 32), (32, false, a_aload 0 33), (33, false, a_gr 7 0 36), (36, false, a_gr 1 4 39), (39, false, a_iload 1 40), (40, false, a_ald false 41), (41, false, a_istore 3 42), (42, false, a_aload 0 43), (43, false, a_gr 7 0 46), (46, false, a_gr 1 4 49), (49, false, a_iload 1 50), (50, false, a_iload 2 51), (51, false, a_ast false 52), (52, false, a_iload 3 53), (53, false, a_iret M_7_set)]
set_option maxRecDepth 20000 in
theorem t_7_set (X : XT) : tget (tab_7_set X) 0 = some (false, a_iload 1 1) ∧ tget (tab_7_set X) 1 = some (false, a_const 0 2) ∧ tget (tab_7_set X) 2 = some (false, a_const 5 3) ∧ tget (tab_7_set X) 3 = some (false, a_sv X M_7_set M_7_isIn 3 6) ∧ tget (tab_7_set X) 6 = some (false, a_if 0 26 9) ∧ tget (tab_7_set X) 9 = some (false, a_iload 2 10) ∧ tget (tab_7_set X) 10 = some (false, a_gst 1 13) ∧ tget (tab_7_set X) 13 = some (false, a_iload 1 14) ∧ tget (tab_7_set X) 14 = some (false, a_sld 15) ∧ tget (tab_7_set X) 15 = some (false, a_gst 2 18) ∧ tget (tab_7_set X) 18 = some (false, a_iload 1 19) ∧ tget (tab_7_set X) 19 = some (false, a_sld 20) ∧ tget (tab_7_set X) 20 = some (false, a_sv X M_7_set M_7_isIn 3 23) ∧ tget (tab_7_set X) 23 = some (false, a_if 1 28 26) ∧ tget (tab_7_set X) 26 = some (false, a_const (-1) 27) ∧ tget (tab_7_set X) 27 = some (false, a_iret M_7_set) ∧ tget (tab_7_set X) 28 = some (false, a_aload 0 29) ∧ tget (tab_7_set X) 29 = some (false, a_cn X M_7_set M_7_beginChange 7 1 32) ∧ tget (tab_7_set X) 32 = some (false, a_aload 0 33) ∧ tget (tab_7_set X) 33 = some (false, a_gr 7 0 36) ∧ tget (tab_7_set X) 36 = some (false, a_gr 1 4 39) ∧ tget (tab_7_set X) 39 = some (false, a_iload 1 40) ∧ tget (tab_7_set X) 40 = some (false, a_ald false 41) ∧ tget (tab_7_set X) 41 = some (false, a_istore 3 42) ∧ tget (tab_7_set X) 42 = some (false, a_aload 0 43) ∧ tget (tab_7_set X) 43 = some (false, a_gr 7 0 46) ∧ tget (tab_7_set X) 46 = some (false, a_gr 1 4 49) ∧ tget (tab_7_set X) 49 = some (false, a_iload 1 50) ∧ tget (tab_7_set X) 50 = some (false, a_iload 2 51) ∧ tget (tab_7_set X) 51 = some (false, a_ast false 52) ∧ tget (tab_7_set X) 52 = some (false, a_iload 3 53) ∧ tget (tab_7_set X) 53 = some (false, a_iret M_7_set) := ⟨rfl, rfl, rfl, rfl, rfl, rfl, rfl, rfl, rfl, rfl, rfl, rfl, rfl, rfl, rfl, rfl, rfl, rfl, rfl, rfl, rfl, rfl, rfl, rfl, rfl, rfl, rfl, rfl, rfl, rfl, rfl, rfl⟩
theorem tok_7_set (X : XT) : TabOK X M_7_set (tab_7_set X) := by
  unfold tab_7_set
  refine tok_cons (snd_iload_n dX7_set_0 rfl rfl) ?_
  refine tok_cons (snd_iconst dX7_set_1 rfl (inr_d rfl) rfl) ?_
  refine tok_cons (snd_iconst dX7_set_2 rfl (inr_d rfl) rfl) ?_
  refine tok_cons (snd_sv dX7_set_3 mok_7_isIn ⟨ws_7_isIn, Or.inl ⟨wm7_41, rfl⟩⟩ pn_7_isIn (by decide) ⟨rfl, rfl⟩ rfl) ?_
  refine tok_cons (snd_if_eq dX7_set_6 (by decide) rfl) ?_
  refine tok_cons (snd_iload_n dX7_set_9 rfl rfl) ?_
  refine tok_cons (snd_gst dX7_set_10 (by decide) rfl wf7_94 rfl) ?_
  refine tok_cons (snd_iload_n dX7_set_13 rfl rfl) ?_
  refine tok_cons (snd_sld dX7_set_14 rfl) ?_
  refine tok_cons (snd_gst dX7_set_15 (by decide) rfl wf7_98 rfl) ?_
  refine tok_cons (snd_iload_n dX7_set_18 rfl rfl) ?_
  refine tok_cons (snd_sld dX7_set_19 rfl) ?_
  refine tok_cons (snd_sv dX7_set_20 mok_7_isIn ⟨ws_7_isIn, Or.inl ⟨wm7_41, rfl⟩⟩ pn_7_isIn (by decide) ⟨rfl, rfl⟩ rfl) ?_
  refine tok_cons (snd_if_ne dX7_set_23 (by decide) rfl) ?_
  refine tok_cons (snd_iconst dX7_set_26 rfl (inr_d rfl) rfl) ?_
  refine tok_cons (snd_iret dX7_set_27 rfl) ?_
  refine tok_cons (snd_aload_n dX7_set_28 rfl rfl) ?_
  refine tok_cons (snd_cn dX7_set_29 mok_7_beginChange ⟨wm7_45, wi_7_beginChange, wl_7_beginChange⟩ (rc := (RX7, TX7, 4)) rfl rfl pn_7_beginChange (by decide) ⟨rfl, rfl⟩ rfl) ?_
  refine tok_cons (snd_aload_n dX7_set_32 rfl rfl) ?_
  refine tok_cons (snd_gr (C := RX7) (T := TX7) (N := 4) dX7_set_33 rfl (by decide) rfl wf7_10 inX7 rfl) ?_
  refine tok_cons (snd_gr (C := RX1) (T := TX1) (N := 5) dX7_set_36 rfl (by decide) rfl wf7_101 inX1 rfl) ?_
  refine tok_cons (snd_iload_n dX7_set_39 rfl rfl) ?_
  refine tok_cons (snd_iald dX7_set_40 rfl) ?_
  refine tok_cons (snd_istore_n dX7_set_41 rfl rfl (by decide)) ?_
  refine tok_cons (snd_aload_n dX7_set_42 rfl rfl) ?_
  refine tok_cons (snd_gr (C := RX7) (T := TX7) (N := 4) dX7_set_43 rfl (by decide) rfl wf7_10 inX7 rfl) ?_
  refine tok_cons (snd_gr (C := RX1) (T := TX1) (N := 5) dX7_set_46 rfl (by decide) rfl wf7_101 inX1 rfl) ?_
  refine tok_cons (snd_iload_n dX7_set_49 rfl rfl) ?_
  refine tok_cons (snd_iload_n dX7_set_50 rfl rfl) ?_
  refine tok_cons (snd_iast dX7_set_51 rfl) ?_
  refine tok_cons (snd_iload_n dX7_set_52 rfl rfl) ?_
  refine tok_cons (snd_iret dX7_set_53 rfl) ?_
  exact tok_nil
def tab_7_bestCost (X : XT) : Tab := [(0, false, a_aload 0 1), (1, false, a_gr 7 3 4), (4, false, a_aload 0 5), (5, false, a_gr 7 0 8), (8, false, a_cn X M_7_bestCost M_0_search 0 2 11), (11, false, a_aload 0 12), (12, false, a_gr 7 3 15), (15, false, a_cv X M_7_bestCost M_0_isAllowed 0 1 18), (18, false, a_if 0 33 21), (21, false, a_aload 0 22), (22, false, a_gr 7 3 25), (25, false, a_gr 0 3 28), (28, false, a_const 0 29), (29, false, a_ald false 30), (30, false, a_goto 35), (33, false, a_const (-4) 35), (35, false, a_iret M_7_bestCost)]
set_option maxRecDepth 20000 in
theorem t_7_bestCost (X : XT) : tget (tab_7_bestCost X) 0 = some (false, a_aload 0 1) ∧ tget (tab_7_bestCost X) 1 = some (false, a_gr 7 3 4) ∧ tget (tab_7_bestCost X) 4 = some (false, a_aload 0 5) ∧ tget (tab_7_bestCost X) 5 = some (false, a_gr 7 0 8) ∧ tget (tab_7_bestCost X) 8 = some (false, a_cn X M_7_bestCost M_0_search 0 2 11) ∧ tget (tab_7_bestCost X) 11 = some (false, a_aload 0 12) ∧ tget (tab_7_bestCost X) 12 = some (false, a_gr 7 3 15) ∧ tget (tab_7_bestCost X) 15 = some (false, a_cv X M_7_bestCost M_0_isAllowed 0 1 18) ∧ tget (tab_7_bestCost X) 18 = some (false, a_if 0 33 21) ∧ tget (tab_7_bestCost X) 21 = some (false, a_aload 0 22) ∧ tget (tab_7_bestCost X) 22 = some (false, a_gr 7 3 25) ∧ tget (tab_7_bestCost X) 25 = some (false, a_gr 0 3 28) ∧ tget (tab_7_bestCost X) 28 = some (false, a_const 0 29) ∧ tget (tab_7_bestCost X) 29 = some (false, a_ald false 30) ∧ tget (tab_7_bestCost X) 30 = some (false, a_goto 35) ∧ tget (tab_7_bestCost X) 33 = some (false, a_const (-4) 35) ∧ tget (tab_7_bestCost X) 35 = some (false, a_iret M_7_bestCost) := ⟨rfl, rfl, rfl, rfl, rfl, rfl, rfl, rfl, rfl, rfl, rfl, rfl, rfl, rfl, rfl, rfl, rfl⟩
theorem tok_7_bestCost (X : XT) : TabOK X M_7_bestCost (tab_7_bestCost X) := by
  unfold tab_7_bestCost
  refine tok_cons (snd_aload_n dX7_bestCost_0 rfl rfl) ?_
  refine tok_cons (snd_gr (C := RX7) (T := TX7) (N := 4) dX7_bestCost_1 rfl (by decide) rfl wf7_33 inX7 rfl) ?_
  refine tok_cons (snd_aload_n dX7_bestCost_4 rfl rfl) ?_
  refine tok_cons (snd_gr (C := RX7) (T := TX7) (N := 4) dX7_bestCost_5 rfl (by decide) rfl wf7_10 inX7 rfl) ?_
  refine tok_cons (snd_cn dX7_bestCost_8 mok_0_search ⟨wm7_163, wi_0_search, wl_0_search⟩ (rc := (RX0, TX0, 7)) rfl rfl pn_0_search (by decide) ⟨rfl, rfl⟩ rfl) ?_
  refine tok_cons (snd_aload_n dX7_bestCost_11 rfl rfl) ?_
  refine tok_cons (snd_gr (C := RX7) (T := TX7) (N := 4) dX7_bestCost_12 rfl (by decide) rfl wf7_33 inX7 rfl) ?_
  refine tok_cons (snd_cv dX7_bestCost_15 mok_0_isAllowed ⟨wm7_166, wi_0_isAllowed, wl_0_isAllowed⟩ (rc := (RX0, TX0, 7)) rfl rfl pn_0_isAllowed (by decide) ⟨rfl, rfl⟩ rfl) ?_
  refine tok_cons (snd_if_eq dX7_bestCost_18 (by decide) rfl) ?_
  refine tok_cons (snd_aload_n dX7_bestCost_21 rfl rfl) ?_
  refine tok_cons (snd_gr (C := RX7) (T := TX7) (N := 4) dX7_bestCost_22 rfl (by decide) rfl wf7_33 inX7 rfl) ?_
  refine tok_cons (snd_gr (C := RX0) (T := TX0) (N := 7) dX7_bestCost_25 rfl (by decide) rfl wf7_170 inX0 rfl) ?_
  refine tok_cons (snd_iconst dX7_bestCost_28 rfl (inr_d rfl) rfl) ?_
  refine tok_cons (snd_iald dX7_bestCost_29 rfl) ?_
  refine tok_cons (snd_goto dX7_bestCost_30 (by decide)) ?_
  refine tok_cons (snd_bipush dX7_bestCost_33 (by decide) (inr_d rfl) rfl) ?_
  refine tok_cons (snd_iret dX7_bestCost_35 rfl) ?_
  exact tok_nil
def tab_7_bestBreak (X : XT) : Tab := [(0, false, a_iload 1 1), (1, false, a_if 3 6 4), (4, false, a_const (-1) 5), (5, false, a_iret M_7_bestBreak), (6, false, a_aload 0 7), (7, false, a_gr 7 3 10), (10, false, a_aload 0 11), (11, false, a_gr 7 0 14), (14, false, a_cn X M_7_bestBreak M_0_search 0 2 17), (17, false, a_iload 1 18), (18, false, a_aload 0 19), (19, false, a_gr 7 3 22), (22, false, a_gi 0 1 1 25), (25, false, a_icmp 3 40 28), (28, false, a_aload 0 29), (29, false, a_gr 7 3 32), (32, false, a_gr 0 2 35), (35, false, a_iload 1 36), (36, false, a_ald false 37), (37, false, a_goto 42), (40, false, a_const (-4) 42), (42, false, a_iret M_7_bestBreak)]
set_option maxRecDepth 20000 in
theorem t_7_bestBreak (X : XT) : tget (tab_7_bestBreak X) 0 = some (false, a_iload 1 1) ∧ tget (tab_7_bestBreak X) 1 = some (false, a_if 3 6 4) ∧ tget (tab_7_bestBreak X) 4 = some (false, a_const (-1) 5) ∧ tget (tab_7_bestBreak X) 5 = some (false, a_iret M_7_bestBreak) ∧ tget (tab_7_bestBreak X) 6 = some (false, a_aload 0 7) ∧ tget (tab_7_bestBreak X) 7 = some (false, a_gr 7 3 10) ∧ tget (tab_7_bestBreak X) 10 = some (false, a_aload 0 11) ∧ tget (tab_7_bestBreak X) 11 = some (false, a_gr 7 0 14) ∧ tget (tab_7_bestBreak X) 14 = some (false, a_cn X M_7_bestBreak M_0_search 0 2 17) ∧ tget (tab_7_bestBreak X) 17 = some (false, a_iload 1 18) ∧ tget (tab_7_bestBreak X) 18 = some (false, a_aload 0 19) ∧ tget (tab_7_bestBreak X) 19 = some (false, a_gr 7 3 22) ∧ tget (tab_7_bestBreak X) 22 = some (false, a_gi 0 1 1 25) ∧ tget (tab_7_bestBreak X) 25 = some (false, a_icmp 3 40 28) ∧ tget (tab_7_bestBreak X) 28 = some (false, a_aload 0 29) ∧ tget (tab_7_bestBreak X) 29 = some (false, a_gr 7 3 32) ∧ tget (tab_7_bestBreak X) 32 = some (false, a_gr 0 2 35) ∧ tget (tab_7_bestBreak X) 35 = some (false, a_iload 1 36) ∧ tget (tab_7_bestBreak X) 36 = some (false, a_ald false 37) ∧ tget (tab_7_bestBreak X) 37 = some (false, a_goto 42) ∧ tget (tab_7_bestBreak X) 40 = some (false, a_const (-4) 42) ∧ tget (tab_7_bestBreak X) 42 = some (false, a_iret M_7_bestBreak) := ⟨rfl, rfl, rfl, rfl, rfl, rfl, rfl, rfl, rfl, rfl, rfl, rfl, rfl, rfl, rfl, rfl, rfl, rfl, rfl, rfl, rfl, rfl⟩
theorem tok_7_bestBreak (X : XT) : TabOK X M_7_bestBreak (tab_7_bestBreak X) := by
  unfold tab_7_bestBreak
  refine tok_cons (snd_iload_n dX7_bestBreak_0 rfl rfl) ?_
  refine tok_cons (snd_if_ge dX7_bestBreak_1 (by decide) rfl) ?_
  refine tok_cons (snd_iconst dX7_bestBreak_4 rfl (inr_d rfl) rfl) ?_
  refine tok_cons (snd_iret dX7_bestBreak_5 rfl) ?_
  refine tok_cons (snd_aload_n dX7_bestBreak_6 rfl rfl) ?_
  refine tok_cons (snd_gr (C := RX7) (T := TX7) (N := 4) dX7_bestBreak_7 rfl (by decide) rfl wf7_33 inX7 rfl) ?_
  refine tok_cons (snd_aload_n dX7_bestBreak_10 rfl rfl) ?_
  refine tok_cons (snd_gr (C := RX7) (T := TX7) (N := 4) dX7_bestBreak_11 rfl (by decide) rfl wf7_10 inX7 rfl) ?_
  refine tok_cons (snd_cn dX7_bestBreak_14 mok_0_search ⟨wm7_163, wi_0_search, wl_0_search⟩ (rc := (RX0, TX0, 7)) rfl rfl pn_0_search (by decide) ⟨rfl, rfl⟩ rfl) ?_
  refine tok_cons (snd_iload_n dX7_bestBreak_17 rfl rfl) ?_
  refine tok_cons (snd_aload_n dX7_bestBreak_18 rfl rfl) ?_
  refine tok_cons (snd_gr (C := RX7) (T := TX7) (N := 4) dX7_bestBreak_19 rfl (by decide) rfl wf7_33 inX7 rfl) ?_
  refine tok_cons (snd_gi (C := RX0) (T := TX0) (N := 7) dX7_bestBreak_22 rfl (by decide) rfl wf7_173 inX0 rfl rfl) ?_
  refine tok_cons (snd_icmp_ge dX7_bestBreak_25 (by decide) rfl) ?_
  refine tok_cons (snd_aload_n dX7_bestBreak_28 rfl rfl) ?_
  refine tok_cons (snd_gr (C := RX7) (T := TX7) (N := 4) dX7_bestBreak_29 rfl (by decide) rfl wf7_33 inX7 rfl) ?_
  refine tok_cons (snd_gr (C := RX0) (T := TX0) (N := 7) dX7_bestBreak_32 rfl (by decide) rfl wf7_176 inX0 rfl) ?_
  refine tok_cons (snd_iload_n dX7_bestBreak_35 rfl rfl) ?_
  refine tok_cons (snd_iald dX7_bestBreak_36 rfl) ?_
  refine tok_cons (snd_goto dX7_bestBreak_37 (by decide)) ?_
  refine tok_cons (snd_bipush dX7_bestBreak_40 (by decide) (inr_d rfl) rfl) ?_
  refine tok_cons (snd_iret dX7_bestBreak_42 rfl) ?_
  exact tok_nil
def tab_7_changePair (X : XT) : Tab := [(0, false, a_aload 0 1), (1, false, a_cn X M_7_changePair M_7_beginChange 7 1 4), (4, false, a_aload 0 5), (5, false, a_gr 7 0 8), (8, false, a_gr 1 1 11), (11, false, a_iload 2 12), (12, false, a_aald 13), (13, false, a_iload 1 14), (14, false, a_ald false 15), (15, false, a_istore 4 17), (17, false, a_aload 0 18), (18, false, a_gr 7 0 21), (21, false, a_gr 1 1 24), (24, false, a_iload 2 25), (25, false, a_aald 26), (26, false, a_iload 1 27), (27, false, a_iload 3 28), (28, false, a_ast false 29), (29, false, a_iload 4 31), (31, false, a_iret M_7_changePair)]
set_option maxRecDepth 20000 in
theorem t_7_changePair (X : XT) : tget (tab_7_changePair X) 0 = some (false, a_aload 0 1) ∧ tget (tab_7_changePair X) 1 = some (false, a_cn X M_7_changePair M_7_beginChange 7 1 4) ∧ tget (tab_7_changePair X) 4 = some (false, a_aload 0 5) ∧ tget (tab_7_changePair X) 5 = some (false, a_gr 7 0 8) ∧ tget (tab_7_changePair X) 8 = some (false, a_gr 1 1 11) ∧ tget (tab_7_changePair X) 11 = some (false, a_iload 2 12) ∧ tget (tab_7_changePair X) 12 = some (false, a_aald 13) ∧ tget (tab_7_changePair X) 13 = some (false, a_iload 1 14) ∧ tget (tab_7_changePair X) 14 = some (false, a_ald false 15) ∧ tget (tab_7_changePair X) 15 = some (false, a_istore 4 17) ∧ tget (tab_7_changePair X) 17 = some (false, a_aload 0 18) ∧ tget (tab_7_changePair X) 18 = some (false, a_gr 7 0 21) ∧ tget (tab_7_changePair X) 21 = some (false, a_gr 1 1 24) ∧ tget (tab_7_changePair X) 24 = some (false, a_iload 2 25) ∧ tget (tab_7_changePair X) 25 = some (false, a_aald 26) ∧ tget (tab_7_changePair X) 26 = some (false, a_iload 1 27) ∧ tget (tab_7_changePair X) 27 = some (false, a_iload 3 28) ∧ tget (tab_7_changePair X) 28 = some (false, a_ast false 29) ∧ tget (tab_7_changePair X) 29 = some (false, a_iload 4 31) ∧ tget (tab_7_changePair X) 31 = some (false, a_iret M_7_changePair) := ⟨rfl, rfl, rfl, rfl, rfl, rfl, rfl, rfl, rfl, rfl, rfl, rfl, rfl, rfl, rfl, rfl, rfl, rfl, rfl, rfl⟩
theorem tok_7_changePair (X : XT) : TabOK X M_7_changePair (tab_7_changePair X) := by
  unfold tab_7_changePair
  refine tok_cons (snd_aload_n dX7_changePair_0 rfl rfl) ?_
  refine tok_cons (snd_cn dX7_changePair_1 mok_7_beginChange ⟨wm7_45, wi_7_beginChange, wl_7_beginChange⟩ (rc := (RX7, TX7, 4)) rfl rfl pn_7_beginChange (by decide) ⟨rfl, rfl⟩ rfl) ?_
  refine tok_cons (snd_aload_n dX7_changePair_4 rfl rfl) ?_
  refine tok_cons (snd_gr (C := RX7) (T := TX7) (N := 4) dX7_changePair_5 rfl (by decide) rfl wf7_10 inX7 rfl) ?_
  refine tok_cons (snd_gr (C := RX1) (T := TX1) (N := 5) dX7_changePair_8 rfl (by decide) rfl wf7_112 inX1 rfl) ?_
  refine tok_cons (snd_iload_n dX7_changePair_11 rfl rfl) ?_
  refine tok_cons (snd_aald dX7_changePair_12 rfl) ?_
  refine tok_cons (snd_iload_n dX7_changePair_13 rfl rfl) ?_
  refine tok_cons (snd_iald dX7_changePair_14 rfl) ?_
  refine tok_cons (snd_istore dX7_changePair_15 rfl (by decide)) ?_
  refine tok_cons (snd_aload_n dX7_changePair_17 rfl rfl) ?_
  refine tok_cons (snd_gr (C := RX7) (T := TX7) (N := 4) dX7_changePair_18 rfl (by decide) rfl wf7_10 inX7 rfl) ?_
  refine tok_cons (snd_gr (C := RX1) (T := TX1) (N := 5) dX7_changePair_21 rfl (by decide) rfl wf7_112 inX1 rfl) ?_
  refine tok_cons (snd_iload_n dX7_changePair_24 rfl rfl) ?_
  refine tok_cons (snd_aald dX7_changePair_25 rfl) ?_
  refine tok_cons (snd_iload_n dX7_changePair_26 rfl rfl) ?_
  refine tok_cons (snd_iload_n dX7_changePair_27 rfl rfl) ?_
  refine tok_cons (snd_iast dX7_changePair_28 rfl) ?_
  refine tok_cons (snd_iload dX7_changePair_29 rfl) ?_
  refine tok_cons (snd_iret dX7_changePair_31 rfl) ?_
  exact tok_nil
def tab_7_setFlag (X : XT) : Tab := [(0, false, a_aload 0 1), (1, false, a_gr 7 0 4), (4, false, a_iload 1 5), (5, false, a_cv X M_7_setFlag M_1_hasPair 1 2 8), (8, false, a_if 0 29 11), (11, false, a_iload 2 12), (12, false, a_const 0 13), (13, false, a_const 1 14), (14, false, a_sv X M_7_setFlag M_7_isIn 3 17), (17, false, a_if 0 29 20), (20, false, a_iload 3 21), (21, false, a_const 0 22), (22, false, a_const 1 23), (23, false, a_sv X M_7_setFlag M_7_isIn 3 26), (26, false, a_if 1 31 29), (29, false, a_const (-1) 30), (30, false, a_iret M_7_setFlag), (31, false, a_aload 0 32), (32, false, a_iload 1 33), (33, false, a_const 2 34), (34, false, a_iload 2 35), (35, false, a_add 36), (36, false, a_iload 3 37), (37, false, a_cv X M_7_setFlag M_7_changePair 7 4 40), (40, false, a_iret M_7_setFlag)]
set_option maxRecDepth 20000 in
theorem t_7_setFlag (X : XT) : tget (tab_7_setFlag X) 0 = some (false, a_aload 0 1) ∧ tget (tab_7_setFlag X) 1 = some (false, a_gr 7 0 4) ∧ tget (tab_7_setFlag X) 4 = some (false, a_iload 1 5) ∧ tget (tab_7_setFlag X) 5 = some (false, a_cv X M_7_setFlag M_1_hasPair 1 2 8) ∧ tget (tab_7_setFlag X) 8 = some (false, a_if 0 29 11) ∧ tget (tab_7_setFlag X) 11 = some (false, a_iload 2 12) ∧ tget (tab_7_setFlag X) 12 = some (false, a_const 0 13) ∧ tget (tab_7_setFlag X) 13 = some (false, a_const 1 14) ∧ tget (tab_7_setFlag X) 14 = some (false, a_sv X M_7_setFlag M_7_isIn 3 17) ∧ tget (tab_7_setFlag X) 17 = some (false, a_if 0 29 20) ∧ tget (tab_7_setFlag X) 20 = some (false, a_iload 3 21) ∧ tget (tab_7_setFlag X) 21 = some (false, a_const 0 22) ∧ tget (tab_7_setFlag X) 22 = some (false, a_const 1 23) ∧ tget (tab_7_setFlag X) 23 = some (false, a_sv X M_7_setFlag M_7_isIn 3 26) ∧ tget (tab_7_setFlag X) 26 = some (false, a_if 1 31 29) ∧ tget (tab_7_setFlag X) 29 = some (false, a_const (-1) 30) ∧ tget (tab_7_setFlag X) 30 = some (false, a_iret M_7_setFlag) ∧ tget (tab_7_setFlag X) 31 = some (false, a_aload 0 32) ∧ tget (tab_7_setFlag X) 32 = some (false, a_iload 1 33) ∧ tget (tab_7_setFlag X) 33 = some (false, a_const 2 34) ∧ tget (tab_7_setFlag X) 34 = some (false, a_iload 2 35) ∧ tget (tab_7_setFlag X) 35 = some (false, a_add 36) ∧ tget (tab_7_setFlag X) 36 = some (false, a_iload 3 37) ∧ tget (tab_7_setFlag X) 37 = some (false, a_cv X M_7_setFlag M_7_changePair 7 4 40) ∧ tget (tab_7_setFlag X) 40 = some (false, a_iret M_7_setFlag) := ⟨rfl, rfl, rfl, rfl, rfl, rfl, rfl, rfl, rfl, rfl, rfl, rfl, rfl, rfl, rfl, rfl, rfl, rfl, rfl, rfl, rfl, rfl, rfl, rfl, rfl⟩
theorem tok_7_setFlag (X : XT) : TabOK X M_7_setFlag (tab_7_setFlag X) := by
  unfold tab_7_setFlag
  refine tok_cons (snd_aload_n dX7_setFlag_0 rfl rfl) ?_
  refine tok_cons (snd_gr (C := RX7) (T := TX7) (N := 4) dX7_setFlag_1 rfl (by decide) rfl wf7_10 inX7 rfl) ?_
  refine tok_cons (snd_iload_n dX7_setFlag_4 rfl rfl) ?_
  refine tok_cons (snd_cv dX7_setFlag_5 mok_1_hasPair ⟨wm7_52, wi_1_hasPair, wl_1_hasPair⟩ (rc := (RX1, TX1, 5)) rfl rfl pn_1_hasPair (by decide) ⟨rfl, rfl⟩ rfl) ?_
  refine tok_cons (snd_if_eq dX7_setFlag_8 (by decide) rfl) ?_
  refine tok_cons (snd_iload_n dX7_setFlag_11 rfl rfl) ?_
  refine tok_cons (snd_iconst dX7_setFlag_12 rfl (inr_d rfl) rfl) ?_
  refine tok_cons (snd_iconst dX7_setFlag_13 rfl (inr_d rfl) rfl) ?_
  refine tok_cons (snd_sv dX7_setFlag_14 mok_7_isIn ⟨ws_7_isIn, Or.inl ⟨wm7_41, rfl⟩⟩ pn_7_isIn (by decide) ⟨rfl, rfl⟩ rfl) ?_
  refine tok_cons (snd_if_eq dX7_setFlag_17 (by decide) rfl) ?_
  refine tok_cons (snd_iload_n dX7_setFlag_20 rfl rfl) ?_
  refine tok_cons (snd_iconst dX7_setFlag_21 rfl (inr_d rfl) rfl) ?_
  refine tok_cons (snd_iconst dX7_setFlag_22 rfl (inr_d rfl) rfl) ?_
  refine tok_cons (snd_sv dX7_setFlag_23 mok_7_isIn ⟨ws_7_isIn, Or.inl ⟨wm7_41, rfl⟩⟩ pn_7_isIn (by decide) ⟨rfl, rfl⟩ rfl) ?_
  refine tok_cons (snd_if_ne dX7_setFlag_26 (by decide) rfl) ?_
  refine tok_cons (snd_iconst dX7_setFlag_29 rfl (inr_d rfl) rfl) ?_
  refine tok_cons (snd_iret dX7_setFlag_30 rfl) ?_
  refine tok_cons (snd_aload_n dX7_setFlag_31 rfl rfl) ?_
  refine tok_cons (snd_iload_n dX7_setFlag_32 rfl rfl) ?_
  refine tok_cons (snd_iconst dX7_setFlag_33 rfl (inr_d rfl) rfl) ?_
  refine tok_cons (snd_iload_n dX7_setFlag_34 rfl rfl) ?_
  refine tok_cons (snd_add dX7_setFlag_35 rfl) ?_
  refine tok_cons (snd_iload_n dX7_setFlag_36 rfl rfl) ?_
  refine tok_cons (snd_cv dX7_setFlag_37 mok_7_changePair ⟨wm7_73, wi_7_changePair, wl_7_changePair⟩ (rc := (RX7, TX7, 4)) rfl rfl pn_7_changePair (by decide) ⟨rfl, rfl⟩ rfl) ?_
  refine tok_cons (snd_iret dX7_setFlag_40 rfl) ?_
  exact tok_nil
def tab_7_spreadCount (X : XT) : Tab := [(0, false, a_aload 0 1), (1, false, a_gr 7 2 4), (4, false, a_aload 0 5), (5, false, a_gr 7 0 8), (8, false, a_aload 0 9), (9, false, a_gr 7 0 12), (12, false, a_gr 1 4 15), (15, false, a_const 0 16), (16, false, a_ald false 17), (17, false, a_cn X M_7_spreadCount M_6_arrange 6 3 20), (20, false, a_aload 0 21), (21, false, a_gr 7 2 24), (24, false, a_gi 6 1 1 27), (27, false, a_iret M_7_spreadCount)]
set_option maxRecDepth 20000 in
theorem t_7_spreadCount (X : XT) : tget (tab_7_spreadCount X) 0 = some (false, a_aload 0 1) ∧ tget (tab_7_spreadCount X) 1 = some (false, a_gr 7 2 4) ∧ tget (tab_7_spreadCount X) 4 = some (false, a_aload 0 5) ∧ tget (tab_7_spreadCount X) 5 = some (false, a_gr 7 0 8) ∧ tget (tab_7_spreadCount X) 8 = some (false, a_aload 0 9) ∧ tget (tab_7_spreadCount X) 9 = some (false, a_gr 7 0 12) ∧ tget (tab_7_spreadCount X) 12 = some (false, a_gr 1 4 15) ∧ tget (tab_7_spreadCount X) 15 = some (false, a_const 0 16) ∧ tget (tab_7_spreadCount X) 16 = some (false, a_ald false 17) ∧ tget (tab_7_spreadCount X) 17 = some (false, a_cn X M_7_spreadCount M_6_arrange 6 3 20) ∧ tget (tab_7_spreadCount X) 20 = some (false, a_aload 0 21) ∧ tget (tab_7_spreadCount X) 21 = some (false, a_gr 7 2 24) ∧ tget (tab_7_spreadCount X) 24 = some (false, a_gi 6 1 1 27) ∧ tget (tab_7_spreadCount X) 27 = some (false, a_iret M_7_spreadCount) := ⟨rfl, rfl, rfl, rfl, rfl, rfl, rfl, rfl, rfl, rfl, rfl, rfl, rfl, rfl⟩
theorem tok_7_spreadCount (X : XT) : TabOK X M_7_spreadCount (tab_7_spreadCount X) := by
  unfold tab_7_spreadCount
  refine tok_cons (snd_aload_n dX7_spreadCount_0 rfl rfl) ?_
  refine tok_cons (snd_gr (C := RX7) (T := TX7) (N := 4) dX7_spreadCount_1 rfl (by decide) rfl wf7_26 inX7 rfl) ?_
  refine tok_cons (snd_aload_n dX7_spreadCount_4 rfl rfl) ?_
  refine tok_cons (snd_gr (C := RX7) (T := TX7) (N := 4) dX7_spreadCount_5 rfl (by decide) rfl wf7_10 inX7 rfl) ?_
  refine tok_cons (snd_aload_n dX7_spreadCount_8 rfl rfl) ?_
  refine tok_cons (snd_gr (C := RX7) (T := TX7) (N := 4) dX7_spreadCount_9 rfl (by decide) rfl wf7_10 inX7 rfl) ?_
  refine tok_cons (snd_gr (C := RX1) (T := TX1) (N := 5) dX7_spreadCount_12 rfl (by decide) rfl wf7_101 inX1 rfl) ?_
  refine tok_cons (snd_iconst dX7_spreadCount_15 rfl (inr_d rfl) rfl) ?_
  refine tok_cons (snd_iald dX7_spreadCount_16 rfl) ?_
  refine tok_cons (snd_cn dX7_spreadCount_17 mok_6_arrange ⟨wm7_119, wi_6_arrange, wl_6_arrange⟩ (rc := (RX6, TX6, 11)) rfl rfl pn_6_arrange (by decide) ⟨rfl, rfl⟩ rfl) ?_
  refine tok_cons (snd_aload_n dX7_spreadCount_20 rfl rfl) ?_
  refine tok_cons (snd_gr (C := RX7) (T := TX7) (N := 4) dX7_spreadCount_21 rfl (by decide) rfl wf7_26 inX7 rfl) ?_
  refine tok_cons (snd_gi (C := RX6) (T := TX6) (N := 11) dX7_spreadCount_24 rfl (by decide) rfl wf7_123 inX6 rfl rfl) ?_
  refine tok_cons (snd_iret dX7_spreadCount_27 rfl) ?_
  exact tok_nil
def tab_7_segmentCount (X : XT) : Tab := [(0, false, a_aload 0 1), (1, false, a_gr 7 2 4), (4, false, a_aload 0 5), (5, false, a_gr 7 0 8), (8, false, a_aload 0 9), (9, false, a_gr 7 0 12), (12, false, a_gr 1 4 15), (15, false, a_const 0 16), (16, false, a_ald false 17), (17, false, a_cn X M_7_segmentCount M_6_arrange 6 3 20), (20, false, a_aload 0 21), (21, false, a_gr 7 2 24), (24, false, a_iload 1 25), (25, false, a_cv X M_7_segmentCount M_6_has 6 2 28), (28, false, a_if 0 42 31), (31, false, a_aload 0 32), (32, false, a_gr 7 2 35), (35, false, a_iload 1 36), (36, false, a_cv X M_7_segmentCount M_6_segmentsOf 6 2 39), (39, false, a_goto 43), (42, false, a_const (-1) 43), (43, false, a_iret M_7_segmentCount)]
set_option maxRecDepth 20000 in
theorem t_7_segmentCount (X : XT) : tget (tab_7_segmentCount X) 0 = some (false, a_aload 0 1) ∧ tget (tab_7_segmentCount X) 1 = some (false, a_gr 7 2 4) ∧ tget (tab_7_segmentCount X) 4 = some (false, a_aload 0 5) ∧ tget (tab_7_segmentCount X) 5 = some (false, a_gr 7 0 8) ∧ tget (tab_7_segmentCount X) 8 = some (false, a_aload 0 9) ∧ tget (tab_7_segmentCount X) 9 = some (false, a_gr 7 0 12) ∧ tget (tab_7_segmentCount X) 12 = some (false, a_gr 1 4 15) ∧ tget (tab_7_segmentCount X) 15 = some (false, a_const 0 16) ∧ tget (tab_7_segmentCount X) 16 = some (false, a_ald false 17) ∧ tget (tab_7_segmentCount X) 17 = some (false, a_cn X M_7_segmentCount M_6_arrange 6 3 20) ∧ tget (tab_7_segmentCount X) 20 = some (false, a_aload 0 21) ∧ tget (tab_7_segmentCount X) 21 = some (false, a_gr 7 2 24) ∧ tget (tab_7_segmentCount X) 24 = some (false, a_iload 1 25) ∧ tget (tab_7_segmentCount X) 25 = some (false, a_cv X M_7_segmentCount M_6_has 6 2 28) ∧ tget (tab_7_segmentCount X) 28 = some (false, a_if 0 42 31) ∧ tget (tab_7_segmentCount X) 31 = some (false, a_aload 0 32) ∧ tget (tab_7_segmentCount X) 32 = some (false, a_gr 7 2 35) ∧ tget (tab_7_segmentCount X) 35 = some (false, a_iload 1 36) ∧ tget (tab_7_segmentCount X) 36 = some (false, a_cv X M_7_segmentCount M_6_segmentsOf 6 2 39) ∧ tget (tab_7_segmentCount X) 39 = some (false, a_goto 43) ∧ tget (tab_7_segmentCount X) 42 = some (false, a_const (-1) 43) ∧ tget (tab_7_segmentCount X) 43 = some (false, a_iret M_7_segmentCount) := ⟨rfl, rfl, rfl, rfl, rfl, rfl, rfl, rfl, rfl, rfl, rfl, rfl, rfl, rfl, rfl, rfl, rfl, rfl, rfl, rfl, rfl, rfl⟩
theorem tok_7_segmentCount (X : XT) : TabOK X M_7_segmentCount (tab_7_segmentCount X) := by
  unfold tab_7_segmentCount
  refine tok_cons (snd_aload_n dX7_segmentCount_0 rfl rfl) ?_
  refine tok_cons (snd_gr (C := RX7) (T := TX7) (N := 4) dX7_segmentCount_1 rfl (by decide) rfl wf7_26 inX7 rfl) ?_
  refine tok_cons (snd_aload_n dX7_segmentCount_4 rfl rfl) ?_
  refine tok_cons (snd_gr (C := RX7) (T := TX7) (N := 4) dX7_segmentCount_5 rfl (by decide) rfl wf7_10 inX7 rfl) ?_
  refine tok_cons (snd_aload_n dX7_segmentCount_8 rfl rfl) ?_
  refine tok_cons (snd_gr (C := RX7) (T := TX7) (N := 4) dX7_segmentCount_9 rfl (by decide) rfl wf7_10 inX7 rfl) ?_
  refine tok_cons (snd_gr (C := RX1) (T := TX1) (N := 5) dX7_segmentCount_12 rfl (by decide) rfl wf7_101 inX1 rfl) ?_
  refine tok_cons (snd_iconst dX7_segmentCount_15 rfl (inr_d rfl) rfl) ?_
  refine tok_cons (snd_iald dX7_segmentCount_16 rfl) ?_
  refine tok_cons (snd_cn dX7_segmentCount_17 mok_6_arrange ⟨wm7_119, wi_6_arrange, wl_6_arrange⟩ (rc := (RX6, TX6, 11)) rfl rfl pn_6_arrange (by decide) ⟨rfl, rfl⟩ rfl) ?_
  refine tok_cons (snd_aload_n dX7_segmentCount_20 rfl rfl) ?_
  refine tok_cons (snd_gr (C := RX7) (T := TX7) (N := 4) dX7_segmentCount_21 rfl (by decide) rfl wf7_26 inX7 rfl) ?_
  refine tok_cons (snd_iload_n dX7_segmentCount_24 rfl rfl) ?_
  refine tok_cons (snd_cv dX7_segmentCount_25 mok_6_has ⟨wm7_124, wi_6_has, wl_6_has⟩ (rc := (RX6, TX6, 11)) rfl rfl pn_6_has (by decide) ⟨rfl, rfl⟩ rfl) ?_
  refine tok_cons (snd_if_eq dX7_segmentCount_28 (by decide) rfl) ?_
  refine tok_cons (snd_aload_n dX7_segmentCount_31 rfl rfl) ?_
  refine tok_cons (snd_gr (C := RX7) (T := TX7) (N := 4) dX7_segmentCount_32 rfl (by decide) rfl wf7_26 inX7 rfl) ?_
  refine tok_cons (snd_iload_n dX7_segmentCount_35 rfl rfl) ?_
  refine tok_cons (snd_cv dX7_segmentCount_36 mok_6_segmentsOf ⟨wm7_127, wi_6_segmentsOf, wl_6_segmentsOf⟩ (rc := (RX6, TX6, 11)) rfl rfl pn_6_segmentsOf (by decide) ⟨rfl, rfl⟩ rfl) ?_
  refine tok_cons (snd_goto dX7_segmentCount_39 (by decide)) ?_
  refine tok_cons (snd_iconst dX7_segmentCount_42 rfl (inr_d rfl) rfl) ?_
  refine tok_cons (snd_iret dX7_segmentCount_43 rfl) ?_
  exact tok_nil
def tab_7_pageInfo (X : XT) : Tab := [(0, false, a_aload 0 1), (1, false, a_gr 7 2 4), (4, false, a_aload 0 5), (5, false, a_gr 7 0 8), (8, false, a_aload 0 9), (9, false, a_gr 7 0 12), (12, false, a_gr 1 4 15), (15, false, a_const 0 16), (16, false, a_ald false 17), (17, false, a_cn X M_7_pageInfo M_6_arrange 6 3 20), (20, false, a_aload 0 21), (21, false, a_gr 7 2 24), (24, false, a_iload 1 25), (25, false, a_cv X M_7_pageInfo M_6_has 6 2 28), (28, false, a_if 0 47 31), (31, false, a_iload 2 32), (32, false, a_sv X M_7_pageInfo M_7_isSide 1 35), (35, false, a_if 0 47 38), (38, false, a_iload 3 39), (39, false, a_const 0 40), (40, false, a_const 5 41), (41, false, a_sv X M_7_pageInfo M_7_isIn 3 44), (44, false, a_if 1 49 47), (47, false, a_const (-1) 48), (48, false, a_iret M_7_pageInfo), (49, false, a_aload 0 50), (50, false, a_gr 7 2 53), (53, false, a_gr 6 5 56), (56, false, a_iload 3 57), (57, false, a_aald 58), (58, false, a_const 2 59), (59, false, a_iload 1 60), (60, false, a_mul 61), (61, false, a_iload 2 62), (62, false, a_add 63), (63, false, a_ald false 64), (64, false, a_iret M_7_pageInfo)]
set_option maxRecDepth 20000 in
theorem t_7_pageInfo (X : XT) : tget (tab_7_pageInfo X) 0 = some (false, a_aload 0 1) ∧ tget (tab_7_pageInfo X) 1 = some (false, a_gr 7 2 4) ∧ tget (tab_7_pageInfo X) 4 = some (false, a_aload 0 5) ∧ tget (tab_7_pageInfo X) 5 = some (false, a_gr 7 0 8) ∧ tget (tab_7_pageInfo X) 8 = some (false, a_aload 0 9) ∧ tget (tab_7_pageInfo X) 9 = some (false, a_gr 7 0 12) ∧ tget (tab_7_pageInfo X) 12 = some (false, a_gr 1 4 15) ∧ tget (tab_7_pageInfo X) 15 = some (false, a_const 0 16) ∧ tget (tab_7_pageInfo X) 16 = some (false, a_ald false 17) ∧ tget (tab_7_pageInfo X) 17 = some (false, a_cn X M_7_pageInfo M_6_arrange 6 3 20) ∧ tget (tab_7_pageInfo X) 20 = some (false, a_aload 0 21) ∧ tget (tab_7_pageInfo X) 21 = some (false, a_gr 7 2 24) ∧ tget (tab_7_pageInfo X) 24 = some (false, a_iload 1 25) ∧ tget (tab_7_pageInfo X) 25 = some (false, a_cv X M_7_pageInfo M_6_has 6 2 28) ∧ tget (tab_7_pageInfo X) 28 = some (false, a_if 0 47 31) ∧ tget (tab_7_pageInfo X) 31 = some (false, a_iload 2 32) ∧ tget (tab_7_pageInfo X) 32 = some (false, a_sv X M_7_pageInfo M_7_isSide 1 35) ∧ tget (tab_7_pageInfo X) 35 = some (false, a_if 0 47 38) ∧ tget (tab_7_pageInfo X) 38 = some (false, a_iload 3 39) ∧ tget (tab_7_pageInfo X) 39 = some (false, a_const 0 40) ∧ tget (tab_7_pageInfo X) 40 = some (false, a_const 5 41) ∧ tget (tab_7_pageInfo X) 41 = some (false, a_sv X M_7_pageInfo M_7_isIn 3 44) ∧ tget (tab_7_pageInfo X) 44 = some (false, a_if 1 49 47) ∧ tget (tab_7_pageInfo X) 47 = some (false, a_const (-1) 48) ∧ tget (tab_7_pageInfo X) 48 = some (false, a_iret M_7_pageInfo) ∧ tget (tab_7_pageInfo X) 49 = some (false, a_aload 0 50) ∧ tget (tab_7_pageInfo X) 50 = some (false, a_gr 7 2 53) ∧ tget (tab_7_pageInfo X) 53 = some (false, a_gr 6 5 56) ∧ tget (tab_7_pageInfo X) 56 = some (false, a_iload 3 57) ∧ tget (tab_7_pageInfo X) 57 = some (false, a_aald 58) ∧ tget (tab_7_pageInfo X) 58 = some (false, a_const 2 59) ∧ tget (tab_7_pageInfo X) 59 = some (false, a_iload 1 60) ∧ tget (tab_7_pageInfo X) 60 = some (false, a_mul 61) ∧ tget (tab_7_pageInfo X) 61 = some (false, a_iload 2 62) ∧ tget (tab_7_pageInfo X) 62 = some (false, a_add 63) ∧ tget (tab_7_pageInfo X) 63 = some (false, a_ald false 64) ∧ tget (tab_7_pageInfo X) 64 = some (false, a_iret M_7_pageInfo) := ⟨rfl, rfl, rfl, rfl, rfl, rfl, rfl, rfl, rfl, rfl, rfl, rfl, rfl, rfl, rfl, rfl, rfl, rfl, rfl, rfl, rfl, rfl, rfl, rfl, rfl, rfl, rfl, rfl, rfl, rfl, rfl, rfl, rfl, rfl, rfl, rfl, rfl⟩
theorem tok_7_pageInfo (X : XT) : TabOK X M_7_pageInfo (tab_7_pageInfo X) := by
  unfold tab_7_pageInfo
  refine tok_cons (snd_aload_n dX7_pageInfo_0 rfl rfl) ?_
  refine tok_cons (snd_gr (C := RX7) (T := TX7) (N := 4) dX7_pageInfo_1 rfl (by decide) rfl wf7_26 inX7 rfl) ?_
  refine tok_cons (snd_aload_n dX7_pageInfo_4 rfl rfl) ?_
  refine tok_cons (snd_gr (C := RX7) (T := TX7) (N := 4) dX7_pageInfo_5 rfl (by decide) rfl wf7_10 inX7 rfl) ?_
  refine tok_cons (snd_aload_n dX7_pageInfo_8 rfl rfl) ?_
  refine tok_cons (snd_gr (C := RX7) (T := TX7) (N := 4) dX7_pageInfo_9 rfl (by decide) rfl wf7_10 inX7 rfl) ?_
  refine tok_cons (snd_gr (C := RX1) (T := TX1) (N := 5) dX7_pageInfo_12 rfl (by decide) rfl wf7_101 inX1 rfl) ?_
  refine tok_cons (snd_iconst dX7_pageInfo_15 rfl (inr_d rfl) rfl) ?_
  refine tok_cons (snd_iald dX7_pageInfo_16 rfl) ?_
  refine tok_cons (snd_cn dX7_pageInfo_17 mok_6_arrange ⟨wm7_119, wi_6_arrange, wl_6_arrange⟩ (rc := (RX6, TX6, 11)) rfl rfl pn_6_arrange (by decide) ⟨rfl, rfl⟩ rfl) ?_
  refine tok_cons (snd_aload_n dX7_pageInfo_20 rfl rfl) ?_
  refine tok_cons (snd_gr (C := RX7) (T := TX7) (N := 4) dX7_pageInfo_21 rfl (by decide) rfl wf7_26 inX7 rfl) ?_
  refine tok_cons (snd_iload_n dX7_pageInfo_24 rfl rfl) ?_
  refine tok_cons (snd_cv dX7_pageInfo_25 mok_6_has ⟨wm7_124, wi_6_has, wl_6_has⟩ (rc := (RX6, TX6, 11)) rfl rfl pn_6_has (by decide) ⟨rfl, rfl⟩ rfl) ?_
  refine tok_cons (snd_if_eq dX7_pageInfo_28 (by decide) rfl) ?_
  refine tok_cons (snd_iload_n dX7_pageInfo_31 rfl rfl) ?_
  refine tok_cons (snd_sv dX7_pageInfo_32 mok_7_isSide ⟨ws_7_isSide, Or.inl ⟨wm7_60, rfl⟩⟩ pn_7_isSide (by decide) ⟨rfl, rfl⟩ rfl) ?_
  refine tok_cons (snd_if_eq dX7_pageInfo_35 (by decide) rfl) ?_
  refine tok_cons (snd_iload_n dX7_pageInfo_38 rfl rfl) ?_
  refine tok_cons (snd_iconst dX7_pageInfo_39 rfl (inr_d rfl) rfl) ?_
  refine tok_cons (snd_iconst dX7_pageInfo_40 rfl (inr_d rfl) rfl) ?_
  refine tok_cons (snd_sv dX7_pageInfo_41 mok_7_isIn ⟨ws_7_isIn, Or.inl ⟨wm7_41, rfl⟩⟩ pn_7_isIn (by decide) ⟨rfl, rfl⟩ rfl) ?_
  refine tok_cons (snd_if_ne dX7_pageInfo_44 (by decide) rfl) ?_
  refine tok_cons (snd_iconst dX7_pageInfo_47 rfl (inr_d rfl) rfl) ?_
  refine tok_cons (snd_iret dX7_pageInfo_48 rfl) ?_
  refine tok_cons (snd_aload_n dX7_pageInfo_49 rfl rfl) ?_
  refine tok_cons (snd_gr (C := RX7) (T := TX7) (N := 4) dX7_pageInfo_50 rfl (by decide) rfl wf7_26 inX7 rfl) ?_
  refine tok_cons (snd_gr (C := RX6) (T := TX6) (N := 11) dX7_pageInfo_53 rfl (by decide) rfl wf7_137 inX6 rfl) ?_
  refine tok_cons (snd_iload_n dX7_pageInfo_56 rfl rfl) ?_
  refine tok_cons (snd_aald dX7_pageInfo_57 rfl) ?_
  refine tok_cons (snd_iconst dX7_pageInfo_58 rfl (inr_d rfl) rfl) ?_
  refine tok_cons (snd_iload_n dX7_pageInfo_59 rfl rfl) ?_
  refine tok_cons (snd_mul dX7_pageInfo_60 rfl) ?_
  refine tok_cons (snd_iload_n dX7_pageInfo_61 rfl rfl) ?_
  refine tok_cons (snd_add dX7_pageInfo_62 rfl) ?_
  refine tok_cons (snd_iald dX7_pageInfo_63 rfl) ?_
  refine tok_cons (snd_iret dX7_pageInfo_64 rfl) ?_
  exact tok_nil
def tab_7_isOverfull (X : XT) : Tab := [(0, false, a_aload 0 1), (1, false, a_gr 7 2 4), (4, false, a_aload 0 5), (5, false, a_gr 7 0 8), (8, false, a_aload 0 9), (9, false, a_gr 7 0 12), (12, false, a_gr 1 4 15), (15, false, a_const 0 16), (16, false, a_ald false 17), (17, false, a_cn X M_7_isOverfull M_6_arrange 6 3 20), (20, false, a_aload 0 21), (21, false, a_gr 7 2 24), (24, false, a_iload 1 25), (25, false, a_cv X M_7_isOverfull M_6_has 6 2 28), (28, false, a_if 0 43 31), (31, false, a_aload 0 32), (32, false, a_gr 7 2 35), (35, false, a_gr 6 3 38), (38, false, a_iload 1 39), (39, false, a_ald false 40), (40, false, a_goto 44), (43, false, a_const (-1) 44), (44, false, a_iret M_7_isOverfull)]
set_option maxRecDepth 20000 in
theorem t_7_isOverfull (X : XT) : tget (tab_7_isOverfull X) 0 = some (false, a_aload 0 1) ∧ tget (tab_7_isOverfull X) 1 = some (false, a_gr 7 2 4) ∧ tget (tab_7_isOverfull X) 4 = some (false, a_aload 0 5) ∧ tget (tab_7_isOverfull X) 5 = some (false, a_gr 7 0 8) ∧ tget (tab_7_isOverfull X) 8 = some (false, a_aload 0 9) ∧ tget (tab_7_isOverfull X) 9 = some (false, a_gr 7 0 12) ∧ tget (tab_7_isOverfull X) 12 = some (false, a_gr 1 4 15) ∧ tget (tab_7_isOverfull X) 15 = some (false, a_const 0 16) ∧ tget (tab_7_isOverfull X) 16 = some (false, a_ald false 17) ∧ tget (tab_7_isOverfull X) 17 = some (false, a_cn X M_7_isOverfull M_6_arrange 6 3 20) ∧ tget (tab_7_isOverfull X) 20 = some (false, a_aload 0 21) ∧ tget (tab_7_isOverfull X) 21 = some (false, a_gr 7 2 24) ∧ tget (tab_7_isOverfull X) 24 = some (false, a_iload 1 25) ∧ tget (tab_7_isOverfull X) 25 = some (false, a_cv X M_7_isOverfull M_6_has 6 2 28) ∧ tget (tab_7_isOverfull X) 28 = some (false, a_if 0 43 31) ∧ tget (tab_7_isOverfull X) 31 = some (false, a_aload 0 32) ∧ tget (tab_7_isOverfull X) 32 = some (false, a_gr 7 2 35) ∧ tget (tab_7_isOverfull X) 35 = some (false, a_gr 6 3 38) ∧ tget (tab_7_isOverfull X) 38 = some (false, a_iload 1 39) ∧ tget (tab_7_isOverfull X) 39 = some (false, a_ald false 40) ∧ tget (tab_7_isOverfull X) 40 = some (false, a_goto 44) ∧ tget (tab_7_isOverfull X) 43 = some (false, a_const (-1) 44) ∧ tget (tab_7_isOverfull X) 44 = some (false, a_iret M_7_isOverfull) := ⟨rfl, rfl, rfl, rfl, rfl, rfl, rfl, rfl, rfl, rfl, rfl, rfl, rfl, rfl, rfl, rfl, rfl, rfl, rfl, rfl, rfl, rfl, rfl⟩
theorem tok_7_isOverfull (X : XT) : TabOK X M_7_isOverfull (tab_7_isOverfull X) := by
  unfold tab_7_isOverfull
  refine tok_cons (snd_aload_n dX7_isOverfull_0 rfl rfl) ?_
  refine tok_cons (snd_gr (C := RX7) (T := TX7) (N := 4) dX7_isOverfull_1 rfl (by decide) rfl wf7_26 inX7 rfl) ?_
  refine tok_cons (snd_aload_n dX7_isOverfull_4 rfl rfl) ?_
  refine tok_cons (snd_gr (C := RX7) (T := TX7) (N := 4) dX7_isOverfull_5 rfl (by decide) rfl wf7_10 inX7 rfl) ?_
  refine tok_cons (snd_aload_n dX7_isOverfull_8 rfl rfl) ?_
  refine tok_cons (snd_gr (C := RX7) (T := TX7) (N := 4) dX7_isOverfull_9 rfl (by decide) rfl wf7_10 inX7 rfl) ?_
  refine tok_cons (snd_gr (C := RX1) (T := TX1) (N := 5) dX7_isOverfull_12 rfl (by decide) rfl wf7_101 inX1 rfl) ?_
  refine tok_cons (snd_iconst dX7_isOverfull_15 rfl (inr_d rfl) rfl) ?_
  refine tok_cons (snd_iald dX7_isOverfull_16 rfl) ?_
  refine tok_cons (snd_cn dX7_isOverfull_17 mok_6_arrange ⟨wm7_119, wi_6_arrange, wl_6_arrange⟩ (rc := (RX6, TX6, 11)) rfl rfl pn_6_arrange (by decide) ⟨rfl, rfl⟩ rfl) ?_
  refine tok_cons (snd_aload_n dX7_isOverfull_20 rfl rfl) ?_
  refine tok_cons (snd_gr (C := RX7) (T := TX7) (N := 4) dX7_isOverfull_21 rfl (by decide) rfl wf7_26 inX7 rfl) ?_
  refine tok_cons (snd_iload_n dX7_isOverfull_24 rfl rfl) ?_
  refine tok_cons (snd_cv dX7_isOverfull_25 mok_6_has ⟨wm7_124, wi_6_has, wl_6_has⟩ (rc := (RX6, TX6, 11)) rfl rfl pn_6_has (by decide) ⟨rfl, rfl⟩ rfl) ?_
  refine tok_cons (snd_if_eq dX7_isOverfull_28 (by decide) rfl) ?_
  refine tok_cons (snd_aload_n dX7_isOverfull_31 rfl rfl) ?_
  refine tok_cons (snd_gr (C := RX7) (T := TX7) (N := 4) dX7_isOverfull_32 rfl (by decide) rfl wf7_26 inX7 rfl) ?_
  refine tok_cons (snd_gr (C := RX6) (T := TX6) (N := 11) dX7_isOverfull_35 rfl (by decide) rfl wf7_140 inX6 rfl) ?_
  refine tok_cons (snd_iload_n dX7_isOverfull_38 rfl rfl) ?_
  refine tok_cons (snd_iald dX7_isOverfull_39 rfl) ?_
  refine tok_cons (snd_goto dX7_isOverfull_40 (by decide)) ?_
  refine tok_cons (snd_iconst dX7_isOverfull_43 rfl (inr_d rfl) rfl) ?_
  refine tok_cons (snd_iret dX7_isOverfull_44 rfl) ?_
  exact tok_nil
def tab_7_spreadOf (X : XT) : Tab := [(0, false, a_aload 0 1), (1, false, a_gr 7 0 4), (4, false, a_iload 1 5), (5, false, a_iload 2 6), (6, false, a_iload 3 7), (7, false, a_cv X M_7_spreadOf M_1_hasLine 1 4 10), (10, false, a_if 1 15 13), (13, false, a_const (-1) 14), (14, false, a_iret M_7_spreadOf), (15, false, a_aload 0 16), (16, false, a_gr 7 2 19), (19, false, a_aload 0 20), (20, false, a_gr 7 0 23), (23, false, a_aload 0 24), (24, false, a_gr 7 0 27), (27, false, a_gr 1 4 30), (30, false, a_const 0 31), (31, false, a_ald false 32), (32, false, a_cn X M_7_spreadOf M_6_arrange 6 3 35), (35, false, a_aload 0 36), (36, false, a_gr 7 2 39), (39, false, a_aload 0 40), (40, false, a_gr 7 2 43), (43, false, a_iload 1 44), (44, false, a_iload 2 45), (45, false, a_iload 3 46), (46, false, a_cv X M_7_spreadOf M_6_segmentWith 6 4 49), (49, false, a_cv X M_7_spreadOf M_6_spreadWith 6 2 52), (52, false, a_iret M_7_spreadOf)]
set_option maxRecDepth 20000 in
theorem t_7_spreadOf (X : XT) : tget (tab_7_spreadOf X) 0 = some (false, a_aload 0 1) ∧ tget (tab_7_spreadOf X) 1 = some (false, a_gr 7 0 4) ∧ tget (tab_7_spreadOf X) 4 = some (false, a_iload 1 5) ∧ tget (tab_7_spreadOf X) 5 = some (false, a_iload 2 6) ∧ tget (tab_7_spreadOf X) 6 = some (false, a_iload 3 7) ∧ tget (tab_7_spreadOf X) 7 = some (false, a_cv X M_7_spreadOf M_1_hasLine 1 4 10) ∧ tget (tab_7_spreadOf X) 10 = some (false, a_if 1 15 13) ∧ tget (tab_7_spreadOf X) 13 = some (false, a_const (-1) 14) ∧ tget (tab_7_spreadOf X) 14 = some (false, a_iret M_7_spreadOf) ∧ tget (tab_7_spreadOf X) 15 = some (false, a_aload 0 16) ∧ tget (tab_7_spreadOf X) 16 = some (false, a_gr 7 2 19) ∧ tget (tab_7_spreadOf X) 19 = some (false, a_aload 0 20) ∧ tget (tab_7_spreadOf X) 20 = some (false, a_gr 7 0 23) ∧ tget (tab_7_spreadOf X) 23 = some (false, a_aload 0 24) ∧ tget (tab_7_spreadOf X) 24 = some (false, a_gr 7 0 27) ∧ tget (tab_7_spreadOf X) 27 = some (false, a_gr 1 4 30) ∧ tget (tab_7_spreadOf X) 30 = some (false, a_const 0 31) ∧ tget (tab_7_spreadOf X) 31 = some (false, a_ald false 32) ∧ tget (tab_7_spreadOf X) 32 = some (false, a_cn X M_7_spreadOf M_6_arrange 6 3 35) ∧ tget (tab_7_spreadOf X) 35 = some (false, a_aload 0 36) ∧ tget (tab_7_spreadOf X) 36 = some (false, a_gr 7 2 39) ∧ tget (tab_7_spreadOf X) 39 = some (false, a_aload 0 40) ∧ tget (tab_7_spreadOf X) 40 = some (false, a_gr 7 2 43) ∧ tget (tab_7_spreadOf X) 43 = some (false, a_iload 1 44) ∧ tget (tab_7_spreadOf X) 44 = some (false, a_iload 2 45) ∧ tget (tab_7_spreadOf X) 45 = some (false, a_iload 3 46) ∧ tget (tab_7_spreadOf X) 46 = some (false, a_cv X M_7_spreadOf M_6_segmentWith 6 4 49) ∧ tget (tab_7_spreadOf X) 49 = some (false, a_cv X M_7_spreadOf M_6_spreadWith 6 2 52) ∧ tget (tab_7_spreadOf X) 52 = some (false, a_iret M_7_spreadOf) := ⟨rfl, rfl, rfl, rfl, rfl, rfl, rfl, rfl, rfl, rfl, rfl, rfl, rfl, rfl, rfl, rfl, rfl, rfl, rfl, rfl, rfl, rfl, rfl, rfl, rfl, rfl, rfl, rfl, rfl⟩
theorem tok_7_spreadOf (X : XT) : TabOK X M_7_spreadOf (tab_7_spreadOf X) := by
  unfold tab_7_spreadOf
  refine tok_cons (snd_aload_n dX7_spreadOf_0 rfl rfl) ?_
  refine tok_cons (snd_gr (C := RX7) (T := TX7) (N := 4) dX7_spreadOf_1 rfl (by decide) rfl wf7_10 inX7 rfl) ?_
  refine tok_cons (snd_iload_n dX7_spreadOf_4 rfl rfl) ?_
  refine tok_cons (snd_iload_n dX7_spreadOf_5 rfl rfl) ?_
  refine tok_cons (snd_iload_n dX7_spreadOf_6 rfl rfl) ?_
  refine tok_cons (snd_cv dX7_spreadOf_7 mok_1_hasLine ⟨wm7_77, wi_1_hasLine, wl_1_hasLine⟩ (rc := (RX1, TX1, 5)) rfl rfl pn_1_hasLine (by decide) ⟨rfl, rfl⟩ rfl) ?_
  refine tok_cons (snd_if_ne dX7_spreadOf_10 (by decide) rfl) ?_
  refine tok_cons (snd_iconst dX7_spreadOf_13 rfl (inr_d rfl) rfl) ?_
  refine tok_cons (snd_iret dX7_spreadOf_14 rfl) ?_
  refine tok_cons (snd_aload_n dX7_spreadOf_15 rfl rfl) ?_
  refine tok_cons (snd_gr (C := RX7) (T := TX7) (N := 4) dX7_spreadOf_16 rfl (by decide) rfl wf7_26 inX7 rfl) ?_
  refine tok_cons (snd_aload_n dX7_spreadOf_19 rfl rfl) ?_
  refine tok_cons (snd_gr (C := RX7) (T := TX7) (N := 4) dX7_spreadOf_20 rfl (by decide) rfl wf7_10 inX7 rfl) ?_
  refine tok_cons (snd_aload_n dX7_spreadOf_23 rfl rfl) ?_
  refine tok_cons (snd_gr (C := RX7) (T := TX7) (N := 4) dX7_spreadOf_24 rfl (by decide) rfl wf7_10 inX7 rfl) ?_
  refine tok_cons (snd_gr (C := RX1) (T := TX1) (N := 5) dX7_spreadOf_27 rfl (by decide) rfl wf7_101 inX1 rfl) ?_
  refine tok_cons (snd_iconst dX7_spreadOf_30 rfl (inr_d rfl) rfl) ?_
  refine tok_cons (snd_iald dX7_spreadOf_31 rfl) ?_
  refine tok_cons (snd_cn dX7_spreadOf_32 mok_6_arrange ⟨wm7_119, wi_6_arrange, wl_6_arrange⟩ (rc := (RX6, TX6, 11)) rfl rfl pn_6_arrange (by decide) ⟨rfl, rfl⟩ rfl) ?_
  refine tok_cons (snd_aload_n dX7_spreadOf_35 rfl rfl) ?_
  refine tok_cons (snd_gr (C := RX7) (T := TX7) (N := 4) dX7_spreadOf_36 rfl (by decide) rfl wf7_26 inX7 rfl) ?_
  refine tok_cons (snd_aload_n dX7_spreadOf_39 rfl rfl) ?_
  refine tok_cons (snd_gr (C := RX7) (T := TX7) (N := 4) dX7_spreadOf_40 rfl (by decide) rfl wf7_26 inX7 rfl) ?_
  refine tok_cons (snd_iload_n dX7_spreadOf_43 rfl rfl) ?_
  refine tok_cons (snd_iload_n dX7_spreadOf_44 rfl rfl) ?_
  refine tok_cons (snd_iload_n dX7_spreadOf_45 rfl rfl) ?_
  refine tok_cons (snd_cv dX7_spreadOf_46 mok_6_segmentWith ⟨wm7_143, wi_6_segmentWith, wl_6_segmentWith⟩ (rc := (RX6, TX6, 11)) rfl rfl pn_6_segmentWith (by decide) ⟨rfl, rfl⟩ rfl) ?_
  refine tok_cons (snd_cv dX7_spreadOf_49 mok_6_spreadWith ⟨wm7_146, wi_6_spreadWith, wl_6_spreadWith⟩ (rc := (RX6, TX6, 11)) rfl rfl pn_6_spreadWith (by decide) ⟨rfl, rfl⟩ rfl) ?_
  refine tok_cons (snd_iret dX7_spreadOf_52 rfl) ?_
  exact tok_nil
def tab_7_rowOf (X : XT) : Tab := [(0, false, a_aload 0 1), (1, false, a_gr 7 0 4), (4, false, a_iload 1 5), (5, false, a_iload 2 6), (6, false, a_iload 3 7), (7, false, a_cv X M_7_rowOf M_1_hasLine 1 4 10), (10, false, a_if 1 15 13), (13, false, a_const (-1) 14), (14, false, a_iret M_7_rowOf), (15, false, a_aload 0 16), (16, false, a_gr 7 2 19), (19, false, a_aload 0 20), (20, false, a_gr 7 0 23), (23, false, a_aload 0 24), (24, false, a_gr 7 0 27), (27, false, a_gr 1 4 30), (30, false, a_const 0 31), (31, false, a_ald false 32), (32, false, a_cn X M_7_rowOf M_6_arrange 6 3 35), (35, false, a_aload 0 36), (36, false, a_gr 7 2 39), (39, false, a_aload 0 40), (40, false, a_gr 7 2 43), (43, false, a_iload 1 44), (44, false, a_iload 2 45), (45, false, a_iload 3 46), (46, false, a_cv X M_7_rowOf M_6_segmentWith 6 4 49), (49, false, a_iload 2 50), (50, false, a_iload 3 51), (51, false, a_cv X M_7_rowOf M_6_rowIn 6 4 54), (54, false, a_iret M_7_rowOf)]
set_option maxRecDepth 20000 in
theorem t_7_rowOf (X : XT) : tget (tab_7_rowOf X) 0 = some (false, a_aload 0 1) ∧ tget (tab_7_rowOf X) 1 = some (false, a_gr 7 0 4) ∧ tget (tab_7_rowOf X) 4 = some (false, a_iload 1 5) ∧ tget (tab_7_rowOf X) 5 = some (false, a_iload 2 6) ∧ tget (tab_7_rowOf X) 6 = some (false, a_iload 3 7) ∧ tget (tab_7_rowOf X) 7 = some (false, a_cv X M_7_rowOf M_1_hasLine 1 4 10) ∧ tget (tab_7_rowOf X) 10 = some (false, a_if 1 15 13) ∧ tget (tab_7_rowOf X) 13 = some (false, a_const (-1) 14) ∧ tget (tab_7_rowOf X) 14 = some (false, a_iret M_7_rowOf) ∧ tget (tab_7_rowOf X) 15 = some (false, a_aload 0 16) ∧ tget (tab_7_rowOf X) 16 = some (false, a_gr 7 2 19) ∧ tget (tab_7_rowOf X) 19 = some (false, a_aload 0 20) ∧ tget (tab_7_rowOf X) 20 = some (false, a_gr 7 0 23) ∧ tget (tab_7_rowOf X) 23 = some (false, a_aload 0 24) ∧ tget (tab_7_rowOf X) 24 = some (false, a_gr 7 0 27) ∧ tget (tab_7_rowOf X) 27 = some (false, a_gr 1 4 30) ∧ tget (tab_7_rowOf X) 30 = some (false, a_const 0 31) ∧ tget (tab_7_rowOf X) 31 = some (false, a_ald false 32) ∧ tget (tab_7_rowOf X) 32 = some (false, a_cn X M_7_rowOf M_6_arrange 6 3 35) ∧ tget (tab_7_rowOf X) 35 = some (false, a_aload 0 36) ∧ tget (tab_7_rowOf X) 36 = some (false, a_gr 7 2 39) ∧ tget (tab_7_rowOf X) 39 = some (false, a_aload 0 40) ∧ tget (tab_7_rowOf X) 40 = some (false, a_gr 7 2 43) ∧ tget (tab_7_rowOf X) 43 = some (false, a_iload 1 44) ∧ tget (tab_7_rowOf X) 44 = some (false, a_iload 2 45) ∧ tget (tab_7_rowOf X) 45 = some (false, a_iload 3 46) ∧ tget (tab_7_rowOf X) 46 = some (false, a_cv X M_7_rowOf M_6_segmentWith 6 4 49) ∧ tget (tab_7_rowOf X) 49 = some (false, a_iload 2 50) ∧ tget (tab_7_rowOf X) 50 = some (false, a_iload 3 51) ∧ tget (tab_7_rowOf X) 51 = some (false, a_cv X M_7_rowOf M_6_rowIn 6 4 54) ∧ tget (tab_7_rowOf X) 54 = some (false, a_iret M_7_rowOf) := ⟨rfl, rfl, rfl, rfl, rfl, rfl, rfl, rfl, rfl, rfl, rfl, rfl, rfl, rfl, rfl, rfl, rfl, rfl, rfl, rfl, rfl, rfl, rfl, rfl, rfl, rfl, rfl, rfl, rfl, rfl, rfl⟩
theorem tok_7_rowOf (X : XT) : TabOK X M_7_rowOf (tab_7_rowOf X) := by
  unfold tab_7_rowOf
  refine tok_cons (snd_aload_n dX7_rowOf_0 rfl rfl) ?_
  refine tok_cons (snd_gr (C := RX7) (T := TX7) (N := 4) dX7_rowOf_1 rfl (by decide) rfl wf7_10 inX7 rfl) ?_
  refine tok_cons (snd_iload_n dX7_rowOf_4 rfl rfl) ?_
  refine tok_cons (snd_iload_n dX7_rowOf_5 rfl rfl) ?_
  refine tok_cons (snd_iload_n dX7_rowOf_6 rfl rfl) ?_
  refine tok_cons (snd_cv dX7_rowOf_7 mok_1_hasLine ⟨wm7_77, wi_1_hasLine, wl_1_hasLine⟩ (rc := (RX1, TX1, 5)) rfl rfl pn_1_hasLine (by decide) ⟨rfl, rfl⟩ rfl) ?_
  refine tok_cons (snd_if_ne dX7_rowOf_10 (by decide) rfl) ?_
  refine tok_cons (snd_iconst dX7_rowOf_13 rfl (inr_d rfl) rfl) ?_
  refine tok_cons (snd_iret dX7_rowOf_14 rfl) ?_
  refine tok_cons (snd_aload_n dX7_rowOf_15 rfl rfl) ?_
  refine tok_cons (snd_gr (C := RX7) (T := TX7) (N := 4) dX7_rowOf_16 rfl (by decide) rfl wf7_26 inX7 rfl) ?_
  refine tok_cons (snd_aload_n dX7_rowOf_19 rfl rfl) ?_
  refine tok_cons (snd_gr (C := RX7) (T := TX7) (N := 4) dX7_rowOf_20 rfl (by decide) rfl wf7_10 inX7 rfl) ?_
  refine tok_cons (snd_aload_n dX7_rowOf_23 rfl rfl) ?_
  refine tok_cons (snd_gr (C := RX7) (T := TX7) (N := 4) dX7_rowOf_24 rfl (by decide) rfl wf7_10 inX7 rfl) ?_
  refine tok_cons (snd_gr (C := RX1) (T := TX1) (N := 5) dX7_rowOf_27 rfl (by decide) rfl wf7_101 inX1 rfl) ?_
  refine tok_cons (snd_iconst dX7_rowOf_30 rfl (inr_d rfl) rfl) ?_
  refine tok_cons (snd_iald dX7_rowOf_31 rfl) ?_
  refine tok_cons (snd_cn dX7_rowOf_32 mok_6_arrange ⟨wm7_119, wi_6_arrange, wl_6_arrange⟩ (rc := (RX6, TX6, 11)) rfl rfl pn_6_arrange (by decide) ⟨rfl, rfl⟩ rfl) ?_
  refine tok_cons (snd_aload_n dX7_rowOf_35 rfl rfl) ?_
  refine tok_cons (snd_gr (C := RX7) (T := TX7) (N := 4) dX7_rowOf_36 rfl (by decide) rfl wf7_26 inX7 rfl) ?_
  refine tok_cons (snd_aload_n dX7_rowOf_39 rfl rfl) ?_
  refine tok_cons (snd_gr (C := RX7) (T := TX7) (N := 4) dX7_rowOf_40 rfl (by decide) rfl wf7_26 inX7 rfl) ?_
  refine tok_cons (snd_iload_n dX7_rowOf_43 rfl rfl) ?_
  refine tok_cons (snd_iload_n dX7_rowOf_44 rfl rfl) ?_
  refine tok_cons (snd_iload_n dX7_rowOf_45 rfl rfl) ?_
  refine tok_cons (snd_cv dX7_rowOf_46 mok_6_segmentWith ⟨wm7_143, wi_6_segmentWith, wl_6_segmentWith⟩ (rc := (RX6, TX6, 11)) rfl rfl pn_6_segmentWith (by decide) ⟨rfl, rfl⟩ rfl) ?_
  refine tok_cons (snd_iload_n dX7_rowOf_49 rfl rfl) ?_
  refine tok_cons (snd_iload_n dX7_rowOf_50 rfl rfl) ?_
  refine tok_cons (snd_cv dX7_rowOf_51 mok_6_rowIn ⟨wm7_149, wi_6_rowIn, wl_6_rowIn⟩ (rc := (RX6, TX6, 11)) rfl rfl pn_6_rowIn (by decide) ⟨rfl, rfl⟩ rfl) ?_
  refine tok_cons (snd_iret dX7_rowOf_54 rfl) ?_
  exact tok_nil
def tab_7_shown (X : XT) : Tab := [(0, false, a_aload 0 1), (1, false, a_gr 7 2 4), (4, false, a_aload 0 5), (5, false, a_gr 7 0 8), (8, false, a_aload 0 9), (9, false, a_gr 7 0 12), (12, false, a_gr 1 4 15), (15, false, a_const 0 16), (16, false, a_ald false 17), (17, false, a_cn X M_7_shown M_6_arrange 6 3 20), (20, false, a_aload 0 21), (21, false, a_gr 7 2 24), (24, false, a_iload 1 25), (25, false, a_cv X M_7_shown M_6_has 6 2 28), (28, false, a_if 0 48 31), (31, false, a_iload 2 32), (32, false, a_sv X M_7_shown M_7_isSide 1 35), (35, false, a_if 0 48 38), (38, false, a_iload 3 39), (39, false, a_const 0 40), (40, false, a_const 99 42), (42, false, a_sv X M_7_shown M_7_isIn 3 45), (45, false, a_if 1 50 48), (48, false, a_const (-1) 49), (49, false, a_iret M_7_shown), (50, false, a_aload 0 51), (51, false, a_gr 7 2 54), (54, false, a_iload 1 55), (55, false, a_iload 2 56), (56, false, a_iload 3 57), (57, false, a_cv X M_7_shown M_6_textAt 6 4 60), (60, false, a_istore 4 62), (62, false, a_iload 4 64), (64, false, a_if 0 72 67), (67, false, a_iload 4 69), (69, false, a_goto 86), (72, false, a_aload 0 73), (73, false, a_gr 7 2 76), (76, false, a_aload 0 77), (77, false, a_gr 7 0 80), (80, false, a_iload 1 81), (81, false, a_iload 2 82), (82, false, a_iload 3 83), (83, false, a_cv X M_7_shown M_6_noteAt 6 5 86), (86, false, a_iret M_7_shown)]
set_option maxRecDepth 20000 in
theorem t_7_shown (X : XT) : tget (tab_7_shown X) 0 = some (false, a_aload 0 1) ∧ tget (tab_7_shown X) 1 = some (false, a_gr 7 2 4) ∧ tget (tab_7_shown X) 4 = some (false, a_aload 0 5) ∧ tget (tab_7_shown X) 5 = some (false, a_gr 7 0 8) ∧ tget (tab_7_shown X) 8 = some (false, a_aload 0 9) ∧ tget (tab_7_shown X) 9 = some (false, a_gr 7 0 12) ∧ tget (tab_7_shown X) 12 = some (false, a_gr 1 4 15) ∧ tget (tab_7_shown X) 15 = some (false, a_const 0 16) ∧ tget (tab_7_shown X) 16 = some (false, a_ald false 17) ∧ tget (tab_7_shown X) 17 = some (false, a_cn X M_7_shown M_6_arrange 6 3 20) ∧ tget (tab_7_shown X) 20 = some (false, a_aload 0 21) ∧ tget (tab_7_shown X) 21 = some (false, a_gr 7 2 24) ∧ tget (tab_7_shown X) 24 = some (false, a_iload 1 25) ∧ tget (tab_7_shown X) 25 = some (false, a_cv X M_7_shown M_6_has 6 2 28) ∧ tget (tab_7_shown X) 28 = some (false, a_if 0 48 31) ∧ tget (tab_7_shown X) 31 = some (false, a_iload 2 32) ∧ tget (tab_7_shown X) 32 = some (false, a_sv X M_7_shown M_7_isSide 1 35) ∧ tget (tab_7_shown X) 35 = some (false, a_if 0 48 38) ∧ tget (tab_7_shown X) 38 = some (false, a_iload 3 39) ∧ tget (tab_7_shown X) 39 = some (false, a_const 0 40) ∧ tget (tab_7_shown X) 40 = some (false, a_const 99 42) ∧ tget (tab_7_shown X) 42 = some (false, a_sv X M_7_shown M_7_isIn 3 45) ∧ tget (tab_7_shown X) 45 = some (false, a_if 1 50 48) ∧ tget (tab_7_shown X) 48 = some (false, a_const (-1) 49) ∧ tget (tab_7_shown X) 49 = some (false, a_iret M_7_shown) ∧ tget (tab_7_shown X) 50 = some (false, a_aload 0 51) ∧ tget (tab_7_shown X) 51 = some (false, a_gr 7 2 54) ∧ tget (tab_7_shown X) 54 = some (false, a_iload 1 55) ∧ tget (tab_7_shown X) 55 = some (false, a_iload 2 56) ∧ tget (tab_7_shown X) 56 = some (false, a_iload 3 57) ∧ tget (tab_7_shown X) 57 = some (false, a_cv X M_7_shown M_6_textAt 6 4 60) ∧ tget (tab_7_shown X) 60 = some (false, a_istore 4 62) ∧ tget (tab_7_shown X) 62 = some (false, a_iload 4 64) ∧ tget (tab_7_shown X) 64 = some (false, a_if 0 72 67) ∧ tget (tab_7_shown X) 67 = some (false, a_iload 4 69) ∧ tget (tab_7_shown X) 69 = some (false, a_goto 86) ∧ tget (tab_7_shown X) 72 = some (false, a_aload 0 73) ∧ tget (tab_7_shown X) 73 = some (false, a_gr 7 2 76) ∧ tget (tab_7_shown X) 76 = some (false, a_aload 0 77) ∧ tget (tab_7_shown X) 77 = some (false, a_gr 7 0 80) ∧ tget (tab_7_shown X) 80 = some (false, a_iload 1 81) ∧ tget (tab_7_shown X) 81 = some (false, a_iload 2 82) ∧ tget (tab_7_shown X) 82 = some (false, a_iload 3 83) ∧ tget (tab_7_shown X) 83 = some (false, a_cv X M_7_shown M_6_noteAt 6 5 86) ∧ tget (tab_7_shown X) 86 = some (false, a_iret M_7_shown) := ⟨rfl, rfl, rfl, rfl, rfl, rfl, rfl, rfl, rfl, rfl, rfl, rfl, rfl, rfl, rfl, rfl, rfl, rfl, rfl, rfl, rfl, rfl, rfl, rfl, rfl, rfl, rfl, rfl, rfl, rfl, rfl, rfl, rfl, rfl, rfl, rfl, rfl, rfl, rfl, rfl, rfl, rfl, rfl, rfl, rfl⟩
theorem tok_7_shown (X : XT) : TabOK X M_7_shown (tab_7_shown X) := by
  unfold tab_7_shown
  refine tok_cons (snd_aload_n dX7_shown_0 rfl rfl) ?_
  refine tok_cons (snd_gr (C := RX7) (T := TX7) (N := 4) dX7_shown_1 rfl (by decide) rfl wf7_26 inX7 rfl) ?_
  refine tok_cons (snd_aload_n dX7_shown_4 rfl rfl) ?_
  refine tok_cons (snd_gr (C := RX7) (T := TX7) (N := 4) dX7_shown_5 rfl (by decide) rfl wf7_10 inX7 rfl) ?_
  refine tok_cons (snd_aload_n dX7_shown_8 rfl rfl) ?_
  refine tok_cons (snd_gr (C := RX7) (T := TX7) (N := 4) dX7_shown_9 rfl (by decide) rfl wf7_10 inX7 rfl) ?_
  refine tok_cons (snd_gr (C := RX1) (T := TX1) (N := 5) dX7_shown_12 rfl (by decide) rfl wf7_101 inX1 rfl) ?_
  refine tok_cons (snd_iconst dX7_shown_15 rfl (inr_d rfl) rfl) ?_
  refine tok_cons (snd_iald dX7_shown_16 rfl) ?_
  refine tok_cons (snd_cn dX7_shown_17 mok_6_arrange ⟨wm7_119, wi_6_arrange, wl_6_arrange⟩ (rc := (RX6, TX6, 11)) rfl rfl pn_6_arrange (by decide) ⟨rfl, rfl⟩ rfl) ?_
  refine tok_cons (snd_aload_n dX7_shown_20 rfl rfl) ?_
  refine tok_cons (snd_gr (C := RX7) (T := TX7) (N := 4) dX7_shown_21 rfl (by decide) rfl wf7_26 inX7 rfl) ?_
  refine tok_cons (snd_iload_n dX7_shown_24 rfl rfl) ?_
  refine tok_cons (snd_cv dX7_shown_25 mok_6_has ⟨wm7_124, wi_6_has, wl_6_has⟩ (rc := (RX6, TX6, 11)) rfl rfl pn_6_has (by decide) ⟨rfl, rfl⟩ rfl) ?_
  refine tok_cons (snd_if_eq dX7_shown_28 (by decide) rfl) ?_
  refine tok_cons (snd_iload_n dX7_shown_31 rfl rfl) ?_
  refine tok_cons (snd_sv dX7_shown_32 mok_7_isSide ⟨ws_7_isSide, Or.inl ⟨wm7_60, rfl⟩⟩ pn_7_isSide (by decide) ⟨rfl, rfl⟩ rfl) ?_
  refine tok_cons (snd_if_eq dX7_shown_35 (by decide) rfl) ?_
  refine tok_cons (snd_iload_n dX7_shown_38 rfl rfl) ?_
  refine tok_cons (snd_iconst dX7_shown_39 rfl (inr_d rfl) rfl) ?_
  refine tok_cons (snd_bipush dX7_shown_40 (by decide) (inr_d rfl) rfl) ?_
  refine tok_cons (snd_sv dX7_shown_42 mok_7_isIn ⟨ws_7_isIn, Or.inl ⟨wm7_41, rfl⟩⟩ pn_7_isIn (by decide) ⟨rfl, rfl⟩ rfl) ?_
  refine tok_cons (snd_if_ne dX7_shown_45 (by decide) rfl) ?_
  refine tok_cons (snd_iconst dX7_shown_48 rfl (inr_d rfl) rfl) ?_
  refine tok_cons (snd_iret dX7_shown_49 rfl) ?_
  refine tok_cons (snd_aload_n dX7_shown_50 rfl rfl) ?_
  refine tok_cons (snd_gr (C := RX7) (T := TX7) (N := 4) dX7_shown_51 rfl (by decide) rfl wf7_26 inX7 rfl) ?_
  refine tok_cons (snd_iload_n dX7_shown_54 rfl rfl) ?_
  refine tok_cons (snd_iload_n dX7_shown_55 rfl rfl) ?_
  refine tok_cons (snd_iload_n dX7_shown_56 rfl rfl) ?_
  refine tok_cons (snd_cv dX7_shown_57 mok_6_textAt ⟨wm7_152, wi_6_textAt, wl_6_textAt⟩ (rc := (RX6, TX6, 11)) rfl rfl pn_6_textAt (by decide) ⟨rfl, rfl⟩ rfl) ?_
  refine tok_cons (snd_istore dX7_shown_60 rfl (by decide)) ?_
  refine tok_cons (snd_iload dX7_shown_62 rfl) ?_
  refine tok_cons (snd_if_eq dX7_shown_64 (by decide) rfl) ?_
  refine tok_cons (snd_iload dX7_shown_67 rfl) ?_
  refine tok_cons (snd_goto dX7_shown_69 (by decide)) ?_
  refine tok_cons (snd_aload_n dX7_shown_72 rfl rfl) ?_
  refine tok_cons (snd_gr (C := RX7) (T := TX7) (N := 4) dX7_shown_73 rfl (by decide) rfl wf7_26 inX7 rfl) ?_
  refine tok_cons (snd_aload_n dX7_shown_76 rfl rfl) ?_
  refine tok_cons (snd_gr (C := RX7) (T := TX7) (N := 4) dX7_shown_77 rfl (by decide) rfl wf7_10 inX7 rfl) ?_
  refine tok_cons (snd_iload_n dX7_shown_80 rfl rfl) ?_
  refine tok_cons (snd_iload_n dX7_shown_81 rfl rfl) ?_
  refine tok_cons (snd_iload_n dX7_shown_82 rfl rfl) ?_
  refine tok_cons (snd_cv dX7_shown_83 mok_6_noteAt ⟨wm7_155, wi_6_noteAt, wl_6_noteAt⟩ (rc := (RX6, TX6, 11)) rfl rfl pn_6_noteAt (by decide) ⟨rfl, rfl⟩ rfl) ?_
  refine tok_cons (snd_iret dX7_shown_86 rfl) ?_
  exact tok_nil
def tab_7_cost (X : XT) : Tab := [(0, false, a_aload 0 1), (1, false, a_gr 7 2 4), (4, false, a_aload 0 5), (5, false, a_gr 7 0 8), (8, false, a_aload 0 9), (9, false, a_gr 7 0 12), (12, false, a_gr 1 4 15), (15, false, a_const 0 16), (16, false, a_ald false 17), (17, false, a_cn X M_7_cost M_6_arrange 6 3 20), (20, false, a_aload 0 21), (21, false, a_gr 7 2 24), (24, false, a_cv X M_7_cost M_6_blankSquares 6 1 27), (27, false, a_iret M_7_cost)]
set_option maxRecDepth 20000 in
theorem t_7_cost (X : XT) : tget (tab_7_cost X) 0 = some (false, a_aload 0 1) ∧ tget (tab_7_cost X) 1 = some (false, a_gr 7 2 4) ∧ tget (tab_7_cost X) 4 = some (false, a_aload 0 5) ∧ tget (tab_7_cost X) 5 = some (false, a_gr 7 0 8) ∧ tget (tab_7_cost X) 8 = some (false, a_aload 0 9) ∧ tget (tab_7_cost X) 9 = some (false, a_gr 7 0 12) ∧ tget (tab_7_cost X) 12 = some (false, a_gr 1 4 15) ∧ tget (tab_7_cost X) 15 = some (false, a_const 0 16) ∧ tget (tab_7_cost X) 16 = some (false, a_ald false 17) ∧ tget (tab_7_cost X) 17 = some (false, a_cn X M_7_cost M_6_arrange 6 3 20) ∧ tget (tab_7_cost X) 20 = some (false, a_aload 0 21) ∧ tget (tab_7_cost X) 21 = some (false, a_gr 7 2 24) ∧ tget (tab_7_cost X) 24 = some (false, a_cv X M_7_cost M_6_blankSquares 6 1 27) ∧ tget (tab_7_cost X) 27 = some (false, a_iret M_7_cost) := ⟨rfl, rfl, rfl, rfl, rfl, rfl, rfl, rfl, rfl, rfl, rfl, rfl, rfl, rfl⟩
theorem tok_7_cost (X : XT) : TabOK X M_7_cost (tab_7_cost X) := by
  unfold tab_7_cost
  refine tok_cons (snd_aload_n dX7_cost_0 rfl rfl) ?_
  refine tok_cons (snd_gr (C := RX7) (T := TX7) (N := 4) dX7_cost_1 rfl (by decide) rfl wf7_26 inX7 rfl) ?_
  refine tok_cons (snd_aload_n dX7_cost_4 rfl rfl) ?_
  refine tok_cons (snd_gr (C := RX7) (T := TX7) (N := 4) dX7_cost_5 rfl (by decide) rfl wf7_10 inX7 rfl) ?_
  refine tok_cons (snd_aload_n dX7_cost_8 rfl rfl) ?_
  refine tok_cons (snd_gr (C := RX7) (T := TX7) (N := 4) dX7_cost_9 rfl (by decide) rfl wf7_10 inX7 rfl) ?_
  refine tok_cons (snd_gr (C := RX1) (T := TX1) (N := 5) dX7_cost_12 rfl (by decide) rfl wf7_101 inX1 rfl) ?_
  refine tok_cons (snd_iconst dX7_cost_15 rfl (inr_d rfl) rfl) ?_
  refine tok_cons (snd_iald dX7_cost_16 rfl) ?_
  refine tok_cons (snd_cn dX7_cost_17 mok_6_arrange ⟨wm7_119, wi_6_arrange, wl_6_arrange⟩ (rc := (RX6, TX6, 11)) rfl rfl pn_6_arrange (by decide) ⟨rfl, rfl⟩ rfl) ?_
  refine tok_cons (snd_aload_n dX7_cost_20 rfl rfl) ?_
  refine tok_cons (snd_gr (C := RX7) (T := TX7) (N := 4) dX7_cost_21 rfl (by decide) rfl wf7_26 inX7 rfl) ?_
  refine tok_cons (snd_cv dX7_cost_24 mok_6_blankSquares ⟨wm7_159, wi_6_blankSquares, wl_6_blankSquares⟩ (rc := (RX6, TX6, 11)) rfl rfl pn_6_blankSquares (by decide) ⟨rfl, rfl⟩ rfl) ?_
  refine tok_cons (snd_iret dX7_cost_27 rfl) ?_
  exact tok_nil
def tab_7_leastHeight (X : XT) : Tab := [(0, false, a_iload 1 1), (1, false, a_const 1 2), (2, false, a_const 40 4), (4, false, a_sv X M_7_leastHeight M_7_isIn 3 7), (7, false, a_if 1 12 10), (10, false, a_const (-1) 11), (11, false, a_iret M_7_leastHeight), (12, false, a_gst 1 15), (15, false, a_const 0 16), (16, false, a_sld 17), (17, false, a_istore 2 18), (18, true, a_iload 2 19), (19, false, a_gst 2 22), (22, false, a_const 0 23), (23, false, a_sld 24), (24, false, a_icmp 4 58 27), (27, false, a_aload 0 28), (28, false, a_gr 7 2 31), (31, false, a_aload 0 32), (32, false, a_gr 7 0 35), (35, false, a_iload 2 36), (36, false, a_cn X M_7_leastHeight M_6_arrange 6 3 39), (39, false, a_aload 0 40), (40, false, a_gr 7 2 43), (43, false, a_gi 6 1 1 46), (46, false, a_iload 1 47), (47, false, a_icmp 4 52 50), (50, false, a_iload 2 51), (51, false, a_iret M_7_leastHeight), (52, false, a_iinc 2 1 55), (55, false, a_goto 18), (58, false, a_const (-4) 60), (60, false, a_iret M_7_leastHeight)]
set_option maxRecDepth 20000 in
theorem t_7_leastHeight (X : XT) : tget (tab_7_leastHeight X) 0 = some (false, a_iload 1 1) ∧ tget (tab_7_leastHeight X) 1 = some (false, a_const 1 2) ∧ tget (tab_7_leastHeight X) 2 = some (false, a_const 40 4) ∧ tget (tab_7_leastHeight X) 4 = some (false, a_sv X M_7_leastHeight M_7_isIn 3 7) ∧ tget (tab_7_leastHeight X) 7 = some (false, a_if 1 12 10) ∧ tget (tab_7_leastHeight X) 10 = some (false, a_const (-1) 11) ∧ tget (tab_7_leastHeight X) 11 = some (false, a_iret M_7_leastHeight) ∧ tget (tab_7_leastHeight X) 12 = some (false, a_gst 1 15) ∧ tget (tab_7_leastHeight X) 15 = some (false, a_const 0 16) ∧ tget (tab_7_leastHeight X) 16 = some (false, a_sld 17) ∧ tget (tab_7_leastHeight X) 17 = some (false, a_istore 2 18) ∧ tget (tab_7_leastHeight X) 18 = some (true, a_iload 2 19) ∧ tget (tab_7_leastHeight X) 19 = some (false, a_gst 2 22) ∧ tget (tab_7_leastHeight X) 22 = some (false, a_const 0 23) ∧ tget (tab_7_leastHeight X) 23 = some (false, a_sld 24) ∧ tget (tab_7_leastHeight X) 24 = some (false, a_icmp 4 58 27) ∧ tget (tab_7_leastHeight X) 27 = some (false, a_aload 0 28) ∧ tget (tab_7_leastHeight X) 28 = some (false, a_gr 7 2 31) ∧ tget (tab_7_leastHeight X) 31 = some (false, a_aload 0 32) ∧ tget (tab_7_leastHeight X) 32 = some (false, a_gr 7 0 35) ∧ tget (tab_7_leastHeight X) 35 = some (false, a_iload 2 36) ∧ tget (tab_7_leastHeight X) 36 = some (false, a_cn X M_7_leastHeight M_6_arrange 6 3 39) ∧ tget (tab_7_leastHeight X) 39 = some (false, a_aload 0 40) ∧ tget (tab_7_leastHeight X) 40 = some (false, a_gr 7 2 43) ∧ tget (tab_7_leastHeight X) 43 = some (false, a_gi 6 1 1 46) ∧ tget (tab_7_leastHeight X) 46 = some (false, a_iload 1 47) ∧ tget (tab_7_leastHeight X) 47 = some (false, a_icmp 4 52 50) ∧ tget (tab_7_leastHeight X) 50 = some (false, a_iload 2 51) ∧ tget (tab_7_leastHeight X) 51 = some (false, a_iret M_7_leastHeight) ∧ tget (tab_7_leastHeight X) 52 = some (false, a_iinc 2 1 55) ∧ tget (tab_7_leastHeight X) 55 = some (false, a_goto 18) ∧ tget (tab_7_leastHeight X) 58 = some (false, a_const (-4) 60) ∧ tget (tab_7_leastHeight X) 60 = some (false, a_iret M_7_leastHeight) := ⟨rfl, rfl, rfl, rfl, rfl, rfl, rfl, rfl, rfl, rfl, rfl, rfl, rfl, rfl, rfl, rfl, rfl, rfl, rfl, rfl, rfl, rfl, rfl, rfl, rfl, rfl, rfl, rfl, rfl, rfl, rfl, rfl, rfl⟩
theorem tok_7_leastHeight (X : XT) : TabOK X M_7_leastHeight (tab_7_leastHeight X) := by
  unfold tab_7_leastHeight
  refine tok_cons (snd_iload_n dX7_leastHeight_0 rfl rfl) ?_
  refine tok_cons (snd_iconst dX7_leastHeight_1 rfl (inr_d rfl) rfl) ?_
  refine tok_cons (snd_bipush dX7_leastHeight_2 (by decide) (inr_d rfl) rfl) ?_
  refine tok_cons (snd_sv dX7_leastHeight_4 mok_7_isIn ⟨ws_7_isIn, Or.inl ⟨wm7_41, rfl⟩⟩ pn_7_isIn (by decide) ⟨rfl, rfl⟩ rfl) ?_
  refine tok_cons (snd_if_ne dX7_leastHeight_7 (by decide) rfl) ?_
  refine tok_cons (snd_iconst dX7_leastHeight_10 rfl (inr_d rfl) rfl) ?_
  refine tok_cons (snd_iret dX7_leastHeight_11 rfl) ?_
  refine tok_cons (snd_gst dX7_leastHeight_12 (by decide) rfl wf7_94 rfl) ?_
  refine tok_cons (snd_iconst dX7_leastHeight_15 rfl (inr_d rfl) rfl) ?_
  refine tok_cons (snd_sld dX7_leastHeight_16 rfl) ?_
  refine tok_cons (snd_istore_n dX7_leastHeight_17 rfl rfl (by decide)) ?_
  refine tok_cons (snd_iload_n dX7_leastHeight_18 rfl rfl) ?_
  refine tok_cons (snd_gst dX7_leastHeight_19 (by decide) rfl wf7_98 rfl) ?_
  refine tok_cons (snd_iconst dX7_leastHeight_22 rfl (inr_d rfl) rfl) ?_
  refine tok_cons (snd_sld dX7_leastHeight_23 rfl) ?_
  refine tok_cons (snd_icmp_gt dX7_leastHeight_24 (by decide) rfl) ?_
  refine tok_cons (snd_aload_n dX7_leastHeight_27 rfl rfl) ?_
  refine tok_cons (snd_gr (C := RX7) (T := TX7) (N := 4) dX7_leastHeight_28 rfl (by decide) rfl wf7_26 inX7 rfl) ?_
  refine tok_cons (snd_aload_n dX7_leastHeight_31 rfl rfl) ?_
  refine tok_cons (snd_gr (C := RX7) (T := TX7) (N := 4) dX7_leastHeight_32 rfl (by decide) rfl wf7_10 inX7 rfl) ?_
  refine tok_cons (snd_iload_n dX7_leastHeight_35 rfl rfl) ?_
  refine tok_cons (snd_cn dX7_leastHeight_36 mok_6_arrange ⟨wm7_119, wi_6_arrange, wl_6_arrange⟩ (rc := (RX6, TX6, 11)) rfl rfl pn_6_arrange (by decide) ⟨rfl, rfl⟩ rfl) ?_
  refine tok_cons (snd_aload_n dX7_leastHeight_39 rfl rfl) ?_
  refine tok_cons (snd_gr (C := RX7) (T := TX7) (N := 4) dX7_leastHeight_40 rfl (by decide) rfl wf7_26 inX7 rfl) ?_
  refine tok_cons (snd_gi (C := RX6) (T := TX6) (N := 11) dX7_leastHeight_43 rfl (by decide) rfl wf7_123 inX6 rfl rfl) ?_
  refine tok_cons (snd_iload_n dX7_leastHeight_46 rfl rfl) ?_
  refine tok_cons (snd_icmp_gt dX7_leastHeight_47 (by decide) rfl) ?_
  refine tok_cons (snd_iload_n dX7_leastHeight_50 rfl rfl) ?_
  refine tok_cons (snd_iret dX7_leastHeight_51 rfl) ?_
  refine tok_cons (snd_iinc dX7_leastHeight_52 rfl rfl (by decide)) ?_
  refine tok_cons (snd_goto dX7_leastHeight_55 (by decide)) ?_
  refine tok_cons (snd_bipush dX7_leastHeight_58 (by decide) (inr_d rfl) rfl) ?_
  refine tok_cons (snd_iret dX7_leastHeight_60 rfl) ?_
  exact tok_nil
end
section
/-! ===== the shapes of all objects: 0..178 the class's ===== -/
def GC : List Sh := [.inl (7, [some (some 1), some (some 18), some (some 122), some (some 164)]), .inl (1, [none, some (some 2), some (some 7), some (some 12), some (some 17)]), .inr (.inr (false, [some 3, some 4, some 5, some 6])), .inr (.inl (false, 20)), .inr (.inl (false, 20)), .inr (.inl (false, 20)), .inr (.inl (false, 20)), .inl (4, [none, some (some 8)]), .inr (.inr (false, [some 9, some 10, some 11])), .inr (.inl (false, 40)), .inr (.inl (false, 40)), .inr (.inl (false, 40)), .inl (4, [none, some (some 13)]), .inr (.inr (false, [some 14, some 15, some 16])), .inr (.inl (false, 40)), .inr (.inl (false, 40)), .inr (.inl (false, 40)), .inr (.inl (false, 6)), .inl (3, [none, none, some (some 19)]), .inr (.inr (true, [some 20, some 37, some 54, some 71, some 88, some 105])), .inl (1, [none, some (some 21), some (some 26), some (some 31), some (some 36)]), .inr (.inr (false, [some 22, some 23, some 24, some 25])), .inr (.inl (false, 20)), .inr (.inl (false, 20)), .inr (.inl (false, 20)), .inr (.inl (false, 20)), .inl (4, [none, some (some 27)]), .inr (.inr (false, [some 28, some 29, some 30])), .inr (.inl (false, 40)), .inr (.inl (false, 40)), .inr (.inl (false, 40)), .inl (4, [none, some (some 32)]), .inr (.inr (false, [some 33, some 34, some 35])), .inr (.inl (false, 40)), .inr (.inl (false, 40)), .inr (.inl (false, 40)), .inr (.inl (false, 6)), .inl (1, [none, some (some 38), some (some 43), some (some 48), some (some 53)]), .inr (.inr (false, [some 39, some 40, some 41, some 42])), .inr (.inl (false, 20)), .inr (.inl (false, 20)), .inr (.inl (false, 20)), .inr (.inl (false, 20)), .inl (4, [none, some (some 44)]), .inr (.inr (false, [some 45, some 46, some 47])), .inr (.inl (false, 40)), .inr (.inl (false, 40)), .inr (.inl (false, 40)), .inl (4, [none, some (some 49)]), .inr (.inr (false, [some 50, some 51, some 52])), .inr (.inl (false, 40)), .inr (.inl (false, 40)), .inr (.inl (false, 40)), .inr (.inl (false, 6)), .inl (1, [none, some (some 55), some (some 60), some (some 65), some (some 70)]), .inr (.inr (false, [some 56, some 57, some 58, some 59])), .inr (.inl (false, 20)), .inr (.inl (false, 20)), .inr (.inl (false, 20)), .inr (.inl (false, 20)), .inl (4, [none, some (some 61)]), .inr (.inr (false, [some 62, some 63, some 64])), .inr (.inl (false, 40)), .inr (.inl (false, 40)), .inr (.inl (false, 40)), .inl (4, [none, some (some 66)]), .inr (.inr (false, [some 67, some 68, some 69])), .inr (.inl (false, 40)), .inr (.inl (false, 40)), .inr (.inl (false, 40)), .inr (.inl (false, 6)), .inl (1, [none, some (some 72), some (some 77), some (some 82), some (some 87)]), .inr (.inr (false, [some 73, some 74, some 75, some 76])), .inr (.inl (false, 20)), .inr (.inl (false, 20)), .inr (.inl (false, 20)), .inr (.inl (false, 20)), .inl (4, [none, some (some 78)]), .inr (.inr (false, [some 79, some 80, some 81])), .inr (.inl (false, 40)), .inr (.inl (false, 40)), .inr (.inl (false, 40)), .inl (4, [none, some (some 83)]), .inr (.inr (false, [some 84, some 85, some 86])), .inr (.inl (false, 40)), .inr (.inl (false, 40)), .inr (.inl (false, 40)), .inr (.inl (false, 6)), .inl (1, [none, some (some 89), some (some 94), some (some 99), some (some 104)]), .inr (.inr (false, [some 90, some 91, some 92, some 93])), .inr (.inl (false, 20)), .inr (.inl (false, 20)), .inr (.inl (false, 20)), .inr (.inl (false, 20)), .inl (4, [none, some (some 95)]), .inr (.inr (false, [some 96, some 97, some 98])), .inr (.inl (false, 40)), .inr (.inl (false, 40)), .inr (.inl (false, 40)), .inl (4, [none, some (some 100)]), .inr (.inr (false, [some 101, some 102, some 103])), .inr (.inl (false, 40)), .inr (.inl (false, 40)), .inr (.inl (false, 40)), .inr (.inl (false, 6)), .inl (1, [none, some (some 106), some (some 111), some (some 116), some (some 121)]), .inr (.inr (false, [some 107, some 108, some 109, some 110])), .inr (.inl (false, 20)), .inr (.inl (false, 20)), .inr (.inl (false, 20)), .inr (.inl (false, 20)), .inl (4, [none, some (some 112)]), .inr (.inr (false, [some 113, some 114, some 115])), .inr (.inl (false, 40)), .inr (.inl (false, 40)), .inr (.inl (false, 40)), .inl (4, [none, some (some 117)]), .inr (.inr (false, [some 118, some 119, some 120])), .inr (.inl (false, 40)), .inr (.inl (false, 40)), .inr (.inl (false, 40)), .inr (.inl (false, 6)), .inl (6, [none, none, some (some 123), some (some 124), some (some 125), some (some 134), none, some (some 142), some (some 150), some (some 158), some (some 161)]), .inr (.inl (false, 602)), .inr (.inl (false, 601)), .inr (.inr (false, [some 126, some 127, some 128, some 129, some 130, some 131, some 132, some 133])), .inr (.inl (false, 600)), .inr (.inl (false, 600)), .inr (.inl (false, 600)), .inr (.inl (false, 600)), .inr (.inl (false, 600)), .inr (.inl (false, 600)), .inr (.inl (false, 600)), .inr (.inl (false, 600)), .inr (.inr (false, [some 135, some 136, some 137, some 138, some 139, some 140, some 141])), .inr (.inl (false, 1202)), .inr (.inl (false, 1202)), .inr (.inl (false, 1202)), .inr (.inl (false, 1202)), .inr (.inl (false, 1202)), .inr (.inl (false, 1202)), .inr (.inl (false, 1202)), .inl (2, [some (some 143), some (some 144), some (some 145), some (some 146), some (some 147), some (some 148), some (some 149)]), .inr (.inl (false, 2)), .inr (.inl (false, 2)), .inr (.inl (false, 2)), .inr (.inl (false, 2)), .inr (.inl (false, 2)), .inr (.inl (false, 2)), .inr (.inl (false, 2)), .inl (2, [some (some 151), some (some 152), some (some 153), some (some 154), some (some 155), some (some 156), some (some 157)]), .inr (.inl (false, 2)), .inr (.inl (false, 2)), .inr (.inl (false, 2)), .inr (.inl (false, 2)), .inr (.inl (false, 2)), .inr (.inl (false, 2)), .inr (.inl (false, 2)), .inl (5, [none, some (some 159), some (some 160)]), .inr (.inl (false, 2)), .inr (.inl (false, 2)), .inl (5, [none, some (some 162), some (some 163)]), .inr (.inl (false, 2)), .inr (.inl (false, 2)), .inl (0, [none, none, some (some 165), some (some 166), some (some 167), some (some 168), some (some 176)]), .inr (.inl (false, 20)), .inr (.inl (false, 21)), .inr (.inl (false, 20)), .inl (2, [some (some 169), some (some 170), some (some 171), some (some 172), some (some 173), some (some 174), some (some 175)]), .inr (.inl (false, 2)), .inr (.inl (false, 2)), .inr (.inl (false, 2)), .inr (.inl (false, 2)), .inr (.inl (false, 2)), .inr (.inl (false, 2)), .inr (.inl (false, 2)), .inl (5, [none, some (some 177), some (some 178)]), .inr (.inl (false, 2)), .inr (.inl (false, 2))]
def CSh (G : List Sh) : Prop := ∀ i : Nat, i < 179 → G[i]? = GC[i]?
theorem csh {G : List Sh} (h : CSh G) {u : Nat × Nat} {i : Nat} {sh : Sh} (hi : i < 179) (hs : GC[i]? = some sh) : shp (G, u) i = some sh := (h i hi).trans hs
set_option maxRecDepth 20000 in
theorem sxC {G : List Sh} (h : CSh G) : shp (G, 0, 0) 0 = some (.inl (7, [some (some 1), some (some 18), some (some 122), some (some 164)])) ∧ shp (G, 0, 0) 1 = some (.inl (1, [none, some (some 2), some (some 7), some (some 12), some (some 17)])) ∧ shp (G, 0, 0) 2 = some (.inr (.inr (false, [some 3, some 4, some 5, some 6]))) ∧ shp (G, 0, 0) 3 = some (.inr (.inl (false, 20))) ∧ shp (G, 0, 0) 4 = some (.inr (.inl (false, 20))) ∧ shp (G, 0, 0) 5 = some (.inr (.inl (false, 20))) ∧ shp (G, 0, 0) 6 = some (.inr (.inl (false, 20))) ∧ shp (G, 0, 0) 7 = some (.inl (4, [none, some (some 8)])) ∧ shp (G, 0, 0) 8 = some (.inr (.inr (false, [some 9, some 10, some 11]))) ∧ shp (G, 0, 0) 9 = some (.inr (.inl (false, 40))) ∧ shp (G, 0, 0) 10 = some (.inr (.inl (false, 40))) ∧ shp (G, 0, 0) 11 = some (.inr (.inl (false, 40))) ∧ shp (G, 0, 0) 12 = some (.inl (4, [none, some (some 13)])) ∧ shp (G, 0, 0) 13 = some (.inr (.inr (false, [some 14, some 15, some 16]))) ∧ shp (G, 0, 0) 14 = some (.inr (.inl (false, 40))) ∧ shp (G, 0, 0) 15 = some (.inr (.inl (false, 40))) ∧ shp (G, 0, 0) 16 = some (.inr (.inl (false, 40))) ∧ shp (G, 0, 0) 17 = some (.inr (.inl (false, 6))) ∧ shp (G, 0, 0) 18 = some (.inl (3, [none, none, some (some 19)])) ∧ shp (G, 0, 0) 19 = some (.inr (.inr (true, [some 20, some 37, some 54, some 71, some 88, some 105]))) ∧ shp (G, 0, 0) 20 = some (.inl (1, [none, some (some 21), some (some 26), some (some 31), some (some 36)])) ∧ shp (G, 0, 0) 21 = some (.inr (.inr (false, [some 22, some 23, some 24, some 25]))) ∧ shp (G, 0, 0) 22 = some (.inr (.inl (false, 20))) ∧ shp (G, 0, 0) 23 = some (.inr (.inl (false, 20))) ∧ shp (G, 0, 0) 24 = some (.inr (.inl (false, 20))) ∧ shp (G, 0, 0) 25 = some (.inr (.inl (false, 20))) ∧ shp (G, 0, 0) 26 = some (.inl (4, [none, some (some 27)])) ∧ shp (G, 0, 0) 27 = some (.inr (.inr (false, [some 28, some 29, some 30]))) ∧ shp (G, 0, 0) 28 = some (.inr (.inl (false, 40))) ∧ shp (G, 0, 0) 29 = some (.inr (.inl (false, 40))) ∧ shp (G, 0, 0) 30 = some (.inr (.inl (false, 40))) ∧ shp (G, 0, 0) 31 = some (.inl (4, [none, some (some 32)])) ∧ shp (G, 0, 0) 32 = some (.inr (.inr (false, [some 33, some 34, some 35]))) ∧ shp (G, 0, 0) 33 = some (.inr (.inl (false, 40))) ∧ shp (G, 0, 0) 34 = some (.inr (.inl (false, 40))) ∧ shp (G, 0, 0) 35 = some (.inr (.inl (false, 40))) ∧ shp (G, 0, 0) 36 = some (.inr (.inl (false, 6))) ∧ shp (G, 0, 0) 37 = some (.inl (1, [none, some (some 38), some (some 43), some (some 48), some (some 53)])) ∧ shp (G, 0, 0) 38 = some (.inr (.inr (false, [some 39, some 40, some 41, some 42]))) ∧ shp (G, 0, 0) 39 = some (.inr (.inl (false, 20))) ∧ shp (G, 0, 0) 40 = some (.inr (.inl (false, 20))) ∧ shp (G, 0, 0) 41 = some (.inr (.inl (false, 20))) ∧ shp (G, 0, 0) 42 = some (.inr (.inl (false, 20))) ∧ shp (G, 0, 0) 43 = some (.inl (4, [none, some (some 44)])) ∧ shp (G, 0, 0) 44 = some (.inr (.inr (false, [some 45, some 46, some 47]))) ∧ shp (G, 0, 0) 45 = some (.inr (.inl (false, 40))) ∧ shp (G, 0, 0) 46 = some (.inr (.inl (false, 40))) ∧ shp (G, 0, 0) 47 = some (.inr (.inl (false, 40))) ∧ shp (G, 0, 0) 48 = some (.inl (4, [none, some (some 49)])) ∧ shp (G, 0, 0) 49 = some (.inr (.inr (false, [some 50, some 51, some 52]))) ∧ shp (G, 0, 0) 50 = some (.inr (.inl (false, 40))) ∧ shp (G, 0, 0) 51 = some (.inr (.inl (false, 40))) ∧ shp (G, 0, 0) 52 = some (.inr (.inl (false, 40))) ∧ shp (G, 0, 0) 53 = some (.inr (.inl (false, 6))) ∧ shp (G, 0, 0) 54 = some (.inl (1, [none, some (some 55), some (some 60), some (some 65), some (some 70)])) ∧ shp (G, 0, 0) 55 = some (.inr (.inr (false, [some 56, some 57, some 58, some 59]))) ∧ shp (G, 0, 0) 56 = some (.inr (.inl (false, 20))) ∧ shp (G, 0, 0) 57 = some (.inr (.inl (false, 20))) ∧ shp (G, 0, 0) 58 = some (.inr (.inl (false, 20))) ∧ shp (G, 0, 0) 59 = some (.inr (.inl (false, 20))) ∧ shp (G, 0, 0) 60 = some (.inl (4, [none, some (some 61)])) ∧ shp (G, 0, 0) 61 = some (.inr (.inr (false, [some 62, some 63, some 64]))) ∧ shp (G, 0, 0) 62 = some (.inr (.inl (false, 40))) ∧ shp (G, 0, 0) 63 = some (.inr (.inl (false, 40))) ∧ shp (G, 0, 0) 64 = some (.inr (.inl (false, 40))) ∧ shp (G, 0, 0) 65 = some (.inl (4, [none, some (some 66)])) ∧ shp (G, 0, 0) 66 = some (.inr (.inr (false, [some 67, some 68, some 69]))) ∧ shp (G, 0, 0) 67 = some (.inr (.inl (false, 40))) ∧ shp (G, 0, 0) 68 = some (.inr (.inl (false, 40))) ∧ shp (G, 0, 0) 69 = some (.inr (.inl (false, 40))) ∧ shp (G, 0, 0) 70 = some (.inr (.inl (false, 6))) ∧ shp (G, 0, 0) 71 = some (.inl (1, [none, some (some 72), some (some 77), some (some 82), some (some 87)])) ∧ shp (G, 0, 0) 72 = some (.inr (.inr (false, [some 73, some 74, some 75, some 76]))) ∧ shp (G, 0, 0) 73 = some (.inr (.inl (false, 20))) ∧ shp (G, 0, 0) 74 = some (.inr (.inl (false, 20))) ∧ shp (G, 0, 0) 75 = some (.inr (.inl (false, 20))) ∧ shp (G, 0, 0) 76 = some (.inr (.inl (false, 20))) ∧ shp (G, 0, 0) 77 = some (.inl (4, [none, some (some 78)])) ∧ shp (G, 0, 0) 78 = some (.inr (.inr (false, [some 79, some 80, some 81]))) ∧ shp (G, 0, 0) 79 = some (.inr (.inl (false, 40))) ∧ shp (G, 0, 0) 80 = some (.inr (.inl (false, 40))) ∧ shp (G, 0, 0) 81 = some (.inr (.inl (false, 40))) ∧ shp (G, 0, 0) 82 = some (.inl (4, [none, some (some 83)])) ∧ shp (G, 0, 0) 83 = some (.inr (.inr (false, [some 84, some 85, some 86]))) ∧ shp (G, 0, 0) 84 = some (.inr (.inl (false, 40))) ∧ shp (G, 0, 0) 85 = some (.inr (.inl (false, 40))) ∧ shp (G, 0, 0) 86 = some (.inr (.inl (false, 40))) ∧ shp (G, 0, 0) 87 = some (.inr (.inl (false, 6))) ∧ shp (G, 0, 0) 88 = some (.inl (1, [none, some (some 89), some (some 94), some (some 99), some (some 104)])) ∧ shp (G, 0, 0) 89 = some (.inr (.inr (false, [some 90, some 91, some 92, some 93]))) ∧ shp (G, 0, 0) 90 = some (.inr (.inl (false, 20))) ∧ shp (G, 0, 0) 91 = some (.inr (.inl (false, 20))) ∧ shp (G, 0, 0) 92 = some (.inr (.inl (false, 20))) ∧ shp (G, 0, 0) 93 = some (.inr (.inl (false, 20))) ∧ shp (G, 0, 0) 94 = some (.inl (4, [none, some (some 95)])) ∧ shp (G, 0, 0) 95 = some (.inr (.inr (false, [some 96, some 97, some 98]))) ∧ shp (G, 0, 0) 96 = some (.inr (.inl (false, 40))) ∧ shp (G, 0, 0) 97 = some (.inr (.inl (false, 40))) ∧ shp (G, 0, 0) 98 = some (.inr (.inl (false, 40))) ∧ shp (G, 0, 0) 99 = some (.inl (4, [none, some (some 100)])) ∧ shp (G, 0, 0) 100 = some (.inr (.inr (false, [some 101, some 102, some 103]))) ∧ shp (G, 0, 0) 101 = some (.inr (.inl (false, 40))) ∧ shp (G, 0, 0) 102 = some (.inr (.inl (false, 40))) ∧ shp (G, 0, 0) 103 = some (.inr (.inl (false, 40))) ∧ shp (G, 0, 0) 104 = some (.inr (.inl (false, 6))) ∧ shp (G, 0, 0) 105 = some (.inl (1, [none, some (some 106), some (some 111), some (some 116), some (some 121)])) ∧ shp (G, 0, 0) 106 = some (.inr (.inr (false, [some 107, some 108, some 109, some 110]))) ∧ shp (G, 0, 0) 107 = some (.inr (.inl (false, 20))) ∧ shp (G, 0, 0) 108 = some (.inr (.inl (false, 20))) ∧ shp (G, 0, 0) 109 = some (.inr (.inl (false, 20))) ∧ shp (G, 0, 0) 110 = some (.inr (.inl (false, 20))) ∧ shp (G, 0, 0) 111 = some (.inl (4, [none, some (some 112)])) ∧ shp (G, 0, 0) 112 = some (.inr (.inr (false, [some 113, some 114, some 115]))) ∧ shp (G, 0, 0) 113 = some (.inr (.inl (false, 40))) ∧ shp (G, 0, 0) 114 = some (.inr (.inl (false, 40))) ∧ shp (G, 0, 0) 115 = some (.inr (.inl (false, 40))) ∧ shp (G, 0, 0) 116 = some (.inl (4, [none, some (some 117)])) ∧ shp (G, 0, 0) 117 = some (.inr (.inr (false, [some 118, some 119, some 120]))) ∧ shp (G, 0, 0) 118 = some (.inr (.inl (false, 40))) ∧ shp (G, 0, 0) 119 = some (.inr (.inl (false, 40))) ∧ shp (G, 0, 0) 120 = some (.inr (.inl (false, 40))) ∧ shp (G, 0, 0) 121 = some (.inr (.inl (false, 6))) ∧ shp (G, 0, 0) 122 = some (.inl (6, [none, none, some (some 123), some (some 124), some (some 125), some (some 134), none, some (some 142), some (some 150), some (some 158), some (some 161)])) ∧ shp (G, 0, 0) 123 = some (.inr (.inl (false, 602))) ∧ shp (G, 0, 0) 124 = some (.inr (.inl (false, 601))) ∧ shp (G, 0, 0) 125 = some (.inr (.inr (false, [some 126, some 127, some 128, some 129, some 130, some 131, some 132, some 133]))) ∧ shp (G, 0, 0) 126 = some (.inr (.inl (false, 600))) ∧ shp (G, 0, 0) 127 = some (.inr (.inl (false, 600))) ∧ shp (G, 0, 0) 128 = some (.inr (.inl (false, 600))) ∧ shp (G, 0, 0) 129 = some (.inr (.inl (false, 600))) ∧ shp (G, 0, 0) 130 = some (.inr (.inl (false, 600))) ∧ shp (G, 0, 0) 131 = some (.inr (.inl (false, 600))) ∧ shp (G, 0, 0) 132 = some (.inr (.inl (false, 600))) ∧ shp (G, 0, 0) 133 = some (.inr (.inl (false, 600))) ∧ shp (G, 0, 0) 134 = some (.inr (.inr (false, [some 135, some 136, some 137, some 138, some 139, some 140, some 141]))) ∧ shp (G, 0, 0) 135 = some (.inr (.inl (false, 1202))) ∧ shp (G, 0, 0) 136 = some (.inr (.inl (false, 1202))) ∧ shp (G, 0, 0) 137 = some (.inr (.inl (false, 1202))) ∧ shp (G, 0, 0) 138 = some (.inr (.inl (false, 1202))) ∧ shp (G, 0, 0) 139 = some (.inr (.inl (false, 1202))) ∧ shp (G, 0, 0) 140 = some (.inr (.inl (false, 1202))) ∧ shp (G, 0, 0) 141 = some (.inr (.inl (false, 1202))) ∧ shp (G, 0, 0) 142 = some (.inl (2, [some (some 143), some (some 144), some (some 145), some (some 146), some (some 147), some (some 148), some (some 149)])) ∧ shp (G, 0, 0) 143 = some (.inr (.inl (false, 2))) ∧ shp (G, 0, 0) 144 = some (.inr (.inl (false, 2))) ∧ shp (G, 0, 0) 145 = some (.inr (.inl (false, 2))) ∧ shp (G, 0, 0) 146 = some (.inr (.inl (false, 2))) ∧ shp (G, 0, 0) 147 = some (.inr (.inl (false, 2))) ∧ shp (G, 0, 0) 148 = some (.inr (.inl (false, 2))) ∧ shp (G, 0, 0) 149 = some (.inr (.inl (false, 2))) ∧ shp (G, 0, 0) 150 = some (.inl (2, [some (some 151), some (some 152), some (some 153), some (some 154), some (some 155), some (some 156), some (some 157)])) ∧ shp (G, 0, 0) 151 = some (.inr (.inl (false, 2))) ∧ shp (G, 0, 0) 152 = some (.inr (.inl (false, 2))) ∧ shp (G, 0, 0) 153 = some (.inr (.inl (false, 2))) ∧ shp (G, 0, 0) 154 = some (.inr (.inl (false, 2))) ∧ shp (G, 0, 0) 155 = some (.inr (.inl (false, 2))) ∧ shp (G, 0, 0) 156 = some (.inr (.inl (false, 2))) ∧ shp (G, 0, 0) 157 = some (.inr (.inl (false, 2))) ∧ shp (G, 0, 0) 158 = some (.inl (5, [none, some (some 159), some (some 160)])) ∧ shp (G, 0, 0) 159 = some (.inr (.inl (false, 2))) ∧ shp (G, 0, 0) 160 = some (.inr (.inl (false, 2))) ∧ shp (G, 0, 0) 161 = some (.inl (5, [none, some (some 162), some (some 163)])) ∧ shp (G, 0, 0) 162 = some (.inr (.inl (false, 2))) ∧ shp (G, 0, 0) 163 = some (.inr (.inl (false, 2))) ∧ shp (G, 0, 0) 164 = some (.inl (0, [none, none, some (some 165), some (some 166), some (some 167), some (some 168), some (some 176)])) ∧ shp (G, 0, 0) 165 = some (.inr (.inl (false, 20))) ∧ shp (G, 0, 0) 166 = some (.inr (.inl (false, 21))) ∧ shp (G, 0, 0) 167 = some (.inr (.inl (false, 20))) ∧ shp (G, 0, 0) 168 = some (.inl (2, [some (some 169), some (some 170), some (some 171), some (some 172), some (some 173), some (some 174), some (some 175)])) ∧ shp (G, 0, 0) 169 = some (.inr (.inl (false, 2))) ∧ shp (G, 0, 0) 170 = some (.inr (.inl (false, 2))) ∧ shp (G, 0, 0) 171 = some (.inr (.inl (false, 2))) ∧ shp (G, 0, 0) 172 = some (.inr (.inl (false, 2))) ∧ shp (G, 0, 0) 173 = some (.inr (.inl (false, 2))) ∧ shp (G, 0, 0) 174 = some (.inr (.inl (false, 2))) ∧ shp (G, 0, 0) 175 = some (.inr (.inl (false, 2))) ∧ shp (G, 0, 0) 176 = some (.inl (5, [none, some (some 177), some (some 178)])) ∧ shp (G, 0, 0) 177 = some (.inr (.inl (false, 2))) ∧ shp (G, 0, 0) 178 = some (.inr (.inl (false, 2))) := ⟨csh h (by decide) rfl, csh h (by decide) rfl, csh h (by decide) rfl, csh h (by decide) rfl, csh h (by decide) rfl, csh h (by decide) rfl, csh h (by decide) rfl, csh h (by decide) rfl, csh h (by decide) rfl, csh h (by decide) rfl, csh h (by decide) rfl, csh h (by decide) rfl, csh h (by decide) rfl, csh h (by decide) rfl, csh h (by decide) rfl, csh h (by decide) rfl, csh h (by decide) rfl, csh h (by decide) rfl, csh h (by decide) rfl, csh h (by decide) rfl, csh h (by decide) rfl, csh h (by decide) rfl, csh h (by decide) rfl, csh h (by decide) rfl, csh h (by decide) rfl, csh h (by decide) rfl, csh h (by decide) rfl, csh h (by decide) rfl, csh h (by decide) rfl, csh h (by decide) rfl, csh h (by decide) rfl, csh h (by decide) rfl, csh h (by decide) rfl, csh h (by decide) rfl, csh h (by decide) rfl, csh h (by decide) rfl, csh h (by decide) rfl, csh h (by decide) rfl, csh h (by decide) rfl, csh h (by decide) rfl, csh h (by decide) rfl, csh h (by decide) rfl, csh h (by decide) rfl, csh h (by decide) rfl, csh h (by decide) rfl, csh h (by decide) rfl, csh h (by decide) rfl, csh h (by decide) rfl, csh h (by decide) rfl, csh h (by decide) rfl, csh h (by decide) rfl, csh h (by decide) rfl, csh h (by decide) rfl, csh h (by decide) rfl, csh h (by decide) rfl, csh h (by decide) rfl, csh h (by decide) rfl, csh h (by decide) rfl, csh h (by decide) rfl, csh h (by decide) rfl, csh h (by decide) rfl, csh h (by decide) rfl, csh h (by decide) rfl, csh h (by decide) rfl, csh h (by decide) rfl, csh h (by decide) rfl, csh h (by decide) rfl, csh h (by decide) rfl, csh h (by decide) rfl, csh h (by decide) rfl, csh h (by decide) rfl, csh h (by decide) rfl, csh h (by decide) rfl, csh h (by decide) rfl, csh h (by decide) rfl, csh h (by decide) rfl, csh h (by decide) rfl, csh h (by decide) rfl, csh h (by decide) rfl, csh h (by decide) rfl, csh h (by decide) rfl, csh h (by decide) rfl, csh h (by decide) rfl, csh h (by decide) rfl, csh h (by decide) rfl, csh h (by decide) rfl, csh h (by decide) rfl, csh h (by decide) rfl, csh h (by decide) rfl, csh h (by decide) rfl, csh h (by decide) rfl, csh h (by decide) rfl, csh h (by decide) rfl, csh h (by decide) rfl, csh h (by decide) rfl, csh h (by decide) rfl, csh h (by decide) rfl, csh h (by decide) rfl, csh h (by decide) rfl, csh h (by decide) rfl, csh h (by decide) rfl, csh h (by decide) rfl, csh h (by decide) rfl, csh h (by decide) rfl, csh h (by decide) rfl, csh h (by decide) rfl, csh h (by decide) rfl, csh h (by decide) rfl, csh h (by decide) rfl, csh h (by decide) rfl, csh h (by decide) rfl, csh h (by decide) rfl, csh h (by decide) rfl, csh h (by decide) rfl, csh h (by decide) rfl, csh h (by decide) rfl, csh h (by decide) rfl, csh h (by decide) rfl, csh h (by decide) rfl, csh h (by decide) rfl, csh h (by decide) rfl, csh h (by decide) rfl, csh h (by decide) rfl, csh h (by decide) rfl, csh h (by decide) rfl, csh h (by decide) rfl, csh h (by decide) rfl, csh h (by decide) rfl, csh h (by decide) rfl, csh h (by decide) rfl, csh h (by decide) rfl, csh h (by decide) rfl, csh h (by decide) rfl, csh h (by decide) rfl, csh h (by decide) rfl, csh h (by decide) rfl, csh h (by decide) rfl, csh h (by decide) rfl, csh h (by decide) rfl, csh h (by decide) rfl, csh h (by decide) rfl, csh h (by decide) rfl, csh h (by decide) rfl, csh h (by decide) rfl, csh h (by decide) rfl, csh h (by decide) rfl, csh h (by decide) rfl, csh h (by decide) rfl, csh h (by decide) rfl, csh h (by decide) rfl, csh h (by decide) rfl, csh h (by decide) rfl, csh h (by decide) rfl, csh h (by decide) rfl, csh h (by decide) rfl, csh h (by decide) rfl, csh h (by decide) rfl, csh h (by decide) rfl, csh h (by decide) rfl, csh h (by decide) rfl, csh h (by decide) rfl, csh h (by decide) rfl, csh h (by decide) rfl, csh h (by decide) rfl, csh h (by decide) rfl, csh h (by decide) rfl, csh h (by decide) rfl, csh h (by decide) rfl, csh h (by decide) rfl, csh h (by decide) rfl, csh h (by decide) rfl, csh h (by decide) rfl, csh h (by decide) rfl, csh h (by decide) rfl, csh h (by decide) rfl, csh h (by decide) rfl, csh h (by decide) rfl, csh h (by decide) rfl, csh h (by decide) rfl⟩
theorem MS_in {X : XT} {M : MT} {args : List AV} {G : List Sh} {σ : Sto} {Q : QT} (L : LT) (hM : MOK M) (hn : args.length ≤ m_n M) (hL : l0 (m_n M) args = L) (h : WPc X M Q 0 L [] (G, 0, 0) σ) : MS X M args G σ Q := MS_intro hM hn (by rw [hL]; exact h)
theorem blk_s {X : XT} {M : MT} {t : Tab} {Q : QT} {n pc : Nat} {L : LT} {S : List AV} {g : GS} {σ : Sto} : blk X M t Q (n + 1) pc L S g σ = (match tget t pc with
    | some (false, a) => a L S g σ (blk X M t Q n) Q
    | _ => WPc X M Q pc L S g σ) := rfl
theorem fitb0 {M : MT} {G : List Sh} : fitb M (G, 0, 0) = True := by simp [fitb]
end
