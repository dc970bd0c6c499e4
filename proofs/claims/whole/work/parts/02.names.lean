def RX0 : String := "RopeSwing$Jump"
def TX0 : u_T := fun k => match k with
  | 0 => ("RopeSwing$Jump", "place", "LRopeSwing$Place;", true)
  | 1 => ("RopeSwing$Jump", "path", "LRopeSwing$Path;", true)
  | 2 => ("RopeSwing$Jump", "strength", "I", false)
  | 3 => ("RopeSwing$Jump", "lower", "I", false)
  | 4 => ("RopeSwing$Jump", "weight", "I", false)
  | 5 => ("RopeSwing$Jump", "feet", "I", false)
  | 6 => ("RopeSwing$Jump", "grip", "I", false)
  | 7 => ("RopeSwing$Jump", "lag", "I", false)
  | 8 => ("RopeSwing$Jump", "turning", "I", false)
  | 9 => ("RopeSwing$Jump", "stop", "I", false)
  | 10 => ("RopeSwing$Jump", "stopEnd", "I", false)
  | 11 => ("RopeSwing$Jump", "end", "I", false)
  | 12 => ("RopeSwing$Jump", "where", "I", false)
  | 13 => ("RopeSwing$Jump", "heldTill", "I", false)
  | 14 => ("RopeSwing$Jump", "flown", "I", false)
  | 15 => ("RopeSwing$Jump", "highest", "I", false)
  | _ => ("RopeSwing$Jump", "turned", "I", false)
def tyX0 : Nat → FieldType := fun k => match k with
  | 0 => .object "RopeSwing$Place"
  | 1 => .object "RopeSwing$Path"
  | 2 => .int
  | 3 => .int
  | 4 => .int
  | 5 => .int
  | 6 => .int
  | 7 => .int
  | 8 => .int
  | 9 => .int
  | 10 => .int
  | 11 => .int
  | 12 => .int
  | 13 => .int
  | 14 => .int
  | 15 => .int
  | _ => .int
abbrev wsX00 : List Cond := u_ws RX0 TX0 17
theorem nmX0 : ∀ a, a < 17 → ∀ b, b < 17 → a ≠ b → (TX0 a).2.1 ≠ (TX0 b).2.1 := by decide +kernel
theorem tyX0_ok : ∀ k, k < 17 → parseFieldDescriptor (TX0 k).2.2.1 = some (tyX0 k) := by decide +kernel
abbrev cX0_init : ByteArray := prog_2_method_1_code
def yX0_init : MethodName := ⟨RX0, "<init>", "(LRopeSwing$Place;LRopeSwing$Path;)V"⟩
abbrev cX0_suit : ByteArray := prog_2_method_2_code
def yX0_suit : MethodName := ⟨RX0, "suit", "(LRopeSwing$Swinger;)V"⟩
abbrev cX0_hold : ByteArray := prog_2_method_3_code
def yX0_hold : MethodName := ⟨RX0, "hold", "()V"⟩
abbrev cX0_stopsBehind : ByteArray := prog_2_method_4_code
def yX0_stopsBehind : MethodName := ⟨RX0, "stopsBehind", "(III)I"⟩
abbrev cX0_canLetGo : ByteArray := prog_2_method_5_code
def yX0_canLetGo : MethodName := ⟨RX0, "canLetGo", "(I)Z"⟩
abbrev cX0_letGo : ByteArray := prog_2_method_6_code
def yX0_letGo : MethodName := ⟨RX0, "letGo", "(I)V"⟩
abbrev cX0_fly : ByteArray := prog_2_method_7_code
def yX0_fly : MethodName := ⟨RX0, "fly", "(I)V"⟩
abbrev cX0_landing : ByteArray := prog_2_method_8_code
def yX0_landing : MethodName := ⟨RX0, "landing", "(I)I"⟩
abbrev cX0_endsGood : ByteArray := prog_2_method_9_code
def yX0_endsGood : MethodName := ⟨RX0, "endsGood", "(I)Z"⟩
abbrev cX0_hasGoodTime : ByteArray := prog_2_method_10_code
def yX0_hasGoodTime : MethodName := ⟨RX0, "hasGoodTime", "()Z"⟩
def RX1 : String := "RopeSwing$Path"
def TX1 : u_T := fun k => match k with
  | 0 => ("RopeSwing$Path", "pendulum", "LRopeSwing$Pendulum;", true)
  | 1 => ("RopeSwing$Path", "angle", "[I", true)
  | 2 => ("RopeSwing$Path", "pace", "[I", true)
  | 3 => ("RopeSwing$Path", "x", "[I", true)
  | 4 => ("RopeSwing$Path", "height", "[I", true)
  | 5 => ("RopeSwing$Path", "load", "[I", true)
  | 6 => ("RopeSwing$Path", "across", "[I", true)
  | 7 => ("RopeSwing$Path", "up", "[I", true)
  | 8 => ("RopeSwing$Path", "traced", "Z", false)
  | 9 => ("RopeSwing$Path", "bough", "I", false)
  | 10 => ("RopeSwing$Path", "length", "I", false)
  | 11 => ("RopeSwing$Path", "back", "I", false)
  | _ => ("RopeSwing$Path", "run", "I", false)
def tyX1 : Nat → FieldType := fun k => match k with
  | 0 => .object "RopeSwing$Pendulum"
  | 1 => .array .int
  | 2 => .array .int
  | 3 => .array .int
  | 4 => .array .int
  | 5 => .array .int
  | 6 => .array .int
  | 7 => .array .int
  | 8 => .boolean
  | 9 => .int
  | 10 => .int
  | 11 => .int
  | _ => .int
abbrev wsX10 : List Cond := u_ws RX1 TX1 13
theorem nmX1 : ∀ a, a < 13 → ∀ b, b < 13 → a ≠ b → (TX1 a).2.1 ≠ (TX1 b).2.1 := by decide +kernel
theorem tyX1_ok : ∀ k, k < 13 → parseFieldDescriptor (TX1 k).2.2.1 = some (tyX1 k) := by decide +kernel
abbrev cX1_init : ByteArray := prog_3_method_1_code
def yX1_init : MethodName := ⟨RX1, "<init>", "()V"⟩
abbrev cX1_trace : ByteArray := prog_3_method_2_code
def yX1_trace : MethodName := ⟨RX1, "trace", "(IIII)V"⟩
abbrev cX1_note : ByteArray := prog_3_method_3_code
def yX1_note : MethodName := ⟨RX1, "note", "(I)V"⟩
abbrev cX1_angle : ByteArray := prog_3_method_4_code
def yX1_angle : MethodName := ⟨RX1, "angle", "(I)I"⟩
abbrev cX1_pace : ByteArray := prog_3_method_5_code
def yX1_pace : MethodName := ⟨RX1, "pace", "(I)I"⟩
abbrev cX1_x : ByteArray := prog_3_method_6_code
def yX1_x : MethodName := ⟨RX1, "x", "(I)I"⟩
abbrev cX1_height : ByteArray := prog_3_method_7_code
def yX1_height : MethodName := ⟨RX1, "height", "(I)I"⟩
abbrev cX1_across : ByteArray := prog_3_method_8_code
def yX1_across : MethodName := ⟨RX1, "across", "(I)I"⟩
abbrev cX1_up : ByteArray := prog_3_method_9_code
def yX1_up : MethodName := ⟨RX1, "up", "(I)I"⟩
abbrev cX1_pull : ByteArray := prog_3_method_10_code
def yX1_pull : MethodName := ⟨RX1, "pull", "(II)I"⟩
abbrev cX1_left : ByteArray := prog_3_method_11_code
def yX1_left : MethodName := ⟨RX1, "left", "(III)I"⟩
abbrev cX1_hardestPull : ByteArray := prog_3_method_12_code
def yX1_hardestPull : MethodName := ⟨RX1, "hardestPull", "(I)I"⟩
def RX2 : String := "RopeSwing$Pendulum"
def TX2 : u_T := fun k => match k with
  | 0 => ("RopeSwing$Pendulum", "length", "I", false)
  | 1 => ("RopeSwing$Pendulum", "angle", "I", false)
  | _ => ("RopeSwing$Pendulum", "pace", "I", false)
def tyX2 : Nat → FieldType := fun k => match k with
  | 0 => .int
  | 1 => .int
  | _ => .int
abbrev wsX20 : List Cond := u_ws RX2 TX2 3
theorem nmX2 : ∀ a, a < 3 → ∀ b, b < 3 → a ≠ b → (TX2 a).2.1 ≠ (TX2 b).2.1 := by decide +kernel
theorem tyX2_ok : ∀ k, k < 3 → parseFieldDescriptor (TX2 k).2.2.1 = some (tyX2 k) := by decide +kernel
abbrev cX2_init : ByteArray := prog_4_method_1_code
def yX2_init : MethodName := ⟨RX2, "<init>", "()V"⟩
abbrev cX2_begin : ByteArray := prog_4_method_2_code
def yX2_begin : MethodName := ⟨RX2, "begin", "(III)V"⟩
abbrev cX2_swing : ByteArray := prog_4_method_3_code
def yX2_swing : MethodName := ⟨RX2, "swing", "()V"⟩
def RX3 : String := "RopeSwing$Place"
def TX3 : u_T := fun k => match k with
  | 0 => ("RopeSwing$Place", "numbers", "[I", true)
  | 1 => ("RopeSwing$Place", "depths", "[I", true)
  | 2 => ("RopeSwing$Place", "stones", "[I", true)
  | _ => ("RopeSwing$Place", "lower", "[I", true)
def tyX3 : Nat → FieldType := fun k => match k with
  | 0 => .array .int
  | 1 => .array .int
  | 2 => .array .int
  | _ => .array .int
abbrev wsX30 : List Cond := u_ws RX3 TX3 4
theorem nmX3 : ∀ a, a < 4 → ∀ b, b < 4 → a ≠ b → (TX3 a).2.1 ≠ (TX3 b).2.1 := by decide +kernel
theorem tyX3_ok : ∀ k, k < 4 → parseFieldDescriptor (TX3 k).2.2.1 = some (tyX3 k) := by decide +kernel
abbrev cX3_init : ByteArray := prog_5_method_1_code
def yX3_init : MethodName := ⟨RX3, "<init>", "()V"⟩
abbrev cX3_clear : ByteArray := prog_5_method_2_code
def yX3_clear : MethodName := ⟨RX3, "clear", "()V"⟩
abbrev cX3_copy : ByteArray := prog_5_method_3_code
def yX3_copy : MethodName := ⟨RX3, "copy", "(LRopeSwing$Place;)V"⟩
abbrev cX3_number : ByteArray := prog_5_method_4_code
def yX3_number : MethodName := ⟨RX3, "number", "(I)I"⟩
abbrev cX3_lower : ByteArray := prog_5_method_5_code
def yX3_lower : MethodName := ⟨RX3, "lower", "(I)I"⟩
abbrev cX3_depth : ByteArray := prog_5_method_6_code
def yX3_depth : MethodName := ⟨RX3, "depth", "(II)I"⟩
abbrev cX3_kind : ByteArray := prog_5_method_7_code
def yX3_kind : MethodName := ⟨RX3, "kind", "(I)I"⟩
abbrev cX3_cellAt : ByteArray := prog_5_method_8_code
def yX3_cellAt : MethodName := ⟨RX3, "cellAt", "(I)I"⟩
def RX4 : String := "RopeSwing$Reader"
def TX4 : u_T := fun k => match k with
  | 0 => ("RopeSwing$Reader", "text", "LRopeSwing$Text;", true)
  | 1 => ("RopeSwing$Reader", "next", "I", false)
  | 2 => ("RopeSwing$Reader", "kind", "I", false)
  | 3 => ("RopeSwing$Reader", "start", "I", false)
  | 4 => ("RopeSwing$Reader", "value", "I", false)
  | 5 => ("RopeSwing$Reader", "faultNumber", "I", false)
  | 6 => ("RopeSwing$Reader", "faultAt", "I", false)
  | _ => ("RopeSwing$Reader", "clauses", "I", false)
def tyX4 : Nat → FieldType := fun k => match k with
  | 0 => .object "RopeSwing$Text"
  | 1 => .int
  | 2 => .int
  | 3 => .int
  | 4 => .int
  | 5 => .int
  | 6 => .int
  | _ => .int
abbrev wsX40 : List Cond := u_ws RX4 TX4 8
theorem nmX4 : ∀ a, a < 8 → ∀ b, b < 8 → a ≠ b → (TX4 a).2.1 ≠ (TX4 b).2.1 := by decide +kernel
theorem tyX4_ok : ∀ k, k < 8 → parseFieldDescriptor (TX4 k).2.2.1 = some (tyX4 k) := by decide +kernel
abbrev cX4_init : ByteArray := prog_6_method_1_code
def yX4_init : MethodName := ⟨RX4, "<init>", "(LRopeSwing$Text;)V"⟩
abbrev cX4_faultNumber : ByteArray := prog_6_method_2_code
def yX4_faultNumber : MethodName := ⟨RX4, "faultNumber", "()I"⟩
abbrev cX4_faultAt : ByteArray := prog_6_method_3_code
def yX4_faultAt : MethodName := ⟨RX4, "faultAt", "()I"⟩
abbrev cX4_clauses : ByteArray := prog_6_method_4_code
def yX4_clauses : MethodName := ⟨RX4, "clauses", "()I"⟩
abbrev cX4_readPlace : ByteArray := prog_6_method_5_code
def yX4_readPlace : MethodName := ⟨RX4, "readPlace", "(LRopeSwing$Place;)Z"⟩
abbrev cX4_readSwinger : ByteArray := prog_6_method_6_code
def yX4_readSwinger : MethodName := ⟨RX4, "readSwinger", "(LRopeSwing$Swinger;)Z"⟩
abbrev cX4_readClause : ByteArray := prog_6_method_7_code
def yX4_readClause : MethodName := ⟨RX4, "readClause", "(ILRopeSwing$Place;)Z"⟩
abbrev cX4_readNumbers : ByteArray := prog_6_method_8_code
def yX4_readNumbers : MethodName := ⟨RX4, "readNumbers", "(II[I)Z"⟩
abbrev cX4_readList : ByteArray := prog_6_method_9_code
def yX4_readList : MethodName := ⟨RX4, "readList", "([II)Z"⟩
abbrev cX4_readStones : ByteArray := prog_6_method_10_code
def yX4_readStones : MethodName := ⟨RX4, "readStones", "([I)Z"⟩
abbrev cX4_begin : ByteArray := prog_6_method_11_code
def yX4_begin : MethodName := ⟨RX4, "begin", "()V"⟩
abbrev cX4_fail : ByteArray := prog_6_method_12_code
def yX4_fail : MethodName := ⟨RX4, "fail", "(I)Z"⟩
abbrev cX4_takeNumber : ByteArray := prog_6_method_13_code
def yX4_takeNumber : MethodName := ⟨RX4, "takeNumber", "(II)Z"⟩
abbrev cX4_isSign : ByteArray := prog_6_method_14_code
def yX4_isSign : MethodName := ⟨RX4, "isSign", "(I)Z"⟩
abbrev cX4_take : ByteArray := prog_6_method_15_code
def yX4_take : MethodName := ⟨RX4, "take", "()V"⟩
abbrev cX4_clauseInHand : ByteArray := prog_6_method_16_code
def yX4_clauseInHand : MethodName := ⟨RX4, "clauseInHand", "()I"⟩
abbrev cX4_nameOf : ByteArray := prog_6_method_17_code
def yX4_nameOf : MethodName := ⟨RX4, "nameOf", "(I)Ljava/lang/String;"⟩
abbrev cX4_isWord : ByteArray := prog_6_method_18_code
def yX4_isWord : MethodName := ⟨RX4, "isWord", "(Ljava/lang/String;)Z"⟩
abbrev cX4_isLetter : ByteArray := prog_6_method_19_code
def yX4_isLetter : MethodName := ⟨RX4, "isLetter", "(I)Z"⟩
abbrev cX4_isFigure : ByteArray := prog_6_method_20_code
def yX4_isFigure : MethodName := ⟨RX4, "isFigure", "(I)Z"⟩
def RX5 : String := "RopeSwing$State"
def TX5 : u_T := fun k => match k with
  | 0 => ("RopeSwing$State", "inHand", "[I", true)
  | 1 => ("RopeSwing$State", "ends", "[I", true)
  | 2 => ("RopeSwing$State", "seed", "I", false)
  | _ => ("RopeSwing$State", "kept", "Z", false)
def tyX5 : Nat → FieldType := fun k => match k with
  | 0 => .array .int
  | 1 => .array .int
  | 2 => .int
  | _ => .boolean
abbrev wsX50 : List Cond := u_ws RX5 TX5 4
theorem nmX5 : ∀ a, a < 4 → ∀ b, b < 4 → a ≠ b → (TX5 a).2.1 ≠ (TX5 b).2.1 := by decide +kernel
theorem tyX5_ok : ∀ k, k < 4 → parseFieldDescriptor (TX5 k).2.2.1 = some (tyX5 k) := by decide +kernel
abbrev cX5_init : ByteArray := prog_7_method_1_code
def yX5_init : MethodName := ⟨RX5, "<init>", "()V"⟩
abbrev cX5_begin : ByteArray := prog_7_method_2_code
def yX5_begin : MethodName := ⟨RX5, "begin", "(LRopeSwing$Place;)V"⟩
abbrev cX5_inHand : ByteArray := prog_7_method_3_code
def yX5_inHand : MethodName := ⟨RX5, "inHand", "(I)I"⟩
abbrev cX5_take : ByteArray := prog_7_method_4_code
def yX5_take : MethodName := ⟨RX5, "take", "(II)V"⟩
abbrev cX5_draw : ByteArray := prog_7_method_5_code
def yX5_draw : MethodName := ⟨RX5, "draw", "(I)I"⟩
abbrev cX5_count : ByteArray := prog_7_method_6_code
def yX5_count : MethodName := ⟨RX5, "count", "(I)V"⟩
abbrev cX5_counted : ByteArray := prog_7_method_7_code
def yX5_counted : MethodName := ⟨RX5, "counted", "(I)I"⟩
abbrev cX5_copy : ByteArray := prog_7_method_8_code
def yX5_copy : MethodName := ⟨RX5, "copy", "(LRopeSwing$State;)V"⟩
def RX6 : String := "RopeSwing$Swinger"
def TX6 : u_T := fun k => match k with
  | _ => ("RopeSwing$Swinger", "numbers", "[I", true)
def tyX6 : Nat → FieldType := fun k => match k with
  | _ => .array .int
abbrev wsX60 : List Cond := u_ws RX6 TX6 1
theorem nmX6 : ∀ a, a < 1 → ∀ b, b < 1 → a ≠ b → (TX6 a).2.1 ≠ (TX6 b).2.1 := by decide +kernel
theorem tyX6_ok : ∀ k, k < 1 → parseFieldDescriptor (TX6 k).2.2.1 = some (tyX6 k) := by decide +kernel
abbrev cX6_init : ByteArray := prog_8_method_1_code
def yX6_init : MethodName := ⟨RX6, "<init>", "()V"⟩
abbrev cX6_least : ByteArray := prog_8_method_2_code
def yX6_least : MethodName := ⟨RX6, "least", "(I)I"⟩
abbrev cX6_most : ByteArray := prog_8_method_3_code
def yX6_most : MethodName := ⟨RX6, "most", "(I)I"⟩
abbrev cX6_number : ByteArray := prog_8_method_4_code
def yX6_number : MethodName := ⟨RX6, "number", "(I)I"⟩
def RX7 : String := "RopeSwing$Text"
def TX7 : u_T := fun k => match k with
  | 0 => ("RopeSwing$Text", "bytes", "[I", true)
  | _ => ("RopeSwing$Text", "length", "I", false)
def tyX7 : Nat → FieldType := fun k => match k with
  | 0 => .array .int
  | _ => .int
abbrev wsX70 : List Cond := u_ws RX7 TX7 2
theorem nmX7 : ∀ a, a < 2 → ∀ b, b < 2 → a ≠ b → (TX7 a).2.1 ≠ (TX7 b).2.1 := by decide +kernel
theorem tyX7_ok : ∀ k, k < 2 → parseFieldDescriptor (TX7 k).2.2.1 = some (tyX7 k) := by decide +kernel
abbrev cX7_init : ByteArray := prog_9_method_1_code
def yX7_init : MethodName := ⟨RX7, "<init>", "()V"⟩
abbrev cX7_length : ByteArray := prog_9_method_2_code
def yX7_length : MethodName := ⟨RX7, "length", "()I"⟩
abbrev cX7_add : ByteArray := prog_9_method_3_code
def yX7_add : MethodName := ⟨RX7, "add", "(I)V"⟩
abbrev cX7_byteAt : ByteArray := prog_9_method_4_code
def yX7_byteAt : MethodName := ⟨RX7, "byteAt", "(I)I"⟩
abbrev cX7_clear : ByteArray := prog_9_method_5_code
def yX7_clear : MethodName := ⟨RX7, "clear", "()V"⟩
def RX8 : String := "RopeSwing$Times"
def TX8 : u_T := fun k => match k with
  | 0 => ("RopeSwing$Times", "farthest", "I", false)
  | 1 => ("RopeSwing$Times", "highest", "I", false)
  | 2 => ("RopeSwing$Times", "longest", "I", false)
  | 3 => ("RopeSwing$Times", "first", "I", false)
  | _ => ("RopeSwing$Times", "good", "I", false)
def tyX8 : Nat → FieldType := fun k => match k with
  | 0 => .int
  | 1 => .int
  | 2 => .int
  | 3 => .int
  | _ => .int
abbrev wsX80 : List Cond := u_ws RX8 TX8 5
theorem nmX8 : ∀ a, a < 5 → ∀ b, b < 5 → a ≠ b → (TX8 a).2.1 ≠ (TX8 b).2.1 := by decide +kernel
theorem tyX8_ok : ∀ k, k < 5 → parseFieldDescriptor (TX8 k).2.2.1 = some (tyX8 k) := by decide +kernel
abbrev cX8_init : ByteArray := prog_10_method_1_code
def yX8_init : MethodName := ⟨RX8, "<init>", "()V"⟩
abbrev cX8_scan : ByteArray := prog_10_method_2_code
def yX8_scan : MethodName := ⟨RX8, "scan", "(LRopeSwing$Jump;)V"⟩
def RX9 : String := "RopeSwing"
def TX9 : u_T := fun k => match k with
  | 0 => ("RopeSwing", "text", "LRopeSwing$Text;", true)
  | 1 => ("RopeSwing", "reader", "LRopeSwing$Reader;", true)
  | 2 => ("RopeSwing", "place", "LRopeSwing$Place;", true)
  | 3 => ("RopeSwing", "draft", "LRopeSwing$Place;", true)
  | 4 => ("RopeSwing", "swingers", "[LRopeSwing$Swinger;", true)
  | 5 => ("RopeSwing", "howMany", "I", false)
  | 6 => ("RopeSwing", "state", "LRopeSwing$State;", true)
  | 7 => ("RopeSwing", "images", "[LRopeSwing$State;", true)
  | 8 => ("RopeSwing", "pendulum", "LRopeSwing$Pendulum;", true)
  | 9 => ("RopeSwing", "path", "LRopeSwing$Path;", true)
  | 10 => ("RopeSwing", "jump", "LRopeSwing$Jump;", true)
  | 11 => ("RopeSwing", "times", "LRopeSwing$Times;", true)
  | 12 => ("RopeSwing", "farthest", "[I", true)
  | _ => ("RopeSwing", "faultAt", "I", false)
def tyX9 : Nat → FieldType := fun k => match k with
  | 0 => .object "RopeSwing$Text"
  | 1 => .object "RopeSwing$Reader"
  | 2 => .object "RopeSwing$Place"
  | 3 => .object "RopeSwing$Place"
  | 4 => .array (.object "RopeSwing$Swinger")
  | 5 => .int
  | 6 => .object "RopeSwing$State"
  | 7 => .array (.object "RopeSwing$State")
  | 8 => .object "RopeSwing$Pendulum"
  | 9 => .object "RopeSwing$Path"
  | 10 => .object "RopeSwing$Jump"
  | 11 => .object "RopeSwing$Times"
  | 12 => .array .int
  | _ => .int
abbrev wsX90 : List Cond := u_ws RX9 TX9 14
theorem nmX9 : ∀ a, a < 14 → ∀ b, b < 14 → a ≠ b → (TX9 a).2.1 ≠ (TX9 b).2.1 := by decide +kernel
theorem tyX9_ok : ∀ k, k < 14 → parseFieldDescriptor (TX9 k).2.2.1 = some (tyX9 k) := by decide +kernel
abbrev cX9_init : ByteArray := prog_1_method_1_code
def yX9_init : MethodName := ⟨RX9, "<init>", "()V"⟩
abbrev cX9_feed : ByteArray := prog_1_method_2_code
def yX9_feed : MethodName := ⟨RX9, "feed", "(IJ)I"⟩
abbrev cX9_place : ByteArray := prog_1_method_3_code
def yX9_place : MethodName := ⟨RX9, "place", "()I"⟩
abbrev cX9_swinger : ByteArray := prog_1_method_4_code
def yX9_swinger : MethodName := ⟨RX9, "swinger", "()I"⟩
abbrev cX9_fault : ByteArray := prog_1_method_5_code
def yX9_fault : MethodName := ⟨RX9, "fault", "()I"⟩
abbrev cX9_told : ByteArray := prog_1_method_6_code
def yX9_told : MethodName := ⟨RX9, "told", "(I)I"⟩
abbrev cX9_cell : ByteArray := prog_1_method_7_code
def yX9_cell : MethodName := ⟨RX9, "cell", "(II)I"⟩
abbrev cX9_who : ByteArray := prog_1_method_8_code
def yX9_who : MethodName := ⟨RX9, "who", "(II)I"⟩
abbrev cX9_set : ByteArray := prog_1_method_9_code
def yX9_set : MethodName := ⟨RX9, "set", "(II)I"⟩
abbrev cX9_now : ByteArray := prog_1_method_10_code
def yX9_now : MethodName := ⟨RX9, "now", "(I)I"⟩
abbrev cX9_sine : ByteArray := prog_1_method_11_code
def yX9_sine : MethodName := ⟨RX9, "sine", "(I)I"⟩
abbrev cX9_holds : ByteArray := prog_1_method_12_code
def yX9_holds : MethodName := ⟨RX9, "holds", "(III)I"⟩
abbrev cX9_lands : ByteArray := prog_1_method_13_code
def yX9_lands : MethodName := ⟨RX9, "lands", "(III)I"⟩
abbrev cX9_best : ByteArray := prog_1_method_14_code
def yX9_best : MethodName := ⟨RX9, "best", "(II)I"⟩
abbrev cX9_wide : ByteArray := prog_1_method_15_code
def yX9_wide : MethodName := ⟨RX9, "wide", "(II)I"⟩
abbrev cX9_odds : ByteArray := prog_1_method_16_code
def yX9_odds : MethodName := ⟨RX9, "odds", "(III)I"⟩
abbrev cX9_strong : ByteArray := prog_1_method_17_code
def yX9_strong : MethodName := ⟨RX9, "strong", "(II)I"⟩
abbrev cX9_heavy : ByteArray := prog_1_method_18_code
def yX9_heavy : MethodName := ⟨RX9, "heavy", "()I"⟩
abbrev cX9_may : ByteArray := prog_1_method_19_code
def yX9_may : MethodName := ⟨RX9, "may", "()I"⟩
abbrev cX9_months : ByteArray := prog_1_method_20_code
def yX9_months : MethodName := ⟨RX9, "months", "(I)I"⟩
abbrev cX9_rope : ByteArray := prog_1_method_21_code
def yX9_rope : MethodName := ⟨RX9, "rope", "(II)I"⟩
abbrev cX9_turn : ByteArray := prog_1_method_22_code
def yX9_turn : MethodName := ⟨RX9, "turn", "(II)I"⟩
abbrev cX9_film : ByteArray := prog_1_method_23_code
def yX9_film : MethodName := ⟨RX9, "film", "(II)I"⟩
abbrev cX9_age : ByteArray := prog_1_method_24_code
def yX9_age : MethodName := ⟨RX9, "age", "(I)I"⟩
abbrev cX9_harmed : ByteArray := prog_1_method_25_code
def yX9_harmed : MethodName := ⟨RX9, "harmed", "(I)I"⟩
abbrev cX9_enough : ByteArray := prog_1_method_26_code
def yX9_enough : MethodName := ⟨RX9, "enough", "()I"⟩
abbrev cX9_seed : ByteArray := prog_1_method_27_code
def yX9_seed : MethodName := ⟨RX9, "seed", "(I)I"⟩
abbrev cX9_afternoon : ByteArray := prog_1_method_28_code
def yX9_afternoon : MethodName := ⟨RX9, "afternoon", "(I)I"⟩
abbrev cX9_ends : ByteArray := prog_1_method_29_code
def yX9_ends : MethodName := ⟨RX9, "ends", "(I)I"⟩
abbrev cX9_keep : ByteArray := prog_1_method_30_code
def yX9_keep : MethodName := ⟨RX9, "keep", "(I)I"⟩
abbrev cX9_goBack : ByteArray := prog_1_method_31_code
def yX9_goBack : MethodName := ⟨RX9, "goBack", "(I)I"⟩
abbrev cX9_swingerAt : ByteArray := prog_1_method_32_code
def yX9_swingerAt : MethodName := ⟨RX9, "swingerAt", "(I)LRopeSwing$Swinger;"⟩
abbrev cX9_imageAt : ByteArray := prog_1_method_33_code
def yX9_imageAt : MethodName := ⟨RX9, "imageAt", "(I)LRopeSwing$State;"⟩
abbrev cX9_mostInHand : ByteArray := prog_1_method_34_code
def yX9_mostInHand : MethodName := ⟨RX9, "mostInHand", "(I)I"⟩
abbrev cX9_lengthNow : ByteArray := prog_1_method_35_code
def yX9_lengthNow : MethodName := ⟨RX9, "lengthNow", "()I"⟩
abbrev cX9_lowerNow : ByteArray := prog_1_method_36_code
def yX9_lowerNow : MethodName := ⟨RX9, "lowerNow", "()I"⟩
abbrev cX9_strengthAfter : ByteArray := prog_1_method_37_code
def yX9_strengthAfter : MethodName := ⟨RX9, "strengthAfter", "(I)I"⟩
abbrev cX9_traceNow : ByteArray := prog_1_method_38_code
def yX9_traceNow : MethodName := ⟨RX9, "traceNow", "()V"⟩
abbrev cX9_ready : ByteArray := prog_1_method_39_code
def yX9_ready : MethodName := ⟨RX9, "ready", "(LRopeSwing$Swinger;)V"⟩
abbrev cX9_findFarthest : ByteArray := prog_1_method_40_code
def yX9_findFarthest : MethodName := ⟨RX9, "findFarthest", "()V"⟩
abbrev cX9_harmedBy : ByteArray := prog_1_method_41_code
def yX9_harmedBy : MethodName := ⟨RX9, "harmedBy", "(I)I"⟩
abbrev cX9_keptOut : ByteArray := prog_1_method_42_code
def yX9_keptOut : MethodName := ⟨RX9, "keptOut", "(LRopeSwing$Swinger;I)Z"⟩
abbrev cX9_comesToHarm : ByteArray := prog_1_method_43_code
def yX9_comesToHarm : MethodName := ⟨RX9, "comesToHarm", "(LRopeSwing$Swinger;II)Z"⟩
abbrev cX9_within : ByteArray := prog_1_method_44_code
def yX9_within : MethodName := ⟨RX9, "within", "(III)Z"⟩
abbrev cX9_isGood : ByteArray := prog_1_method_45_code
def yX9_isGood : MethodName := ⟨RX9, "isGood", "(I)Z"⟩
abbrev cX9_quotient : ByteArray := prog_1_method_46_code
def yX9_quotient : MethodName := ⟨RX9, "quotient", "(II)I"⟩
abbrev cX9_at : ByteArray := prog_1_method_47_code
def yX9_at : MethodName := ⟨RX9, "at", "([II)I"⟩
abbrev cX9_put : ByteArray := prog_1_method_48_code
def yX9_put : MethodName := ⟨RX9, "put", "([III)V"⟩
abbrev cX9_sineOf : ByteArray := prog_1_method_49_code
def yX9_sineOf : MethodName := ⟨RX9, "sineOf", "(I)I"⟩
abbrev cX9_sizeOf : ByteArray := prog_1_method_50_code
def yX9_sizeOf : MethodName := ⟨RX9, "sizeOf", "(I)I"⟩
def RX10 : String := "RopeSwingModel"
def TX10 : u_T := fun k => match k with
  | 0 => ("RopeSwingModel", "told", "[I", true)
  | 1 => ("RopeSwingModel", "depths", "[I", true)
  | 2 => ("RopeSwingModel", "isStone", "[Z", true)
  | 3 => ("RopeSwingModel", "lowers", "[I", true)
  | 4 => ("RopeSwingModel", "swingers", "I", false)
  | 5 => ("RopeSwingModel", "people", "[I", true)
  | 6 => ("RopeSwingModel", "hand", "[I", true)
  | 7 => ("RopeSwingModel", "text", "[I", true)
  | 8 => ("RopeSwingModel", "texted", "I", false)
  | 9 => ("RopeSwingModel", "faultPlace", "I", false)
  | 10 => ("RopeSwingModel", "at0", "I", false)
  | 11 => ("RopeSwingModel", "said", "J", false)
  | 12 => ("RopeSwingModel", "wordEnd", "I", false)
  | 13 => ("RopeSwingModel", "number", "I", false)
  | 14 => ("RopeSwingModel", "numberAt", "I", false)
  | 15 => ("RopeSwingModel", "readTold", "[I", true)
  | 16 => ("RopeSwingModel", "readDepths", "[I", true)
  | 17 => ("RopeSwingModel", "readStone", "[Z", true)
  | 18 => ("RopeSwingModel", "readLowers", "[I", true)
  | 19 => ("RopeSwingModel", "toldSet", "I", false)
  | 20 => ("RopeSwingModel", "clauses", "I", false)
  | 21 => ("RopeSwingModel", "ropeLong", "I", false)
  | 22 => ("RopeSwingModel", "run", "I", false)
  | 23 => ("RopeSwingModel", "strength", "I", false)
  | 24 => ("RopeSwingModel", "weight", "I", false)
  | 25 => ("RopeSwingModel", "feet", "I", false)
  | 26 => ("RopeSwingModel", "grip", "I", false)
  | 27 => ("RopeSwingModel", "lag", "I", false)
  | 28 => ("RopeSwingModel", "turning", "I", false)
  | 29 => ("RopeSwingModel", "angleAt", "[I", true)
  | 30 => ("RopeSwingModel", "paceAt", "[I", true)
  | 31 => ("RopeSwingModel", "pullAt", "[I", true)
  | 32 => ("RopeSwingModel", "leftAt", "[I", true)
  | 33 => ("RopeSwingModel", "ended", "I", false)
  | 34 => ("RopeSwingModel", "where", "I", false)
  | 35 => ("RopeSwingModel", "endTick", "I", false)
  | 36 => ("RopeSwingModel", "flew", "I", false)
  | 37 => ("RopeSwingModel", "highest", "I", false)
  | 38 => ("RopeSwingModel", "turned", "I", false)
  | 39 => ("RopeSwingModel", "wideFrom", "I", false)
  | 40 => ("RopeSwingModel", "goodMany", "I", false)
  | 41 => ("RopeSwingModel", "farthest", "[I", true)
  | 42 => ("RopeSwingModel", "seed", "I", false)
  | 43 => ("RopeSwingModel", "endMany", "[I", true)
  | 44 => ("RopeSwingModel", "images", "[I", true)
  | _ => ("RopeSwingModel", "isKept", "[Z", true)
def tyX10 : Nat → FieldType := fun k => match k with
  | 0 => .array .int
  | 1 => .array .int
  | 2 => .array .boolean
  | 3 => .array .int
  | 4 => .int
  | 5 => .array .int
  | 6 => .array .int
  | 7 => .array .int
  | 8 => .int
  | 9 => .int
  | 10 => .int
  | 11 => .long
  | 12 => .int
  | 13 => .int
  | 14 => .int
  | 15 => .array .int
  | 16 => .array .int
  | 17 => .array .boolean
  | 18 => .array .int
  | 19 => .int
  | 20 => .int
  | 21 => .int
  | 22 => .int
  | 23 => .int
  | 24 => .int
  | 25 => .int
  | 26 => .int
  | 27 => .int
  | 28 => .int
  | 29 => .array .int
  | 30 => .array .int
  | 31 => .array .int
  | 32 => .array .int
  | 33 => .int
  | 34 => .int
  | 35 => .int
  | 36 => .int
  | 37 => .int
  | 38 => .int
  | 39 => .int
  | 40 => .int
  | 41 => .array .int
  | 42 => .int
  | 43 => .array .int
  | 44 => .array .int
  | _ => .array .boolean
abbrev wsX100 : List Cond := u_ws RX10 TX10 46
theorem nmX10 : ∀ a, a < 46 → ∀ b, b < 46 → a ≠ b → (TX10 a).2.1 ≠ (TX10 b).2.1 := by decide +kernel
theorem tyX10_ok : ∀ k, k < 46 → parseFieldDescriptor (TX10 k).2.2.1 = some (tyX10 k) := by decide +kernel
abbrev cX10_init : ByteArray := prog_12_method_1_code
def yX10_init : MethodName := ⟨RX10, "<init>", "()V"⟩
abbrev cX10_in : ByteArray := prog_12_method_3_code
def yX10_in : MethodName := ⟨RX10, "in", "(JJJ)Z"⟩
abbrev cX10_isSwinger : ByteArray := prog_12_method_4_code
def yX10_isSwinger : MethodName := ⟨RX10, "isSwinger", "(I)Z"⟩
abbrev cX10_feed : ByteArray := prog_12_method_5_code
def yX10_feed : MethodName := ⟨RX10, "feed", "(IJ)I"⟩
abbrev cX10_here : ByteArray := prog_12_method_6_code
def yX10_here : MethodName := ⟨RX10, "here", "()I"⟩
abbrev cX10_fails : ByteArray := prog_12_method_7_code
def yX10_fails : MethodName := ⟨RX10, "fails", "(II)I"⟩
abbrev cX10_readWord : ByteArray := prog_12_method_8_code
def yX10_readWord : MethodName := ⟨RX10, "readWord", "()V"⟩
abbrev cX10_code : ByteArray := prog_12_method_9_code
def yX10_code : MethodName := ⟨RX10, "code", "(IIII)J"⟩
abbrev cX10_longer : ByteArray := prog_12_method_10_code
def yX10_longer : MethodName := ⟨RX10, "longer", "(JI)J"⟩
abbrev cX10_takeNumber : ByteArray := prog_12_method_11_code
def yX10_takeNumber : MethodName := ⟨RX10, "takeNumber", "(II)I"⟩
abbrev cX10_takeStop : ByteArray := prog_12_method_12_code
def yX10_takeStop : MethodName := ⟨RX10, "takeStop", "()I"⟩
abbrev cX10_isComma : ByteArray := prog_12_method_13_code
def yX10_isComma : MethodName := ⟨RX10, "isComma", "()Z"⟩
abbrev cX10_bare : ByteArray := prog_12_method_14_code
def yX10_bare : MethodName := ⟨RX10, "bare", "()V"⟩
abbrev cX10_untold : ByteArray := prog_12_method_15_code
def yX10_untold : MethodName := ⟨RX10, "untold", "(I)I"⟩
abbrev cX10_take : ByteArray := prog_12_method_16_code
def yX10_take : MethodName := ⟨RX10, "take", "(III)I"⟩
abbrev cX10_takeRope : ByteArray := prog_12_method_17_code
def yX10_takeRope : MethodName := ⟨RX10, "takeRope", "()I"⟩
abbrev cX10_takeStart : ByteArray := prog_12_method_18_code
def yX10_takeStart : MethodName := ⟨RX10, "takeStart", "()I"⟩
abbrev cX10_takeRow : ByteArray := prog_12_method_19_code
def yX10_takeRow : MethodName := ⟨RX10, "takeRow", "([III)I"⟩
abbrev cX10_takeStones : ByteArray := prog_12_method_20_code
def yX10_takeStones : MethodName := ⟨RX10, "takeStones", "()I"⟩
abbrev cX10_clauseOf : ByteArray := prog_12_method_21_code
def yX10_clauseOf : MethodName := ⟨RX10, "clauseOf", "()I"⟩
abbrev cX10_takeClause : ByteArray := prog_12_method_22_code
def yX10_takeClause : MethodName := ⟨RX10, "takeClause", "()I"⟩
abbrev cX10_takePlace : ByteArray := prog_12_method_23_code
def yX10_takePlace : MethodName := ⟨RX10, "takePlace", "()V"⟩
abbrev cX10_place : ByteArray := prog_12_method_24_code
def yX10_place : MethodName := ⟨RX10, "place", "()I"⟩
abbrev cX10_takeSwinger : ByteArray := prog_12_method_25_code
def yX10_takeSwinger : MethodName := ⟨RX10, "takeSwinger", "()I"⟩
abbrev cX10_swinger : ByteArray := prog_12_method_26_code
def yX10_swinger : MethodName := ⟨RX10, "swinger", "()I"⟩
abbrev cX10_fault : ByteArray := prog_12_method_27_code
def yX10_fault : MethodName := ⟨RX10, "fault", "()I"⟩
abbrev cX10_told : ByteArray := prog_12_method_28_code
def yX10_told : MethodName := ⟨RX10, "told", "(I)I"⟩
abbrev cX10_lower : ByteArray := prog_12_method_29_code
def yX10_lower : MethodName := ⟨RX10, "lower", "()I"⟩
abbrev cX10_depthOf : ByteArray := prog_12_method_30_code
def yX10_depthOf : MethodName := ⟨RX10, "depthOf", "(I)I"⟩
abbrev cX10_kindOf : ByteArray := prog_12_method_31_code
def yX10_kindOf : MethodName := ⟨RX10, "kindOf", "(I)I"⟩
abbrev cX10_cell : ByteArray := prog_12_method_32_code
def yX10_cell : MethodName := ⟨RX10, "cell", "(II)I"⟩
abbrev cX10_who : ByteArray := prog_12_method_33_code
def yX10_who : MethodName := ⟨RX10, "who", "(II)I"⟩
abbrev cX10_mostOf : ByteArray := prog_12_method_34_code
def yX10_mostOf : MethodName := ⟨RX10, "mostOf", "(I)I"⟩
abbrev cX10_set : ByteArray := prog_12_method_35_code
def yX10_set : MethodName := ⟨RX10, "set", "(II)I"⟩
abbrev cX10_strengthIn : ByteArray := prog_12_method_36_code
def yX10_strengthIn : MethodName := ⟨RX10, "strengthIn", "(I)I"⟩
abbrev cX10_now : ByteArray := prog_12_method_37_code
def yX10_now : MethodName := ⟨RX10, "now", "(I)I"⟩
abbrev cX10_size : ByteArray := prog_12_method_38_code
def yX10_size : MethodName := ⟨RX10, "size", "(I)I"⟩
abbrev cX10_sineOf : ByteArray := prog_12_method_39_code
def yX10_sineOf : MethodName := ⟨RX10, "sineOf", "(I)I"⟩
abbrev cX10_cosineOf : ByteArray := prog_12_method_40_code
def yX10_cosineOf : MethodName := ⟨RX10, "cosineOf", "(I)I"⟩
abbrev cX10_sine : ByteArray := prog_12_method_41_code
def yX10_sine : MethodName := ⟨RX10, "sine", "(I)I"⟩
abbrev cX10_useHand : ByteArray := prog_12_method_42_code
def yX10_useHand : MethodName := ⟨RX10, "useHand", "()V"⟩
abbrev cX10_usePerson : ByteArray := prog_12_method_43_code
def yX10_usePerson : MethodName := ⟨RX10, "usePerson", "(I)V"⟩
abbrev cX10_pullOf : ByteArray := prog_12_method_44_code
def yX10_pullOf : MethodName := ⟨RX10, "pullOf", "(III)I"⟩
abbrev cX10_swing : ByteArray := prog_12_method_45_code
def yX10_swing : MethodName := ⟨RX10, "swing", "()V"⟩
abbrev cX10_handsX : ByteArray := prog_12_method_46_code
def yX10_handsX : MethodName := ⟨RX10, "handsX", "(I)I"⟩
abbrev cX10_handsHeight : ByteArray := prog_12_method_47_code
def yX10_handsHeight : MethodName := ⟨RX10, "handsHeight", "(I)I"⟩
abbrev cX10_holds : ByteArray := prog_12_method_48_code
def yX10_holds : MethodName := ⟨RX10, "holds", "(III)I"⟩
abbrev cX10_cellOf : ByteArray := prog_12_method_49_code
def yX10_cellOf : MethodName := ⟨RX10, "cellOf", "(I)I"⟩
abbrev cX10_isDown : ByteArray := prog_12_method_50_code
def yX10_isDown : MethodName := ⟨RX10, "isDown", "(JJ)Z"⟩
abbrev cX10_land : ByteArray := prog_12_method_51_code
def yX10_land : MethodName := ⟨RX10, "land", "(IZ)V"⟩
abbrev cX10_fly : ByteArray := prog_12_method_52_code
def yX10_fly : MethodName := ⟨RX10, "fly", "(IZ)V"⟩
abbrev cX10_endAt : ByteArray := prog_12_method_53_code
def yX10_endAt : MethodName := ⟨RX10, "endAt", "(II)I"⟩
abbrev cX10_letGo : ByteArray := prog_12_method_54_code
def yX10_letGo : MethodName := ⟨RX10, "letGo", "(I)V"⟩
abbrev cX10_isTime : ByteArray := prog_12_method_55_code
def yX10_isTime : MethodName := ⟨RX10, "isTime", "(I)Z"⟩
abbrev cX10_ready : ByteArray := prog_12_method_56_code
def yX10_ready : MethodName := ⟨RX10, "ready", "(I)V"⟩
abbrev cX10_lands : ByteArray := prog_12_method_57_code
def yX10_lands : MethodName := ⟨RX10, "lands", "(III)I"⟩
abbrev cX10_isGood : ByteArray := prog_12_method_58_code
def yX10_isGood : MethodName := ⟨RX10, "isGood", "(I)Z"⟩
abbrev cX10_bestTime : ByteArray := prog_12_method_59_code
def yX10_bestTime : MethodName := ⟨RX10, "bestTime", "(I)I"⟩
abbrev cX10_best : ByteArray := prog_12_method_60_code
def yX10_best : MethodName := ⟨RX10, "best", "(II)I"⟩
abbrev cX10_wideRow : ByteArray := prog_12_method_61_code
def yX10_wideRow : MethodName := ⟨RX10, "wideRow", "()I"⟩
abbrev cX10_wide : ByteArray := prog_12_method_62_code
def yX10_wide : MethodName := ⟨RX10, "wide", "(II)I"⟩
abbrev cX10_odds : ByteArray := prog_12_method_63_code
def yX10_odds : MethodName := ⟨RX10, "odds", "(III)I"⟩
abbrev cX10_strong : ByteArray := prog_12_method_64_code
def yX10_strong : MethodName := ⟨RX10, "strong", "(II)I"⟩
abbrev cX10_heavy : ByteArray := prog_12_method_65_code
def yX10_heavy : MethodName := ⟨RX10, "heavy", "()I"⟩
abbrev cX10_hasGood : ByteArray := prog_12_method_66_code
def yX10_hasGood : MethodName := ⟨RX10, "hasGood", "()Z"⟩
abbrev cX10_may : ByteArray := prog_12_method_67_code
def yX10_may : MethodName := ⟨RX10, "may", "()I"⟩
abbrev cX10_months : ByteArray := prog_12_method_68_code
def yX10_months : MethodName := ⟨RX10, "months", "(I)I"⟩
abbrev cX10_rope : ByteArray := prog_12_method_69_code
def yX10_rope : MethodName := ⟨RX10, "rope", "(II)I"⟩
abbrev cX10_turn : ByteArray := prog_12_method_70_code
def yX10_turn : MethodName := ⟨RX10, "turn", "(II)I"⟩
abbrev cX10_film : ByteArray := prog_12_method_71_code
def yX10_film : MethodName := ⟨RX10, "film", "(II)I"⟩
abbrev cX10_age : ByteArray := prog_12_method_72_code
def yX10_age : MethodName := ⟨RX10, "age", "(I)I"⟩
abbrev cX10_isOut : ByteArray := prog_12_method_73_code
def yX10_isOut : MethodName := ⟨RX10, "isOut", "(II)Z"⟩
abbrev cX10_findFarthest : ByteArray := prog_12_method_74_code
def yX10_findFarthest : MethodName := ⟨RX10, "findFarthest", "()V"⟩
abbrev cX10_harmedBy : ByteArray := prog_12_method_75_code
def yX10_harmedBy : MethodName := ⟨RX10, "harmedBy", "(I)I"⟩
abbrev cX10_harmed : ByteArray := prog_12_method_76_code
def yX10_harmed : MethodName := ⟨RX10, "harmed", "(I)I"⟩
abbrev cX10_bits : ByteArray := prog_12_method_77_code
def yX10_bits : MethodName := ⟨RX10, "bits", "(I)I"⟩
abbrev cX10_enough : ByteArray := prog_12_method_78_code
def yX10_enough : MethodName := ⟨RX10, "enough", "()I"⟩
abbrev cX10_seed : ByteArray := prog_12_method_79_code
def yX10_seed : MethodName := ⟨RX10, "seed", "(I)I"⟩
abbrev cX10_draw : ByteArray := prog_12_method_80_code
def yX10_draw : MethodName := ⟨RX10, "draw", "(I)I"⟩
abbrev cX10_afternoon : ByteArray := prog_12_method_81_code
def yX10_afternoon : MethodName := ⟨RX10, "afternoon", "(I)I"⟩
abbrev cX10_ends : ByteArray := prog_12_method_82_code
def yX10_ends : MethodName := ⟨RX10, "ends", "(I)I"⟩
abbrev cX10_keep : ByteArray := prog_12_method_83_code
def yX10_keep : MethodName := ⟨RX10, "keep", "(I)I"⟩
abbrev cX10_goBack : ByteArray := prog_12_method_84_code
def yX10_goBack : MethodName := ⟨RX10, "goBack", "(I)I"⟩
def RJx145de : String := "java/io/Serializable"
def TJx145de : u_T := fun k => match k with
  | _ => ("", "", "", false)
def tyJx145de : Nat → FieldType := fun k => match k with
  | _ => .int
def RJx9f9b0 : String := "java/lang/CharSequence"
def TJx9f9b0 : u_T := fun k => match k with
  | _ => ("", "", "", false)
def tyJx9f9b0 : Nat → FieldType := fun k => match k with
  | _ => .int
def RJxb160c : String := "java/lang/Comparable"
def TJxb160c : u_T := fun k => match k with
  | _ => ("", "", "", false)
def tyJxb160c : Nat → FieldType := fun k => match k with
  | _ => .int
def RJ6 : String := "java/lang/Integer"
def TJ6 : u_T := fun k => match k with
  | _ => ("", "", "", false)
def tyJ6 : Nat → FieldType := fun k => match k with
  | _ => .int
abbrev cJ6_bitCount_0f7a4 : ByteArray := prog_13_method_49_code
def yJ6_bitCount_0f7a4 : MethodName := ⟨RJ6, "bitCount", "(I)I"⟩
def RJ9 : String := "java/lang/Math"
def TJ9 : u_T := fun k => match k with
  | _ => ("", "", "", false)
def tyJ9 : Nat → FieldType := fun k => match k with
  | _ => .int
abbrev cJ9_abs_0f7a4 : ByteArray := prog_14_method_59_code
def yJ9_abs_0f7a4 : MethodName := ⟨RJ9, "abs", "(I)I"⟩
abbrev cJ9_max_7cf53 : ByteArray := prog_14_method_65_code
def yJ9_max_7cf53 : MethodName := ⟨RJ9, "max", "(II)I"⟩
abbrev cJ9_min_7cf53 : ByteArray := prog_14_method_69_code
def yJ9_min_7cf53 : MethodName := ⟨RJ9, "min", "(II)I"⟩
def RJ0 : String := "java/lang/String"
def TJ0 : u_T := fun k => match k with
  | _ => ("", "", "", false)
def tyJ0 : Nat → FieldType := fun k => match k with
  | _ => .int
abbrev cJ0_length_8abf5 : ByteArray := prog_15_method_54_code
def yJ0_length_8abf5 : MethodName := ⟨RJ0, "length", "()I"⟩
abbrev cJ0_charAt_5068e : ByteArray := prog_15_method_56_code
def yJ0_charAt_5068e : MethodName := ⟨RJ0, "charAt", "(I)C"⟩
abbrev cJ0_coder_7d493 : ByteArray := prog_15_method_152_code
def yJ0_coder_7d493 : MethodName := ⟨RJ0, "coder", "()B"⟩
abbrev cJ0_isLatin1_aae02 : ByteArray := prog_15_method_154_code
def yJ0_isLatin1_aae02 : MethodName := ⟨RJ0, "isLatin1", "()Z"⟩
abbrev cJ0_checkIndex_df160 : ByteArray := prog_15_method_155_code
def yJ0_checkIndex_df160 : MethodName := ⟨RJ0, "checkIndex", "(II)V"⟩
def RJ1 : String := "java/lang/StringLatin1"
def TJ1 : u_T := fun k => match k with
  | _ => ("", "", "", false)
def tyJ1 : Nat → FieldType := fun k => match k with
  | _ => .int
abbrev cJ1_charAt_3b067 : ByteArray := prog_16_method_2_code
def yJ1_charAt_3b067 : MethodName := ⟨RJ1, "charAt", "([BI)C"⟩
def RJ2 : String := "java/lang/StringUTF16"
def TJ2 : u_T := fun k => match k with
  | _ => ("", "", "", false)
def tyJ2 : Nat → FieldType := fun k => match k with
  | _ => .int
abbrev cJ2_getChar_3b067 : ByteArray := prog_17_method_5_code
def yJ2_getChar_3b067 : MethodName := ⟨RJ2, "getChar", "([BI)C"⟩
abbrev cJ2_length_9d52b : ByteArray := prog_17_method_6_code
def yJ2_length_9d52b : MethodName := ⟨RJ2, "length", "([B)I"⟩
abbrev cJ2_charAt_3b067 : ByteArray := prog_17_method_83_code
def yJ2_charAt_3b067 : MethodName := ⟨RJ2, "charAt", "([BI)C"⟩
abbrev cJ2_checkIndex_2214a : ByteArray := prog_17_method_91_code
def yJ2_checkIndex_2214a : MethodName := ⟨RJ2, "checkIndex", "(I[B)V"⟩
def RJ10 : String := "java/lang/System"
def TJ10 : u_T := fun k => match k with
  | _ => ("", "", "", false)
def tyJ10 : Nat → FieldType := fun k => match k with
  | _ => .int
def RJxfd54e : String := "java/lang/constant/Constable"
def TJxfd54e : u_T := fun k => match k with
  | _ => ("", "", "", false)
def tyJxfd54e : Nat → FieldType := fun k => match k with
  | _ => .int
def RJx3cf43 : String := "java/lang/constant/ConstantDesc"
def TJx3cf43 : u_T := fun k => match k with
  | _ => ("", "", "", false)
def tyJx3cf43 : Nat → FieldType := fun k => match k with
  | _ => .int
def RJ7 : String := "java/util/Arrays"
def TJ7 : u_T := fun k => match k with
  | _ => ("", "", "", false)
def tyJ7 : Nat → FieldType := fun k => match k with
  | _ => .int
abbrev cJ7_fill_53178 : ByteArray := prog_19_method_103_code
def yJ7_fill_53178 : MethodName := ⟨RJ7, "fill", "([II)V"⟩
def RJ3 : String := "jdk/internal/util/Preconditions"
def TJ3 : u_T := fun k => match k with
  | _ => ("", "", "", false)
def tyJ3 : Nat → FieldType := fun k => match k with
  | _ => .int
abbrev cJ3_checkIndex_8e157 : ByteArray := prog_20_method_11_code
def yJ3_checkIndex_8e157 : MethodName := ⟨RJ3, "checkIndex", "(IILjava/util/function/BiFunction;)I"⟩
def RL : String := "RopeSwingLaw"
abbrev cL_law : ByteArray := code
def yL_law : MethodName := ⟨RL, "law", "([I)Z"⟩
/-- the tables' words that stay when the tables grow warmer -/
def TB : List Cond := lw_tbl.filter goodWord
theorem tb_of (i : Nat) (w : Cond) (h : lw_tbl[i]? = some w) (hg : goodWord w = true) : w ∈ TB := List.mem_filter.mpr ⟨List.mem_of_getElem? h, hg⟩
theorem tb_lw {w : Cond} (h : w ∈ TB) : w ∈ lw_tbl := (List.mem_filter.mp h).1
theorem tb_good {w : Cond} (h : w ∈ TB) : goodWord w = true := (List.mem_filter.mp h).2
/-- a method's words: its own code, and the tables' -/
abbrev WS (c0 : Cond) : List Cond := c0 :: TB
theorem ws_in {c0 w : Cond} (h : w ∈ TB) : w ∈ WS c0 := List.mem_cons_of_mem _ h
theorem ws_good {c0 c1 : Cond} (h : c1 ∈ TB) : GoodIn (WS c0) (WS c1) := fun w hw => (List.mem_cons.mp hw).elim (fun e => by subst e; exact ⟨ws_in h, good_of_word (tb_good h)⟩) (fun q => ⟨ws_in q, good_of_word (tb_good q)⟩)
theorem ws_V {c0 : Cond} {own C : String} {idx n : Nat} {y : MethodName} {b : ByteArray} {r : Option FieldType} (h1 : Cond.methodLink own idx y ∈ TB) (h2 : Cond.instanceMethod y ∈ TB) (h3 : Cond.selects C y y ∈ TB) (h4 : Cond.initialized C ∈ TB) (h5 : Cond.code y b n r ∈ TB) : GoodIn (WS c0) (wsV own idx C y (WS (.code y b n r))) := by
  intro w hw
  have g : ∀ {v : Cond}, v ∈ TB → v ∈ WS c0 ∧ ((v.onTables && v.keeps) = true ∨ ∃ ty, v = .arrayClass ty) := fun q => ⟨ws_in q, good_of_word (tb_good q)⟩
  rcases List.mem_append.mp hw with q | q
  · simp only [List.mem_cons, List.not_mem_nil, or_false] at q
    rcases q with rfl | rfl | rfl | rfl
    · exact g h1
    · exact g h2
    · exact g h3
    · exact g h4
  · exact ws_good h5 w q
theorem ws_S {c0 : Cond} {own : String} {idx n : Nat} {y : MethodName} {b : ByteArray} {r : Option FieldType} (h1 : Cond.methodLink own idx y ∈ TB) (h2 : Cond.static y ∈ TB) (h4 : Cond.initialized y.cls ∈ TB) (h5 : Cond.code y b n r ∈ TB) : GoodIn (WS c0) (va_wsS own idx y (WS (.code y b n r))) := by
  intro w hw
  have g : ∀ {v : Cond}, v ∈ TB → v ∈ WS c0 ∧ ((v.onTables && v.keeps) = true ∨ ∃ ty, v = .arrayClass ty) := fun q => ⟨ws_in q, good_of_word (tb_good q)⟩
  rcases List.mem_append.mp hw with q | q
  · simp only [List.mem_cons, List.not_mem_nil, or_false] at q
    rcases q with rfl | rfl | rfl
    · exact g h1
    · exact g h2
    · exact g h4
  · exact ws_good h5 w q
theorem tb_at {ws : List Cond} (is : List Nat) (h : ws = is.filterMap (fun i => lw_tbl[i]?)) (hg : ws.all goodWord = true) : ∀ w ∈ ws, w ∈ TB := by
  intro w hw
  have hg1 := List.all_eq_true.mp hg w hw
  rw [h] at hw
  obtain ⟨i, -, hi⟩ := List.mem_filterMap.mp hw
  exact tb_of i w hi hg1

theorem wd_0 : (Jvm.Cond.selects "RopeSwing$Reader" ({ cls := "RopeSwing$Reader", name := "begin", desc := "()V" } : Jvm.MethodName) ({ cls := "RopeSwing$Reader", name := "begin", desc := "()V" } : Jvm.MethodName)) ∈ TB := tb_of 0 _ (by decide +kernel) rfl
theorem wd_1 : (Jvm.Cond.selects "RopeSwing$Reader" ({ cls := "RopeSwing$Reader", name := "take", desc := "()V" } : Jvm.MethodName) ({ cls := "RopeSwing$Reader", name := "take", desc := "()V" } : Jvm.MethodName)) ∈ TB := tb_of 1 _ (by decide +kernel) rfl
theorem wd_2 : (Jvm.Cond.selects "RopeSwing$Reader" ({ cls := "RopeSwing$Reader", name := "clauseInHand", desc := "()I" } : Jvm.MethodName) ({ cls := "RopeSwing$Reader", name := "clauseInHand", desc := "()I" } : Jvm.MethodName)) ∈ TB := tb_of 2 _ (by decide +kernel) rfl
theorem wd_3 : (Jvm.Cond.selects "RopeSwing$Reader" ({ cls := "RopeSwing$Reader", name := "isWord", desc := "(Ljava/lang/String;)Z" } : Jvm.MethodName) ({ cls := "RopeSwing$Reader", name := "isWord", desc := "(Ljava/lang/String;)Z" } : Jvm.MethodName)) ∈ TB := tb_of 3 _ (by decide +kernel) rfl
theorem wd_4 : (Jvm.Cond.selects "RopeSwing$Reader" ({ cls := "RopeSwing$Reader", name := "fail", desc := "(I)Z" } : Jvm.MethodName) ({ cls := "RopeSwing$Reader", name := "fail", desc := "(I)Z" } : Jvm.MethodName)) ∈ TB := tb_of 4 _ (by decide +kernel) rfl
theorem wd_5 : (Jvm.Cond.selects "RopeSwing$Reader" ({ cls := "RopeSwing$Reader", name := "readClause", desc := "(ILRopeSwing$Place;)Z" } : Jvm.MethodName) ({ cls := "RopeSwing$Reader", name := "readClause", desc := "(ILRopeSwing$Place;)Z" } : Jvm.MethodName)) ∈ TB := tb_of 5 _ (by decide +kernel) rfl
theorem wd_6 : (Jvm.Cond.selects "RopeSwing$Reader" ({ cls := "RopeSwing$Reader", name := "readList", desc := "([II)Z" } : Jvm.MethodName) ({ cls := "RopeSwing$Reader", name := "readList", desc := "([II)Z" } : Jvm.MethodName)) ∈ TB := tb_of 6 _ (by decide +kernel) rfl
theorem wd_7 : (Jvm.Cond.selects "RopeSwing$Reader" ({ cls := "RopeSwing$Reader", name := "takeNumber", desc := "(II)Z" } : Jvm.MethodName) ({ cls := "RopeSwing$Reader", name := "takeNumber", desc := "(II)Z" } : Jvm.MethodName)) ∈ TB := tb_of 7 _ (by decide +kernel) rfl
theorem wd_8 : (Jvm.Cond.selects "RopeSwing$Reader" ({ cls := "RopeSwing$Reader", name := "isSign", desc := "(I)Z" } : Jvm.MethodName) ({ cls := "RopeSwing$Reader", name := "isSign", desc := "(I)Z" } : Jvm.MethodName)) ∈ TB := tb_of 8 _ (by decide +kernel) rfl
theorem wd_9 : (Jvm.Cond.selects "RopeSwing$Reader" ({ cls := "RopeSwing$Reader", name := "readStones", desc := "([I)Z" } : Jvm.MethodName) ({ cls := "RopeSwing$Reader", name := "readStones", desc := "([I)Z" } : Jvm.MethodName)) ∈ TB := tb_of 9 _ (by decide +kernel) rfl
theorem wd_10 : (Jvm.Cond.selects "RopeSwing$Reader" ({ cls := "RopeSwing$Reader", name := "readNumbers", desc := "(II[I)Z" } : Jvm.MethodName) ({ cls := "RopeSwing$Reader", name := "readNumbers", desc := "(II[I)Z" } : Jvm.MethodName)) ∈ TB := tb_of 10 _ (by decide +kernel) rfl
theorem wd_11 : (Jvm.Cond.selects "RopeSwing" ({ cls := "RopeSwing", name := "lowerNow", desc := "()I" } : Jvm.MethodName) ({ cls := "RopeSwing", name := "lowerNow", desc := "()I" } : Jvm.MethodName)) ∈ TB := tb_of 11 _ (by decide +kernel) rfl
theorem wd_12 : (Jvm.Cond.selects "RopeSwing" ({ cls := "RopeSwing", name := "swingerAt", desc := "(I)LRopeSwing$Swinger;" } : Jvm.MethodName) ({ cls := "RopeSwing", name := "swingerAt", desc := "(I)LRopeSwing$Swinger;" } : Jvm.MethodName)) ∈ TB := tb_of 12 _ (by decide +kernel) rfl
theorem wd_13 : (Jvm.Cond.selects "RopeSwing" ({ cls := "RopeSwing", name := "mostInHand", desc := "(I)I" } : Jvm.MethodName) ({ cls := "RopeSwing", name := "mostInHand", desc := "(I)I" } : Jvm.MethodName)) ∈ TB := tb_of 13 _ (by decide +kernel) rfl
theorem wd_14 : (Jvm.Cond.selects "RopeSwing" ({ cls := "RopeSwing", name := "lengthNow", desc := "()I" } : Jvm.MethodName) ({ cls := "RopeSwing", name := "lengthNow", desc := "()I" } : Jvm.MethodName)) ∈ TB := tb_of 14 _ (by decide +kernel) rfl
theorem wd_15 : (Jvm.Cond.selects "RopeSwing" ({ cls := "RopeSwing", name := "strengthAfter", desc := "(I)I" } : Jvm.MethodName) ({ cls := "RopeSwing", name := "strengthAfter", desc := "(I)I" } : Jvm.MethodName)) ∈ TB := tb_of 15 _ (by decide +kernel) rfl
theorem wd_16 : (Jvm.Cond.selects "RopeSwing" ({ cls := "RopeSwing", name := "traceNow", desc := "()V" } : Jvm.MethodName) ({ cls := "RopeSwing", name := "traceNow", desc := "()V" } : Jvm.MethodName)) ∈ TB := tb_of 16 _ (by decide +kernel) rfl
theorem wd_17 : (Jvm.Cond.selects "RopeSwing$Path" ({ cls := "RopeSwing$Path", name := "note", desc := "(I)V" } : Jvm.MethodName) ({ cls := "RopeSwing$Path", name := "note", desc := "(I)V" } : Jvm.MethodName)) ∈ TB := tb_of 17 _ (by decide +kernel) rfl
theorem wd_18 : (Jvm.Cond.selects "RopeSwing" ({ cls := "RopeSwing", name := "ready", desc := "(LRopeSwing$Swinger;)V" } : Jvm.MethodName) ({ cls := "RopeSwing", name := "ready", desc := "(LRopeSwing$Swinger;)V" } : Jvm.MethodName)) ∈ TB := tb_of 18 _ (by decide +kernel) rfl
theorem wd_19 : (Jvm.Cond.selects "RopeSwing$Jump" ({ cls := "RopeSwing$Jump", name := "stopsBehind", desc := "(III)I" } : Jvm.MethodName) ({ cls := "RopeSwing$Jump", name := "stopsBehind", desc := "(III)I" } : Jvm.MethodName)) ∈ TB := tb_of 19 _ (by decide +kernel) rfl
theorem wd_20 : (Jvm.Cond.selects "RopeSwing$Jump" ({ cls := "RopeSwing$Jump", name := "canLetGo", desc := "(I)Z" } : Jvm.MethodName) ({ cls := "RopeSwing$Jump", name := "canLetGo", desc := "(I)Z" } : Jvm.MethodName)) ∈ TB := tb_of 20 _ (by decide +kernel) rfl
theorem wd_21 : (Jvm.Cond.selects "RopeSwing$Jump" ({ cls := "RopeSwing$Jump", name := "fly", desc := "(I)V" } : Jvm.MethodName) ({ cls := "RopeSwing$Jump", name := "fly", desc := "(I)V" } : Jvm.MethodName)) ∈ TB := tb_of 21 _ (by decide +kernel) rfl
theorem wd_22 : (Jvm.Cond.selects "RopeSwing$Jump" ({ cls := "RopeSwing$Jump", name := "landing", desc := "(I)I" } : Jvm.MethodName) ({ cls := "RopeSwing$Jump", name := "landing", desc := "(I)I" } : Jvm.MethodName)) ∈ TB := tb_of 22 _ (by decide +kernel) rfl
theorem wd_23 : (Jvm.Cond.selects "RopeSwing" ({ cls := "RopeSwing", name := "findFarthest", desc := "()V" } : Jvm.MethodName) ({ cls := "RopeSwing", name := "findFarthest", desc := "()V" } : Jvm.MethodName)) ∈ TB := tb_of 23 _ (by decide +kernel) rfl
theorem wd_24 : (Jvm.Cond.selects "RopeSwing" ({ cls := "RopeSwing", name := "harmedBy", desc := "(I)I" } : Jvm.MethodName) ({ cls := "RopeSwing", name := "harmedBy", desc := "(I)I" } : Jvm.MethodName)) ∈ TB := tb_of 24 _ (by decide +kernel) rfl
theorem wd_25 : (Jvm.Cond.selects "RopeSwing" ({ cls := "RopeSwing", name := "keptOut", desc := "(LRopeSwing$Swinger;I)Z" } : Jvm.MethodName) ({ cls := "RopeSwing", name := "keptOut", desc := "(LRopeSwing$Swinger;I)Z" } : Jvm.MethodName)) ∈ TB := tb_of 25 _ (by decide +kernel) rfl
theorem wd_26 : (Jvm.Cond.selects "RopeSwing" ({ cls := "RopeSwing", name := "comesToHarm", desc := "(LRopeSwing$Swinger;II)Z" } : Jvm.MethodName) ({ cls := "RopeSwing", name := "comesToHarm", desc := "(LRopeSwing$Swinger;II)Z" } : Jvm.MethodName)) ∈ TB := tb_of 26 _ (by decide +kernel) rfl
theorem wd_27 : (Jvm.Cond.selects "RopeSwing" ({ cls := "RopeSwing", name := "imageAt", desc := "(I)LRopeSwing$State;" } : Jvm.MethodName) ({ cls := "RopeSwing", name := "imageAt", desc := "(I)LRopeSwing$State;" } : Jvm.MethodName)) ∈ TB := tb_of 27 _ (by decide +kernel) rfl
theorem wd_28 : (Jvm.Cond.selects "RopeSwingModel" ({ cls := "RopeSwingModel", name := "bare", desc := "()V" } : Jvm.MethodName) ({ cls := "RopeSwingModel", name := "bare", desc := "()V" } : Jvm.MethodName)) ∈ TB := tb_of 28 _ (by decide +kernel) rfl
theorem wd_29 : (Jvm.Cond.selects "RopeSwingModel" ({ cls := "RopeSwingModel", name := "takePlace", desc := "()V" } : Jvm.MethodName) ({ cls := "RopeSwingModel", name := "takePlace", desc := "()V" } : Jvm.MethodName)) ∈ TB := tb_of 29 _ (by decide +kernel) rfl
theorem wd_30 : (Jvm.Cond.selects "RopeSwingModel" ({ cls := "RopeSwingModel", name := "here", desc := "()I" } : Jvm.MethodName) ({ cls := "RopeSwingModel", name := "here", desc := "()I" } : Jvm.MethodName)) ∈ TB := tb_of 30 _ (by decide +kernel) rfl
theorem wd_31 : (Jvm.Cond.selects "RopeSwingModel" ({ cls := "RopeSwingModel", name := "takeClause", desc := "()I" } : Jvm.MethodName) ({ cls := "RopeSwingModel", name := "takeClause", desc := "()I" } : Jvm.MethodName)) ∈ TB := tb_of 31 _ (by decide +kernel) rfl
theorem wd_32 : (Jvm.Cond.selects "RopeSwingModel" ({ cls := "RopeSwingModel", name := "readWord", desc := "()V" } : Jvm.MethodName) ({ cls := "RopeSwingModel", name := "readWord", desc := "()V" } : Jvm.MethodName)) ∈ TB := tb_of 32 _ (by decide +kernel) rfl
theorem wd_33 : (Jvm.Cond.selects "RopeSwingModel" ({ cls := "RopeSwingModel", name := "clauseOf", desc := "()I" } : Jvm.MethodName) ({ cls := "RopeSwingModel", name := "clauseOf", desc := "()I" } : Jvm.MethodName)) ∈ TB := tb_of 33 _ (by decide +kernel) rfl
theorem wd_34 : (Jvm.Cond.selects "RopeSwingModel" ({ cls := "RopeSwingModel", name := "fails", desc := "(II)I" } : Jvm.MethodName) ({ cls := "RopeSwingModel", name := "fails", desc := "(II)I" } : Jvm.MethodName)) ∈ TB := tb_of 34 _ (by decide +kernel) rfl
theorem wd_35 : (Jvm.Cond.selects "RopeSwingModel" ({ cls := "RopeSwingModel", name := "take", desc := "(III)I" } : Jvm.MethodName) ({ cls := "RopeSwingModel", name := "take", desc := "(III)I" } : Jvm.MethodName)) ∈ TB := tb_of 35 _ (by decide +kernel) rfl
theorem wd_36 : (Jvm.Cond.selects "RopeSwingModel" ({ cls := "RopeSwingModel", name := "takeNumber", desc := "(II)I" } : Jvm.MethodName) ({ cls := "RopeSwingModel", name := "takeNumber", desc := "(II)I" } : Jvm.MethodName)) ∈ TB := tb_of 36 _ (by decide +kernel) rfl
theorem wd_37 : (Jvm.Cond.selects "RopeSwingModel" ({ cls := "RopeSwingModel", name := "takeRope", desc := "()I" } : Jvm.MethodName) ({ cls := "RopeSwingModel", name := "takeRope", desc := "()I" } : Jvm.MethodName)) ∈ TB := tb_of 37 _ (by decide +kernel) rfl
theorem wd_38 : (Jvm.Cond.selects "RopeSwingModel" ({ cls := "RopeSwingModel", name := "takeStart", desc := "()I" } : Jvm.MethodName) ({ cls := "RopeSwingModel", name := "takeStart", desc := "()I" } : Jvm.MethodName)) ∈ TB := tb_of 38 _ (by decide +kernel) rfl
theorem wd_39 : (Jvm.Cond.selects "RopeSwingModel" ({ cls := "RopeSwingModel", name := "takeRow", desc := "([III)I" } : Jvm.MethodName) ({ cls := "RopeSwingModel", name := "takeRow", desc := "([III)I" } : Jvm.MethodName)) ∈ TB := tb_of 39 _ (by decide +kernel) rfl
theorem wd_40 : (Jvm.Cond.selects "RopeSwingModel" ({ cls := "RopeSwingModel", name := "isComma", desc := "()Z" } : Jvm.MethodName) ({ cls := "RopeSwingModel", name := "isComma", desc := "()Z" } : Jvm.MethodName)) ∈ TB := tb_of 40 _ (by decide +kernel) rfl
theorem wd_41 : (Jvm.Cond.selects "RopeSwingModel" ({ cls := "RopeSwingModel", name := "takeStones", desc := "()I" } : Jvm.MethodName) ({ cls := "RopeSwingModel", name := "takeStones", desc := "()I" } : Jvm.MethodName)) ∈ TB := tb_of 41 _ (by decide +kernel) rfl
theorem wd_42 : (Jvm.Cond.selects "RopeSwingModel" ({ cls := "RopeSwingModel", name := "takeStop", desc := "()I" } : Jvm.MethodName) ({ cls := "RopeSwingModel", name := "takeStop", desc := "()I" } : Jvm.MethodName)) ∈ TB := tb_of 42 _ (by decide +kernel) rfl
theorem wd_43 : (Jvm.Cond.selects "RopeSwingModel" ({ cls := "RopeSwingModel", name := "takeSwinger", desc := "()I" } : Jvm.MethodName) ({ cls := "RopeSwingModel", name := "takeSwinger", desc := "()I" } : Jvm.MethodName)) ∈ TB := tb_of 43 _ (by decide +kernel) rfl
theorem wd_44 : (Jvm.Cond.selects "RopeSwingModel" ({ cls := "RopeSwingModel", name := "depthOf", desc := "(I)I" } : Jvm.MethodName) ({ cls := "RopeSwingModel", name := "depthOf", desc := "(I)I" } : Jvm.MethodName)) ∈ TB := tb_of 44 _ (by decide +kernel) rfl
theorem wd_45 : (Jvm.Cond.selects "RopeSwingModel" ({ cls := "RopeSwingModel", name := "lower", desc := "()I" } : Jvm.MethodName) ({ cls := "RopeSwingModel", name := "lower", desc := "()I" } : Jvm.MethodName)) ∈ TB := tb_of 45 _ (by decide +kernel) rfl
theorem wd_46 : (Jvm.Cond.selects "RopeSwingModel" ({ cls := "RopeSwingModel", name := "kindOf", desc := "(I)I" } : Jvm.MethodName) ({ cls := "RopeSwingModel", name := "kindOf", desc := "(I)I" } : Jvm.MethodName)) ∈ TB := tb_of 46 _ (by decide +kernel) rfl
theorem wd_47 : (Jvm.Cond.selects "RopeSwingModel" ({ cls := "RopeSwingModel", name := "isSwinger", desc := "(I)Z" } : Jvm.MethodName) ({ cls := "RopeSwingModel", name := "isSwinger", desc := "(I)Z" } : Jvm.MethodName)) ∈ TB := tb_of 47 _ (by decide +kernel) rfl
theorem wd_48 : (Jvm.Cond.selects "RopeSwingModel" ({ cls := "RopeSwingModel", name := "strengthIn", desc := "(I)I" } : Jvm.MethodName) ({ cls := "RopeSwingModel", name := "strengthIn", desc := "(I)I" } : Jvm.MethodName)) ∈ TB := tb_of 48 _ (by decide +kernel) rfl
theorem wd_49 : (Jvm.Cond.selects "RopeSwingModel" ({ cls := "RopeSwingModel", name := "useHand", desc := "()V" } : Jvm.MethodName) ({ cls := "RopeSwingModel", name := "useHand", desc := "()V" } : Jvm.MethodName)) ∈ TB := tb_of 49 _ (by decide +kernel) rfl
theorem wd_50 : (Jvm.Cond.selects "RopeSwingModel" ({ cls := "RopeSwingModel", name := "usePerson", desc := "(I)V" } : Jvm.MethodName) ({ cls := "RopeSwingModel", name := "usePerson", desc := "(I)V" } : Jvm.MethodName)) ∈ TB := tb_of 50 _ (by decide +kernel) rfl
theorem wd_51 : (Jvm.Cond.selects "RopeSwingModel" ({ cls := "RopeSwingModel", name := "swing", desc := "()V" } : Jvm.MethodName) ({ cls := "RopeSwingModel", name := "swing", desc := "()V" } : Jvm.MethodName)) ∈ TB := tb_of 51 _ (by decide +kernel) rfl
theorem wd_52 : (Jvm.Cond.selects "RopeSwingModel" ({ cls := "RopeSwingModel", name := "pullOf", desc := "(III)I" } : Jvm.MethodName) ({ cls := "RopeSwingModel", name := "pullOf", desc := "(III)I" } : Jvm.MethodName)) ∈ TB := tb_of 52 _ (by decide +kernel) rfl
theorem wd_53 : (Jvm.Cond.selects "RopeSwingModel" ({ cls := "RopeSwingModel", name := "handsX", desc := "(I)I" } : Jvm.MethodName) ({ cls := "RopeSwingModel", name := "handsX", desc := "(I)I" } : Jvm.MethodName)) ∈ TB := tb_of 53 _ (by decide +kernel) rfl
theorem wd_54 : (Jvm.Cond.selects "RopeSwingModel" ({ cls := "RopeSwingModel", name := "handsHeight", desc := "(I)I" } : Jvm.MethodName) ({ cls := "RopeSwingModel", name := "handsHeight", desc := "(I)I" } : Jvm.MethodName)) ∈ TB := tb_of 54 _ (by decide +kernel) rfl
theorem wd_55 : (Jvm.Cond.selects "RopeSwingModel" ({ cls := "RopeSwingModel", name := "ready", desc := "(I)V" } : Jvm.MethodName) ({ cls := "RopeSwingModel", name := "ready", desc := "(I)V" } : Jvm.MethodName)) ∈ TB := tb_of 55 _ (by decide +kernel) rfl
theorem wd_56 : (Jvm.Cond.selects "RopeSwingModel" ({ cls := "RopeSwingModel", name := "letGo", desc := "(I)V" } : Jvm.MethodName) ({ cls := "RopeSwingModel", name := "letGo", desc := "(I)V" } : Jvm.MethodName)) ∈ TB := tb_of 56 _ (by decide +kernel) rfl
theorem wd_57 : (Jvm.Cond.selects "RopeSwingModel" ({ cls := "RopeSwingModel", name := "endAt", desc := "(II)I" } : Jvm.MethodName) ({ cls := "RopeSwingModel", name := "endAt", desc := "(II)I" } : Jvm.MethodName)) ∈ TB := tb_of 57 _ (by decide +kernel) rfl
theorem wd_58 : (Jvm.Cond.selects "RopeSwingModel" ({ cls := "RopeSwingModel", name := "fly", desc := "(IZ)V" } : Jvm.MethodName) ({ cls := "RopeSwingModel", name := "fly", desc := "(IZ)V" } : Jvm.MethodName)) ∈ TB := tb_of 58 _ (by decide +kernel) rfl
theorem wd_59 : (Jvm.Cond.selects "RopeSwingModel" ({ cls := "RopeSwingModel", name := "isDown", desc := "(JJ)Z" } : Jvm.MethodName) ({ cls := "RopeSwingModel", name := "isDown", desc := "(JJ)Z" } : Jvm.MethodName)) ∈ TB := tb_of 59 _ (by decide +kernel) rfl
theorem wd_60 : (Jvm.Cond.selects "RopeSwingModel" ({ cls := "RopeSwingModel", name := "land", desc := "(IZ)V" } : Jvm.MethodName) ({ cls := "RopeSwingModel", name := "land", desc := "(IZ)V" } : Jvm.MethodName)) ∈ TB := tb_of 60 _ (by decide +kernel) rfl
theorem wd_61 : (Jvm.Cond.selects "RopeSwingModel" ({ cls := "RopeSwingModel", name := "bestTime", desc := "(I)I" } : Jvm.MethodName) ({ cls := "RopeSwingModel", name := "bestTime", desc := "(I)I" } : Jvm.MethodName)) ∈ TB := tb_of 61 _ (by decide +kernel) rfl
theorem wd_62 : (Jvm.Cond.selects "RopeSwingModel" ({ cls := "RopeSwingModel", name := "isGood", desc := "(I)Z" } : Jvm.MethodName) ({ cls := "RopeSwingModel", name := "isGood", desc := "(I)Z" } : Jvm.MethodName)) ∈ TB := tb_of 62 _ (by decide +kernel) rfl
theorem wd_63 : (Jvm.Cond.selects "RopeSwingModel" ({ cls := "RopeSwingModel", name := "wideRow", desc := "()I" } : Jvm.MethodName) ({ cls := "RopeSwingModel", name := "wideRow", desc := "()I" } : Jvm.MethodName)) ∈ TB := tb_of 63 _ (by decide +kernel) rfl
theorem wd_64 : (Jvm.Cond.selects "RopeSwingModel" ({ cls := "RopeSwingModel", name := "hasGood", desc := "()Z" } : Jvm.MethodName) ({ cls := "RopeSwingModel", name := "hasGood", desc := "()Z" } : Jvm.MethodName)) ∈ TB := tb_of 64 _ (by decide +kernel) rfl
theorem wd_65 : (Jvm.Cond.selects "RopeSwingModel" ({ cls := "RopeSwingModel", name := "findFarthest", desc := "()V" } : Jvm.MethodName) ({ cls := "RopeSwingModel", name := "findFarthest", desc := "()V" } : Jvm.MethodName)) ∈ TB := tb_of 65 _ (by decide +kernel) rfl
theorem wd_66 : (Jvm.Cond.selects "RopeSwingModel" ({ cls := "RopeSwingModel", name := "harmedBy", desc := "(I)I" } : Jvm.MethodName) ({ cls := "RopeSwingModel", name := "harmedBy", desc := "(I)I" } : Jvm.MethodName)) ∈ TB := tb_of 66 _ (by decide +kernel) rfl
theorem wd_67 : (Jvm.Cond.selects "RopeSwingModel" ({ cls := "RopeSwingModel", name := "isOut", desc := "(II)Z" } : Jvm.MethodName) ({ cls := "RopeSwingModel", name := "isOut", desc := "(II)Z" } : Jvm.MethodName)) ∈ TB := tb_of 67 _ (by decide +kernel) rfl
theorem wd_68 : (Jvm.Cond.selects "RopeSwingModel" ({ cls := "RopeSwingModel", name := "draw", desc := "(I)I" } : Jvm.MethodName) ({ cls := "RopeSwingModel", name := "draw", desc := "(I)I" } : Jvm.MethodName)) ∈ TB := tb_of 68 _ (by decide +kernel) rfl
theorem wd_69 : (Jvm.Cond.initialized "RopeSwingLaw") ∈ TB := tb_of 69 _ (by decide +kernel) rfl
theorem wd_70 : (Jvm.Cond.initialized "RopeSwing") ∈ TB := tb_of 70 _ (by decide +kernel) rfl
theorem wd_71 : (Jvm.Cond.initialized "RopeSwing$Text") ∈ TB := tb_of 71 _ (by decide +kernel) rfl
theorem wd_72 : (Jvm.Cond.initialized "RopeSwing$Reader") ∈ TB := tb_of 72 _ (by decide +kernel) rfl
theorem wd_73 : (Jvm.Cond.initialized "RopeSwing$Place") ∈ TB := tb_of 73 _ (by decide +kernel) rfl
theorem wd_74 : (Jvm.Cond.initialized "java/lang/Math") ∈ TB := tb_of 74 _ (by decide +kernel) rfl
theorem wd_75 : (Jvm.Cond.initialized "java/lang/System") ∈ TB := tb_of 75 _ (by decide +kernel) rfl
theorem wd_76 : (Jvm.Cond.initialized "java/util/Arrays") ∈ TB := tb_of 76 _ (by decide +kernel) rfl
theorem wd_77 : (Jvm.Cond.initialized "RopeSwing$Swinger") ∈ TB := tb_of 77 _ (by decide +kernel) rfl
theorem wd_78 : (Jvm.Cond.initialized "RopeSwing$State") ∈ TB := tb_of 78 _ (by decide +kernel) rfl
theorem wd_79 : (Jvm.Cond.initialized "RopeSwing$Pendulum") ∈ TB := tb_of 79 _ (by decide +kernel) rfl
theorem wd_80 : (Jvm.Cond.initialized "RopeSwing$Path") ∈ TB := tb_of 80 _ (by decide +kernel) rfl
theorem wd_81 : (Jvm.Cond.initialized "RopeSwing$Jump") ∈ TB := tb_of 81 _ (by decide +kernel) rfl
theorem wd_82 : (Jvm.Cond.initialized "RopeSwing$Times") ∈ TB := tb_of 82 _ (by decide +kernel) rfl
theorem wd_83 : (Jvm.Cond.initialized "RopeSwingModel") ∈ TB := tb_of 83 _ (by decide +kernel) rfl
theorem wd_84 : (Jvm.Cond.initialized "java/lang/String") ∈ TB := tb_of 84 _ (by decide +kernel) rfl
theorem wd_85 : (Jvm.Cond.initialized "java/lang/StringLatin1") ∈ TB := tb_of 85 _ (by decide +kernel) rfl
theorem wd_86 : (Jvm.Cond.initialized "jdk/internal/util/Preconditions") ∈ TB := tb_of 86 _ (by decide +kernel) rfl
theorem wd_87 : (Jvm.Cond.initialized "java/lang/StringUTF16") ∈ TB := tb_of 87 _ (by decide +kernel) rfl
theorem wd_88 : (Jvm.Cond.initialized "java/lang/Integer") ∈ TB := tb_of 88 _ (by decide +kernel) rfl
theorem wd_89 : (Jvm.Cond.classLink "RopeSwingLaw" (7 : Nat) "RopeSwing") ∈ TB := tb_of 89 _ (by decide +kernel) rfl
theorem wd_90 : (Jvm.Cond.instantiable "RopeSwing" (14 : Nat)) ∈ TB := tb_of 90 _ (by decide +kernel) rfl
theorem wd_91 : (Jvm.Cond.methodLink "RopeSwingLaw" (9 : Nat) ({ cls := "RopeSwing", name := "<init>", desc := "()V" } : Jvm.MethodName)) ∈ TB := tb_of 91 _ (by decide +kernel) rfl
theorem wd_92 : (Jvm.Cond.instanceMethod ({ cls := "RopeSwing", name := "<init>", desc := "()V" } : Jvm.MethodName)) ∈ TB := tb_of 92 _ (by decide +kernel) rfl
theorem wd_93 : (Jvm.Cond.code ({ cls := "RopeSwing", name := "<init>", desc := "()V" } : Jvm.MethodName) prog_1_method_1_code (2 : Nat) (Option.none : Option Jvm.ClassFile.FieldType)) ∈ TB := tb_of 93 _ (by decide +kernel) rfl
theorem wd_94 : (Jvm.Cond.methodLink "RopeSwing" (1 : Nat) ({ cls := "java/lang/Object", name := "<init>", desc := "()V" } : Jvm.MethodName)) ∈ TB := tb_of 94 _ (by decide +kernel) rfl
theorem wd_95 : (Jvm.Cond.instanceMethod ({ cls := "java/lang/Object", name := "<init>", desc := "()V" } : Jvm.MethodName)) ∈ TB := tb_of 95 _ (by decide +kernel) rfl
theorem wd_96 : (Jvm.Cond.code ({ cls := "java/lang/Object", name := "<init>", desc := "()V" } : Jvm.MethodName) object_method_1_code (1 : Nat) (Option.none : Option Jvm.ClassFile.FieldType)) ∈ TB := tb_of 96 _ (by decide +kernel) rfl
theorem wd_97 : (Jvm.Cond.classLink "RopeSwing" (7 : Nat) "RopeSwing$Text") ∈ TB := tb_of 97 _ (by decide +kernel) rfl
theorem wd_98 : (Jvm.Cond.instantiable "RopeSwing$Text" (2 : Nat)) ∈ TB := tb_of 98 _ (by decide +kernel) rfl
theorem wd_100 : (Jvm.Cond.instanceMethod ({ cls := "RopeSwing$Text", name := "<init>", desc := "()V" } : Jvm.MethodName)) ∈ TB := tb_of 100 _ (by decide +kernel) rfl
theorem wd_101 : (Jvm.Cond.code ({ cls := "RopeSwing$Text", name := "<init>", desc := "()V" } : Jvm.MethodName) prog_9_method_1_code (1 : Nat) (Option.none : Option Jvm.ClassFile.FieldType)) ∈ TB := tb_of 101 _ (by decide +kernel) rfl
theorem wd_102 : (Jvm.Cond.methodLink "RopeSwing$Text" (3 : Nat) ({ cls := "java/lang/Object", name := "<init>", desc := "()V" } : Jvm.MethodName)) ∈ TB := tb_of 102 _ (by decide +kernel) rfl
theorem wd_103 : (Jvm.Cond.fieldLink "RopeSwing$Text" (11 : Nat) "RopeSwing$Text" "bytes" "[I") ∈ TB := tb_of 103 _ (by decide +kernel) rfl
theorem wd_104 : (Jvm.Cond.fieldLink "RopeSwing$Text" (15 : Nat) "RopeSwing$Text" "length" "I") ∈ TB := tb_of 104 _ (by decide +kernel) rfl
theorem wd_105 : (Jvm.Cond.laysFinal "RopeSwing$Text" "RopeSwing$Text" "bytes" "[I") ∈ TB := tb_of 105 _ (by decide +kernel) rfl
theorem wd_107 : (Jvm.Cond.lays "RopeSwing$Text" "RopeSwing$Text" "length" "I") ∈ TB := tb_of 107 _ (by decide +kernel) rfl
theorem wd_110 : (Jvm.Cond.arrayClass Jvm.ClassFile.FieldType.int) ∈ TB := tb_of 110 _ (by decide +kernel) rfl
theorem wd_111 : (Jvm.Cond.classLink "RopeSwing" (16 : Nat) "RopeSwing$Reader") ∈ TB := tb_of 111 _ (by decide +kernel) rfl
theorem wd_112 : (Jvm.Cond.instantiable "RopeSwing$Reader" (8 : Nat)) ∈ TB := tb_of 112 _ (by decide +kernel) rfl
theorem wd_113 : (Jvm.Cond.methodLink "RopeSwing" (18 : Nat) ({ cls := "RopeSwing$Reader", name := "<init>", desc := "(LRopeSwing$Text;)V" } : Jvm.MethodName)) ∈ TB := tb_of 113 _ (by decide +kernel) rfl
theorem wd_114 : (Jvm.Cond.instanceMethod ({ cls := "RopeSwing$Reader", name := "<init>", desc := "(LRopeSwing$Text;)V" } : Jvm.MethodName)) ∈ TB := tb_of 114 _ (by decide +kernel) rfl
theorem wd_115 : (Jvm.Cond.code ({ cls := "RopeSwing$Reader", name := "<init>", desc := "(LRopeSwing$Text;)V" } : Jvm.MethodName) prog_6_method_1_code (2 : Nat) (Option.none : Option Jvm.ClassFile.FieldType)) ∈ TB := tb_of 115 _ (by decide +kernel) rfl
theorem wd_116 : (Jvm.Cond.methodLink "RopeSwing$Reader" (3 : Nat) ({ cls := "java/lang/Object", name := "<init>", desc := "()V" } : Jvm.MethodName)) ∈ TB := tb_of 116 _ (by decide +kernel) rfl
theorem wd_117 : (Jvm.Cond.fieldLink "RopeSwing$Reader" (9 : Nat) "RopeSwing$Reader" "text" "LRopeSwing$Text;") ∈ TB := tb_of 117 _ (by decide +kernel) rfl
theorem wd_118 : (Jvm.Cond.fieldLink "RopeSwing$Reader" (113 : Nat) "RopeSwing$Reader" "next" "I") ∈ TB := tb_of 118 _ (by decide +kernel) rfl
theorem wd_119 : (Jvm.Cond.fieldLink "RopeSwing$Reader" (31 : Nat) "RopeSwing$Reader" "kind" "I") ∈ TB := tb_of 119 _ (by decide +kernel) rfl
theorem wd_120 : (Jvm.Cond.fieldLink "RopeSwing$Reader" (116 : Nat) "RopeSwing$Reader" "start" "I") ∈ TB := tb_of 120 _ (by decide +kernel) rfl
theorem wd_121 : (Jvm.Cond.fieldLink "RopeSwing$Reader" (63 : Nat) "RopeSwing$Reader" "value" "I") ∈ TB := tb_of 121 _ (by decide +kernel) rfl
theorem wd_122 : (Jvm.Cond.fieldLink "RopeSwing$Reader" (15 : Nat) "RopeSwing$Reader" "faultNumber" "I") ∈ TB := tb_of 122 _ (by decide +kernel) rfl
theorem wd_123 : (Jvm.Cond.fieldLink "RopeSwing$Reader" (19 : Nat) "RopeSwing$Reader" "faultAt" "I") ∈ TB := tb_of 123 _ (by decide +kernel) rfl
theorem wd_124 : (Jvm.Cond.fieldLink "RopeSwing$Reader" (22 : Nat) "RopeSwing$Reader" "clauses" "I") ∈ TB := tb_of 124 _ (by decide +kernel) rfl
theorem wd_125 : (Jvm.Cond.laysFinal "RopeSwing$Reader" "RopeSwing$Reader" "text" "LRopeSwing$Text;") ∈ TB := tb_of 125 _ (by decide +kernel) rfl
theorem wd_127 : (Jvm.Cond.lays "RopeSwing$Reader" "RopeSwing$Reader" "next" "I") ∈ TB := tb_of 127 _ (by decide +kernel) rfl
theorem wd_129 : (Jvm.Cond.lays "RopeSwing$Reader" "RopeSwing$Reader" "kind" "I") ∈ TB := tb_of 129 _ (by decide +kernel) rfl
theorem wd_131 : (Jvm.Cond.lays "RopeSwing$Reader" "RopeSwing$Reader" "start" "I") ∈ TB := tb_of 131 _ (by decide +kernel) rfl
theorem wd_133 : (Jvm.Cond.lays "RopeSwing$Reader" "RopeSwing$Reader" "value" "I") ∈ TB := tb_of 133 _ (by decide +kernel) rfl
theorem wd_135 : (Jvm.Cond.lays "RopeSwing$Reader" "RopeSwing$Reader" "faultNumber" "I") ∈ TB := tb_of 135 _ (by decide +kernel) rfl
theorem wd_137 : (Jvm.Cond.lays "RopeSwing$Reader" "RopeSwing$Reader" "faultAt" "I") ∈ TB := tb_of 137 _ (by decide +kernel) rfl
theorem wd_139 : (Jvm.Cond.lays "RopeSwing$Reader" "RopeSwing$Reader" "clauses" "I") ∈ TB := tb_of 139 _ (by decide +kernel) rfl
theorem wd_142 : (Jvm.Cond.classLink "RopeSwing" (25 : Nat) "RopeSwing$Place") ∈ TB := tb_of 142 _ (by decide +kernel) rfl
theorem wd_143 : (Jvm.Cond.instantiable "RopeSwing$Place" (4 : Nat)) ∈ TB := tb_of 143 _ (by decide +kernel) rfl
theorem wd_144 : (Jvm.Cond.methodLink "RopeSwing" (27 : Nat) ({ cls := "RopeSwing$Place", name := "<init>", desc := "()V" } : Jvm.MethodName)) ∈ TB := tb_of 144 _ (by decide +kernel) rfl
theorem wd_145 : (Jvm.Cond.instanceMethod ({ cls := "RopeSwing$Place", name := "<init>", desc := "()V" } : Jvm.MethodName)) ∈ TB := tb_of 145 _ (by decide +kernel) rfl
theorem wd_146 : (Jvm.Cond.code ({ cls := "RopeSwing$Place", name := "<init>", desc := "()V" } : Jvm.MethodName) prog_5_method_1_code (1 : Nat) (Option.none : Option Jvm.ClassFile.FieldType)) ∈ TB := tb_of 146 _ (by decide +kernel) rfl
theorem wd_147 : (Jvm.Cond.methodLink "RopeSwing$Place" (3 : Nat) ({ cls := "java/lang/Object", name := "<init>", desc := "()V" } : Jvm.MethodName)) ∈ TB := tb_of 147 _ (by decide +kernel) rfl
theorem wd_148 : (Jvm.Cond.methodLink "RopeSwing$Place" (24 : Nat) ({ cls := "RopeSwing$Place", name := "clear", desc := "()V" } : Jvm.MethodName)) ∈ TB := tb_of 148 _ (by decide +kernel) rfl
theorem wd_149 : (Jvm.Cond.instanceMethod ({ cls := "RopeSwing$Place", name := "clear", desc := "()V" } : Jvm.MethodName)) ∈ TB := tb_of 149 _ (by decide +kernel) rfl
theorem wd_150 : (Jvm.Cond.selects "RopeSwing$Place" ({ cls := "RopeSwing$Place", name := "clear", desc := "()V" } : Jvm.MethodName) ({ cls := "RopeSwing$Place", name := "clear", desc := "()V" } : Jvm.MethodName)) ∈ TB := tb_of 150 _ (by decide +kernel) rfl
theorem wd_151 : (Jvm.Cond.code ({ cls := "RopeSwing$Place", name := "clear", desc := "()V" } : Jvm.MethodName) prog_5_method_2_code (1 : Nat) (Option.none : Option Jvm.ClassFile.FieldType)) ∈ TB := tb_of 151 _ (by decide +kernel) rfl
theorem wd_152 : (Jvm.Cond.fieldLink "RopeSwing$Place" (27 : Nat) "RopeSwing$Place" "UNTOLD" "[I") ∈ TB := tb_of 152 _ (by decide +kernel) rfl
theorem wd_154 : (Jvm.Cond.methodLink "RopeSwing$Place" (30 : Nat) ({ cls := "java/lang/Math", name := "min", desc := "(II)I" } : Jvm.MethodName)) ∈ TB := tb_of 154 _ (by decide +kernel) rfl
theorem wd_155 : (Jvm.Cond.static ({ cls := "java/lang/Math", name := "min", desc := "(II)I" } : Jvm.MethodName)) ∈ TB := tb_of 155 _ (by decide +kernel) rfl
theorem wd_156 : (Jvm.Cond.code ({ cls := "java/lang/Math", name := "min", desc := "(II)I" } : Jvm.MethodName) prog_14_method_69_code (2 : Nat) (Option.some Jvm.ClassFile.FieldType.int)) ∈ TB := tb_of 156 _ (by decide +kernel) rfl
theorem wd_157 : (Jvm.Cond.methodLink "RopeSwing$Place" (36 : Nat) ({ cls := "java/lang/System", name := "arraycopy", desc := "(Ljava/lang/Object;ILjava/lang/Object;II)V" } : Jvm.MethodName)) ∈ TB := tb_of 157 _ (by decide +kernel) rfl
theorem wd_158 : (Jvm.Cond.static ({ cls := "java/lang/System", name := "arraycopy", desc := "(Ljava/lang/Object;ILjava/lang/Object;II)V" } : Jvm.MethodName)) ∈ TB := tb_of 158 _ (by decide +kernel) rfl
theorem wd_160 : (Jvm.Cond.methodLink "RopeSwing$Place" (42 : Nat) ({ cls := "java/util/Arrays", name := "fill", desc := "([II)V" } : Jvm.MethodName)) ∈ TB := tb_of 160 _ (by decide +kernel) rfl
theorem wd_161 : (Jvm.Cond.static ({ cls := "java/util/Arrays", name := "fill", desc := "([II)V" } : Jvm.MethodName)) ∈ TB := tb_of 161 _ (by decide +kernel) rfl
theorem wd_162 : (Jvm.Cond.code ({ cls := "java/util/Arrays", name := "fill", desc := "([II)V" } : Jvm.MethodName) prog_19_method_103_code (4 : Nat) (Option.none : Option Jvm.ClassFile.FieldType)) ∈ TB := tb_of 162 _ (by decide +kernel) rfl
theorem wd_163 : (Jvm.Cond.fieldLink "RopeSwing$Place" (9 : Nat) "RopeSwing$Place" "numbers" "[I") ∈ TB := tb_of 163 _ (by decide +kernel) rfl
theorem wd_165 : (Jvm.Cond.fieldLink "RopeSwing$Place" (15 : Nat) "RopeSwing$Place" "depths" "[I") ∈ TB := tb_of 165 _ (by decide +kernel) rfl
theorem wd_167 : (Jvm.Cond.fieldLink "RopeSwing$Place" (18 : Nat) "RopeSwing$Place" "stones" "[I") ∈ TB := tb_of 167 _ (by decide +kernel) rfl
theorem wd_169 : (Jvm.Cond.fieldLink "RopeSwing$Place" (21 : Nat) "RopeSwing$Place" "lower" "[I") ∈ TB := tb_of 169 _ (by decide +kernel) rfl
theorem wd_171 : (Jvm.Cond.laysFinal "RopeSwing$Place" "RopeSwing$Place" "numbers" "[I") ∈ TB := tb_of 171 _ (by decide +kernel) rfl
theorem wd_173 : (Jvm.Cond.laysFinal "RopeSwing$Place" "RopeSwing$Place" "depths" "[I") ∈ TB := tb_of 173 _ (by decide +kernel) rfl
theorem wd_175 : (Jvm.Cond.laysFinal "RopeSwing$Place" "RopeSwing$Place" "stones" "[I") ∈ TB := tb_of 175 _ (by decide +kernel) rfl
theorem wd_177 : (Jvm.Cond.laysFinal "RopeSwing$Place" "RopeSwing$Place" "lower" "[I") ∈ TB := tb_of 177 _ (by decide +kernel) rfl
theorem wd_180 : (Jvm.Cond.classLink "RopeSwing" (35 : Nat) "RopeSwing$Swinger") ∈ TB := tb_of 180 _ (by decide +kernel) rfl
theorem wd_182 : (Jvm.Cond.instantiable "RopeSwing$Swinger" (1 : Nat)) ∈ TB := tb_of 182 _ (by decide +kernel) rfl
theorem wd_184 : (Jvm.Cond.instanceMethod ({ cls := "RopeSwing$Swinger", name := "<init>", desc := "()V" } : Jvm.MethodName)) ∈ TB := tb_of 184 _ (by decide +kernel) rfl
theorem wd_185 : (Jvm.Cond.code ({ cls := "RopeSwing$Swinger", name := "<init>", desc := "()V" } : Jvm.MethodName) prog_8_method_1_code (1 : Nat) (Option.none : Option Jvm.ClassFile.FieldType)) ∈ TB := tb_of 185 _ (by decide +kernel) rfl
theorem wd_186 : (Jvm.Cond.methodLink "RopeSwing$Swinger" (1 : Nat) ({ cls := "java/lang/Object", name := "<init>", desc := "()V" } : Jvm.MethodName)) ∈ TB := tb_of 186 _ (by decide +kernel) rfl
theorem wd_187 : (Jvm.Cond.fieldLink "RopeSwing$Swinger" (9 : Nat) "RopeSwing$Swinger" "numbers" "[I") ∈ TB := tb_of 187 _ (by decide +kernel) rfl
theorem wd_189 : (Jvm.Cond.laysFinal "RopeSwing$Swinger" "RopeSwing$Swinger" "numbers" "[I") ∈ TB := tb_of 189 _ (by decide +kernel) rfl
theorem wd_192 : (Jvm.Cond.classLink "RopeSwing" (42 : Nat) "RopeSwing$State") ∈ TB := tb_of 192 _ (by decide +kernel) rfl
theorem wd_193 : (Jvm.Cond.instantiable "RopeSwing$State" (4 : Nat)) ∈ TB := tb_of 193 _ (by decide +kernel) rfl
theorem wd_195 : (Jvm.Cond.instanceMethod ({ cls := "RopeSwing$State", name := "<init>", desc := "()V" } : Jvm.MethodName)) ∈ TB := tb_of 195 _ (by decide +kernel) rfl
theorem wd_196 : (Jvm.Cond.code ({ cls := "RopeSwing$State", name := "<init>", desc := "()V" } : Jvm.MethodName) prog_7_method_1_code (1 : Nat) (Option.none : Option Jvm.ClassFile.FieldType)) ∈ TB := tb_of 196 _ (by decide +kernel) rfl
theorem wd_197 : (Jvm.Cond.methodLink "RopeSwing$State" (3 : Nat) ({ cls := "java/lang/Object", name := "<init>", desc := "()V" } : Jvm.MethodName)) ∈ TB := tb_of 197 _ (by decide +kernel) rfl
theorem wd_198 : (Jvm.Cond.fieldLink "RopeSwing$State" (9 : Nat) "RopeSwing$State" "inHand" "[I") ∈ TB := tb_of 198 _ (by decide +kernel) rfl
theorem wd_199 : (Jvm.Cond.fieldLink "RopeSwing$State" (15 : Nat) "RopeSwing$State" "ends" "[I") ∈ TB := tb_of 199 _ (by decide +kernel) rfl
theorem wd_200 : (Jvm.Cond.fieldLink "RopeSwing$State" (36 : Nat) "RopeSwing$State" "seed" "I") ∈ TB := tb_of 200 _ (by decide +kernel) rfl
theorem wd_203 : (Jvm.Cond.laysFinal "RopeSwing$State" "RopeSwing$State" "inHand" "[I") ∈ TB := tb_of 203 _ (by decide +kernel) rfl
theorem wd_205 : (Jvm.Cond.laysFinal "RopeSwing$State" "RopeSwing$State" "ends" "[I") ∈ TB := tb_of 205 _ (by decide +kernel) rfl
theorem wd_207 : (Jvm.Cond.lays "RopeSwing$State" "RopeSwing$State" "seed" "I") ∈ TB := tb_of 207 _ (by decide +kernel) rfl
theorem wd_209 : (Jvm.Cond.lays "RopeSwing$State" "RopeSwing$State" "kept" "Z") ∈ TB := tb_of 209 _ (by decide +kernel) rfl
theorem wd_213 : (Jvm.Cond.classLink "RopeSwing" (53 : Nat) "RopeSwing$Pendulum") ∈ TB := tb_of 213 _ (by decide +kernel) rfl
theorem wd_214 : (Jvm.Cond.instantiable "RopeSwing$Pendulum" (3 : Nat)) ∈ TB := tb_of 214 _ (by decide +kernel) rfl
theorem wd_216 : (Jvm.Cond.instanceMethod ({ cls := "RopeSwing$Pendulum", name := "<init>", desc := "()V" } : Jvm.MethodName)) ∈ TB := tb_of 216 _ (by decide +kernel) rfl
theorem wd_217 : (Jvm.Cond.code ({ cls := "RopeSwing$Pendulum", name := "<init>", desc := "()V" } : Jvm.MethodName) prog_4_method_1_code (1 : Nat) (Option.none : Option Jvm.ClassFile.FieldType)) ∈ TB := tb_of 217 _ (by decide +kernel) rfl
theorem wd_218 : (Jvm.Cond.methodLink "RopeSwing$Pendulum" (1 : Nat) ({ cls := "java/lang/Object", name := "<init>", desc := "()V" } : Jvm.MethodName)) ∈ TB := tb_of 218 _ (by decide +kernel) rfl
theorem wd_219 : (Jvm.Cond.fieldLink "RopeSwing$Pendulum" (7 : Nat) "RopeSwing$Pendulum" "length" "I") ∈ TB := tb_of 219 _ (by decide +kernel) rfl
theorem wd_220 : (Jvm.Cond.fieldLink "RopeSwing$Pendulum" (13 : Nat) "RopeSwing$Pendulum" "angle" "I") ∈ TB := tb_of 220 _ (by decide +kernel) rfl
theorem wd_223 : (Jvm.Cond.fieldLink "RopeSwing$Pendulum" (22 : Nat) "RopeSwing$Pendulum" "pace" "I") ∈ TB := tb_of 223 _ (by decide +kernel) rfl
theorem wd_225 : (Jvm.Cond.lays "RopeSwing$Pendulum" "RopeSwing$Pendulum" "length" "I") ∈ TB := tb_of 225 _ (by decide +kernel) rfl
theorem wd_227 : (Jvm.Cond.lays "RopeSwing$Pendulum" "RopeSwing$Pendulum" "angle" "I") ∈ TB := tb_of 227 _ (by decide +kernel) rfl
theorem wd_229 : (Jvm.Cond.lays "RopeSwing$Pendulum" "RopeSwing$Pendulum" "pace" "I") ∈ TB := tb_of 229 _ (by decide +kernel) rfl
theorem wd_232 : (Jvm.Cond.classLink "RopeSwing" (60 : Nat) "RopeSwing$Path") ∈ TB := tb_of 232 _ (by decide +kernel) rfl
theorem wd_233 : (Jvm.Cond.instantiable "RopeSwing$Path" (13 : Nat)) ∈ TB := tb_of 233 _ (by decide +kernel) rfl
theorem wd_235 : (Jvm.Cond.instanceMethod ({ cls := "RopeSwing$Path", name := "<init>", desc := "()V" } : Jvm.MethodName)) ∈ TB := tb_of 235 _ (by decide +kernel) rfl
theorem wd_236 : (Jvm.Cond.code ({ cls := "RopeSwing$Path", name := "<init>", desc := "()V" } : Jvm.MethodName) prog_3_method_1_code (1 : Nat) (Option.none : Option Jvm.ClassFile.FieldType)) ∈ TB := tb_of 236 _ (by decide +kernel) rfl
theorem wd_237 : (Jvm.Cond.methodLink "RopeSwing$Path" (3 : Nat) ({ cls := "java/lang/Object", name := "<init>", desc := "()V" } : Jvm.MethodName)) ∈ TB := tb_of 237 _ (by decide +kernel) rfl
theorem wd_238 : (Jvm.Cond.classLink "RopeSwing$Path" (9 : Nat) "RopeSwing$Pendulum") ∈ TB := tb_of 238 _ (by decide +kernel) rfl
theorem wd_240 : (Jvm.Cond.fieldLink "RopeSwing$Path" (12 : Nat) "RopeSwing$Path" "pendulum" "LRopeSwing$Pendulum;") ∈ TB := tb_of 240 _ (by decide +kernel) rfl
theorem wd_241 : (Jvm.Cond.fieldLink "RopeSwing$Path" (18 : Nat) "RopeSwing$Path" "angle" "[I") ∈ TB := tb_of 241 _ (by decide +kernel) rfl
theorem wd_242 : (Jvm.Cond.fieldLink "RopeSwing$Path" (22 : Nat) "RopeSwing$Path" "pace" "[I") ∈ TB := tb_of 242 _ (by decide +kernel) rfl
theorem wd_243 : (Jvm.Cond.fieldLink "RopeSwing$Path" (25 : Nat) "RopeSwing$Path" "x" "[I") ∈ TB := tb_of 243 _ (by decide +kernel) rfl
theorem wd_244 : (Jvm.Cond.fieldLink "RopeSwing$Path" (28 : Nat) "RopeSwing$Path" "height" "[I") ∈ TB := tb_of 244 _ (by decide +kernel) rfl
theorem wd_245 : (Jvm.Cond.fieldLink "RopeSwing$Path" (31 : Nat) "RopeSwing$Path" "load" "[I") ∈ TB := tb_of 245 _ (by decide +kernel) rfl
theorem wd_246 : (Jvm.Cond.fieldLink "RopeSwing$Path" (34 : Nat) "RopeSwing$Path" "across" "[I") ∈ TB := tb_of 246 _ (by decide +kernel) rfl
theorem wd_247 : (Jvm.Cond.fieldLink "RopeSwing$Path" (37 : Nat) "RopeSwing$Path" "up" "[I") ∈ TB := tb_of 247 _ (by decide +kernel) rfl
theorem wd_248 : (Jvm.Cond.fieldLink "RopeSwing$Path" (40 : Nat) "RopeSwing$Path" "traced" "Z") ∈ TB := tb_of 248 _ (by decide +kernel) rfl
theorem wd_249 : (Jvm.Cond.fieldLink "RopeSwing$Path" (44 : Nat) "RopeSwing$Path" "bough" "I") ∈ TB := tb_of 249 _ (by decide +kernel) rfl
theorem wd_250 : (Jvm.Cond.fieldLink "RopeSwing$Path" (48 : Nat) "RopeSwing$Path" "length" "I") ∈ TB := tb_of 250 _ (by decide +kernel) rfl
theorem wd_251 : (Jvm.Cond.fieldLink "RopeSwing$Path" (51 : Nat) "RopeSwing$Path" "back" "I") ∈ TB := tb_of 251 _ (by decide +kernel) rfl
theorem wd_252 : (Jvm.Cond.fieldLink "RopeSwing$Path" (54 : Nat) "RopeSwing$Path" "run" "I") ∈ TB := tb_of 252 _ (by decide +kernel) rfl
theorem wd_253 : (Jvm.Cond.laysFinal "RopeSwing$Path" "RopeSwing$Path" "pendulum" "LRopeSwing$Pendulum;") ∈ TB := tb_of 253 _ (by decide +kernel) rfl
theorem wd_255 : (Jvm.Cond.laysFinal "RopeSwing$Path" "RopeSwing$Path" "angle" "[I") ∈ TB := tb_of 255 _ (by decide +kernel) rfl
theorem wd_257 : (Jvm.Cond.laysFinal "RopeSwing$Path" "RopeSwing$Path" "pace" "[I") ∈ TB := tb_of 257 _ (by decide +kernel) rfl
theorem wd_259 : (Jvm.Cond.laysFinal "RopeSwing$Path" "RopeSwing$Path" "x" "[I") ∈ TB := tb_of 259 _ (by decide +kernel) rfl
theorem wd_261 : (Jvm.Cond.laysFinal "RopeSwing$Path" "RopeSwing$Path" "height" "[I") ∈ TB := tb_of 261 _ (by decide +kernel) rfl
theorem wd_263 : (Jvm.Cond.laysFinal "RopeSwing$Path" "RopeSwing$Path" "load" "[I") ∈ TB := tb_of 263 _ (by decide +kernel) rfl
theorem wd_265 : (Jvm.Cond.laysFinal "RopeSwing$Path" "RopeSwing$Path" "across" "[I") ∈ TB := tb_of 265 _ (by decide +kernel) rfl
theorem wd_267 : (Jvm.Cond.laysFinal "RopeSwing$Path" "RopeSwing$Path" "up" "[I") ∈ TB := tb_of 267 _ (by decide +kernel) rfl
theorem wd_269 : (Jvm.Cond.lays "RopeSwing$Path" "RopeSwing$Path" "traced" "Z") ∈ TB := tb_of 269 _ (by decide +kernel) rfl
theorem wd_271 : (Jvm.Cond.lays "RopeSwing$Path" "RopeSwing$Path" "bough" "I") ∈ TB := tb_of 271 _ (by decide +kernel) rfl
theorem wd_273 : (Jvm.Cond.lays "RopeSwing$Path" "RopeSwing$Path" "length" "I") ∈ TB := tb_of 273 _ (by decide +kernel) rfl
theorem wd_275 : (Jvm.Cond.lays "RopeSwing$Path" "RopeSwing$Path" "back" "I") ∈ TB := tb_of 275 _ (by decide +kernel) rfl
theorem wd_277 : (Jvm.Cond.lays "RopeSwing$Path" "RopeSwing$Path" "run" "I") ∈ TB := tb_of 277 _ (by decide +kernel) rfl
theorem wd_280 : (Jvm.Cond.classLink "RopeSwing" (67 : Nat) "RopeSwing$Jump") ∈ TB := tb_of 280 _ (by decide +kernel) rfl
theorem wd_281 : (Jvm.Cond.instantiable "RopeSwing$Jump" (17 : Nat)) ∈ TB := tb_of 281 _ (by decide +kernel) rfl
theorem wd_282 : (Jvm.Cond.methodLink "RopeSwing" (69 : Nat) ({ cls := "RopeSwing$Jump", name := "<init>", desc := "(LRopeSwing$Place;LRopeSwing$Path;)V" } : Jvm.MethodName)) ∈ TB := tb_of 282 _ (by decide +kernel) rfl
theorem wd_283 : (Jvm.Cond.instanceMethod ({ cls := "RopeSwing$Jump", name := "<init>", desc := "(LRopeSwing$Place;LRopeSwing$Path;)V" } : Jvm.MethodName)) ∈ TB := tb_of 283 _ (by decide +kernel) rfl
theorem wd_284 : (Jvm.Cond.code ({ cls := "RopeSwing$Jump", name := "<init>", desc := "(LRopeSwing$Place;LRopeSwing$Path;)V" } : Jvm.MethodName) prog_2_method_1_code (3 : Nat) (Option.none : Option Jvm.ClassFile.FieldType)) ∈ TB := tb_of 284 _ (by decide +kernel) rfl
theorem wd_285 : (Jvm.Cond.methodLink "RopeSwing$Jump" (3 : Nat) ({ cls := "java/lang/Object", name := "<init>", desc := "()V" } : Jvm.MethodName)) ∈ TB := tb_of 285 _ (by decide +kernel) rfl
theorem wd_286 : (Jvm.Cond.fieldLink "RopeSwing$Jump" (9 : Nat) "RopeSwing$Jump" "place" "LRopeSwing$Place;") ∈ TB := tb_of 286 _ (by decide +kernel) rfl
theorem wd_287 : (Jvm.Cond.fieldLink "RopeSwing$Jump" (15 : Nat) "RopeSwing$Jump" "path" "LRopeSwing$Path;") ∈ TB := tb_of 287 _ (by decide +kernel) rfl
theorem wd_288 : (Jvm.Cond.fieldLink "RopeSwing$Jump" (60 : Nat) "RopeSwing$Jump" "strength" "I") ∈ TB := tb_of 288 _ (by decide +kernel) rfl
theorem wd_290 : (Jvm.Cond.fieldLink "RopeSwing$Jump" (75 : Nat) "RopeSwing$Jump" "lower" "I") ∈ TB := tb_of 290 _ (by decide +kernel) rfl
theorem wd_292 : (Jvm.Cond.fieldLink "RopeSwing$Jump" (25 : Nat) "RopeSwing$Jump" "weight" "I") ∈ TB := tb_of 292 _ (by decide +kernel) rfl
theorem wd_293 : (Jvm.Cond.fieldLink "RopeSwing$Jump" (29 : Nat) "RopeSwing$Jump" "feet" "I") ∈ TB := tb_of 293 _ (by decide +kernel) rfl
theorem wd_294 : (Jvm.Cond.fieldLink "RopeSwing$Jump" (32 : Nat) "RopeSwing$Jump" "grip" "I") ∈ TB := tb_of 294 _ (by decide +kernel) rfl
theorem wd_295 : (Jvm.Cond.fieldLink "RopeSwing$Jump" (35 : Nat) "RopeSwing$Jump" "lag" "I") ∈ TB := tb_of 295 _ (by decide +kernel) rfl
theorem wd_298 : (Jvm.Cond.fieldLink "RopeSwing$Jump" (38 : Nat) "RopeSwing$Jump" "turning" "I") ∈ TB := tb_of 298 _ (by decide +kernel) rfl
theorem wd_300 : (Jvm.Cond.fieldLink "RopeSwing$Jump" (41 : Nat) "RopeSwing$Jump" "stop" "I") ∈ TB := tb_of 300 _ (by decide +kernel) rfl
theorem wd_301 : (Jvm.Cond.fieldLink "RopeSwing$Jump" (44 : Nat) "RopeSwing$Jump" "stopEnd" "I") ∈ TB := tb_of 301 _ (by decide +kernel) rfl
theorem wd_302 : (Jvm.Cond.fieldLink "RopeSwing$Jump" (92 : Nat) "RopeSwing$Jump" "end" "I") ∈ TB := tb_of 302 _ (by decide +kernel) rfl
theorem wd_305 : (Jvm.Cond.fieldLink "RopeSwing$Jump" (98 : Nat) "RopeSwing$Jump" "where" "I") ∈ TB := tb_of 305 _ (by decide +kernel) rfl
theorem wd_307 : (Jvm.Cond.fieldLink "RopeSwing$Jump" (95 : Nat) "RopeSwing$Jump" "heldTill" "I") ∈ TB := tb_of 307 _ (by decide +kernel) rfl
theorem wd_309 : (Jvm.Cond.fieldLink "RopeSwing$Jump" (101 : Nat) "RopeSwing$Jump" "flown" "I") ∈ TB := tb_of 309 _ (by decide +kernel) rfl
theorem wd_312 : (Jvm.Cond.fieldLink "RopeSwing$Jump" (104 : Nat) "RopeSwing$Jump" "highest" "I") ∈ TB := tb_of 312 _ (by decide +kernel) rfl
theorem wd_314 : (Jvm.Cond.fieldLink "RopeSwing$Jump" (107 : Nat) "RopeSwing$Jump" "turned" "I") ∈ TB := tb_of 314 _ (by decide +kernel) rfl
theorem wd_316 : (Jvm.Cond.laysFinal "RopeSwing$Jump" "RopeSwing$Jump" "place" "LRopeSwing$Place;") ∈ TB := tb_of 316 _ (by decide +kernel) rfl
theorem wd_318 : (Jvm.Cond.laysFinal "RopeSwing$Jump" "RopeSwing$Jump" "path" "LRopeSwing$Path;") ∈ TB := tb_of 318 _ (by decide +kernel) rfl
theorem wd_320 : (Jvm.Cond.lays "RopeSwing$Jump" "RopeSwing$Jump" "strength" "I") ∈ TB := tb_of 320 _ (by decide +kernel) rfl
theorem wd_322 : (Jvm.Cond.lays "RopeSwing$Jump" "RopeSwing$Jump" "lower" "I") ∈ TB := tb_of 322 _ (by decide +kernel) rfl
theorem wd_324 : (Jvm.Cond.lays "RopeSwing$Jump" "RopeSwing$Jump" "weight" "I") ∈ TB := tb_of 324 _ (by decide +kernel) rfl
theorem wd_326 : (Jvm.Cond.lays "RopeSwing$Jump" "RopeSwing$Jump" "feet" "I") ∈ TB := tb_of 326 _ (by decide +kernel) rfl
theorem wd_328 : (Jvm.Cond.lays "RopeSwing$Jump" "RopeSwing$Jump" "grip" "I") ∈ TB := tb_of 328 _ (by decide +kernel) rfl
theorem wd_330 : (Jvm.Cond.lays "RopeSwing$Jump" "RopeSwing$Jump" "lag" "I") ∈ TB := tb_of 330 _ (by decide +kernel) rfl
theorem wd_332 : (Jvm.Cond.lays "RopeSwing$Jump" "RopeSwing$Jump" "turning" "I") ∈ TB := tb_of 332 _ (by decide +kernel) rfl
theorem wd_334 : (Jvm.Cond.lays "RopeSwing$Jump" "RopeSwing$Jump" "stop" "I") ∈ TB := tb_of 334 _ (by decide +kernel) rfl
theorem wd_336 : (Jvm.Cond.lays "RopeSwing$Jump" "RopeSwing$Jump" "stopEnd" "I") ∈ TB := tb_of 336 _ (by decide +kernel) rfl
theorem wd_338 : (Jvm.Cond.lays "RopeSwing$Jump" "RopeSwing$Jump" "end" "I") ∈ TB := tb_of 338 _ (by decide +kernel) rfl
theorem wd_340 : (Jvm.Cond.lays "RopeSwing$Jump" "RopeSwing$Jump" "where" "I") ∈ TB := tb_of 340 _ (by decide +kernel) rfl
theorem wd_342 : (Jvm.Cond.lays "RopeSwing$Jump" "RopeSwing$Jump" "heldTill" "I") ∈ TB := tb_of 342 _ (by decide +kernel) rfl
theorem wd_344 : (Jvm.Cond.lays "RopeSwing$Jump" "RopeSwing$Jump" "flown" "I") ∈ TB := tb_of 344 _ (by decide +kernel) rfl
theorem wd_346 : (Jvm.Cond.lays "RopeSwing$Jump" "RopeSwing$Jump" "highest" "I") ∈ TB := tb_of 346 _ (by decide +kernel) rfl
theorem wd_348 : (Jvm.Cond.lays "RopeSwing$Jump" "RopeSwing$Jump" "turned" "I") ∈ TB := tb_of 348 _ (by decide +kernel) rfl
theorem wd_351 : (Jvm.Cond.classLink "RopeSwing" (76 : Nat) "RopeSwing$Times") ∈ TB := tb_of 351 _ (by decide +kernel) rfl
theorem wd_352 : (Jvm.Cond.instantiable "RopeSwing$Times" (5 : Nat)) ∈ TB := tb_of 352 _ (by decide +kernel) rfl
theorem wd_354 : (Jvm.Cond.instanceMethod ({ cls := "RopeSwing$Times", name := "<init>", desc := "()V" } : Jvm.MethodName)) ∈ TB := tb_of 354 _ (by decide +kernel) rfl
theorem wd_355 : (Jvm.Cond.code ({ cls := "RopeSwing$Times", name := "<init>", desc := "()V" } : Jvm.MethodName) prog_10_method_1_code (1 : Nat) (Option.none : Option Jvm.ClassFile.FieldType)) ∈ TB := tb_of 355 _ (by decide +kernel) rfl
theorem wd_356 : (Jvm.Cond.methodLink "RopeSwing$Times" (3 : Nat) ({ cls := "java/lang/Object", name := "<init>", desc := "()V" } : Jvm.MethodName)) ∈ TB := tb_of 356 _ (by decide +kernel) rfl
theorem wd_357 : (Jvm.Cond.fieldLink "RopeSwing$Times" (9 : Nat) "RopeSwing$Times" "farthest" "I") ∈ TB := tb_of 357 _ (by decide +kernel) rfl
theorem wd_359 : (Jvm.Cond.fieldLink "RopeSwing$Times" (15 : Nat) "RopeSwing$Times" "highest" "I") ∈ TB := tb_of 359 _ (by decide +kernel) rfl
theorem wd_361 : (Jvm.Cond.fieldLink "RopeSwing$Times" (18 : Nat) "RopeSwing$Times" "longest" "I") ∈ TB := tb_of 361 _ (by decide +kernel) rfl
theorem wd_363 : (Jvm.Cond.fieldLink "RopeSwing$Times" (21 : Nat) "RopeSwing$Times" "first" "I") ∈ TB := tb_of 363 _ (by decide +kernel) rfl
theorem wd_365 : (Jvm.Cond.fieldLink "RopeSwing$Times" (24 : Nat) "RopeSwing$Times" "good" "I") ∈ TB := tb_of 365 _ (by decide +kernel) rfl
theorem wd_367 : (Jvm.Cond.lays "RopeSwing$Times" "RopeSwing$Times" "farthest" "I") ∈ TB := tb_of 367 _ (by decide +kernel) rfl
theorem wd_369 : (Jvm.Cond.lays "RopeSwing$Times" "RopeSwing$Times" "highest" "I") ∈ TB := tb_of 369 _ (by decide +kernel) rfl
theorem wd_371 : (Jvm.Cond.lays "RopeSwing$Times" "RopeSwing$Times" "longest" "I") ∈ TB := tb_of 371 _ (by decide +kernel) rfl
theorem wd_373 : (Jvm.Cond.lays "RopeSwing$Times" "RopeSwing$Times" "first" "I") ∈ TB := tb_of 373 _ (by decide +kernel) rfl
theorem wd_375 : (Jvm.Cond.lays "RopeSwing$Times" "RopeSwing$Times" "good" "I") ∈ TB := tb_of 375 _ (by decide +kernel) rfl
theorem wd_378 : (Jvm.Cond.methodLink "RopeSwing" (91 : Nat) ({ cls := "RopeSwing$State", name := "begin", desc := "(LRopeSwing$Place;)V" } : Jvm.MethodName)) ∈ TB := tb_of 378 _ (by decide +kernel) rfl
theorem wd_379 : (Jvm.Cond.instanceMethod ({ cls := "RopeSwing$State", name := "begin", desc := "(LRopeSwing$Place;)V" } : Jvm.MethodName)) ∈ TB := tb_of 379 _ (by decide +kernel) rfl
theorem wd_380 : (Jvm.Cond.selects "RopeSwing$State" ({ cls := "RopeSwing$State", name := "begin", desc := "(LRopeSwing$Place;)V" } : Jvm.MethodName) ({ cls := "RopeSwing$State", name := "begin", desc := "(LRopeSwing$Place;)V" } : Jvm.MethodName)) ∈ TB := tb_of 380 _ (by decide +kernel) rfl
theorem wd_381 : (Jvm.Cond.code ({ cls := "RopeSwing$State", name := "begin", desc := "(LRopeSwing$Place;)V" } : Jvm.MethodName) prog_7_method_2_code (2 : Nat) (Option.none : Option Jvm.ClassFile.FieldType)) ∈ TB := tb_of 381 _ (by decide +kernel) rfl
theorem wd_382 : (Jvm.Cond.methodLink "RopeSwing$State" (18 : Nat) ({ cls := "RopeSwing$State", name := "take", desc := "(II)V" } : Jvm.MethodName)) ∈ TB := tb_of 382 _ (by decide +kernel) rfl
theorem wd_383 : (Jvm.Cond.instanceMethod ({ cls := "RopeSwing$State", name := "take", desc := "(II)V" } : Jvm.MethodName)) ∈ TB := tb_of 383 _ (by decide +kernel) rfl
theorem wd_384 : (Jvm.Cond.selects "RopeSwing$State" ({ cls := "RopeSwing$State", name := "take", desc := "(II)V" } : Jvm.MethodName) ({ cls := "RopeSwing$State", name := "take", desc := "(II)V" } : Jvm.MethodName)) ∈ TB := tb_of 384 _ (by decide +kernel) rfl
theorem wd_385 : (Jvm.Cond.code ({ cls := "RopeSwing$State", name := "take", desc := "(II)V" } : Jvm.MethodName) prog_7_method_4_code (3 : Nat) (Option.none : Option Jvm.ClassFile.FieldType)) ∈ TB := tb_of 385 _ (by decide +kernel) rfl
theorem wd_387 : (Jvm.Cond.static ({ cls := "RopeSwing", name := "put", desc := "([III)V" } : Jvm.MethodName)) ∈ TB := tb_of 387 _ (by decide +kernel) rfl
theorem wd_388 : (Jvm.Cond.code ({ cls := "RopeSwing", name := "put", desc := "([III)V" } : Jvm.MethodName) prog_1_method_48_code (3 : Nat) (Option.none : Option Jvm.ClassFile.FieldType)) ∈ TB := tb_of 388 _ (by decide +kernel) rfl
theorem wd_389 : (Jvm.Cond.methodLink "RopeSwing$State" (22 : Nat) ({ cls := "RopeSwing$Place", name := "number", desc := "(I)I" } : Jvm.MethodName)) ∈ TB := tb_of 389 _ (by decide +kernel) rfl
theorem wd_390 : (Jvm.Cond.instanceMethod ({ cls := "RopeSwing$Place", name := "number", desc := "(I)I" } : Jvm.MethodName)) ∈ TB := tb_of 390 _ (by decide +kernel) rfl
theorem wd_391 : (Jvm.Cond.selects "RopeSwing$Place" ({ cls := "RopeSwing$Place", name := "number", desc := "(I)I" } : Jvm.MethodName) ({ cls := "RopeSwing$Place", name := "number", desc := "(I)I" } : Jvm.MethodName)) ∈ TB := tb_of 391 _ (by decide +kernel) rfl
theorem wd_392 : (Jvm.Cond.code ({ cls := "RopeSwing$Place", name := "number", desc := "(I)I" } : Jvm.MethodName) prog_5_method_4_code (2 : Nat) (Option.some Jvm.ClassFile.FieldType.int)) ∈ TB := tb_of 392 _ (by decide +kernel) rfl
theorem wd_393 : (Jvm.Cond.fieldLink "RopeSwing" (10 : Nat) "RopeSwing" "text" "LRopeSwing$Text;") ∈ TB := tb_of 393 _ (by decide +kernel) rfl
theorem wd_394 : (Jvm.Cond.fieldLink "RopeSwing" (21 : Nat) "RopeSwing" "reader" "LRopeSwing$Reader;") ∈ TB := tb_of 394 _ (by decide +kernel) rfl
theorem wd_395 : (Jvm.Cond.fieldLink "RopeSwing" (28 : Nat) "RopeSwing" "place" "LRopeSwing$Place;") ∈ TB := tb_of 395 _ (by decide +kernel) rfl
theorem wd_396 : (Jvm.Cond.fieldLink "RopeSwing" (32 : Nat) "RopeSwing" "draft" "LRopeSwing$Place;") ∈ TB := tb_of 396 _ (by decide +kernel) rfl
theorem wd_397 : (Jvm.Cond.fieldLink "RopeSwing" (37 : Nat) "RopeSwing" "swingers" "[LRopeSwing$Swinger;") ∈ TB := tb_of 397 _ (by decide +kernel) rfl
theorem wd_398 : (Jvm.Cond.fieldLink "RopeSwing" (125 : Nat) "RopeSwing" "howMany" "I") ∈ TB := tb_of 398 _ (by decide +kernel) rfl
theorem wd_399 : (Jvm.Cond.fieldLink "RopeSwing" (45 : Nat) "RopeSwing" "state" "LRopeSwing$State;") ∈ TB := tb_of 399 _ (by decide +kernel) rfl
theorem wd_400 : (Jvm.Cond.fieldLink "RopeSwing" (49 : Nat) "RopeSwing" "images" "[LRopeSwing$State;") ∈ TB := tb_of 400 _ (by decide +kernel) rfl
theorem wd_401 : (Jvm.Cond.fieldLink "RopeSwing" (56 : Nat) "RopeSwing" "pendulum" "LRopeSwing$Pendulum;") ∈ TB := tb_of 401 _ (by decide +kernel) rfl
theorem wd_402 : (Jvm.Cond.fieldLink "RopeSwing" (63 : Nat) "RopeSwing" "path" "LRopeSwing$Path;") ∈ TB := tb_of 402 _ (by decide +kernel) rfl
theorem wd_403 : (Jvm.Cond.fieldLink "RopeSwing" (72 : Nat) "RopeSwing" "jump" "LRopeSwing$Jump;") ∈ TB := tb_of 403 _ (by decide +kernel) rfl
theorem wd_404 : (Jvm.Cond.fieldLink "RopeSwing" (79 : Nat) "RopeSwing" "times" "LRopeSwing$Times;") ∈ TB := tb_of 404 _ (by decide +kernel) rfl
theorem wd_405 : (Jvm.Cond.fieldLink "RopeSwing" (83 : Nat) "RopeSwing" "farthest" "[I") ∈ TB := tb_of 405 _ (by decide +kernel) rfl
theorem wd_406 : (Jvm.Cond.fieldLink "RopeSwing" (87 : Nat) "RopeSwing" "faultAt" "I") ∈ TB := tb_of 406 _ (by decide +kernel) rfl
theorem wd_407 : (Jvm.Cond.laysFinal "RopeSwing" "RopeSwing" "text" "LRopeSwing$Text;") ∈ TB := tb_of 407 _ (by decide +kernel) rfl
theorem wd_409 : (Jvm.Cond.laysFinal "RopeSwing" "RopeSwing" "reader" "LRopeSwing$Reader;") ∈ TB := tb_of 409 _ (by decide +kernel) rfl
theorem wd_411 : (Jvm.Cond.laysFinal "RopeSwing" "RopeSwing" "place" "LRopeSwing$Place;") ∈ TB := tb_of 411 _ (by decide +kernel) rfl
theorem wd_413 : (Jvm.Cond.laysFinal "RopeSwing" "RopeSwing" "draft" "LRopeSwing$Place;") ∈ TB := tb_of 413 _ (by decide +kernel) rfl
theorem wd_415 : (Jvm.Cond.laysFinal "RopeSwing" "RopeSwing" "swingers" "[LRopeSwing$Swinger;") ∈ TB := tb_of 415 _ (by decide +kernel) rfl
theorem wd_417 : (Jvm.Cond.lays "RopeSwing" "RopeSwing" "howMany" "I") ∈ TB := tb_of 417 _ (by decide +kernel) rfl
theorem wd_419 : (Jvm.Cond.laysFinal "RopeSwing" "RopeSwing" "state" "LRopeSwing$State;") ∈ TB := tb_of 419 _ (by decide +kernel) rfl
theorem wd_421 : (Jvm.Cond.laysFinal "RopeSwing" "RopeSwing" "images" "[LRopeSwing$State;") ∈ TB := tb_of 421 _ (by decide +kernel) rfl
theorem wd_423 : (Jvm.Cond.laysFinal "RopeSwing" "RopeSwing" "pendulum" "LRopeSwing$Pendulum;") ∈ TB := tb_of 423 _ (by decide +kernel) rfl
theorem wd_425 : (Jvm.Cond.laysFinal "RopeSwing" "RopeSwing" "path" "LRopeSwing$Path;") ∈ TB := tb_of 425 _ (by decide +kernel) rfl
theorem wd_427 : (Jvm.Cond.laysFinal "RopeSwing" "RopeSwing" "jump" "LRopeSwing$Jump;") ∈ TB := tb_of 427 _ (by decide +kernel) rfl
theorem wd_429 : (Jvm.Cond.laysFinal "RopeSwing" "RopeSwing" "times" "LRopeSwing$Times;") ∈ TB := tb_of 429 _ (by decide +kernel) rfl
theorem wd_431 : (Jvm.Cond.laysFinal "RopeSwing" "RopeSwing" "farthest" "[I") ∈ TB := tb_of 431 _ (by decide +kernel) rfl
theorem wd_433 : (Jvm.Cond.lays "RopeSwing" "RopeSwing" "faultAt" "I") ∈ TB := tb_of 433 _ (by decide +kernel) rfl
theorem wd_436 : (Jvm.Cond.methodLink "RopeSwingLaw" (15 : Nat) ({ cls := "RopeSwing", name := "feed", desc := "(IJ)I" } : Jvm.MethodName)) ∈ TB := tb_of 436 _ (by decide +kernel) rfl
theorem wd_437 : (Jvm.Cond.instanceMethod ({ cls := "RopeSwing", name := "feed", desc := "(IJ)I" } : Jvm.MethodName)) ∈ TB := tb_of 437 _ (by decide +kernel) rfl
theorem wd_438 : (Jvm.Cond.selects "RopeSwing" ({ cls := "RopeSwing", name := "feed", desc := "(IJ)I" } : Jvm.MethodName) ({ cls := "RopeSwing", name := "feed", desc := "(IJ)I" } : Jvm.MethodName)) ∈ TB := tb_of 438 _ (by decide +kernel) rfl
theorem wd_439 : (Jvm.Cond.code ({ cls := "RopeSwing", name := "feed", desc := "(IJ)I" } : Jvm.MethodName) prog_1_method_2_code (5 : Nat) (Option.some Jvm.ClassFile.FieldType.int)) ∈ TB := tb_of 439 _ (by decide +kernel) rfl
theorem wd_440 : (Jvm.Cond.constant "RopeSwing" (95 : Nat) (-1000000002 : Int32)) ∈ TB := tb_of 440 _ (by decide +kernel) rfl
theorem wd_441 : (Jvm.Cond.methodLink "RopeSwing" (96 : Nat) ({ cls := "RopeSwing$Text", name := "length", desc := "()I" } : Jvm.MethodName)) ∈ TB := tb_of 441 _ (by decide +kernel) rfl
theorem wd_442 : (Jvm.Cond.instanceMethod ({ cls := "RopeSwing$Text", name := "length", desc := "()I" } : Jvm.MethodName)) ∈ TB := tb_of 442 _ (by decide +kernel) rfl
theorem wd_443 : (Jvm.Cond.selects "RopeSwing$Text" ({ cls := "RopeSwing$Text", name := "length", desc := "()I" } : Jvm.MethodName) ({ cls := "RopeSwing$Text", name := "length", desc := "()I" } : Jvm.MethodName)) ∈ TB := tb_of 443 _ (by decide +kernel) rfl
theorem wd_444 : (Jvm.Cond.code ({ cls := "RopeSwing$Text", name := "length", desc := "()I" } : Jvm.MethodName) prog_9_method_2_code (1 : Nat) (Option.some Jvm.ClassFile.FieldType.int)) ∈ TB := tb_of 444 _ (by decide +kernel) rfl
theorem wd_445 : (Jvm.Cond.constant "RopeSwing" (100 : Nat) (-1000000004 : Int32)) ∈ TB := tb_of 445 _ (by decide +kernel) rfl
theorem wd_446 : (Jvm.Cond.methodLink "RopeSwing" (101 : Nat) ({ cls := "RopeSwing$Text", name := "add", desc := "(I)V" } : Jvm.MethodName)) ∈ TB := tb_of 446 _ (by decide +kernel) rfl
theorem wd_447 : (Jvm.Cond.instanceMethod ({ cls := "RopeSwing$Text", name := "add", desc := "(I)V" } : Jvm.MethodName)) ∈ TB := tb_of 447 _ (by decide +kernel) rfl
theorem wd_448 : (Jvm.Cond.selects "RopeSwing$Text" ({ cls := "RopeSwing$Text", name := "add", desc := "(I)V" } : Jvm.MethodName) ({ cls := "RopeSwing$Text", name := "add", desc := "(I)V" } : Jvm.MethodName)) ∈ TB := tb_of 448 _ (by decide +kernel) rfl
theorem wd_449 : (Jvm.Cond.code ({ cls := "RopeSwing$Text", name := "add", desc := "(I)V" } : Jvm.MethodName) prog_9_method_3_code (2 : Nat) (Option.none : Option Jvm.ClassFile.FieldType)) ∈ TB := tb_of 449 _ (by decide +kernel) rfl
theorem wd_451 : (Jvm.Cond.methodLink "RopeSwingLaw" (20 : Nat) ({ cls := "RopeSwing", name := "place", desc := "()I" } : Jvm.MethodName)) ∈ TB := tb_of 451 _ (by decide +kernel) rfl
theorem wd_452 : (Jvm.Cond.instanceMethod ({ cls := "RopeSwing", name := "place", desc := "()I" } : Jvm.MethodName)) ∈ TB := tb_of 452 _ (by decide +kernel) rfl
theorem wd_453 : (Jvm.Cond.selects "RopeSwing" ({ cls := "RopeSwing", name := "place", desc := "()I" } : Jvm.MethodName) ({ cls := "RopeSwing", name := "place", desc := "()I" } : Jvm.MethodName)) ∈ TB := tb_of 453 _ (by decide +kernel) rfl
theorem wd_454 : (Jvm.Cond.code ({ cls := "RopeSwing", name := "place", desc := "()I" } : Jvm.MethodName) prog_1_method_3_code (2 : Nat) (Option.some Jvm.ClassFile.FieldType.int)) ∈ TB := tb_of 454 _ (by decide +kernel) rfl
theorem wd_455 : (Jvm.Cond.methodLink "RopeSwing" (105 : Nat) ({ cls := "RopeSwing$Place", name := "clear", desc := "()V" } : Jvm.MethodName)) ∈ TB := tb_of 455 _ (by decide +kernel) rfl
theorem wd_456 : (Jvm.Cond.methodLink "RopeSwing" (108 : Nat) ({ cls := "RopeSwing$Reader", name := "readPlace", desc := "(LRopeSwing$Place;)Z" } : Jvm.MethodName)) ∈ TB := tb_of 456 _ (by decide +kernel) rfl
theorem wd_457 : (Jvm.Cond.instanceMethod ({ cls := "RopeSwing$Reader", name := "readPlace", desc := "(LRopeSwing$Place;)Z" } : Jvm.MethodName)) ∈ TB := tb_of 457 _ (by decide +kernel) rfl
theorem wd_458 : (Jvm.Cond.selects "RopeSwing$Reader" ({ cls := "RopeSwing$Reader", name := "readPlace", desc := "(LRopeSwing$Place;)Z" } : Jvm.MethodName) ({ cls := "RopeSwing$Reader", name := "readPlace", desc := "(LRopeSwing$Place;)Z" } : Jvm.MethodName)) ∈ TB := tb_of 458 _ (by decide +kernel) rfl
theorem wd_459 : (Jvm.Cond.code ({ cls := "RopeSwing$Reader", name := "readPlace", desc := "(LRopeSwing$Place;)Z" } : Jvm.MethodName) prog_6_method_5_code (5 : Nat) (Option.some Jvm.ClassFile.FieldType.boolean)) ∈ TB := tb_of 459 _ (by decide +kernel) rfl
theorem wd_460 : (Jvm.Cond.methodLink "RopeSwing$Reader" (25 : Nat) ({ cls := "RopeSwing$Reader", name := "begin", desc := "()V" } : Jvm.MethodName)) ∈ TB := tb_of 460 _ (by decide +kernel) rfl
theorem wd_462 : (Jvm.Cond.instanceMethod ({ cls := "RopeSwing$Reader", name := "begin", desc := "()V" } : Jvm.MethodName)) ∈ TB := tb_of 462 _ (by decide +kernel) rfl
theorem wd_463 : (Jvm.Cond.code ({ cls := "RopeSwing$Reader", name := "begin", desc := "()V" } : Jvm.MethodName) prog_6_method_11_code (1 : Nat) (Option.none : Option Jvm.ClassFile.FieldType)) ∈ TB := tb_of 463 _ (by decide +kernel) rfl
theorem wd_464 : (Jvm.Cond.methodLink "RopeSwing$Reader" (28 : Nat) ({ cls := "RopeSwing$Reader", name := "take", desc := "()V" } : Jvm.MethodName)) ∈ TB := tb_of 464 _ (by decide +kernel) rfl
theorem wd_466 : (Jvm.Cond.instanceMethod ({ cls := "RopeSwing$Reader", name := "take", desc := "()V" } : Jvm.MethodName)) ∈ TB := tb_of 466 _ (by decide +kernel) rfl
theorem wd_467 : (Jvm.Cond.code ({ cls := "RopeSwing$Reader", name := "take", desc := "()V" } : Jvm.MethodName) prog_6_method_15_code (3 : Nat) (Option.none : Option Jvm.ClassFile.FieldType)) ∈ TB := tb_of 467 _ (by decide +kernel) rfl
theorem wd_468 : (Jvm.Cond.methodLink "RopeSwing$Reader" (123 : Nat) ({ cls := "RopeSwing$Text", name := "length", desc := "()I" } : Jvm.MethodName)) ∈ TB := tb_of 468 _ (by decide +kernel) rfl
theorem wd_469 : (Jvm.Cond.methodLink "RopeSwing$Reader" (128 : Nat) ({ cls := "RopeSwing$Text", name := "byteAt", desc := "(I)I" } : Jvm.MethodName)) ∈ TB := tb_of 469 _ (by decide +kernel) rfl
theorem wd_470 : (Jvm.Cond.instanceMethod ({ cls := "RopeSwing$Text", name := "byteAt", desc := "(I)I" } : Jvm.MethodName)) ∈ TB := tb_of 470 _ (by decide +kernel) rfl
theorem wd_471 : (Jvm.Cond.selects "RopeSwing$Text" ({ cls := "RopeSwing$Text", name := "byteAt", desc := "(I)I" } : Jvm.MethodName) ({ cls := "RopeSwing$Text", name := "byteAt", desc := "(I)I" } : Jvm.MethodName)) ∈ TB := tb_of 471 _ (by decide +kernel) rfl
theorem wd_472 : (Jvm.Cond.code ({ cls := "RopeSwing$Text", name := "byteAt", desc := "(I)I" } : Jvm.MethodName) prog_9_method_4_code (2 : Nat) (Option.some Jvm.ClassFile.FieldType.int)) ∈ TB := tb_of 472 _ (by decide +kernel) rfl
theorem wd_473 : (Jvm.Cond.methodLink "RopeSwing$Reader" (131 : Nat) ({ cls := "RopeSwing$Reader", name := "isLetter", desc := "(I)Z" } : Jvm.MethodName)) ∈ TB := tb_of 473 _ (by decide +kernel) rfl
theorem wd_474 : (Jvm.Cond.static ({ cls := "RopeSwing$Reader", name := "isLetter", desc := "(I)Z" } : Jvm.MethodName)) ∈ TB := tb_of 474 _ (by decide +kernel) rfl
theorem wd_475 : (Jvm.Cond.code ({ cls := "RopeSwing$Reader", name := "isLetter", desc := "(I)Z" } : Jvm.MethodName) prog_6_method_19_code (1 : Nat) (Option.some Jvm.ClassFile.FieldType.boolean)) ∈ TB := tb_of 475 _ (by decide +kernel) rfl
theorem wd_476 : (Jvm.Cond.methodLink "RopeSwing$Reader" (134 : Nat) ({ cls := "RopeSwing$Reader", name := "isFigure", desc := "(I)Z" } : Jvm.MethodName)) ∈ TB := tb_of 476 _ (by decide +kernel) rfl
theorem wd_477 : (Jvm.Cond.static ({ cls := "RopeSwing$Reader", name := "isFigure", desc := "(I)Z" } : Jvm.MethodName)) ∈ TB := tb_of 477 _ (by decide +kernel) rfl
theorem wd_478 : (Jvm.Cond.code ({ cls := "RopeSwing$Reader", name := "isFigure", desc := "(I)Z" } : Jvm.MethodName) prog_6_method_20_code (1 : Nat) (Option.some Jvm.ClassFile.FieldType.boolean)) ∈ TB := tb_of 478 _ (by decide +kernel) rfl
theorem wd_479 : (Jvm.Cond.methodLink "RopeSwing$Reader" (34 : Nat) ({ cls := "RopeSwing$Reader", name := "clauseInHand", desc := "()I" } : Jvm.MethodName)) ∈ TB := tb_of 479 _ (by decide +kernel) rfl
theorem wd_481 : (Jvm.Cond.instanceMethod ({ cls := "RopeSwing$Reader", name := "clauseInHand", desc := "()I" } : Jvm.MethodName)) ∈ TB := tb_of 481 _ (by decide +kernel) rfl
theorem wd_482 : (Jvm.Cond.code ({ cls := "RopeSwing$Reader", name := "clauseInHand", desc := "()I" } : Jvm.MethodName) prog_6_method_16_code (2 : Nat) (Option.some Jvm.ClassFile.FieldType.int)) ∈ TB := tb_of 482 _ (by decide +kernel) rfl
theorem wd_483 : (Jvm.Cond.methodLink "RopeSwing$Reader" (137 : Nat) ({ cls := "RopeSwing$Reader", name := "nameOf", desc := "(I)Ljava/lang/String;" } : Jvm.MethodName)) ∈ TB := tb_of 483 _ (by decide +kernel) rfl
theorem wd_484 : (Jvm.Cond.static ({ cls := "RopeSwing$Reader", name := "nameOf", desc := "(I)Ljava/lang/String;" } : Jvm.MethodName)) ∈ TB := tb_of 484 _ (by decide +kernel) rfl
theorem wd_485 : (Jvm.Cond.code ({ cls := "RopeSwing$Reader", name := "nameOf", desc := "(I)Ljava/lang/String;" } : Jvm.MethodName) prog_6_method_17_code (1 : Nat) (Option.some (Jvm.ClassFile.FieldType.object "java/lang/String"))) ∈ TB := tb_of 485 _ (by decide +kernel) rfl
theorem wd_495 : (Jvm.Cond.methodLink "RopeSwing$Reader" (141 : Nat) ({ cls := "RopeSwing$Reader", name := "isWord", desc := "(Ljava/lang/String;)Z" } : Jvm.MethodName)) ∈ TB := tb_of 495 _ (by decide +kernel) rfl
theorem wd_497 : (Jvm.Cond.instanceMethod ({ cls := "RopeSwing$Reader", name := "isWord", desc := "(Ljava/lang/String;)Z" } : Jvm.MethodName)) ∈ TB := tb_of 497 _ (by decide +kernel) rfl
theorem wd_498 : (Jvm.Cond.code ({ cls := "RopeSwing$Reader", name := "isWord", desc := "(Ljava/lang/String;)Z" } : Jvm.MethodName) prog_6_method_18_code (3 : Nat) (Option.some Jvm.ClassFile.FieldType.boolean)) ∈ TB := tb_of 498 _ (by decide +kernel) rfl
theorem wd_499 : (Jvm.Cond.methodLink "RopeSwing$Reader" (161 : Nat) ({ cls := "java/lang/String", name := "length", desc := "()I" } : Jvm.MethodName)) ∈ TB := tb_of 499 _ (by decide +kernel) rfl
theorem wd_500 : (Jvm.Cond.instanceMethod ({ cls := "java/lang/String", name := "length", desc := "()I" } : Jvm.MethodName)) ∈ TB := tb_of 500 _ (by decide +kernel) rfl
theorem wd_501 : (Jvm.Cond.selects "java/lang/String" ({ cls := "java/lang/String", name := "length", desc := "()I" } : Jvm.MethodName) ({ cls := "java/lang/String", name := "length", desc := "()I" } : Jvm.MethodName)) ∈ TB := tb_of 501 _ (by decide +kernel) rfl
theorem wd_502 : (Jvm.Cond.code ({ cls := "java/lang/String", name := "length", desc := "()I" } : Jvm.MethodName) prog_15_method_54_code (1 : Nat) (Option.some Jvm.ClassFile.FieldType.int)) ∈ TB := tb_of 502 _ (by decide +kernel) rfl
theorem wd_503 : (Jvm.Cond.methodLink "java/lang/String" (335 : Nat) ({ cls := "java/lang/String", name := "coder", desc := "()B" } : Jvm.MethodName)) ∈ TB := tb_of 503 _ (by decide +kernel) rfl
theorem wd_504 : (Jvm.Cond.instanceMethod ({ cls := "java/lang/String", name := "coder", desc := "()B" } : Jvm.MethodName)) ∈ TB := tb_of 504 _ (by decide +kernel) rfl
theorem wd_505 : (Jvm.Cond.selects "java/lang/String" ({ cls := "java/lang/String", name := "coder", desc := "()B" } : Jvm.MethodName) ({ cls := "java/lang/String", name := "coder", desc := "()B" } : Jvm.MethodName)) ∈ TB := tb_of 505 _ (by decide +kernel) rfl
theorem wd_506 : (Jvm.Cond.code ({ cls := "java/lang/String", name := "coder", desc := "()B" } : Jvm.MethodName) prog_15_method_152_code (1 : Nat) (Option.some Jvm.ClassFile.FieldType.byte)) ∈ TB := tb_of 506 _ (by decide +kernel) rfl
theorem wd_507 : (Jvm.Cond.fieldLink "java/lang/String" (38 : Nat) "java/lang/String" "COMPACT_STRINGS" "Z") ∈ TB := tb_of 507 _ (by decide +kernel) rfl
theorem wd_509 : (Jvm.Cond.methodLink "RopeSwing$Reader" (164 : Nat) ({ cls := "java/lang/String", name := "charAt", desc := "(I)C" } : Jvm.MethodName)) ∈ TB := tb_of 509 _ (by decide +kernel) rfl
theorem wd_510 : (Jvm.Cond.instanceMethod ({ cls := "java/lang/String", name := "charAt", desc := "(I)C" } : Jvm.MethodName)) ∈ TB := tb_of 510 _ (by decide +kernel) rfl
theorem wd_511 : (Jvm.Cond.selects "java/lang/String" ({ cls := "java/lang/String", name := "charAt", desc := "(I)C" } : Jvm.MethodName) ({ cls := "java/lang/String", name := "charAt", desc := "(I)C" } : Jvm.MethodName)) ∈ TB := tb_of 511 _ (by decide +kernel) rfl
theorem wd_512 : (Jvm.Cond.code ({ cls := "java/lang/String", name := "charAt", desc := "(I)C" } : Jvm.MethodName) prog_15_method_56_code (2 : Nat) (Option.some Jvm.ClassFile.FieldType.char)) ∈ TB := tb_of 512 _ (by decide +kernel) rfl
theorem wd_513 : (Jvm.Cond.methodLink "java/lang/String" (492 : Nat) ({ cls := "java/lang/String", name := "isLatin1", desc := "()Z" } : Jvm.MethodName)) ∈ TB := tb_of 513 _ (by decide +kernel) rfl
theorem wd_514 : (Jvm.Cond.instanceMethod ({ cls := "java/lang/String", name := "isLatin1", desc := "()Z" } : Jvm.MethodName)) ∈ TB := tb_of 514 _ (by decide +kernel) rfl
theorem wd_515 : (Jvm.Cond.selects "java/lang/String" ({ cls := "java/lang/String", name := "isLatin1", desc := "()Z" } : Jvm.MethodName) ({ cls := "java/lang/String", name := "isLatin1", desc := "()Z" } : Jvm.MethodName)) ∈ TB := tb_of 515 _ (by decide +kernel) rfl
theorem wd_516 : (Jvm.Cond.code ({ cls := "java/lang/String", name := "isLatin1", desc := "()Z" } : Jvm.MethodName) prog_15_method_154_code (1 : Nat) (Option.some Jvm.ClassFile.FieldType.boolean)) ∈ TB := tb_of 516 _ (by decide +kernel) rfl
theorem wd_517 : (Jvm.Cond.methodLink "java/lang/String" (495 : Nat) ({ cls := "java/lang/StringLatin1", name := "charAt", desc := "([BI)C" } : Jvm.MethodName)) ∈ TB := tb_of 517 _ (by decide +kernel) rfl
theorem wd_518 : (Jvm.Cond.static ({ cls := "java/lang/StringLatin1", name := "charAt", desc := "([BI)C" } : Jvm.MethodName)) ∈ TB := tb_of 518 _ (by decide +kernel) rfl
theorem wd_519 : (Jvm.Cond.code ({ cls := "java/lang/StringLatin1", name := "charAt", desc := "([BI)C" } : Jvm.MethodName) prog_16_method_2_code (2 : Nat) (Option.some Jvm.ClassFile.FieldType.char)) ∈ TB := tb_of 519 _ (by decide +kernel) rfl
theorem wd_520 : (Jvm.Cond.methodLink "java/lang/StringLatin1" (9 : Nat) ({ cls := "java/lang/String", name := "checkIndex", desc := "(II)V" } : Jvm.MethodName)) ∈ TB := tb_of 520 _ (by decide +kernel) rfl
theorem wd_521 : (Jvm.Cond.static ({ cls := "java/lang/String", name := "checkIndex", desc := "(II)V" } : Jvm.MethodName)) ∈ TB := tb_of 521 _ (by decide +kernel) rfl
theorem wd_522 : (Jvm.Cond.code ({ cls := "java/lang/String", name := "checkIndex", desc := "(II)V" } : Jvm.MethodName) prog_15_method_155_code (2 : Nat) (Option.none : Option Jvm.ClassFile.FieldType)) ∈ TB := tb_of 522 _ (by decide +kernel) rfl
theorem wd_523 : (Jvm.Cond.fieldLink "java/lang/String" (1053 : Nat) "jdk/internal/util/Preconditions" "SIOOBE_FORMATTER" "Ljava/util/function/BiFunction;") ∈ TB := tb_of 523 _ (by decide +kernel) rfl
theorem wd_525 : (Jvm.Cond.methodLink "java/lang/String" (1059 : Nat) ({ cls := "jdk/internal/util/Preconditions", name := "checkIndex", desc := "(IILjava/util/function/BiFunction;)I" } : Jvm.MethodName)) ∈ TB := tb_of 525 _ (by decide +kernel) rfl
theorem wd_526 : (Jvm.Cond.static ({ cls := "jdk/internal/util/Preconditions", name := "checkIndex", desc := "(IILjava/util/function/BiFunction;)I" } : Jvm.MethodName)) ∈ TB := tb_of 526 _ (by decide +kernel) rfl
theorem wd_527 : (Jvm.Cond.code ({ cls := "jdk/internal/util/Preconditions", name := "checkIndex", desc := "(IILjava/util/function/BiFunction;)I" } : Jvm.MethodName) prog_20_method_11_code (3 : Nat) (Option.some Jvm.ClassFile.FieldType.int)) ∈ TB := tb_of 527 _ (by decide +kernel) rfl
theorem wd_528 : (Jvm.Cond.methodLink "java/lang/String" (498 : Nat) ({ cls := "java/lang/StringUTF16", name := "charAt", desc := "([BI)C" } : Jvm.MethodName)) ∈ TB := tb_of 528 _ (by decide +kernel) rfl
theorem wd_529 : (Jvm.Cond.static ({ cls := "java/lang/StringUTF16", name := "charAt", desc := "([BI)C" } : Jvm.MethodName)) ∈ TB := tb_of 529 _ (by decide +kernel) rfl
theorem wd_530 : (Jvm.Cond.code ({ cls := "java/lang/StringUTF16", name := "charAt", desc := "([BI)C" } : Jvm.MethodName) prog_17_method_83_code (2 : Nat) (Option.some Jvm.ClassFile.FieldType.char)) ∈ TB := tb_of 530 _ (by decide +kernel) rfl
theorem wd_531 : (Jvm.Cond.methodLink "java/lang/StringUTF16" (67 : Nat) ({ cls := "java/lang/StringUTF16", name := "checkIndex", desc := "(I[B)V" } : Jvm.MethodName)) ∈ TB := tb_of 531 _ (by decide +kernel) rfl
theorem wd_532 : (Jvm.Cond.static ({ cls := "java/lang/StringUTF16", name := "checkIndex", desc := "(I[B)V" } : Jvm.MethodName)) ∈ TB := tb_of 532 _ (by decide +kernel) rfl
theorem wd_533 : (Jvm.Cond.code ({ cls := "java/lang/StringUTF16", name := "checkIndex", desc := "(I[B)V" } : Jvm.MethodName) prog_17_method_91_code (2 : Nat) (Option.none : Option Jvm.ClassFile.FieldType)) ∈ TB := tb_of 533 _ (by decide +kernel) rfl
theorem wd_534 : (Jvm.Cond.methodLink "java/lang/StringUTF16" (48 : Nat) ({ cls := "java/lang/StringUTF16", name := "length", desc := "([B)I" } : Jvm.MethodName)) ∈ TB := tb_of 534 _ (by decide +kernel) rfl
theorem wd_535 : (Jvm.Cond.static ({ cls := "java/lang/StringUTF16", name := "length", desc := "([B)I" } : Jvm.MethodName)) ∈ TB := tb_of 535 _ (by decide +kernel) rfl
theorem wd_536 : (Jvm.Cond.code ({ cls := "java/lang/StringUTF16", name := "length", desc := "([B)I" } : Jvm.MethodName) prog_17_method_6_code (1 : Nat) (Option.some Jvm.ClassFile.FieldType.int)) ∈ TB := tb_of 536 _ (by decide +kernel) rfl
theorem wd_537 : (Jvm.Cond.methodLink "java/lang/StringUTF16" (414 : Nat) ({ cls := "java/lang/String", name := "checkIndex", desc := "(II)V" } : Jvm.MethodName)) ∈ TB := tb_of 537 _ (by decide +kernel) rfl
theorem wd_538 : (Jvm.Cond.methodLink "java/lang/StringUTF16" (71 : Nat) ({ cls := "java/lang/StringUTF16", name := "getChar", desc := "([BI)C" } : Jvm.MethodName)) ∈ TB := tb_of 538 _ (by decide +kernel) rfl
theorem wd_539 : (Jvm.Cond.static ({ cls := "java/lang/StringUTF16", name := "getChar", desc := "([BI)C" } : Jvm.MethodName)) ∈ TB := tb_of 539 _ (by decide +kernel) rfl
theorem wd_540 : (Jvm.Cond.code ({ cls := "java/lang/StringUTF16", name := "getChar", desc := "([BI)C" } : Jvm.MethodName) prog_17_method_5_code (2 : Nat) (Option.some Jvm.ClassFile.FieldType.char)) ∈ TB := tb_of 540 _ (by decide +kernel) rfl
theorem wd_541 : (Jvm.Cond.fieldLink "java/lang/StringUTF16" (44 : Nat) "java/lang/StringUTF16" "$assertionsDisabled" "Z") ∈ TB := tb_of 541 _ (by decide +kernel) rfl
theorem wd_543 : (Jvm.Cond.fieldLink "java/lang/StringUTF16" (59 : Nat) "java/lang/StringUTF16" "HI_BYTE_SHIFT" "I") ∈ TB := tb_of 543 _ (by decide +kernel) rfl
theorem wd_545 : (Jvm.Cond.fieldLink "java/lang/StringUTF16" (63 : Nat) "java/lang/StringUTF16" "LO_BYTE_SHIFT" "I") ∈ TB := tb_of 545 _ (by decide +kernel) rfl
theorem wd_547 : (Jvm.Cond.methodLink "RopeSwing$Reader" (38 : Nat) ({ cls := "RopeSwing$Reader", name := "fail", desc := "(I)Z" } : Jvm.MethodName)) ∈ TB := tb_of 547 _ (by decide +kernel) rfl
theorem wd_549 : (Jvm.Cond.instanceMethod ({ cls := "RopeSwing$Reader", name := "fail", desc := "(I)Z" } : Jvm.MethodName)) ∈ TB := tb_of 549 _ (by decide +kernel) rfl
theorem wd_550 : (Jvm.Cond.code ({ cls := "RopeSwing$Reader", name := "fail", desc := "(I)Z" } : Jvm.MethodName) prog_6_method_12_code (2 : Nat) (Option.some Jvm.ClassFile.FieldType.boolean)) ∈ TB := tb_of 550 _ (by decide +kernel) rfl
theorem wd_551 : (Jvm.Cond.methodLink "RopeSwing$Reader" (42 : Nat) ({ cls := "RopeSwing$Reader", name := "readClause", desc := "(ILRopeSwing$Place;)Z" } : Jvm.MethodName)) ∈ TB := tb_of 551 _ (by decide +kernel) rfl
theorem wd_553 : (Jvm.Cond.instanceMethod ({ cls := "RopeSwing$Reader", name := "readClause", desc := "(ILRopeSwing$Place;)Z" } : Jvm.MethodName)) ∈ TB := tb_of 553 _ (by decide +kernel) rfl
theorem wd_554 : (Jvm.Cond.code ({ cls := "RopeSwing$Reader", name := "readClause", desc := "(ILRopeSwing$Place;)Z" } : Jvm.MethodName) prog_6_method_7_code (3 : Nat) (Option.some Jvm.ClassFile.FieldType.boolean)) ∈ TB := tb_of 554 _ (by decide +kernel) rfl
theorem wd_555 : (Jvm.Cond.methodLink "RopeSwing$Reader" (75 : Nat) ({ cls := "RopeSwing$Reader", name := "readList", desc := "([II)Z" } : Jvm.MethodName)) ∈ TB := tb_of 555 _ (by decide +kernel) rfl
theorem wd_557 : (Jvm.Cond.instanceMethod ({ cls := "RopeSwing$Reader", name := "readList", desc := "([II)Z" } : Jvm.MethodName)) ∈ TB := tb_of 557 _ (by decide +kernel) rfl
theorem wd_558 : (Jvm.Cond.code ({ cls := "RopeSwing$Reader", name := "readList", desc := "([II)Z" } : Jvm.MethodName) prog_6_method_9_code (4 : Nat) (Option.some Jvm.ClassFile.FieldType.boolean)) ∈ TB := tb_of 558 _ (by decide +kernel) rfl
theorem wd_559 : (Jvm.Cond.methodLink "RopeSwing$Reader" (55 : Nat) ({ cls := "RopeSwing$Reader", name := "takeNumber", desc := "(II)Z" } : Jvm.MethodName)) ∈ TB := tb_of 559 _ (by decide +kernel) rfl
theorem wd_561 : (Jvm.Cond.instanceMethod ({ cls := "RopeSwing$Reader", name := "takeNumber", desc := "(II)Z" } : Jvm.MethodName)) ∈ TB := tb_of 561 _ (by decide +kernel) rfl
theorem wd_562 : (Jvm.Cond.code ({ cls := "RopeSwing$Reader", name := "takeNumber", desc := "(II)Z" } : Jvm.MethodName) prog_6_method_13_code (3 : Nat) (Option.some Jvm.ClassFile.FieldType.boolean)) ∈ TB := tb_of 562 _ (by decide +kernel) rfl
theorem wd_564 : (Jvm.Cond.static ({ cls := "RopeSwing", name := "within", desc := "(III)Z" } : Jvm.MethodName)) ∈ TB := tb_of 564 _ (by decide +kernel) rfl
theorem wd_565 : (Jvm.Cond.code ({ cls := "RopeSwing", name := "within", desc := "(III)Z" } : Jvm.MethodName) prog_1_method_44_code (3 : Nat) (Option.some Jvm.ClassFile.FieldType.boolean)) ∈ TB := tb_of 565 _ (by decide +kernel) rfl
theorem wd_567 : (Jvm.Cond.methodLink "RopeSwing$Reader" (110 : Nat) ({ cls := "RopeSwing$Reader", name := "isSign", desc := "(I)Z" } : Jvm.MethodName)) ∈ TB := tb_of 567 _ (by decide +kernel) rfl
theorem wd_569 : (Jvm.Cond.instanceMethod ({ cls := "RopeSwing$Reader", name := "isSign", desc := "(I)Z" } : Jvm.MethodName)) ∈ TB := tb_of 569 _ (by decide +kernel) rfl
theorem wd_570 : (Jvm.Cond.code ({ cls := "RopeSwing$Reader", name := "isSign", desc := "(I)Z" } : Jvm.MethodName) prog_6_method_14_code (2 : Nat) (Option.some Jvm.ClassFile.FieldType.boolean)) ∈ TB := tb_of 570 _ (by decide +kernel) rfl
theorem wd_571 : (Jvm.Cond.methodLink "RopeSwing$Reader" (82 : Nat) ({ cls := "RopeSwing$Reader", name := "readStones", desc := "([I)Z" } : Jvm.MethodName)) ∈ TB := tb_of 571 _ (by decide +kernel) rfl
theorem wd_573 : (Jvm.Cond.instanceMethod ({ cls := "RopeSwing$Reader", name := "readStones", desc := "([I)Z" } : Jvm.MethodName)) ∈ TB := tb_of 573 _ (by decide +kernel) rfl
theorem wd_574 : (Jvm.Cond.code ({ cls := "RopeSwing$Reader", name := "readStones", desc := "([I)Z" } : Jvm.MethodName) prog_6_method_10_code (3 : Nat) (Option.some Jvm.ClassFile.FieldType.boolean)) ∈ TB := tb_of 574 _ (by decide +kernel) rfl
theorem wd_576 : (Jvm.Cond.static ({ cls := "RopeSwing", name := "at", desc := "([II)I" } : Jvm.MethodName)) ∈ TB := tb_of 576 _ (by decide +kernel) rfl
theorem wd_577 : (Jvm.Cond.code ({ cls := "RopeSwing", name := "at", desc := "([II)I" } : Jvm.MethodName) prog_1_method_47_code (2 : Nat) (Option.some Jvm.ClassFile.FieldType.int)) ∈ TB := tb_of 577 _ (by decide +kernel) rfl
theorem wd_578 : (Jvm.Cond.fieldLink "RopeSwing$Reader" (89 : Nat) "RopeSwing$Reader" "FROM" "[I") ∈ TB := tb_of 578 _ (by decide +kernel) rfl
theorem wd_580 : (Jvm.Cond.fieldLink "RopeSwing$Reader" (96 : Nat) "RopeSwing$Reader" "MANY" "[I") ∈ TB := tb_of 580 _ (by decide +kernel) rfl
theorem wd_582 : (Jvm.Cond.methodLink "RopeSwing$Reader" (100 : Nat) ({ cls := "RopeSwing$Reader", name := "readNumbers", desc := "(II[I)Z" } : Jvm.MethodName)) ∈ TB := tb_of 582 _ (by decide +kernel) rfl
theorem wd_584 : (Jvm.Cond.instanceMethod ({ cls := "RopeSwing$Reader", name := "readNumbers", desc := "(II[I)Z" } : Jvm.MethodName)) ∈ TB := tb_of 584 _ (by decide +kernel) rfl
theorem wd_585 : (Jvm.Cond.code ({ cls := "RopeSwing$Reader", name := "readNumbers", desc := "(II[I)Z" } : Jvm.MethodName) prog_6_method_8_code (5 : Nat) (Option.some Jvm.ClassFile.FieldType.boolean)) ∈ TB := tb_of 585 _ (by decide +kernel) rfl
theorem wd_586 : (Jvm.Cond.fieldLink "RopeSwing$Reader" (104 : Nat) "RopeSwing$Reader" "LEAST" "[I") ∈ TB := tb_of 586 _ (by decide +kernel) rfl
theorem wd_588 : (Jvm.Cond.fieldLink "RopeSwing$Reader" (107 : Nat) "RopeSwing$Reader" "MOST" "[I") ∈ TB := tb_of 588 _ (by decide +kernel) rfl
theorem wd_590 : (Jvm.Cond.methodLink "RopeSwing" (112 : Nat) ({ cls := "RopeSwing$Text", name := "clear", desc := "()V" } : Jvm.MethodName)) ∈ TB := tb_of 590 _ (by decide +kernel) rfl
theorem wd_591 : (Jvm.Cond.instanceMethod ({ cls := "RopeSwing$Text", name := "clear", desc := "()V" } : Jvm.MethodName)) ∈ TB := tb_of 591 _ (by decide +kernel) rfl
theorem wd_592 : (Jvm.Cond.selects "RopeSwing$Text" ({ cls := "RopeSwing$Text", name := "clear", desc := "()V" } : Jvm.MethodName) ({ cls := "RopeSwing$Text", name := "clear", desc := "()V" } : Jvm.MethodName)) ∈ TB := tb_of 592 _ (by decide +kernel) rfl
theorem wd_593 : (Jvm.Cond.code ({ cls := "RopeSwing$Text", name := "clear", desc := "()V" } : Jvm.MethodName) prog_9_method_5_code (1 : Nat) (Option.none : Option Jvm.ClassFile.FieldType)) ∈ TB := tb_of 593 _ (by decide +kernel) rfl
theorem wd_594 : (Jvm.Cond.methodLink "RopeSwing" (113 : Nat) ({ cls := "RopeSwing$Reader", name := "faultAt", desc := "()I" } : Jvm.MethodName)) ∈ TB := tb_of 594 _ (by decide +kernel) rfl
theorem wd_595 : (Jvm.Cond.instanceMethod ({ cls := "RopeSwing$Reader", name := "faultAt", desc := "()I" } : Jvm.MethodName)) ∈ TB := tb_of 595 _ (by decide +kernel) rfl
theorem wd_596 : (Jvm.Cond.selects "RopeSwing$Reader" ({ cls := "RopeSwing$Reader", name := "faultAt", desc := "()I" } : Jvm.MethodName) ({ cls := "RopeSwing$Reader", name := "faultAt", desc := "()I" } : Jvm.MethodName)) ∈ TB := tb_of 596 _ (by decide +kernel) rfl
theorem wd_597 : (Jvm.Cond.code ({ cls := "RopeSwing$Reader", name := "faultAt", desc := "()I" } : Jvm.MethodName) prog_6_method_3_code (1 : Nat) (Option.some Jvm.ClassFile.FieldType.int)) ∈ TB := tb_of 597 _ (by decide +kernel) rfl
theorem wd_598 : (Jvm.Cond.methodLink "RopeSwing" (115 : Nat) ({ cls := "RopeSwing$Reader", name := "faultNumber", desc := "()I" } : Jvm.MethodName)) ∈ TB := tb_of 598 _ (by decide +kernel) rfl
theorem wd_599 : (Jvm.Cond.instanceMethod ({ cls := "RopeSwing$Reader", name := "faultNumber", desc := "()I" } : Jvm.MethodName)) ∈ TB := tb_of 599 _ (by decide +kernel) rfl
theorem wd_600 : (Jvm.Cond.selects "RopeSwing$Reader" ({ cls := "RopeSwing$Reader", name := "faultNumber", desc := "()I" } : Jvm.MethodName) ({ cls := "RopeSwing$Reader", name := "faultNumber", desc := "()I" } : Jvm.MethodName)) ∈ TB := tb_of 600 _ (by decide +kernel) rfl
theorem wd_601 : (Jvm.Cond.code ({ cls := "RopeSwing$Reader", name := "faultNumber", desc := "()I" } : Jvm.MethodName) prog_6_method_2_code (1 : Nat) (Option.some Jvm.ClassFile.FieldType.int)) ∈ TB := tb_of 601 _ (by decide +kernel) rfl
theorem wd_602 : (Jvm.Cond.methodLink "RopeSwing" (118 : Nat) ({ cls := "RopeSwing$Place", name := "copy", desc := "(LRopeSwing$Place;)V" } : Jvm.MethodName)) ∈ TB := tb_of 602 _ (by decide +kernel) rfl
theorem wd_603 : (Jvm.Cond.instanceMethod ({ cls := "RopeSwing$Place", name := "copy", desc := "(LRopeSwing$Place;)V" } : Jvm.MethodName)) ∈ TB := tb_of 603 _ (by decide +kernel) rfl
theorem wd_604 : (Jvm.Cond.selects "RopeSwing$Place" ({ cls := "RopeSwing$Place", name := "copy", desc := "(LRopeSwing$Place;)V" } : Jvm.MethodName) ({ cls := "RopeSwing$Place", name := "copy", desc := "(LRopeSwing$Place;)V" } : Jvm.MethodName)) ∈ TB := tb_of 604 _ (by decide +kernel) rfl
theorem wd_605 : (Jvm.Cond.code ({ cls := "RopeSwing$Place", name := "copy", desc := "(LRopeSwing$Place;)V" } : Jvm.MethodName) prog_5_method_3_code (2 : Nat) (Option.none : Option Jvm.ClassFile.FieldType)) ∈ TB := tb_of 605 _ (by decide +kernel) rfl
theorem wd_606 : (Jvm.Cond.methodLink "RopeSwing" (121 : Nat) ({ cls := "RopeSwing$Reader", name := "clauses", desc := "()I" } : Jvm.MethodName)) ∈ TB := tb_of 606 _ (by decide +kernel) rfl
theorem wd_607 : (Jvm.Cond.instanceMethod ({ cls := "RopeSwing$Reader", name := "clauses", desc := "()I" } : Jvm.MethodName)) ∈ TB := tb_of 607 _ (by decide +kernel) rfl
theorem wd_608 : (Jvm.Cond.selects "RopeSwing$Reader" ({ cls := "RopeSwing$Reader", name := "clauses", desc := "()I" } : Jvm.MethodName) ({ cls := "RopeSwing$Reader", name := "clauses", desc := "()I" } : Jvm.MethodName)) ∈ TB := tb_of 608 _ (by decide +kernel) rfl
theorem wd_609 : (Jvm.Cond.code ({ cls := "RopeSwing$Reader", name := "clauses", desc := "()I" } : Jvm.MethodName) prog_6_method_4_code (1 : Nat) (Option.some Jvm.ClassFile.FieldType.int)) ∈ TB := tb_of 609 _ (by decide +kernel) rfl
theorem wd_610 : (Jvm.Cond.arrayClass Jvm.ClassFile.FieldType.byte) ∈ TB := tb_of 610 _ (by decide +kernel) rfl
theorem wd_611 : (Jvm.Cond.methodLink "RopeSwingLaw" (25 : Nat) ({ cls := "RopeSwing", name := "swinger", desc := "()I" } : Jvm.MethodName)) ∈ TB := tb_of 611 _ (by decide +kernel) rfl
theorem wd_612 : (Jvm.Cond.instanceMethod ({ cls := "RopeSwing", name := "swinger", desc := "()I" } : Jvm.MethodName)) ∈ TB := tb_of 612 _ (by decide +kernel) rfl
theorem wd_613 : (Jvm.Cond.selects "RopeSwing" ({ cls := "RopeSwing", name := "swinger", desc := "()I" } : Jvm.MethodName) ({ cls := "RopeSwing", name := "swinger", desc := "()I" } : Jvm.MethodName)) ∈ TB := tb_of 613 _ (by decide +kernel) rfl
theorem wd_614 : (Jvm.Cond.code ({ cls := "RopeSwing", name := "swinger", desc := "()I" } : Jvm.MethodName) prog_1_method_4_code (3 : Nat) (Option.some Jvm.ClassFile.FieldType.int)) ∈ TB := tb_of 614 _ (by decide +kernel) rfl
theorem wd_615 : (Jvm.Cond.constant "RopeSwing" (124 : Nat) (-1000000003 : Int32)) ∈ TB := tb_of 615 _ (by decide +kernel) rfl
theorem wd_616 : (Jvm.Cond.methodLink "RopeSwing" (128 : Nat) ({ cls := "RopeSwing$Reader", name := "readSwinger", desc := "(LRopeSwing$Swinger;)Z" } : Jvm.MethodName)) ∈ TB := tb_of 616 _ (by decide +kernel) rfl
theorem wd_617 : (Jvm.Cond.instanceMethod ({ cls := "RopeSwing$Reader", name := "readSwinger", desc := "(LRopeSwing$Swinger;)Z" } : Jvm.MethodName)) ∈ TB := tb_of 617 _ (by decide +kernel) rfl
theorem wd_618 : (Jvm.Cond.selects "RopeSwing$Reader" ({ cls := "RopeSwing$Reader", name := "readSwinger", desc := "(LRopeSwing$Swinger;)Z" } : Jvm.MethodName) ({ cls := "RopeSwing$Reader", name := "readSwinger", desc := "(LRopeSwing$Swinger;)Z" } : Jvm.MethodName)) ∈ TB := tb_of 618 _ (by decide +kernel) rfl
theorem wd_619 : (Jvm.Cond.code ({ cls := "RopeSwing$Reader", name := "readSwinger", desc := "(LRopeSwing$Swinger;)Z" } : Jvm.MethodName) prog_6_method_6_code (3 : Nat) (Option.some Jvm.ClassFile.FieldType.boolean)) ∈ TB := tb_of 619 _ (by decide +kernel) rfl
theorem wd_620 : (Jvm.Cond.methodLink "RopeSwing$Reader" (48 : Nat) ({ cls := "RopeSwing$Swinger", name := "least", desc := "(I)I" } : Jvm.MethodName)) ∈ TB := tb_of 620 _ (by decide +kernel) rfl
theorem wd_621 : (Jvm.Cond.static ({ cls := "RopeSwing$Swinger", name := "least", desc := "(I)I" } : Jvm.MethodName)) ∈ TB := tb_of 621 _ (by decide +kernel) rfl
theorem wd_622 : (Jvm.Cond.code ({ cls := "RopeSwing$Swinger", name := "least", desc := "(I)I" } : Jvm.MethodName) prog_8_method_2_code (1 : Nat) (Option.some Jvm.ClassFile.FieldType.int)) ∈ TB := tb_of 622 _ (by decide +kernel) rfl
theorem wd_623 : (Jvm.Cond.fieldLink "RopeSwing$Swinger" (13 : Nat) "RopeSwing$Swinger" "LEAST" "[I") ∈ TB := tb_of 623 _ (by decide +kernel) rfl
theorem wd_626 : (Jvm.Cond.methodLink "RopeSwing$Reader" (52 : Nat) ({ cls := "RopeSwing$Swinger", name := "most", desc := "(I)I" } : Jvm.MethodName)) ∈ TB := tb_of 626 _ (by decide +kernel) rfl
theorem wd_627 : (Jvm.Cond.static ({ cls := "RopeSwing$Swinger", name := "most", desc := "(I)I" } : Jvm.MethodName)) ∈ TB := tb_of 627 _ (by decide +kernel) rfl
theorem wd_628 : (Jvm.Cond.code ({ cls := "RopeSwing$Swinger", name := "most", desc := "(I)I" } : Jvm.MethodName) prog_8_method_3_code (1 : Nat) (Option.some Jvm.ClassFile.FieldType.int)) ∈ TB := tb_of 628 _ (by decide +kernel) rfl
theorem wd_629 : (Jvm.Cond.fieldLink "RopeSwing$Swinger" (22 : Nat) "RopeSwing$Swinger" "MOST" "[I") ∈ TB := tb_of 629 _ (by decide +kernel) rfl
theorem wd_631 : (Jvm.Cond.methodLink "RopeSwingLaw" (29 : Nat) ({ cls := "RopeSwing", name := "fault", desc := "()I" } : Jvm.MethodName)) ∈ TB := tb_of 631 _ (by decide +kernel) rfl
theorem wd_632 : (Jvm.Cond.instanceMethod ({ cls := "RopeSwing", name := "fault", desc := "()I" } : Jvm.MethodName)) ∈ TB := tb_of 632 _ (by decide +kernel) rfl
theorem wd_633 : (Jvm.Cond.selects "RopeSwing" ({ cls := "RopeSwing", name := "fault", desc := "()I" } : Jvm.MethodName) ({ cls := "RopeSwing", name := "fault", desc := "()I" } : Jvm.MethodName)) ∈ TB := tb_of 633 _ (by decide +kernel) rfl
theorem wd_634 : (Jvm.Cond.code ({ cls := "RopeSwing", name := "fault", desc := "()I" } : Jvm.MethodName) prog_1_method_5_code (1 : Nat) (Option.some Jvm.ClassFile.FieldType.int)) ∈ TB := tb_of 634 _ (by decide +kernel) rfl
theorem wd_635 : (Jvm.Cond.methodLink "RopeSwingLaw" (33 : Nat) ({ cls := "RopeSwing", name := "told", desc := "(I)I" } : Jvm.MethodName)) ∈ TB := tb_of 635 _ (by decide +kernel) rfl
theorem wd_636 : (Jvm.Cond.instanceMethod ({ cls := "RopeSwing", name := "told", desc := "(I)I" } : Jvm.MethodName)) ∈ TB := tb_of 636 _ (by decide +kernel) rfl
theorem wd_637 : (Jvm.Cond.selects "RopeSwing" ({ cls := "RopeSwing", name := "told", desc := "(I)I" } : Jvm.MethodName) ({ cls := "RopeSwing", name := "told", desc := "(I)I" } : Jvm.MethodName)) ∈ TB := tb_of 637 _ (by decide +kernel) rfl
theorem wd_638 : (Jvm.Cond.code ({ cls := "RopeSwing", name := "told", desc := "(I)I" } : Jvm.MethodName) prog_1_method_6_code (2 : Nat) (Option.some Jvm.ClassFile.FieldType.int)) ∈ TB := tb_of 638 _ (by decide +kernel) rfl
theorem wd_639 : (Jvm.Cond.methodLink "RopeSwing" (132 : Nat) ({ cls := "RopeSwing$Place", name := "number", desc := "(I)I" } : Jvm.MethodName)) ∈ TB := tb_of 639 _ (by decide +kernel) rfl
theorem wd_640 : (Jvm.Cond.methodLink "RopeSwingLaw" (38 : Nat) ({ cls := "RopeSwing", name := "cell", desc := "(II)I" } : Jvm.MethodName)) ∈ TB := tb_of 640 _ (by decide +kernel) rfl
theorem wd_641 : (Jvm.Cond.instanceMethod ({ cls := "RopeSwing", name := "cell", desc := "(II)I" } : Jvm.MethodName)) ∈ TB := tb_of 641 _ (by decide +kernel) rfl
theorem wd_642 : (Jvm.Cond.selects "RopeSwing" ({ cls := "RopeSwing", name := "cell", desc := "(II)I" } : Jvm.MethodName) ({ cls := "RopeSwing", name := "cell", desc := "(II)I" } : Jvm.MethodName)) ∈ TB := tb_of 642 _ (by decide +kernel) rfl
theorem wd_643 : (Jvm.Cond.code ({ cls := "RopeSwing", name := "cell", desc := "(II)I" } : Jvm.MethodName) prog_1_method_7_code (3 : Nat) (Option.some Jvm.ClassFile.FieldType.int)) ∈ TB := tb_of 643 _ (by decide +kernel) rfl
theorem wd_644 : (Jvm.Cond.constant "RopeSwing" (136 : Nat) (-1000000001 : Int32)) ∈ TB := tb_of 644 _ (by decide +kernel) rfl
theorem wd_645 : (Jvm.Cond.methodLink "RopeSwing" (137 : Nat) ({ cls := "RopeSwing$Place", name := "kind", desc := "(I)I" } : Jvm.MethodName)) ∈ TB := tb_of 645 _ (by decide +kernel) rfl
theorem wd_646 : (Jvm.Cond.instanceMethod ({ cls := "RopeSwing$Place", name := "kind", desc := "(I)I" } : Jvm.MethodName)) ∈ TB := tb_of 646 _ (by decide +kernel) rfl
theorem wd_647 : (Jvm.Cond.selects "RopeSwing$Place" ({ cls := "RopeSwing$Place", name := "kind", desc := "(I)I" } : Jvm.MethodName) ({ cls := "RopeSwing$Place", name := "kind", desc := "(I)I" } : Jvm.MethodName)) ∈ TB := tb_of 647 _ (by decide +kernel) rfl
theorem wd_648 : (Jvm.Cond.code ({ cls := "RopeSwing$Place", name := "kind", desc := "(I)I" } : Jvm.MethodName) prog_5_method_7_code (2 : Nat) (Option.some Jvm.ClassFile.FieldType.int)) ∈ TB := tb_of 648 _ (by decide +kernel) rfl
theorem wd_649 : (Jvm.Cond.methodLink "RopeSwing" (140 : Nat) ({ cls := "RopeSwing", name := "lowerNow", desc := "()I" } : Jvm.MethodName)) ∈ TB := tb_of 649 _ (by decide +kernel) rfl
theorem wd_651 : (Jvm.Cond.instanceMethod ({ cls := "RopeSwing", name := "lowerNow", desc := "()I" } : Jvm.MethodName)) ∈ TB := tb_of 651 _ (by decide +kernel) rfl
theorem wd_652 : (Jvm.Cond.code ({ cls := "RopeSwing", name := "lowerNow", desc := "()I" } : Jvm.MethodName) prog_1_method_36_code (1 : Nat) (Option.some Jvm.ClassFile.FieldType.int)) ∈ TB := tb_of 652 _ (by decide +kernel) rfl
theorem wd_653 : (Jvm.Cond.methodLink "RopeSwing" (162 : Nat) ({ cls := "RopeSwing$State", name := "inHand", desc := "(I)I" } : Jvm.MethodName)) ∈ TB := tb_of 653 _ (by decide +kernel) rfl
theorem wd_654 : (Jvm.Cond.instanceMethod ({ cls := "RopeSwing$State", name := "inHand", desc := "(I)I" } : Jvm.MethodName)) ∈ TB := tb_of 654 _ (by decide +kernel) rfl
theorem wd_655 : (Jvm.Cond.selects "RopeSwing$State" ({ cls := "RopeSwing$State", name := "inHand", desc := "(I)I" } : Jvm.MethodName) ({ cls := "RopeSwing$State", name := "inHand", desc := "(I)I" } : Jvm.MethodName)) ∈ TB := tb_of 655 _ (by decide +kernel) rfl
theorem wd_656 : (Jvm.Cond.code ({ cls := "RopeSwing$State", name := "inHand", desc := "(I)I" } : Jvm.MethodName) prog_7_method_3_code (2 : Nat) (Option.some Jvm.ClassFile.FieldType.int)) ∈ TB := tb_of 656 _ (by decide +kernel) rfl
theorem wd_658 : (Jvm.Cond.methodLink "RopeSwing" (265 : Nat) ({ cls := "RopeSwing$Place", name := "lower", desc := "(I)I" } : Jvm.MethodName)) ∈ TB := tb_of 658 _ (by decide +kernel) rfl
theorem wd_659 : (Jvm.Cond.instanceMethod ({ cls := "RopeSwing$Place", name := "lower", desc := "(I)I" } : Jvm.MethodName)) ∈ TB := tb_of 659 _ (by decide +kernel) rfl
theorem wd_660 : (Jvm.Cond.selects "RopeSwing$Place" ({ cls := "RopeSwing$Place", name := "lower", desc := "(I)I" } : Jvm.MethodName) ({ cls := "RopeSwing$Place", name := "lower", desc := "(I)I" } : Jvm.MethodName)) ∈ TB := tb_of 660 _ (by decide +kernel) rfl
theorem wd_661 : (Jvm.Cond.code ({ cls := "RopeSwing$Place", name := "lower", desc := "(I)I" } : Jvm.MethodName) prog_5_method_5_code (2 : Nat) (Option.some Jvm.ClassFile.FieldType.int)) ∈ TB := tb_of 661 _ (by decide +kernel) rfl
theorem wd_663 : (Jvm.Cond.methodLink "RopeSwing" (143 : Nat) ({ cls := "RopeSwing$Place", name := "depth", desc := "(II)I" } : Jvm.MethodName)) ∈ TB := tb_of 663 _ (by decide +kernel) rfl
theorem wd_664 : (Jvm.Cond.instanceMethod ({ cls := "RopeSwing$Place", name := "depth", desc := "(II)I" } : Jvm.MethodName)) ∈ TB := tb_of 664 _ (by decide +kernel) rfl
theorem wd_665 : (Jvm.Cond.selects "RopeSwing$Place" ({ cls := "RopeSwing$Place", name := "depth", desc := "(II)I" } : Jvm.MethodName) ({ cls := "RopeSwing$Place", name := "depth", desc := "(II)I" } : Jvm.MethodName)) ∈ TB := tb_of 665 _ (by decide +kernel) rfl
theorem wd_666 : (Jvm.Cond.code ({ cls := "RopeSwing$Place", name := "depth", desc := "(II)I" } : Jvm.MethodName) prog_5_method_6_code (4 : Nat) (Option.some Jvm.ClassFile.FieldType.int)) ∈ TB := tb_of 666 _ (by decide +kernel) rfl
theorem wd_667 : (Jvm.Cond.methodLink "RopeSwingLaw" (43 : Nat) ({ cls := "RopeSwing", name := "who", desc := "(II)I" } : Jvm.MethodName)) ∈ TB := tb_of 667 _ (by decide +kernel) rfl
theorem wd_668 : (Jvm.Cond.instanceMethod ({ cls := "RopeSwing", name := "who", desc := "(II)I" } : Jvm.MethodName)) ∈ TB := tb_of 668 _ (by decide +kernel) rfl
theorem wd_669 : (Jvm.Cond.selects "RopeSwing" ({ cls := "RopeSwing", name := "who", desc := "(II)I" } : Jvm.MethodName) ({ cls := "RopeSwing", name := "who", desc := "(II)I" } : Jvm.MethodName)) ∈ TB := tb_of 669 _ (by decide +kernel) rfl
theorem wd_670 : (Jvm.Cond.code ({ cls := "RopeSwing", name := "who", desc := "(II)I" } : Jvm.MethodName) prog_1_method_8_code (4 : Nat) (Option.some Jvm.ClassFile.FieldType.int)) ∈ TB := tb_of 670 _ (by decide +kernel) rfl
theorem wd_671 : (Jvm.Cond.methodLink "RopeSwing" (147 : Nat) ({ cls := "RopeSwing", name := "swingerAt", desc := "(I)LRopeSwing$Swinger;" } : Jvm.MethodName)) ∈ TB := tb_of 671 _ (by decide +kernel) rfl
theorem wd_673 : (Jvm.Cond.instanceMethod ({ cls := "RopeSwing", name := "swingerAt", desc := "(I)LRopeSwing$Swinger;" } : Jvm.MethodName)) ∈ TB := tb_of 673 _ (by decide +kernel) rfl
theorem wd_674 : (Jvm.Cond.code ({ cls := "RopeSwing", name := "swingerAt", desc := "(I)LRopeSwing$Swinger;" } : Jvm.MethodName) prog_1_method_32_code (2 : Nat) (Option.some (Jvm.ClassFile.FieldType.object "RopeSwing$Swinger"))) ∈ TB := tb_of 674 _ (by decide +kernel) rfl
theorem wd_675 : (Jvm.Cond.methodLink "RopeSwing" (151 : Nat) ({ cls := "RopeSwing", name := "within", desc := "(III)Z" } : Jvm.MethodName)) ∈ TB := tb_of 675 _ (by decide +kernel) rfl
theorem wd_676 : (Jvm.Cond.methodLink "RopeSwing" (155 : Nat) ({ cls := "RopeSwing$Swinger", name := "number", desc := "(I)I" } : Jvm.MethodName)) ∈ TB := tb_of 676 _ (by decide +kernel) rfl
theorem wd_677 : (Jvm.Cond.instanceMethod ({ cls := "RopeSwing$Swinger", name := "number", desc := "(I)I" } : Jvm.MethodName)) ∈ TB := tb_of 677 _ (by decide +kernel) rfl
theorem wd_678 : (Jvm.Cond.selects "RopeSwing$Swinger" ({ cls := "RopeSwing$Swinger", name := "number", desc := "(I)I" } : Jvm.MethodName) ({ cls := "RopeSwing$Swinger", name := "number", desc := "(I)I" } : Jvm.MethodName)) ∈ TB := tb_of 678 _ (by decide +kernel) rfl
theorem wd_679 : (Jvm.Cond.code ({ cls := "RopeSwing$Swinger", name := "number", desc := "(I)I" } : Jvm.MethodName) prog_8_method_4_code (2 : Nat) (Option.some Jvm.ClassFile.FieldType.int)) ∈ TB := tb_of 679 _ (by decide +kernel) rfl
theorem wd_680 : (Jvm.Cond.methodLink "RopeSwingLaw" (47 : Nat) ({ cls := "RopeSwing", name := "set", desc := "(II)I" } : Jvm.MethodName)) ∈ TB := tb_of 680 _ (by decide +kernel) rfl
theorem wd_681 : (Jvm.Cond.instanceMethod ({ cls := "RopeSwing", name := "set", desc := "(II)I" } : Jvm.MethodName)) ∈ TB := tb_of 681 _ (by decide +kernel) rfl
theorem wd_682 : (Jvm.Cond.selects "RopeSwing" ({ cls := "RopeSwing", name := "set", desc := "(II)I" } : Jvm.MethodName) ({ cls := "RopeSwing", name := "set", desc := "(II)I" } : Jvm.MethodName)) ∈ TB := tb_of 682 _ (by decide +kernel) rfl
theorem wd_683 : (Jvm.Cond.code ({ cls := "RopeSwing", name := "set", desc := "(II)I" } : Jvm.MethodName) prog_1_method_9_code (4 : Nat) (Option.some Jvm.ClassFile.FieldType.int)) ∈ TB := tb_of 683 _ (by decide +kernel) rfl
theorem wd_684 : (Jvm.Cond.fieldLink "RopeSwing" (156 : Nat) "RopeSwing" "MOST_IN_HAND" "[I") ∈ TB := tb_of 684 _ (by decide +kernel) rfl
theorem wd_686 : (Jvm.Cond.methodLink "RopeSwing" (159 : Nat) ({ cls := "RopeSwing", name := "mostInHand", desc := "(I)I" } : Jvm.MethodName)) ∈ TB := tb_of 686 _ (by decide +kernel) rfl
theorem wd_688 : (Jvm.Cond.instanceMethod ({ cls := "RopeSwing", name := "mostInHand", desc := "(I)I" } : Jvm.MethodName)) ∈ TB := tb_of 688 _ (by decide +kernel) rfl
theorem wd_689 : (Jvm.Cond.code ({ cls := "RopeSwing", name := "mostInHand", desc := "(I)I" } : Jvm.MethodName) prog_1_method_34_code (3 : Nat) (Option.some Jvm.ClassFile.FieldType.int)) ∈ TB := tb_of 689 _ (by decide +kernel) rfl
theorem wd_690 : (Jvm.Cond.methodLink "RopeSwing" (337 : Nat) ({ cls := "RopeSwing", name := "at", desc := "([II)I" } : Jvm.MethodName)) ∈ TB := tb_of 690 _ (by decide +kernel) rfl
theorem wd_691 : (Jvm.Cond.methodLink "RopeSwing" (334 : Nat) ({ cls := "java/lang/Math", name := "min", desc := "(II)I" } : Jvm.MethodName)) ∈ TB := tb_of 691 _ (by decide +kernel) rfl
theorem wd_692 : (Jvm.Cond.methodLink "RopeSwing" (165 : Nat) ({ cls := "RopeSwing$State", name := "take", desc := "(II)V" } : Jvm.MethodName)) ∈ TB := tb_of 692 _ (by decide +kernel) rfl
theorem wd_693 : (Jvm.Cond.methodLink "RopeSwingLaw" (51 : Nat) ({ cls := "RopeSwing", name := "now", desc := "(I)I" } : Jvm.MethodName)) ∈ TB := tb_of 693 _ (by decide +kernel) rfl
theorem wd_694 : (Jvm.Cond.instanceMethod ({ cls := "RopeSwing", name := "now", desc := "(I)I" } : Jvm.MethodName)) ∈ TB := tb_of 694 _ (by decide +kernel) rfl
theorem wd_695 : (Jvm.Cond.selects "RopeSwing" ({ cls := "RopeSwing", name := "now", desc := "(I)I" } : Jvm.MethodName) ({ cls := "RopeSwing", name := "now", desc := "(I)I" } : Jvm.MethodName)) ∈ TB := tb_of 695 _ (by decide +kernel) rfl
theorem wd_696 : (Jvm.Cond.code ({ cls := "RopeSwing", name := "now", desc := "(I)I" } : Jvm.MethodName) prog_1_method_10_code (2 : Nat) (Option.some Jvm.ClassFile.FieldType.int)) ∈ TB := tb_of 696 _ (by decide +kernel) rfl
theorem wd_697 : (Jvm.Cond.methodLink "RopeSwing" (169 : Nat) ({ cls := "RopeSwing", name := "lengthNow", desc := "()I" } : Jvm.MethodName)) ∈ TB := tb_of 697 _ (by decide +kernel) rfl
theorem wd_699 : (Jvm.Cond.instanceMethod ({ cls := "RopeSwing", name := "lengthNow", desc := "()I" } : Jvm.MethodName)) ∈ TB := tb_of 699 _ (by decide +kernel) rfl
theorem wd_700 : (Jvm.Cond.code ({ cls := "RopeSwing", name := "lengthNow", desc := "()I" } : Jvm.MethodName) prog_1_method_35_code (1 : Nat) (Option.some Jvm.ClassFile.FieldType.int)) ∈ TB := tb_of 700 _ (by decide +kernel) rfl
theorem wd_701 : (Jvm.Cond.methodLink "RopeSwing" (172 : Nat) ({ cls := "RopeSwing", name := "strengthAfter", desc := "(I)I" } : Jvm.MethodName)) ∈ TB := tb_of 701 _ (by decide +kernel) rfl
theorem wd_703 : (Jvm.Cond.instanceMethod ({ cls := "RopeSwing", name := "strengthAfter", desc := "(I)I" } : Jvm.MethodName)) ∈ TB := tb_of 703 _ (by decide +kernel) rfl
theorem wd_704 : (Jvm.Cond.code ({ cls := "RopeSwing", name := "strengthAfter", desc := "(I)I" } : Jvm.MethodName) prog_1_method_37_code (4 : Nat) (Option.some Jvm.ClassFile.FieldType.int)) ∈ TB := tb_of 704 _ (by decide +kernel) rfl
theorem wd_705 : (Jvm.Cond.methodLink "RopeSwingLaw" (55 : Nat) ({ cls := "RopeSwing", name := "sine", desc := "(I)I" } : Jvm.MethodName)) ∈ TB := tb_of 705 _ (by decide +kernel) rfl
theorem wd_706 : (Jvm.Cond.instanceMethod ({ cls := "RopeSwing", name := "sine", desc := "(I)I" } : Jvm.MethodName)) ∈ TB := tb_of 706 _ (by decide +kernel) rfl
theorem wd_707 : (Jvm.Cond.selects "RopeSwing" ({ cls := "RopeSwing", name := "sine", desc := "(I)I" } : Jvm.MethodName) ({ cls := "RopeSwing", name := "sine", desc := "(I)I" } : Jvm.MethodName)) ∈ TB := tb_of 707 _ (by decide +kernel) rfl
theorem wd_708 : (Jvm.Cond.code ({ cls := "RopeSwing", name := "sine", desc := "(I)I" } : Jvm.MethodName) prog_1_method_11_code (2 : Nat) (Option.some Jvm.ClassFile.FieldType.int)) ∈ TB := tb_of 708 _ (by decide +kernel) rfl
theorem wd_709 : (Jvm.Cond.methodLink "RopeSwing" (175 : Nat) ({ cls := "RopeSwing", name := "sineOf", desc := "(I)I" } : Jvm.MethodName)) ∈ TB := tb_of 709 _ (by decide +kernel) rfl
theorem wd_710 : (Jvm.Cond.static ({ cls := "RopeSwing", name := "sineOf", desc := "(I)I" } : Jvm.MethodName)) ∈ TB := tb_of 710 _ (by decide +kernel) rfl
theorem wd_711 : (Jvm.Cond.code ({ cls := "RopeSwing", name := "sineOf", desc := "(I)I" } : Jvm.MethodName) prog_1_method_49_code (8 : Nat) (Option.some Jvm.ClassFile.FieldType.int)) ∈ TB := tb_of 711 _ (by decide +kernel) rfl
theorem wd_712 : (Jvm.Cond.methodLink "RopeSwing" (356 : Nat) ({ cls := "RopeSwing", name := "sizeOf", desc := "(I)I" } : Jvm.MethodName)) ∈ TB := tb_of 712 _ (by decide +kernel) rfl
theorem wd_713 : (Jvm.Cond.static ({ cls := "RopeSwing", name := "sizeOf", desc := "(I)I" } : Jvm.MethodName)) ∈ TB := tb_of 713 _ (by decide +kernel) rfl
theorem wd_714 : (Jvm.Cond.code ({ cls := "RopeSwing", name := "sizeOf", desc := "(I)I" } : Jvm.MethodName) prog_1_method_50_code (1 : Nat) (Option.some Jvm.ClassFile.FieldType.int)) ∈ TB := tb_of 714 _ (by decide +kernel) rfl
theorem wd_715 : (Jvm.Cond.constantLong "RopeSwing" (359 : Nat) (1800 : Int64)) ∈ TB := tb_of 715 _ (by decide +kernel) rfl
theorem wd_716 : (Jvm.Cond.constantLong "RopeSwing" (361 : Nat) (4050000 : Int64)) ∈ TB := tb_of 716 _ (by decide +kernel) rfl
theorem wd_717 : (Jvm.Cond.constantLong "RopeSwing" (363 : Nat) (4000 : Int64)) ∈ TB := tb_of 717 _ (by decide +kernel) rfl
theorem wd_718 : (Jvm.Cond.methodLink "RopeSwingLaw" (59 : Nat) ({ cls := "RopeSwing", name := "holds", desc := "(III)I" } : Jvm.MethodName)) ∈ TB := tb_of 718 _ (by decide +kernel) rfl
theorem wd_719 : (Jvm.Cond.instanceMethod ({ cls := "RopeSwing", name := "holds", desc := "(III)I" } : Jvm.MethodName)) ∈ TB := tb_of 719 _ (by decide +kernel) rfl
theorem wd_720 : (Jvm.Cond.selects "RopeSwing" ({ cls := "RopeSwing", name := "holds", desc := "(III)I" } : Jvm.MethodName) ({ cls := "RopeSwing", name := "holds", desc := "(III)I" } : Jvm.MethodName)) ∈ TB := tb_of 720 _ (by decide +kernel) rfl
theorem wd_721 : (Jvm.Cond.code ({ cls := "RopeSwing", name := "holds", desc := "(III)I" } : Jvm.MethodName) prog_1_method_12_code (5 : Nat) (Option.some Jvm.ClassFile.FieldType.int)) ∈ TB := tb_of 721 _ (by decide +kernel) rfl
theorem wd_722 : (Jvm.Cond.methodLink "RopeSwing" (178 : Nat) ({ cls := "RopeSwing", name := "traceNow", desc := "()V" } : Jvm.MethodName)) ∈ TB := tb_of 722 _ (by decide +kernel) rfl
theorem wd_724 : (Jvm.Cond.instanceMethod ({ cls := "RopeSwing", name := "traceNow", desc := "()V" } : Jvm.MethodName)) ∈ TB := tb_of 724 _ (by decide +kernel) rfl
theorem wd_725 : (Jvm.Cond.code ({ cls := "RopeSwing", name := "traceNow", desc := "()V" } : Jvm.MethodName) prog_1_method_38_code (1 : Nat) (Option.none : Option Jvm.ClassFile.FieldType)) ∈ TB := tb_of 725 _ (by decide +kernel) rfl
theorem wd_726 : (Jvm.Cond.methodLink "RopeSwing" (273 : Nat) ({ cls := "RopeSwing$Path", name := "trace", desc := "(IIII)V" } : Jvm.MethodName)) ∈ TB := tb_of 726 _ (by decide +kernel) rfl
theorem wd_727 : (Jvm.Cond.instanceMethod ({ cls := "RopeSwing$Path", name := "trace", desc := "(IIII)V" } : Jvm.MethodName)) ∈ TB := tb_of 727 _ (by decide +kernel) rfl
theorem wd_728 : (Jvm.Cond.selects "RopeSwing$Path" ({ cls := "RopeSwing$Path", name := "trace", desc := "(IIII)V" } : Jvm.MethodName) ({ cls := "RopeSwing$Path", name := "trace", desc := "(IIII)V" } : Jvm.MethodName)) ∈ TB := tb_of 728 _ (by decide +kernel) rfl
theorem wd_729 : (Jvm.Cond.code ({ cls := "RopeSwing$Path", name := "trace", desc := "(IIII)V" } : Jvm.MethodName) prog_3_method_2_code (6 : Nat) (Option.none : Option Jvm.ClassFile.FieldType)) ∈ TB := tb_of 729 _ (by decide +kernel) rfl
theorem wd_730 : (Jvm.Cond.methodLink "RopeSwing$Path" (57 : Nat) ({ cls := "RopeSwing$Pendulum", name := "begin", desc := "(III)V" } : Jvm.MethodName)) ∈ TB := tb_of 730 _ (by decide +kernel) rfl
theorem wd_731 : (Jvm.Cond.instanceMethod ({ cls := "RopeSwing$Pendulum", name := "begin", desc := "(III)V" } : Jvm.MethodName)) ∈ TB := tb_of 731 _ (by decide +kernel) rfl
theorem wd_732 : (Jvm.Cond.selects "RopeSwing$Pendulum" ({ cls := "RopeSwing$Pendulum", name := "begin", desc := "(III)V" } : Jvm.MethodName) ({ cls := "RopeSwing$Pendulum", name := "begin", desc := "(III)V" } : Jvm.MethodName)) ∈ TB := tb_of 732 _ (by decide +kernel) rfl
theorem wd_733 : (Jvm.Cond.code ({ cls := "RopeSwing$Pendulum", name := "begin", desc := "(III)V" } : Jvm.MethodName) prog_4_method_2_code (4 : Nat) (Option.none : Option Jvm.ClassFile.FieldType)) ∈ TB := tb_of 733 _ (by decide +kernel) rfl
theorem wd_735 : (Jvm.Cond.static ({ cls := "RopeSwing", name := "quotient", desc := "(II)I" } : Jvm.MethodName)) ∈ TB := tb_of 735 _ (by decide +kernel) rfl
theorem wd_736 : (Jvm.Cond.code ({ cls := "RopeSwing", name := "quotient", desc := "(II)I" } : Jvm.MethodName) prog_1_method_46_code (2 : Nat) (Option.some Jvm.ClassFile.FieldType.int)) ∈ TB := tb_of 736 _ (by decide +kernel) rfl
theorem wd_737 : (Jvm.Cond.methodLink "RopeSwing$Path" (61 : Nat) ({ cls := "RopeSwing$Path", name := "note", desc := "(I)V" } : Jvm.MethodName)) ∈ TB := tb_of 737 _ (by decide +kernel) rfl
theorem wd_739 : (Jvm.Cond.instanceMethod ({ cls := "RopeSwing$Path", name := "note", desc := "(I)V" } : Jvm.MethodName)) ∈ TB := tb_of 739 _ (by decide +kernel) rfl
theorem wd_740 : (Jvm.Cond.code ({ cls := "RopeSwing$Path", name := "note", desc := "(I)V" } : Jvm.MethodName) prog_3_method_3_code (7 : Nat) (Option.none : Option Jvm.ClassFile.FieldType)) ∈ TB := tb_of 740 _ (by decide +kernel) rfl
theorem wd_743 : (Jvm.Cond.constantLong "RopeSwing$Path" (79 : Nat) (80500000 : Int64)) ∈ TB := tb_of 743 _ (by decide +kernel) rfl
theorem wd_745 : (Jvm.Cond.methodLink "RopeSwing$Path" (65 : Nat) ({ cls := "RopeSwing$Pendulum", name := "swing", desc := "()V" } : Jvm.MethodName)) ∈ TB := tb_of 745 _ (by decide +kernel) rfl
theorem wd_746 : (Jvm.Cond.instanceMethod ({ cls := "RopeSwing$Pendulum", name := "swing", desc := "()V" } : Jvm.MethodName)) ∈ TB := tb_of 746 _ (by decide +kernel) rfl
theorem wd_747 : (Jvm.Cond.selects "RopeSwing$Pendulum" ({ cls := "RopeSwing$Pendulum", name := "swing", desc := "()V" } : Jvm.MethodName) ({ cls := "RopeSwing$Pendulum", name := "swing", desc := "()V" } : Jvm.MethodName)) ∈ TB := tb_of 747 _ (by decide +kernel) rfl
theorem wd_748 : (Jvm.Cond.code ({ cls := "RopeSwing$Pendulum", name := "swing", desc := "()V" } : Jvm.MethodName) prog_4_method_3_code (1 : Nat) (Option.none : Option Jvm.ClassFile.FieldType)) ∈ TB := tb_of 748 _ (by decide +kernel) rfl
theorem wd_750 : (Jvm.Cond.methodLink "RopeSwing" (181 : Nat) ({ cls := "RopeSwing$Path", name := "angle", desc := "(I)I" } : Jvm.MethodName)) ∈ TB := tb_of 750 _ (by decide +kernel) rfl
theorem wd_751 : (Jvm.Cond.instanceMethod ({ cls := "RopeSwing$Path", name := "angle", desc := "(I)I" } : Jvm.MethodName)) ∈ TB := tb_of 751 _ (by decide +kernel) rfl
theorem wd_752 : (Jvm.Cond.selects "RopeSwing$Path" ({ cls := "RopeSwing$Path", name := "angle", desc := "(I)I" } : Jvm.MethodName) ({ cls := "RopeSwing$Path", name := "angle", desc := "(I)I" } : Jvm.MethodName)) ∈ TB := tb_of 752 _ (by decide +kernel) rfl
theorem wd_753 : (Jvm.Cond.code ({ cls := "RopeSwing$Path", name := "angle", desc := "(I)I" } : Jvm.MethodName) prog_3_method_4_code (2 : Nat) (Option.some Jvm.ClassFile.FieldType.int)) ∈ TB := tb_of 753 _ (by decide +kernel) rfl
theorem wd_755 : (Jvm.Cond.methodLink "RopeSwing" (184 : Nat) ({ cls := "RopeSwing$Path", name := "pace", desc := "(I)I" } : Jvm.MethodName)) ∈ TB := tb_of 755 _ (by decide +kernel) rfl
theorem wd_756 : (Jvm.Cond.instanceMethod ({ cls := "RopeSwing$Path", name := "pace", desc := "(I)I" } : Jvm.MethodName)) ∈ TB := tb_of 756 _ (by decide +kernel) rfl
theorem wd_757 : (Jvm.Cond.selects "RopeSwing$Path" ({ cls := "RopeSwing$Path", name := "pace", desc := "(I)I" } : Jvm.MethodName) ({ cls := "RopeSwing$Path", name := "pace", desc := "(I)I" } : Jvm.MethodName)) ∈ TB := tb_of 757 _ (by decide +kernel) rfl
theorem wd_758 : (Jvm.Cond.code ({ cls := "RopeSwing$Path", name := "pace", desc := "(I)I" } : Jvm.MethodName) prog_3_method_5_code (2 : Nat) (Option.some Jvm.ClassFile.FieldType.int)) ∈ TB := tb_of 758 _ (by decide +kernel) rfl
theorem wd_759 : (Jvm.Cond.methodLink "RopeSwing" (187 : Nat) ({ cls := "RopeSwing$Path", name := "x", desc := "(I)I" } : Jvm.MethodName)) ∈ TB := tb_of 759 _ (by decide +kernel) rfl
theorem wd_760 : (Jvm.Cond.instanceMethod ({ cls := "RopeSwing$Path", name := "x", desc := "(I)I" } : Jvm.MethodName)) ∈ TB := tb_of 760 _ (by decide +kernel) rfl
theorem wd_761 : (Jvm.Cond.selects "RopeSwing$Path" ({ cls := "RopeSwing$Path", name := "x", desc := "(I)I" } : Jvm.MethodName) ({ cls := "RopeSwing$Path", name := "x", desc := "(I)I" } : Jvm.MethodName)) ∈ TB := tb_of 761 _ (by decide +kernel) rfl
theorem wd_762 : (Jvm.Cond.code ({ cls := "RopeSwing$Path", name := "x", desc := "(I)I" } : Jvm.MethodName) prog_3_method_6_code (2 : Nat) (Option.some Jvm.ClassFile.FieldType.int)) ∈ TB := tb_of 762 _ (by decide +kernel) rfl
theorem wd_763 : (Jvm.Cond.methodLink "RopeSwing" (190 : Nat) ({ cls := "RopeSwing$Path", name := "height", desc := "(I)I" } : Jvm.MethodName)) ∈ TB := tb_of 763 _ (by decide +kernel) rfl
theorem wd_764 : (Jvm.Cond.instanceMethod ({ cls := "RopeSwing$Path", name := "height", desc := "(I)I" } : Jvm.MethodName)) ∈ TB := tb_of 764 _ (by decide +kernel) rfl
theorem wd_765 : (Jvm.Cond.selects "RopeSwing$Path" ({ cls := "RopeSwing$Path", name := "height", desc := "(I)I" } : Jvm.MethodName) ({ cls := "RopeSwing$Path", name := "height", desc := "(I)I" } : Jvm.MethodName)) ∈ TB := tb_of 765 _ (by decide +kernel) rfl
theorem wd_766 : (Jvm.Cond.code ({ cls := "RopeSwing$Path", name := "height", desc := "(I)I" } : Jvm.MethodName) prog_3_method_7_code (2 : Nat) (Option.some Jvm.ClassFile.FieldType.int)) ∈ TB := tb_of 766 _ (by decide +kernel) rfl
theorem wd_767 : (Jvm.Cond.methodLink "RopeSwing" (193 : Nat) ({ cls := "RopeSwing$Path", name := "pull", desc := "(II)I" } : Jvm.MethodName)) ∈ TB := tb_of 767 _ (by decide +kernel) rfl
theorem wd_768 : (Jvm.Cond.instanceMethod ({ cls := "RopeSwing$Path", name := "pull", desc := "(II)I" } : Jvm.MethodName)) ∈ TB := tb_of 768 _ (by decide +kernel) rfl
theorem wd_769 : (Jvm.Cond.selects "RopeSwing$Path" ({ cls := "RopeSwing$Path", name := "pull", desc := "(II)I" } : Jvm.MethodName) ({ cls := "RopeSwing$Path", name := "pull", desc := "(II)I" } : Jvm.MethodName)) ∈ TB := tb_of 769 _ (by decide +kernel) rfl
theorem wd_770 : (Jvm.Cond.code ({ cls := "RopeSwing$Path", name := "pull", desc := "(II)I" } : Jvm.MethodName) prog_3_method_10_code (3 : Nat) (Option.some Jvm.ClassFile.FieldType.int)) ∈ TB := tb_of 770 _ (by decide +kernel) rfl
theorem wd_771 : (Jvm.Cond.methodLink "RopeSwing$Path" (89 : Nat) ({ cls := "java/lang/Math", name := "max", desc := "(II)I" } : Jvm.MethodName)) ∈ TB := tb_of 771 _ (by decide +kernel) rfl
theorem wd_772 : (Jvm.Cond.static ({ cls := "java/lang/Math", name := "max", desc := "(II)I" } : Jvm.MethodName)) ∈ TB := tb_of 772 _ (by decide +kernel) rfl
theorem wd_773 : (Jvm.Cond.code ({ cls := "java/lang/Math", name := "max", desc := "(II)I" } : Jvm.MethodName) prog_14_method_65_code (2 : Nat) (Option.some Jvm.ClassFile.FieldType.int)) ∈ TB := tb_of 773 _ (by decide +kernel) rfl
theorem wd_774 : (Jvm.Cond.methodLink "RopeSwing" (196 : Nat) ({ cls := "RopeSwing$Path", name := "left", desc := "(III)I" } : Jvm.MethodName)) ∈ TB := tb_of 774 _ (by decide +kernel) rfl
theorem wd_775 : (Jvm.Cond.instanceMethod ({ cls := "RopeSwing$Path", name := "left", desc := "(III)I" } : Jvm.MethodName)) ∈ TB := tb_of 775 _ (by decide +kernel) rfl
theorem wd_776 : (Jvm.Cond.selects "RopeSwing$Path" ({ cls := "RopeSwing$Path", name := "left", desc := "(III)I" } : Jvm.MethodName) ({ cls := "RopeSwing$Path", name := "left", desc := "(III)I" } : Jvm.MethodName)) ∈ TB := tb_of 776 _ (by decide +kernel) rfl
theorem wd_777 : (Jvm.Cond.code ({ cls := "RopeSwing$Path", name := "left", desc := "(III)I" } : Jvm.MethodName) prog_3_method_11_code (6 : Nat) (Option.some Jvm.ClassFile.FieldType.int)) ∈ TB := tb_of 777 _ (by decide +kernel) rfl
theorem wd_778 : (Jvm.Cond.methodLink "RopeSwing$Path" (95 : Nat) ({ cls := "RopeSwing$Path", name := "pull", desc := "(II)I" } : Jvm.MethodName)) ∈ TB := tb_of 778 _ (by decide +kernel) rfl
theorem wd_780 : (Jvm.Cond.methodLink "RopeSwingLaw" (64 : Nat) ({ cls := "RopeSwing", name := "lands", desc := "(III)I" } : Jvm.MethodName)) ∈ TB := tb_of 780 _ (by decide +kernel) rfl
theorem wd_781 : (Jvm.Cond.instanceMethod ({ cls := "RopeSwing", name := "lands", desc := "(III)I" } : Jvm.MethodName)) ∈ TB := tb_of 781 _ (by decide +kernel) rfl
theorem wd_782 : (Jvm.Cond.selects "RopeSwing" ({ cls := "RopeSwing", name := "lands", desc := "(III)I" } : Jvm.MethodName) ({ cls := "RopeSwing", name := "lands", desc := "(III)I" } : Jvm.MethodName)) ∈ TB := tb_of 782 _ (by decide +kernel) rfl
theorem wd_783 : (Jvm.Cond.code ({ cls := "RopeSwing", name := "lands", desc := "(III)I" } : Jvm.MethodName) prog_1_method_13_code (5 : Nat) (Option.some Jvm.ClassFile.FieldType.int)) ∈ TB := tb_of 783 _ (by decide +kernel) rfl
theorem wd_784 : (Jvm.Cond.methodLink "RopeSwing" (200 : Nat) ({ cls := "RopeSwing", name := "ready", desc := "(LRopeSwing$Swinger;)V" } : Jvm.MethodName)) ∈ TB := tb_of 784 _ (by decide +kernel) rfl
theorem wd_786 : (Jvm.Cond.instanceMethod ({ cls := "RopeSwing", name := "ready", desc := "(LRopeSwing$Swinger;)V" } : Jvm.MethodName)) ∈ TB := tb_of 786 _ (by decide +kernel) rfl
theorem wd_787 : (Jvm.Cond.code ({ cls := "RopeSwing", name := "ready", desc := "(LRopeSwing$Swinger;)V" } : Jvm.MethodName) prog_1_method_39_code (2 : Nat) (Option.none : Option Jvm.ClassFile.FieldType)) ∈ TB := tb_of 787 _ (by decide +kernel) rfl
theorem wd_788 : (Jvm.Cond.methodLink "RopeSwing" (341 : Nat) ({ cls := "RopeSwing$Jump", name := "suit", desc := "(LRopeSwing$Swinger;)V" } : Jvm.MethodName)) ∈ TB := tb_of 788 _ (by decide +kernel) rfl
theorem wd_789 : (Jvm.Cond.instanceMethod ({ cls := "RopeSwing$Jump", name := "suit", desc := "(LRopeSwing$Swinger;)V" } : Jvm.MethodName)) ∈ TB := tb_of 789 _ (by decide +kernel) rfl
theorem wd_790 : (Jvm.Cond.selects "RopeSwing$Jump" ({ cls := "RopeSwing$Jump", name := "suit", desc := "(LRopeSwing$Swinger;)V" } : Jvm.MethodName) ({ cls := "RopeSwing$Jump", name := "suit", desc := "(LRopeSwing$Swinger;)V" } : Jvm.MethodName)) ∈ TB := tb_of 790 _ (by decide +kernel) rfl
theorem wd_791 : (Jvm.Cond.code ({ cls := "RopeSwing$Jump", name := "suit", desc := "(LRopeSwing$Swinger;)V" } : Jvm.MethodName) prog_2_method_2_code (2 : Nat) (Option.none : Option Jvm.ClassFile.FieldType)) ∈ TB := tb_of 791 _ (by decide +kernel) rfl
theorem wd_792 : (Jvm.Cond.methodLink "RopeSwing$Jump" (19 : Nat) ({ cls := "RopeSwing$Swinger", name := "number", desc := "(I)I" } : Jvm.MethodName)) ∈ TB := tb_of 792 _ (by decide +kernel) rfl
theorem wd_793 : (Jvm.Cond.methodLink "RopeSwing" (270 : Nat) ({ cls := "RopeSwing$Jump", name := "hold", desc := "()V" } : Jvm.MethodName)) ∈ TB := tb_of 793 _ (by decide +kernel) rfl
theorem wd_794 : (Jvm.Cond.instanceMethod ({ cls := "RopeSwing$Jump", name := "hold", desc := "()V" } : Jvm.MethodName)) ∈ TB := tb_of 794 _ (by decide +kernel) rfl
theorem wd_795 : (Jvm.Cond.selects "RopeSwing$Jump" ({ cls := "RopeSwing$Jump", name := "hold", desc := "()V" } : Jvm.MethodName) ({ cls := "RopeSwing$Jump", name := "hold", desc := "()V" } : Jvm.MethodName)) ∈ TB := tb_of 795 _ (by decide +kernel) rfl
theorem wd_796 : (Jvm.Cond.code ({ cls := "RopeSwing$Jump", name := "hold", desc := "()V" } : Jvm.MethodName) prog_2_method_3_code (5 : Nat) (Option.none : Option Jvm.ClassFile.FieldType)) ∈ TB := tb_of 796 _ (by decide +kernel) rfl
theorem wd_797 : (Jvm.Cond.methodLink "RopeSwing$Jump" (47 : Nat) ({ cls := "RopeSwing$Path", name := "pull", desc := "(II)I" } : Jvm.MethodName)) ∈ TB := tb_of 797 _ (by decide +kernel) rfl
theorem wd_799 : (Jvm.Cond.methodLink "RopeSwing$Jump" (56 : Nat) ({ cls := "RopeSwing$Jump", name := "stopsBehind", desc := "(III)I" } : Jvm.MethodName)) ∈ TB := tb_of 799 _ (by decide +kernel) rfl
theorem wd_801 : (Jvm.Cond.instanceMethod ({ cls := "RopeSwing$Jump", name := "stopsBehind", desc := "(III)I" } : Jvm.MethodName)) ∈ TB := tb_of 801 _ (by decide +kernel) rfl
theorem wd_802 : (Jvm.Cond.code ({ cls := "RopeSwing$Jump", name := "stopsBehind", desc := "(III)I" } : Jvm.MethodName) prog_2_method_4_code (6 : Nat) (Option.some Jvm.ClassFile.FieldType.int)) ∈ TB := tb_of 802 _ (by decide +kernel) rfl
theorem wd_803 : (Jvm.Cond.methodLink "RopeSwing$Jump" (63 : Nat) ({ cls := "RopeSwing$Path", name := "x", desc := "(I)I" } : Jvm.MethodName)) ∈ TB := tb_of 803 _ (by decide +kernel) rfl
theorem wd_804 : (Jvm.Cond.methodLink "RopeSwing$Jump" (66 : Nat) ({ cls := "RopeSwing$Path", name := "pace", desc := "(I)I" } : Jvm.MethodName)) ∈ TB := tb_of 804 _ (by decide +kernel) rfl
theorem wd_805 : (Jvm.Cond.methodLink "RopeSwing$Jump" (69 : Nat) ({ cls := "RopeSwing$Place", name := "number", desc := "(I)I" } : Jvm.MethodName)) ∈ TB := tb_of 805 _ (by decide +kernel) rfl
theorem wd_806 : (Jvm.Cond.methodLink "RopeSwing$Jump" (72 : Nat) ({ cls := "RopeSwing$Path", name := "height", desc := "(I)I" } : Jvm.MethodName)) ∈ TB := tb_of 806 _ (by decide +kernel) rfl
theorem wd_807 : (Jvm.Cond.methodLink "RopeSwing$Jump" (78 : Nat) ({ cls := "RopeSwing$Place", name := "cellAt", desc := "(I)I" } : Jvm.MethodName)) ∈ TB := tb_of 807 _ (by decide +kernel) rfl
theorem wd_808 : (Jvm.Cond.static ({ cls := "RopeSwing$Place", name := "cellAt", desc := "(I)I" } : Jvm.MethodName)) ∈ TB := tb_of 808 _ (by decide +kernel) rfl
theorem wd_809 : (Jvm.Cond.code ({ cls := "RopeSwing$Place", name := "cellAt", desc := "(I)I" } : Jvm.MethodName) prog_5_method_8_code (1 : Nat) (Option.some Jvm.ClassFile.FieldType.int)) ∈ TB := tb_of 809 _ (by decide +kernel) rfl
theorem wd_810 : (Jvm.Cond.methodLink "RopeSwing$Jump" (81 : Nat) ({ cls := "RopeSwing$Place", name := "kind", desc := "(I)I" } : Jvm.MethodName)) ∈ TB := tb_of 810 _ (by decide +kernel) rfl
theorem wd_811 : (Jvm.Cond.methodLink "RopeSwing" (207 : Nat) ({ cls := "RopeSwing$Jump", name := "letGo", desc := "(I)V" } : Jvm.MethodName)) ∈ TB := tb_of 811 _ (by decide +kernel) rfl
theorem wd_812 : (Jvm.Cond.instanceMethod ({ cls := "RopeSwing$Jump", name := "letGo", desc := "(I)V" } : Jvm.MethodName)) ∈ TB := tb_of 812 _ (by decide +kernel) rfl
theorem wd_813 : (Jvm.Cond.selects "RopeSwing$Jump" ({ cls := "RopeSwing$Jump", name := "letGo", desc := "(I)V" } : Jvm.MethodName) ({ cls := "RopeSwing$Jump", name := "letGo", desc := "(I)V" } : Jvm.MethodName)) ∈ TB := tb_of 813 _ (by decide +kernel) rfl
theorem wd_814 : (Jvm.Cond.code ({ cls := "RopeSwing$Jump", name := "letGo", desc := "(I)V" } : Jvm.MethodName) prog_2_method_6_code (2 : Nat) (Option.none : Option Jvm.ClassFile.FieldType)) ∈ TB := tb_of 814 _ (by decide +kernel) rfl
theorem wd_815 : (Jvm.Cond.methodLink "RopeSwing$Jump" (84 : Nat) ({ cls := "RopeSwing$Jump", name := "canLetGo", desc := "(I)Z" } : Jvm.MethodName)) ∈ TB := tb_of 815 _ (by decide +kernel) rfl
theorem wd_817 : (Jvm.Cond.instanceMethod ({ cls := "RopeSwing$Jump", name := "canLetGo", desc := "(I)Z" } : Jvm.MethodName)) ∈ TB := tb_of 817 _ (by decide +kernel) rfl
theorem wd_818 : (Jvm.Cond.code ({ cls := "RopeSwing$Jump", name := "canLetGo", desc := "(I)Z" } : Jvm.MethodName) prog_2_method_5_code (2 : Nat) (Option.some Jvm.ClassFile.FieldType.boolean)) ∈ TB := tb_of 818 _ (by decide +kernel) rfl
theorem wd_819 : (Jvm.Cond.methodLink "RopeSwing$Jump" (88 : Nat) ({ cls := "RopeSwing$Jump", name := "fly", desc := "(I)V" } : Jvm.MethodName)) ∈ TB := tb_of 819 _ (by decide +kernel) rfl
theorem wd_821 : (Jvm.Cond.instanceMethod ({ cls := "RopeSwing$Jump", name := "fly", desc := "(I)V" } : Jvm.MethodName)) ∈ TB := tb_of 821 _ (by decide +kernel) rfl
theorem wd_822 : (Jvm.Cond.code ({ cls := "RopeSwing$Jump", name := "fly", desc := "(I)V" } : Jvm.MethodName) prog_2_method_7_code (9 : Nat) (Option.none : Option Jvm.ClassFile.FieldType)) ∈ TB := tb_of 822 _ (by decide +kernel) rfl
theorem wd_823 : (Jvm.Cond.methodLink "RopeSwing$Jump" (110 : Nat) ({ cls := "RopeSwing$Path", name := "across", desc := "(I)I" } : Jvm.MethodName)) ∈ TB := tb_of 823 _ (by decide +kernel) rfl
theorem wd_824 : (Jvm.Cond.instanceMethod ({ cls := "RopeSwing$Path", name := "across", desc := "(I)I" } : Jvm.MethodName)) ∈ TB := tb_of 824 _ (by decide +kernel) rfl
theorem wd_825 : (Jvm.Cond.selects "RopeSwing$Path" ({ cls := "RopeSwing$Path", name := "across", desc := "(I)I" } : Jvm.MethodName) ({ cls := "RopeSwing$Path", name := "across", desc := "(I)I" } : Jvm.MethodName)) ∈ TB := tb_of 825 _ (by decide +kernel) rfl
theorem wd_826 : (Jvm.Cond.code ({ cls := "RopeSwing$Path", name := "across", desc := "(I)I" } : Jvm.MethodName) prog_3_method_8_code (2 : Nat) (Option.some Jvm.ClassFile.FieldType.int)) ∈ TB := tb_of 826 _ (by decide +kernel) rfl
theorem wd_827 : (Jvm.Cond.methodLink "RopeSwing$Jump" (113 : Nat) ({ cls := "RopeSwing$Path", name := "up", desc := "(I)I" } : Jvm.MethodName)) ∈ TB := tb_of 827 _ (by decide +kernel) rfl
theorem wd_828 : (Jvm.Cond.instanceMethod ({ cls := "RopeSwing$Path", name := "up", desc := "(I)I" } : Jvm.MethodName)) ∈ TB := tb_of 828 _ (by decide +kernel) rfl
theorem wd_829 : (Jvm.Cond.selects "RopeSwing$Path" ({ cls := "RopeSwing$Path", name := "up", desc := "(I)I" } : Jvm.MethodName) ({ cls := "RopeSwing$Path", name := "up", desc := "(I)I" } : Jvm.MethodName)) ∈ TB := tb_of 829 _ (by decide +kernel) rfl
theorem wd_830 : (Jvm.Cond.code ({ cls := "RopeSwing$Path", name := "up", desc := "(I)I" } : Jvm.MethodName) prog_3_method_9_code (2 : Nat) (Option.some Jvm.ClassFile.FieldType.int)) ∈ TB := tb_of 830 _ (by decide +kernel) rfl
theorem wd_831 : (Jvm.Cond.methodLink "RopeSwing$Jump" (116 : Nat) ({ cls := "RopeSwing$Jump", name := "landing", desc := "(I)I" } : Jvm.MethodName)) ∈ TB := tb_of 831 _ (by decide +kernel) rfl
theorem wd_833 : (Jvm.Cond.instanceMethod ({ cls := "RopeSwing$Jump", name := "landing", desc := "(I)I" } : Jvm.MethodName)) ∈ TB := tb_of 833 _ (by decide +kernel) rfl
theorem wd_834 : (Jvm.Cond.code ({ cls := "RopeSwing$Jump", name := "landing", desc := "(I)I" } : Jvm.MethodName) prog_2_method_8_code (3 : Nat) (Option.some Jvm.ClassFile.FieldType.int)) ∈ TB := tb_of 834 _ (by decide +kernel) rfl
theorem wd_835 : (Jvm.Cond.methodLink "RopeSwing$Jump" (119 : Nat) ({ cls := "RopeSwing$Place", name := "depth", desc := "(II)I" } : Jvm.MethodName)) ∈ TB := tb_of 835 _ (by decide +kernel) rfl
theorem wd_836 : (Jvm.Cond.methodLink "RopeSwingLaw" (68 : Nat) ({ cls := "RopeSwing", name := "best", desc := "(II)I" } : Jvm.MethodName)) ∈ TB := tb_of 836 _ (by decide +kernel) rfl
theorem wd_837 : (Jvm.Cond.instanceMethod ({ cls := "RopeSwing", name := "best", desc := "(II)I" } : Jvm.MethodName)) ∈ TB := tb_of 837 _ (by decide +kernel) rfl
theorem wd_838 : (Jvm.Cond.selects "RopeSwing" ({ cls := "RopeSwing", name := "best", desc := "(II)I" } : Jvm.MethodName) ({ cls := "RopeSwing", name := "best", desc := "(II)I" } : Jvm.MethodName)) ∈ TB := tb_of 838 _ (by decide +kernel) rfl
theorem wd_839 : (Jvm.Cond.code ({ cls := "RopeSwing", name := "best", desc := "(II)I" } : Jvm.MethodName) prog_1_method_14_code (4 : Nat) (Option.some Jvm.ClassFile.FieldType.int)) ∈ TB := tb_of 839 _ (by decide +kernel) rfl
theorem wd_840 : (Jvm.Cond.methodLink "RopeSwing" (228 : Nat) ({ cls := "RopeSwing$Times", name := "scan", desc := "(LRopeSwing$Jump;)V" } : Jvm.MethodName)) ∈ TB := tb_of 840 _ (by decide +kernel) rfl
theorem wd_841 : (Jvm.Cond.instanceMethod ({ cls := "RopeSwing$Times", name := "scan", desc := "(LRopeSwing$Jump;)V" } : Jvm.MethodName)) ∈ TB := tb_of 841 _ (by decide +kernel) rfl
theorem wd_842 : (Jvm.Cond.selects "RopeSwing$Times" ({ cls := "RopeSwing$Times", name := "scan", desc := "(LRopeSwing$Jump;)V" } : Jvm.MethodName) ({ cls := "RopeSwing$Times", name := "scan", desc := "(LRopeSwing$Jump;)V" } : Jvm.MethodName)) ∈ TB := tb_of 842 _ (by decide +kernel) rfl
theorem wd_843 : (Jvm.Cond.code ({ cls := "RopeSwing$Times", name := "scan", desc := "(LRopeSwing$Jump;)V" } : Jvm.MethodName) prog_10_method_2_code (6 : Nat) (Option.none : Option Jvm.ClassFile.FieldType)) ∈ TB := tb_of 843 _ (by decide +kernel) rfl
theorem wd_844 : (Jvm.Cond.methodLink "RopeSwing$Times" (32 : Nat) ({ cls := "RopeSwing$Jump", name := "endsGood", desc := "(I)Z" } : Jvm.MethodName)) ∈ TB := tb_of 844 _ (by decide +kernel) rfl
theorem wd_845 : (Jvm.Cond.instanceMethod ({ cls := "RopeSwing$Jump", name := "endsGood", desc := "(I)Z" } : Jvm.MethodName)) ∈ TB := tb_of 845 _ (by decide +kernel) rfl
theorem wd_846 : (Jvm.Cond.selects "RopeSwing$Jump" ({ cls := "RopeSwing$Jump", name := "endsGood", desc := "(I)Z" } : Jvm.MethodName) ({ cls := "RopeSwing$Jump", name := "endsGood", desc := "(I)Z" } : Jvm.MethodName)) ∈ TB := tb_of 846 _ (by decide +kernel) rfl
theorem wd_847 : (Jvm.Cond.code ({ cls := "RopeSwing$Jump", name := "endsGood", desc := "(I)Z" } : Jvm.MethodName) prog_2_method_9_code (2 : Nat) (Option.some Jvm.ClassFile.FieldType.boolean)) ∈ TB := tb_of 847 _ (by decide +kernel) rfl
theorem wd_849 : (Jvm.Cond.static ({ cls := "RopeSwing", name := "isGood", desc := "(I)Z" } : Jvm.MethodName)) ∈ TB := tb_of 849 _ (by decide +kernel) rfl
theorem wd_850 : (Jvm.Cond.code ({ cls := "RopeSwing", name := "isGood", desc := "(I)Z" } : Jvm.MethodName) prog_1_method_45_code (1 : Nat) (Option.some Jvm.ClassFile.FieldType.boolean)) ∈ TB := tb_of 850 _ (by decide +kernel) rfl
theorem wd_851 : (Jvm.Cond.methodLink "RopeSwingLaw" (72 : Nat) ({ cls := "RopeSwing", name := "wide", desc := "(II)I" } : Jvm.MethodName)) ∈ TB := tb_of 851 _ (by decide +kernel) rfl
theorem wd_852 : (Jvm.Cond.instanceMethod ({ cls := "RopeSwing", name := "wide", desc := "(II)I" } : Jvm.MethodName)) ∈ TB := tb_of 852 _ (by decide +kernel) rfl
theorem wd_853 : (Jvm.Cond.selects "RopeSwing" ({ cls := "RopeSwing", name := "wide", desc := "(II)I" } : Jvm.MethodName) ({ cls := "RopeSwing", name := "wide", desc := "(II)I" } : Jvm.MethodName)) ∈ TB := tb_of 853 _ (by decide +kernel) rfl
theorem wd_854 : (Jvm.Cond.code ({ cls := "RopeSwing", name := "wide", desc := "(II)I" } : Jvm.MethodName) prog_1_method_15_code (4 : Nat) (Option.some Jvm.ClassFile.FieldType.int)) ∈ TB := tb_of 854 _ (by decide +kernel) rfl
theorem wd_855 : (Jvm.Cond.methodLink "RopeSwingLaw" (76 : Nat) ({ cls := "RopeSwing", name := "odds", desc := "(III)I" } : Jvm.MethodName)) ∈ TB := tb_of 855 _ (by decide +kernel) rfl
theorem wd_856 : (Jvm.Cond.instanceMethod ({ cls := "RopeSwing", name := "odds", desc := "(III)I" } : Jvm.MethodName)) ∈ TB := tb_of 856 _ (by decide +kernel) rfl
theorem wd_857 : (Jvm.Cond.selects "RopeSwing" ({ cls := "RopeSwing", name := "odds", desc := "(III)I" } : Jvm.MethodName) ({ cls := "RopeSwing", name := "odds", desc := "(III)I" } : Jvm.MethodName)) ∈ TB := tb_of 857 _ (by decide +kernel) rfl
theorem wd_858 : (Jvm.Cond.code ({ cls := "RopeSwing", name := "odds", desc := "(III)I" } : Jvm.MethodName) prog_1_method_16_code (7 : Nat) (Option.some Jvm.ClassFile.FieldType.int)) ∈ TB := tb_of 858 _ (by decide +kernel) rfl
theorem wd_859 : (Jvm.Cond.methodLink "RopeSwing" (244 : Nat) ({ cls := "RopeSwing$Jump", name := "endsGood", desc := "(I)Z" } : Jvm.MethodName)) ∈ TB := tb_of 859 _ (by decide +kernel) rfl
theorem wd_860 : (Jvm.Cond.constant "RopeSwing" (248 : Nat) (1000000 : Int32)) ∈ TB := tb_of 860 _ (by decide +kernel) rfl
theorem wd_861 : (Jvm.Cond.methodLink "RopeSwing" (249 : Nat) ({ cls := "RopeSwing", name := "quotient", desc := "(II)I" } : Jvm.MethodName)) ∈ TB := tb_of 861 _ (by decide +kernel) rfl
theorem wd_862 : (Jvm.Cond.methodLink "RopeSwingLaw" (80 : Nat) ({ cls := "RopeSwing", name := "strong", desc := "(II)I" } : Jvm.MethodName)) ∈ TB := tb_of 862 _ (by decide +kernel) rfl
theorem wd_863 : (Jvm.Cond.instanceMethod ({ cls := "RopeSwing", name := "strong", desc := "(II)I" } : Jvm.MethodName)) ∈ TB := tb_of 863 _ (by decide +kernel) rfl
theorem wd_864 : (Jvm.Cond.selects "RopeSwing" ({ cls := "RopeSwing", name := "strong", desc := "(II)I" } : Jvm.MethodName) ({ cls := "RopeSwing", name := "strong", desc := "(II)I" } : Jvm.MethodName)) ∈ TB := tb_of 864 _ (by decide +kernel) rfl
theorem wd_865 : (Jvm.Cond.code ({ cls := "RopeSwing", name := "strong", desc := "(II)I" } : Jvm.MethodName) prog_1_method_17_code (5 : Nat) (Option.some Jvm.ClassFile.FieldType.int)) ∈ TB := tb_of 865 _ (by decide +kernel) rfl
theorem wd_866 : (Jvm.Cond.methodLink "RopeSwing" (252 : Nat) ({ cls := "RopeSwing$Swinger", name := "least", desc := "(I)I" } : Jvm.MethodName)) ∈ TB := tb_of 866 _ (by decide +kernel) rfl
theorem wd_867 : (Jvm.Cond.methodLink "RopeSwing" (255 : Nat) ({ cls := "RopeSwing$Swinger", name := "most", desc := "(I)I" } : Jvm.MethodName)) ∈ TB := tb_of 867 _ (by decide +kernel) rfl
theorem wd_868 : (Jvm.Cond.methodLink "RopeSwingLaw" (84 : Nat) ({ cls := "RopeSwing", name := "heavy", desc := "()I" } : Jvm.MethodName)) ∈ TB := tb_of 868 _ (by decide +kernel) rfl
theorem wd_869 : (Jvm.Cond.instanceMethod ({ cls := "RopeSwing", name := "heavy", desc := "()I" } : Jvm.MethodName)) ∈ TB := tb_of 869 _ (by decide +kernel) rfl
theorem wd_870 : (Jvm.Cond.selects "RopeSwing" ({ cls := "RopeSwing", name := "heavy", desc := "()I" } : Jvm.MethodName) ({ cls := "RopeSwing", name := "heavy", desc := "()I" } : Jvm.MethodName)) ∈ TB := tb_of 870 _ (by decide +kernel) rfl
theorem wd_871 : (Jvm.Cond.code ({ cls := "RopeSwing", name := "heavy", desc := "()I" } : Jvm.MethodName) prog_1_method_18_code (3 : Nat) (Option.some Jvm.ClassFile.FieldType.int)) ∈ TB := tb_of 871 _ (by decide +kernel) rfl
theorem wd_872 : (Jvm.Cond.methodLink "RopeSwing" (258 : Nat) ({ cls := "RopeSwing$Path", name := "hardestPull", desc := "(I)I" } : Jvm.MethodName)) ∈ TB := tb_of 872 _ (by decide +kernel) rfl
theorem wd_873 : (Jvm.Cond.instanceMethod ({ cls := "RopeSwing$Path", name := "hardestPull", desc := "(I)I" } : Jvm.MethodName)) ∈ TB := tb_of 873 _ (by decide +kernel) rfl
theorem wd_874 : (Jvm.Cond.selects "RopeSwing$Path" ({ cls := "RopeSwing$Path", name := "hardestPull", desc := "(I)I" } : Jvm.MethodName) ({ cls := "RopeSwing$Path", name := "hardestPull", desc := "(I)I" } : Jvm.MethodName)) ∈ TB := tb_of 874 _ (by decide +kernel) rfl
theorem wd_875 : (Jvm.Cond.code ({ cls := "RopeSwing$Path", name := "hardestPull", desc := "(I)I" } : Jvm.MethodName) prog_3_method_12_code (4 : Nat) (Option.some Jvm.ClassFile.FieldType.int)) ∈ TB := tb_of 875 _ (by decide +kernel) rfl
theorem wd_876 : (Jvm.Cond.methodLink "RopeSwingLaw" (88 : Nat) ({ cls := "RopeSwing", name := "may", desc := "()I" } : Jvm.MethodName)) ∈ TB := tb_of 876 _ (by decide +kernel) rfl
theorem wd_877 : (Jvm.Cond.instanceMethod ({ cls := "RopeSwing", name := "may", desc := "()I" } : Jvm.MethodName)) ∈ TB := tb_of 877 _ (by decide +kernel) rfl
theorem wd_878 : (Jvm.Cond.selects "RopeSwing" ({ cls := "RopeSwing", name := "may", desc := "()I" } : Jvm.MethodName) ({ cls := "RopeSwing", name := "may", desc := "()I" } : Jvm.MethodName)) ∈ TB := tb_of 878 _ (by decide +kernel) rfl
theorem wd_879 : (Jvm.Cond.code ({ cls := "RopeSwing", name := "may", desc := "()I" } : Jvm.MethodName) prog_1_method_19_code (4 : Nat) (Option.some Jvm.ClassFile.FieldType.int)) ∈ TB := tb_of 879 _ (by decide +kernel) rfl
theorem wd_880 : (Jvm.Cond.methodLink "RopeSwing" (261 : Nat) ({ cls := "RopeSwing$Jump", name := "hasGoodTime", desc := "()Z" } : Jvm.MethodName)) ∈ TB := tb_of 880 _ (by decide +kernel) rfl
theorem wd_881 : (Jvm.Cond.instanceMethod ({ cls := "RopeSwing$Jump", name := "hasGoodTime", desc := "()Z" } : Jvm.MethodName)) ∈ TB := tb_of 881 _ (by decide +kernel) rfl
theorem wd_882 : (Jvm.Cond.selects "RopeSwing$Jump" ({ cls := "RopeSwing$Jump", name := "hasGoodTime", desc := "()Z" } : Jvm.MethodName) ({ cls := "RopeSwing$Jump", name := "hasGoodTime", desc := "()Z" } : Jvm.MethodName)) ∈ TB := tb_of 882 _ (by decide +kernel) rfl
theorem wd_883 : (Jvm.Cond.code ({ cls := "RopeSwing$Jump", name := "hasGoodTime", desc := "()Z" } : Jvm.MethodName) prog_2_method_10_code (2 : Nat) (Option.some Jvm.ClassFile.FieldType.boolean)) ∈ TB := tb_of 883 _ (by decide +kernel) rfl
theorem wd_884 : (Jvm.Cond.methodLink "RopeSwing$Jump" (125 : Nat) ({ cls := "RopeSwing$Jump", name := "endsGood", desc := "(I)Z" } : Jvm.MethodName)) ∈ TB := tb_of 884 _ (by decide +kernel) rfl
theorem wd_885 : (Jvm.Cond.methodLink "RopeSwingLaw" (92 : Nat) ({ cls := "RopeSwing", name := "months", desc := "(I)I" } : Jvm.MethodName)) ∈ TB := tb_of 885 _ (by decide +kernel) rfl
theorem wd_886 : (Jvm.Cond.instanceMethod ({ cls := "RopeSwing", name := "months", desc := "(I)I" } : Jvm.MethodName)) ∈ TB := tb_of 886 _ (by decide +kernel) rfl
theorem wd_887 : (Jvm.Cond.selects "RopeSwing" ({ cls := "RopeSwing", name := "months", desc := "(I)I" } : Jvm.MethodName) ({ cls := "RopeSwing", name := "months", desc := "(I)I" } : Jvm.MethodName)) ∈ TB := tb_of 887 _ (by decide +kernel) rfl
theorem wd_888 : (Jvm.Cond.code ({ cls := "RopeSwing", name := "months", desc := "(I)I" } : Jvm.MethodName) prog_1_method_20_code (5 : Nat) (Option.some Jvm.ClassFile.FieldType.int)) ∈ TB := tb_of 888 _ (by decide +kernel) rfl
theorem wd_889 : (Jvm.Cond.methodLink "RopeSwingLaw" (96 : Nat) ({ cls := "RopeSwing", name := "rope", desc := "(II)I" } : Jvm.MethodName)) ∈ TB := tb_of 889 _ (by decide +kernel) rfl
theorem wd_890 : (Jvm.Cond.instanceMethod ({ cls := "RopeSwing", name := "rope", desc := "(II)I" } : Jvm.MethodName)) ∈ TB := tb_of 890 _ (by decide +kernel) rfl
theorem wd_891 : (Jvm.Cond.selects "RopeSwing" ({ cls := "RopeSwing", name := "rope", desc := "(II)I" } : Jvm.MethodName) ({ cls := "RopeSwing", name := "rope", desc := "(II)I" } : Jvm.MethodName)) ∈ TB := tb_of 891 _ (by decide +kernel) rfl
theorem wd_892 : (Jvm.Cond.code ({ cls := "RopeSwing", name := "rope", desc := "(II)I" } : Jvm.MethodName) prog_1_method_21_code (9 : Nat) (Option.some Jvm.ClassFile.FieldType.int)) ∈ TB := tb_of 892 _ (by decide +kernel) rfl
theorem wd_893 : (Jvm.Cond.methodLink "RopeSwingLaw" (100 : Nat) ({ cls := "RopeSwing", name := "turn", desc := "(II)I" } : Jvm.MethodName)) ∈ TB := tb_of 893 _ (by decide +kernel) rfl
theorem wd_894 : (Jvm.Cond.instanceMethod ({ cls := "RopeSwing", name := "turn", desc := "(II)I" } : Jvm.MethodName)) ∈ TB := tb_of 894 _ (by decide +kernel) rfl
theorem wd_895 : (Jvm.Cond.selects "RopeSwing" ({ cls := "RopeSwing", name := "turn", desc := "(II)I" } : Jvm.MethodName) ({ cls := "RopeSwing", name := "turn", desc := "(II)I" } : Jvm.MethodName)) ∈ TB := tb_of 895 _ (by decide +kernel) rfl
theorem wd_896 : (Jvm.Cond.code ({ cls := "RopeSwing", name := "turn", desc := "(II)I" } : Jvm.MethodName) prog_1_method_22_code (5 : Nat) (Option.some Jvm.ClassFile.FieldType.int)) ∈ TB := tb_of 896 _ (by decide +kernel) rfl
theorem wd_897 : (Jvm.Cond.methodLink "RopeSwingLaw" (104 : Nat) ({ cls := "RopeSwing", name := "film", desc := "(II)I" } : Jvm.MethodName)) ∈ TB := tb_of 897 _ (by decide +kernel) rfl
theorem wd_898 : (Jvm.Cond.instanceMethod ({ cls := "RopeSwing", name := "film", desc := "(II)I" } : Jvm.MethodName)) ∈ TB := tb_of 898 _ (by decide +kernel) rfl
theorem wd_899 : (Jvm.Cond.selects "RopeSwing" ({ cls := "RopeSwing", name := "film", desc := "(II)I" } : Jvm.MethodName) ({ cls := "RopeSwing", name := "film", desc := "(II)I" } : Jvm.MethodName)) ∈ TB := tb_of 899 _ (by decide +kernel) rfl
theorem wd_900 : (Jvm.Cond.code ({ cls := "RopeSwing", name := "film", desc := "(II)I" } : Jvm.MethodName) prog_1_method_23_code (7 : Nat) (Option.some Jvm.ClassFile.FieldType.int)) ∈ TB := tb_of 900 _ (by decide +kernel) rfl
theorem wd_901 : (Jvm.Cond.constant "RopeSwing" (280 : Nat) (2147483647 : Int32)) ∈ TB := tb_of 901 _ (by decide +kernel) rfl
theorem wd_902 : (Jvm.Cond.methodLink "RopeSwing" (281 : Nat) ({ cls := "RopeSwing$Pendulum", name := "begin", desc := "(III)V" } : Jvm.MethodName)) ∈ TB := tb_of 902 _ (by decide +kernel) rfl
theorem wd_903 : (Jvm.Cond.methodLink "RopeSwing" (284 : Nat) ({ cls := "RopeSwing$Pendulum", name := "swing", desc := "()V" } : Jvm.MethodName)) ∈ TB := tb_of 903 _ (by decide +kernel) rfl
theorem wd_904 : (Jvm.Cond.methodLink "RopeSwing" (289 : Nat) ({ cls := "java/lang/Math", name := "abs", desc := "(I)I" } : Jvm.MethodName)) ∈ TB := tb_of 904 _ (by decide +kernel) rfl
theorem wd_905 : (Jvm.Cond.static ({ cls := "java/lang/Math", name := "abs", desc := "(I)I" } : Jvm.MethodName)) ∈ TB := tb_of 905 _ (by decide +kernel) rfl
theorem wd_906 : (Jvm.Cond.code ({ cls := "java/lang/Math", name := "abs", desc := "(I)I" } : Jvm.MethodName) prog_14_method_59_code (1 : Nat) (Option.some Jvm.ClassFile.FieldType.int)) ∈ TB := tb_of 906 _ (by decide +kernel) rfl
theorem wd_907 : (Jvm.Cond.methodLink "RopeSwingLaw" (108 : Nat) ({ cls := "RopeSwing", name := "age", desc := "(I)I" } : Jvm.MethodName)) ∈ TB := tb_of 907 _ (by decide +kernel) rfl
theorem wd_908 : (Jvm.Cond.instanceMethod ({ cls := "RopeSwing", name := "age", desc := "(I)I" } : Jvm.MethodName)) ∈ TB := tb_of 908 _ (by decide +kernel) rfl
theorem wd_909 : (Jvm.Cond.selects "RopeSwing" ({ cls := "RopeSwing", name := "age", desc := "(I)I" } : Jvm.MethodName) ({ cls := "RopeSwing", name := "age", desc := "(I)I" } : Jvm.MethodName)) ∈ TB := tb_of 909 _ (by decide +kernel) rfl
theorem wd_910 : (Jvm.Cond.code ({ cls := "RopeSwing", name := "age", desc := "(I)I" } : Jvm.MethodName) prog_1_method_24_code (4 : Nat) (Option.some Jvm.ClassFile.FieldType.int)) ∈ TB := tb_of 910 _ (by decide +kernel) rfl
theorem wd_911 : (Jvm.Cond.methodLink "RopeSwingLaw" (112 : Nat) ({ cls := "RopeSwing", name := "harmed", desc := "(I)I" } : Jvm.MethodName)) ∈ TB := tb_of 911 _ (by decide +kernel) rfl
theorem wd_912 : (Jvm.Cond.instanceMethod ({ cls := "RopeSwing", name := "harmed", desc := "(I)I" } : Jvm.MethodName)) ∈ TB := tb_of 912 _ (by decide +kernel) rfl
theorem wd_913 : (Jvm.Cond.selects "RopeSwing" ({ cls := "RopeSwing", name := "harmed", desc := "(I)I" } : Jvm.MethodName) ({ cls := "RopeSwing", name := "harmed", desc := "(I)I" } : Jvm.MethodName)) ∈ TB := tb_of 913 _ (by decide +kernel) rfl
theorem wd_914 : (Jvm.Cond.code ({ cls := "RopeSwing", name := "harmed", desc := "(I)I" } : Jvm.MethodName) prog_1_method_25_code (2 : Nat) (Option.some Jvm.ClassFile.FieldType.int)) ∈ TB := tb_of 914 _ (by decide +kernel) rfl
theorem wd_915 : (Jvm.Cond.methodLink "RopeSwing" (297 : Nat) ({ cls := "RopeSwing", name := "findFarthest", desc := "()V" } : Jvm.MethodName)) ∈ TB := tb_of 915 _ (by decide +kernel) rfl
theorem wd_917 : (Jvm.Cond.instanceMethod ({ cls := "RopeSwing", name := "findFarthest", desc := "()V" } : Jvm.MethodName)) ∈ TB := tb_of 917 _ (by decide +kernel) rfl
theorem wd_918 : (Jvm.Cond.code ({ cls := "RopeSwing", name := "findFarthest", desc := "()V" } : Jvm.MethodName) prog_1_method_40_code (3 : Nat) (Option.none : Option Jvm.ClassFile.FieldType)) ∈ TB := tb_of 918 _ (by decide +kernel) rfl
theorem wd_919 : (Jvm.Cond.methodLink "RopeSwing" (344 : Nat) ({ cls := "RopeSwing", name := "put", desc := "([III)V" } : Jvm.MethodName)) ∈ TB := tb_of 919 _ (by decide +kernel) rfl
theorem wd_920 : (Jvm.Cond.methodLink "RopeSwing" (300 : Nat) ({ cls := "RopeSwing", name := "harmedBy", desc := "(I)I" } : Jvm.MethodName)) ∈ TB := tb_of 920 _ (by decide +kernel) rfl
theorem wd_922 : (Jvm.Cond.instanceMethod ({ cls := "RopeSwing", name := "harmedBy", desc := "(I)I" } : Jvm.MethodName)) ∈ TB := tb_of 922 _ (by decide +kernel) rfl
theorem wd_923 : (Jvm.Cond.code ({ cls := "RopeSwing", name := "harmedBy", desc := "(I)I" } : Jvm.MethodName) prog_1_method_41_code (5 : Nat) (Option.some Jvm.ClassFile.FieldType.int)) ∈ TB := tb_of 923 _ (by decide +kernel) rfl
theorem wd_924 : (Jvm.Cond.methodLink "RopeSwing" (348 : Nat) ({ cls := "RopeSwing", name := "keptOut", desc := "(LRopeSwing$Swinger;I)Z" } : Jvm.MethodName)) ∈ TB := tb_of 924 _ (by decide +kernel) rfl
theorem wd_926 : (Jvm.Cond.instanceMethod ({ cls := "RopeSwing", name := "keptOut", desc := "(LRopeSwing$Swinger;I)Z" } : Jvm.MethodName)) ∈ TB := tb_of 926 _ (by decide +kernel) rfl
theorem wd_927 : (Jvm.Cond.code ({ cls := "RopeSwing", name := "keptOut", desc := "(LRopeSwing$Swinger;I)Z" } : Jvm.MethodName) prog_1_method_42_code (3 : Nat) (Option.some Jvm.ClassFile.FieldType.boolean)) ∈ TB := tb_of 927 _ (by decide +kernel) rfl
theorem wd_928 : (Jvm.Cond.methodLink "RopeSwing" (352 : Nat) ({ cls := "RopeSwing", name := "comesToHarm", desc := "(LRopeSwing$Swinger;II)Z" } : Jvm.MethodName)) ∈ TB := tb_of 928 _ (by decide +kernel) rfl
theorem wd_930 : (Jvm.Cond.instanceMethod ({ cls := "RopeSwing", name := "comesToHarm", desc := "(LRopeSwing$Swinger;II)Z" } : Jvm.MethodName)) ∈ TB := tb_of 930 _ (by decide +kernel) rfl
theorem wd_931 : (Jvm.Cond.code ({ cls := "RopeSwing", name := "comesToHarm", desc := "(LRopeSwing$Swinger;II)Z" } : Jvm.MethodName) prog_1_method_43_code (5 : Nat) (Option.some Jvm.ClassFile.FieldType.boolean)) ∈ TB := tb_of 931 _ (by decide +kernel) rfl
theorem wd_932 : (Jvm.Cond.methodLink "RopeSwingLaw" (116 : Nat) ({ cls := "RopeSwing", name := "enough", desc := "()I" } : Jvm.MethodName)) ∈ TB := tb_of 932 _ (by decide +kernel) rfl
theorem wd_933 : (Jvm.Cond.instanceMethod ({ cls := "RopeSwing", name := "enough", desc := "()I" } : Jvm.MethodName)) ∈ TB := tb_of 933 _ (by decide +kernel) rfl
theorem wd_934 : (Jvm.Cond.selects "RopeSwing" ({ cls := "RopeSwing", name := "enough", desc := "()I" } : Jvm.MethodName) ({ cls := "RopeSwing", name := "enough", desc := "()I" } : Jvm.MethodName)) ∈ TB := tb_of 934 _ (by decide +kernel) rfl
theorem wd_935 : (Jvm.Cond.code ({ cls := "RopeSwing", name := "enough", desc := "()I" } : Jvm.MethodName) prog_1_method_26_code (5 : Nat) (Option.some Jvm.ClassFile.FieldType.int)) ∈ TB := tb_of 935 _ (by decide +kernel) rfl
theorem wd_936 : (Jvm.Cond.methodLink "RopeSwing" (303 : Nat) ({ cls := "java/lang/Integer", name := "bitCount", desc := "(I)I" } : Jvm.MethodName)) ∈ TB := tb_of 936 _ (by decide +kernel) rfl
theorem wd_937 : (Jvm.Cond.static ({ cls := "java/lang/Integer", name := "bitCount", desc := "(I)I" } : Jvm.MethodName)) ∈ TB := tb_of 937 _ (by decide +kernel) rfl
theorem wd_938 : (Jvm.Cond.code ({ cls := "java/lang/Integer", name := "bitCount", desc := "(I)I" } : Jvm.MethodName) prog_13_method_49_code (1 : Nat) (Option.some Jvm.ClassFile.FieldType.int)) ∈ TB := tb_of 938 _ (by decide +kernel) rfl
theorem wd_939 : (Jvm.Cond.constant "java/lang/Integer" (265 : Nat) (1431655765 : Int32)) ∈ TB := tb_of 939 _ (by decide +kernel) rfl
theorem wd_940 : (Jvm.Cond.constant "java/lang/Integer" (266 : Nat) (858993459 : Int32)) ∈ TB := tb_of 940 _ (by decide +kernel) rfl
theorem wd_941 : (Jvm.Cond.constant "java/lang/Integer" (267 : Nat) (252645135 : Int32)) ∈ TB := tb_of 941 _ (by decide +kernel) rfl
theorem wd_942 : (Jvm.Cond.methodLink "RopeSwingLaw" (120 : Nat) ({ cls := "RopeSwing", name := "seed", desc := "(I)I" } : Jvm.MethodName)) ∈ TB := tb_of 942 _ (by decide +kernel) rfl
theorem wd_943 : (Jvm.Cond.instanceMethod ({ cls := "RopeSwing", name := "seed", desc := "(I)I" } : Jvm.MethodName)) ∈ TB := tb_of 943 _ (by decide +kernel) rfl
theorem wd_944 : (Jvm.Cond.selects "RopeSwing" ({ cls := "RopeSwing", name := "seed", desc := "(I)I" } : Jvm.MethodName) ({ cls := "RopeSwing", name := "seed", desc := "(I)I" } : Jvm.MethodName)) ∈ TB := tb_of 944 _ (by decide +kernel) rfl
theorem wd_945 : (Jvm.Cond.code ({ cls := "RopeSwing", name := "seed", desc := "(I)I" } : Jvm.MethodName) prog_1_method_27_code (3 : Nat) (Option.some Jvm.ClassFile.FieldType.int)) ∈ TB := tb_of 945 _ (by decide +kernel) rfl
theorem wd_946 : (Jvm.Cond.methodLink "RopeSwingLaw" (124 : Nat) ({ cls := "RopeSwing", name := "afternoon", desc := "(I)I" } : Jvm.MethodName)) ∈ TB := tb_of 946 _ (by decide +kernel) rfl
theorem wd_947 : (Jvm.Cond.instanceMethod ({ cls := "RopeSwing", name := "afternoon", desc := "(I)I" } : Jvm.MethodName)) ∈ TB := tb_of 947 _ (by decide +kernel) rfl
theorem wd_948 : (Jvm.Cond.selects "RopeSwing" ({ cls := "RopeSwing", name := "afternoon", desc := "(I)I" } : Jvm.MethodName) ({ cls := "RopeSwing", name := "afternoon", desc := "(I)I" } : Jvm.MethodName)) ∈ TB := tb_of 948 _ (by decide +kernel) rfl
theorem wd_949 : (Jvm.Cond.code ({ cls := "RopeSwing", name := "afternoon", desc := "(I)I" } : Jvm.MethodName) prog_1_method_28_code (6 : Nat) (Option.some Jvm.ClassFile.FieldType.int)) ∈ TB := tb_of 949 _ (by decide +kernel) rfl
theorem wd_950 : (Jvm.Cond.methodLink "RopeSwing" (311 : Nat) ({ cls := "RopeSwing$State", name := "draw", desc := "(I)I" } : Jvm.MethodName)) ∈ TB := tb_of 950 _ (by decide +kernel) rfl
theorem wd_951 : (Jvm.Cond.instanceMethod ({ cls := "RopeSwing$State", name := "draw", desc := "(I)I" } : Jvm.MethodName)) ∈ TB := tb_of 951 _ (by decide +kernel) rfl
theorem wd_952 : (Jvm.Cond.selects "RopeSwing$State" ({ cls := "RopeSwing$State", name := "draw", desc := "(I)I" } : Jvm.MethodName) ({ cls := "RopeSwing$State", name := "draw", desc := "(I)I" } : Jvm.MethodName)) ∈ TB := tb_of 952 _ (by decide +kernel) rfl
theorem wd_953 : (Jvm.Cond.code ({ cls := "RopeSwing$State", name := "draw", desc := "(I)I" } : Jvm.MethodName) prog_7_method_5_code (2 : Nat) (Option.some Jvm.ClassFile.FieldType.int)) ∈ TB := tb_of 953 _ (by decide +kernel) rfl
theorem wd_954 : (Jvm.Cond.constantLong "RopeSwing$State" (40 : Nat) (1103515245 : Int64)) ∈ TB := tb_of 954 _ (by decide +kernel) rfl
theorem wd_955 : (Jvm.Cond.constantLong "RopeSwing$State" (42 : Nat) (12345 : Int64)) ∈ TB := tb_of 955 _ (by decide +kernel) rfl
theorem wd_956 : (Jvm.Cond.constantLong "RopeSwing$State" (44 : Nat) (2147483648 : Int64)) ∈ TB := tb_of 956 _ (by decide +kernel) rfl
theorem wd_957 : (Jvm.Cond.constant "RopeSwing$State" (46 : Nat) (65536 : Int32)) ∈ TB := tb_of 957 _ (by decide +kernel) rfl
theorem wd_958 : (Jvm.Cond.methodLink "RopeSwing" (314 : Nat) ({ cls := "RopeSwing$State", name := "count", desc := "(I)V" } : Jvm.MethodName)) ∈ TB := tb_of 958 _ (by decide +kernel) rfl
theorem wd_959 : (Jvm.Cond.instanceMethod ({ cls := "RopeSwing$State", name := "count", desc := "(I)V" } : Jvm.MethodName)) ∈ TB := tb_of 959 _ (by decide +kernel) rfl
theorem wd_960 : (Jvm.Cond.selects "RopeSwing$State" ({ cls := "RopeSwing$State", name := "count", desc := "(I)V" } : Jvm.MethodName) ({ cls := "RopeSwing$State", name := "count", desc := "(I)V" } : Jvm.MethodName)) ∈ TB := tb_of 960 _ (by decide +kernel) rfl
theorem wd_961 : (Jvm.Cond.code ({ cls := "RopeSwing$State", name := "count", desc := "(I)V" } : Jvm.MethodName) prog_7_method_6_code (2 : Nat) (Option.none : Option Jvm.ClassFile.FieldType)) ∈ TB := tb_of 961 _ (by decide +kernel) rfl
theorem wd_962 : (Jvm.Cond.methodLink "RopeSwing" (317 : Nat) ({ cls := "RopeSwing", name := "isGood", desc := "(I)Z" } : Jvm.MethodName)) ∈ TB := tb_of 962 _ (by decide +kernel) rfl
theorem wd_963 : (Jvm.Cond.methodLink "RopeSwingLaw" (128 : Nat) ({ cls := "RopeSwing", name := "ends", desc := "(I)I" } : Jvm.MethodName)) ∈ TB := tb_of 963 _ (by decide +kernel) rfl
theorem wd_964 : (Jvm.Cond.instanceMethod ({ cls := "RopeSwing", name := "ends", desc := "(I)I" } : Jvm.MethodName)) ∈ TB := tb_of 964 _ (by decide +kernel) rfl
theorem wd_965 : (Jvm.Cond.selects "RopeSwing" ({ cls := "RopeSwing", name := "ends", desc := "(I)I" } : Jvm.MethodName) ({ cls := "RopeSwing", name := "ends", desc := "(I)I" } : Jvm.MethodName)) ∈ TB := tb_of 965 _ (by decide +kernel) rfl
theorem wd_966 : (Jvm.Cond.code ({ cls := "RopeSwing", name := "ends", desc := "(I)I" } : Jvm.MethodName) prog_1_method_29_code (2 : Nat) (Option.some Jvm.ClassFile.FieldType.int)) ∈ TB := tb_of 966 _ (by decide +kernel) rfl
theorem wd_967 : (Jvm.Cond.methodLink "RopeSwing" (320 : Nat) ({ cls := "RopeSwing$State", name := "counted", desc := "(I)I" } : Jvm.MethodName)) ∈ TB := tb_of 967 _ (by decide +kernel) rfl
theorem wd_968 : (Jvm.Cond.instanceMethod ({ cls := "RopeSwing$State", name := "counted", desc := "(I)I" } : Jvm.MethodName)) ∈ TB := tb_of 968 _ (by decide +kernel) rfl
theorem wd_969 : (Jvm.Cond.selects "RopeSwing$State" ({ cls := "RopeSwing$State", name := "counted", desc := "(I)I" } : Jvm.MethodName) ({ cls := "RopeSwing$State", name := "counted", desc := "(I)I" } : Jvm.MethodName)) ∈ TB := tb_of 969 _ (by decide +kernel) rfl
theorem wd_970 : (Jvm.Cond.code ({ cls := "RopeSwing$State", name := "counted", desc := "(I)I" } : Jvm.MethodName) prog_7_method_7_code (2 : Nat) (Option.some Jvm.ClassFile.FieldType.int)) ∈ TB := tb_of 970 _ (by decide +kernel) rfl
theorem wd_971 : (Jvm.Cond.methodLink "RopeSwingLaw" (132 : Nat) ({ cls := "RopeSwing", name := "keep", desc := "(I)I" } : Jvm.MethodName)) ∈ TB := tb_of 971 _ (by decide +kernel) rfl
theorem wd_972 : (Jvm.Cond.instanceMethod ({ cls := "RopeSwing", name := "keep", desc := "(I)I" } : Jvm.MethodName)) ∈ TB := tb_of 972 _ (by decide +kernel) rfl
theorem wd_973 : (Jvm.Cond.selects "RopeSwing" ({ cls := "RopeSwing", name := "keep", desc := "(I)I" } : Jvm.MethodName) ({ cls := "RopeSwing", name := "keep", desc := "(I)I" } : Jvm.MethodName)) ∈ TB := tb_of 973 _ (by decide +kernel) rfl
theorem wd_974 : (Jvm.Cond.code ({ cls := "RopeSwing", name := "keep", desc := "(I)I" } : Jvm.MethodName) prog_1_method_30_code (3 : Nat) (Option.some Jvm.ClassFile.FieldType.int)) ∈ TB := tb_of 974 _ (by decide +kernel) rfl
theorem wd_975 : (Jvm.Cond.methodLink "RopeSwing" (323 : Nat) ({ cls := "RopeSwing", name := "imageAt", desc := "(I)LRopeSwing$State;" } : Jvm.MethodName)) ∈ TB := tb_of 975 _ (by decide +kernel) rfl
theorem wd_977 : (Jvm.Cond.instanceMethod ({ cls := "RopeSwing", name := "imageAt", desc := "(I)LRopeSwing$State;" } : Jvm.MethodName)) ∈ TB := tb_of 977 _ (by decide +kernel) rfl
theorem wd_978 : (Jvm.Cond.code ({ cls := "RopeSwing", name := "imageAt", desc := "(I)LRopeSwing$State;" } : Jvm.MethodName) prog_1_method_33_code (2 : Nat) (Option.some (Jvm.ClassFile.FieldType.object "RopeSwing$State"))) ∈ TB := tb_of 978 _ (by decide +kernel) rfl
theorem wd_979 : (Jvm.Cond.methodLink "RopeSwing" (327 : Nat) ({ cls := "RopeSwing$State", name := "copy", desc := "(LRopeSwing$State;)V" } : Jvm.MethodName)) ∈ TB := tb_of 979 _ (by decide +kernel) rfl
theorem wd_980 : (Jvm.Cond.instanceMethod ({ cls := "RopeSwing$State", name := "copy", desc := "(LRopeSwing$State;)V" } : Jvm.MethodName)) ∈ TB := tb_of 980 _ (by decide +kernel) rfl
theorem wd_981 : (Jvm.Cond.selects "RopeSwing$State" ({ cls := "RopeSwing$State", name := "copy", desc := "(LRopeSwing$State;)V" } : Jvm.MethodName) ({ cls := "RopeSwing$State", name := "copy", desc := "(LRopeSwing$State;)V" } : Jvm.MethodName)) ∈ TB := tb_of 981 _ (by decide +kernel) rfl
theorem wd_982 : (Jvm.Cond.code ({ cls := "RopeSwing$State", name := "copy", desc := "(LRopeSwing$State;)V" } : Jvm.MethodName) prog_7_method_8_code (2 : Nat) (Option.none : Option Jvm.ClassFile.FieldType)) ∈ TB := tb_of 982 _ (by decide +kernel) rfl
theorem wd_983 : (Jvm.Cond.methodLink "RopeSwing$State" (47 : Nat) ({ cls := "java/lang/Math", name := "min", desc := "(II)I" } : Jvm.MethodName)) ∈ TB := tb_of 983 _ (by decide +kernel) rfl
theorem wd_984 : (Jvm.Cond.methodLink "RopeSwing$State" (53 : Nat) ({ cls := "java/lang/System", name := "arraycopy", desc := "(Ljava/lang/Object;ILjava/lang/Object;II)V" } : Jvm.MethodName)) ∈ TB := tb_of 984 _ (by decide +kernel) rfl
theorem wd_985 : (Jvm.Cond.methodLink "RopeSwingLaw" (136 : Nat) ({ cls := "RopeSwing", name := "goBack", desc := "(I)I" } : Jvm.MethodName)) ∈ TB := tb_of 985 _ (by decide +kernel) rfl
theorem wd_986 : (Jvm.Cond.instanceMethod ({ cls := "RopeSwing", name := "goBack", desc := "(I)I" } : Jvm.MethodName)) ∈ TB := tb_of 986 _ (by decide +kernel) rfl
theorem wd_987 : (Jvm.Cond.selects "RopeSwing" ({ cls := "RopeSwing", name := "goBack", desc := "(I)I" } : Jvm.MethodName) ({ cls := "RopeSwing", name := "goBack", desc := "(I)I" } : Jvm.MethodName)) ∈ TB := tb_of 987 _ (by decide +kernel) rfl
theorem wd_988 : (Jvm.Cond.code ({ cls := "RopeSwing", name := "goBack", desc := "(I)I" } : Jvm.MethodName) prog_1_method_31_code (3 : Nat) (Option.some Jvm.ClassFile.FieldType.int)) ∈ TB := tb_of 988 _ (by decide +kernel) rfl
theorem wd_989 : (Jvm.Cond.classLink "RopeSwingLaw" (10 : Nat) "RopeSwingModel") ∈ TB := tb_of 989 _ (by decide +kernel) rfl
theorem wd_990 : (Jvm.Cond.instantiable "RopeSwingModel" (46 : Nat)) ∈ TB := tb_of 990 _ (by decide +kernel) rfl
theorem wd_991 : (Jvm.Cond.methodLink "RopeSwingLaw" (12 : Nat) ({ cls := "RopeSwingModel", name := "<init>", desc := "()V" } : Jvm.MethodName)) ∈ TB := tb_of 991 _ (by decide +kernel) rfl
theorem wd_992 : (Jvm.Cond.instanceMethod ({ cls := "RopeSwingModel", name := "<init>", desc := "()V" } : Jvm.MethodName)) ∈ TB := tb_of 992 _ (by decide +kernel) rfl
theorem wd_993 : (Jvm.Cond.code ({ cls := "RopeSwingModel", name := "<init>", desc := "()V" } : Jvm.MethodName) prog_12_method_1_code (1 : Nat) (Option.none : Option Jvm.ClassFile.FieldType)) ∈ TB := tb_of 993 _ (by decide +kernel) rfl
theorem wd_994 : (Jvm.Cond.methodLink "RopeSwingModel" (1 : Nat) ({ cls := "java/lang/Object", name := "<init>", desc := "()V" } : Jvm.MethodName)) ∈ TB := tb_of 994 _ (by decide +kernel) rfl
theorem wd_995 : (Jvm.Cond.methodLink "RopeSwingModel" (72 : Nat) ({ cls := "RopeSwingModel", name := "bare", desc := "()V" } : Jvm.MethodName)) ∈ TB := tb_of 995 _ (by decide +kernel) rfl
theorem wd_997 : (Jvm.Cond.instanceMethod ({ cls := "RopeSwingModel", name := "bare", desc := "()V" } : Jvm.MethodName)) ∈ TB := tb_of 997 _ (by decide +kernel) rfl
theorem wd_998 : (Jvm.Cond.code ({ cls := "RopeSwingModel", name := "bare", desc := "()V" } : Jvm.MethodName) prog_12_method_14_code (2 : Nat) (Option.none : Option Jvm.ClassFile.FieldType)) ∈ TB := tb_of 998 _ (by decide +kernel) rfl
theorem wd_999 : (Jvm.Cond.methodLink "RopeSwingModel" (140 : Nat) ({ cls := "RopeSwingModel", name := "untold", desc := "(I)I" } : Jvm.MethodName)) ∈ TB := tb_of 999 _ (by decide +kernel) rfl
theorem wd_1000 : (Jvm.Cond.static ({ cls := "RopeSwingModel", name := "untold", desc := "(I)I" } : Jvm.MethodName)) ∈ TB := tb_of 1000 _ (by decide +kernel) rfl
theorem wd_1001 : (Jvm.Cond.code ({ cls := "RopeSwingModel", name := "untold", desc := "(I)I" } : Jvm.MethodName) prog_12_method_15_code (1 : Nat) (Option.some Jvm.ClassFile.FieldType.int)) ∈ TB := tb_of 1001 _ (by decide +kernel) rfl
theorem wd_1002 : (Jvm.Cond.methodLink "RopeSwingModel" (75 : Nat) ({ cls := "RopeSwingModel", name := "takePlace", desc := "()V" } : Jvm.MethodName)) ∈ TB := tb_of 1002 _ (by decide +kernel) rfl
theorem wd_1004 : (Jvm.Cond.instanceMethod ({ cls := "RopeSwingModel", name := "takePlace", desc := "()V" } : Jvm.MethodName)) ∈ TB := tb_of 1004 _ (by decide +kernel) rfl
theorem wd_1005 : (Jvm.Cond.code ({ cls := "RopeSwingModel", name := "takePlace", desc := "()V" } : Jvm.MethodName) prog_12_method_23_code (2 : Nat) (Option.none : Option Jvm.ClassFile.FieldType)) ∈ TB := tb_of 1005 _ (by decide +kernel) rfl
theorem wd_1006 : (Jvm.Cond.fieldLink "RopeSwingModel" (7 : Nat) "RopeSwingModel" "told" "[I") ∈ TB := tb_of 1006 _ (by decide +kernel) rfl
theorem wd_1007 : (Jvm.Cond.fieldLink "RopeSwingModel" (13 : Nat) "RopeSwingModel" "depths" "[I") ∈ TB := tb_of 1007 _ (by decide +kernel) rfl
theorem wd_1008 : (Jvm.Cond.fieldLink "RopeSwingModel" (16 : Nat) "RopeSwingModel" "isStone" "[Z") ∈ TB := tb_of 1008 _ (by decide +kernel) rfl
theorem wd_1009 : (Jvm.Cond.fieldLink "RopeSwingModel" (20 : Nat) "RopeSwingModel" "lowers" "[I") ∈ TB := tb_of 1009 _ (by decide +kernel) rfl
theorem wd_1010 : (Jvm.Cond.fieldLink "RopeSwingModel" (78 : Nat) "RopeSwingModel" "swingers" "I") ∈ TB := tb_of 1010 _ (by decide +kernel) rfl
theorem wd_1011 : (Jvm.Cond.fieldLink "RopeSwingModel" (23 : Nat) "RopeSwingModel" "people" "[I") ∈ TB := tb_of 1011 _ (by decide +kernel) rfl
theorem wd_1012 : (Jvm.Cond.fieldLink "RopeSwingModel" (26 : Nat) "RopeSwingModel" "hand" "[I") ∈ TB := tb_of 1012 _ (by decide +kernel) rfl
theorem wd_1013 : (Jvm.Cond.fieldLink "RopeSwingModel" (29 : Nat) "RopeSwingModel" "text" "[I") ∈ TB := tb_of 1013 _ (by decide +kernel) rfl
theorem wd_1014 : (Jvm.Cond.fieldLink "RopeSwingModel" (88 : Nat) "RopeSwingModel" "texted" "I") ∈ TB := tb_of 1014 _ (by decide +kernel) rfl
theorem wd_1015 : (Jvm.Cond.fieldLink "RopeSwingModel" (32 : Nat) "RopeSwingModel" "faultPlace" "I") ∈ TB := tb_of 1015 _ (by decide +kernel) rfl
theorem wd_1016 : (Jvm.Cond.fieldLink "RopeSwingModel" (94 : Nat) "RopeSwingModel" "at0" "I") ∈ TB := tb_of 1016 _ (by decide +kernel) rfl
theorem wd_1017 : (Jvm.Cond.fieldLink "RopeSwingModel" (101 : Nat) "RopeSwingModel" "said" "J") ∈ TB := tb_of 1017 _ (by decide +kernel) rfl
theorem wd_1018 : (Jvm.Cond.fieldLink "RopeSwingModel" (105 : Nat) "RopeSwingModel" "wordEnd" "I") ∈ TB := tb_of 1018 _ (by decide +kernel) rfl
theorem wd_1019 : (Jvm.Cond.fieldLink "RopeSwingModel" (131 : Nat) "RopeSwingModel" "number" "I") ∈ TB := tb_of 1019 _ (by decide +kernel) rfl
theorem wd_1020 : (Jvm.Cond.fieldLink "RopeSwingModel" (128 : Nat) "RopeSwingModel" "numberAt" "I") ∈ TB := tb_of 1020 _ (by decide +kernel) rfl
theorem wd_1021 : (Jvm.Cond.fieldLink "RopeSwingModel" (36 : Nat) "RopeSwingModel" "readTold" "[I") ∈ TB := tb_of 1021 _ (by decide +kernel) rfl
theorem wd_1022 : (Jvm.Cond.fieldLink "RopeSwingModel" (39 : Nat) "RopeSwingModel" "readDepths" "[I") ∈ TB := tb_of 1022 _ (by decide +kernel) rfl
theorem wd_1023 : (Jvm.Cond.fieldLink "RopeSwingModel" (42 : Nat) "RopeSwingModel" "readStone" "[Z") ∈ TB := tb_of 1023 _ (by decide +kernel) rfl
theorem wd_1024 : (Jvm.Cond.fieldLink "RopeSwingModel" (45 : Nat) "RopeSwingModel" "readLowers" "[I") ∈ TB := tb_of 1024 _ (by decide +kernel) rfl
theorem wd_1025 : (Jvm.Cond.fieldLink "RopeSwingModel" (134 : Nat) "RopeSwingModel" "toldSet" "I") ∈ TB := tb_of 1025 _ (by decide +kernel) rfl
theorem wd_1026 : (Jvm.Cond.fieldLink "RopeSwingModel" (137 : Nat) "RopeSwingModel" "clauses" "I") ∈ TB := tb_of 1026 _ (by decide +kernel) rfl
theorem wd_1027 : (Jvm.Cond.fieldLink "RopeSwingModel" (230 : Nat) "RopeSwingModel" "ropeLong" "I") ∈ TB := tb_of 1027 _ (by decide +kernel) rfl
theorem wd_1028 : (Jvm.Cond.fieldLink "RopeSwingModel" (233 : Nat) "RopeSwingModel" "run" "I") ∈ TB := tb_of 1028 _ (by decide +kernel) rfl
theorem wd_1029 : (Jvm.Cond.fieldLink "RopeSwingModel" (236 : Nat) "RopeSwingModel" "strength" "I") ∈ TB := tb_of 1029 _ (by decide +kernel) rfl
theorem wd_1030 : (Jvm.Cond.fieldLink "RopeSwingModel" (239 : Nat) "RopeSwingModel" "weight" "I") ∈ TB := tb_of 1030 _ (by decide +kernel) rfl
theorem wd_1031 : (Jvm.Cond.fieldLink "RopeSwingModel" (242 : Nat) "RopeSwingModel" "feet" "I") ∈ TB := tb_of 1031 _ (by decide +kernel) rfl
theorem wd_1032 : (Jvm.Cond.fieldLink "RopeSwingModel" (245 : Nat) "RopeSwingModel" "grip" "I") ∈ TB := tb_of 1032 _ (by decide +kernel) rfl
theorem wd_1033 : (Jvm.Cond.fieldLink "RopeSwingModel" (248 : Nat) "RopeSwingModel" "lag" "I") ∈ TB := tb_of 1033 _ (by decide +kernel) rfl
theorem wd_1034 : (Jvm.Cond.fieldLink "RopeSwingModel" (251 : Nat) "RopeSwingModel" "turning" "I") ∈ TB := tb_of 1034 _ (by decide +kernel) rfl
theorem wd_1035 : (Jvm.Cond.fieldLink "RopeSwingModel" (48 : Nat) "RopeSwingModel" "angleAt" "[I") ∈ TB := tb_of 1035 _ (by decide +kernel) rfl
theorem wd_1036 : (Jvm.Cond.fieldLink "RopeSwingModel" (51 : Nat) "RopeSwingModel" "paceAt" "[I") ∈ TB := tb_of 1036 _ (by decide +kernel) rfl
theorem wd_1037 : (Jvm.Cond.fieldLink "RopeSwingModel" (54 : Nat) "RopeSwingModel" "pullAt" "[I") ∈ TB := tb_of 1037 _ (by decide +kernel) rfl
theorem wd_1038 : (Jvm.Cond.fieldLink "RopeSwingModel" (57 : Nat) "RopeSwingModel" "leftAt" "[I") ∈ TB := tb_of 1038 _ (by decide +kernel) rfl
theorem wd_1039 : (Jvm.Cond.fieldLink "RopeSwingModel" (292 : Nat) "RopeSwingModel" "ended" "I") ∈ TB := tb_of 1039 _ (by decide +kernel) rfl
theorem wd_1040 : (Jvm.Cond.fieldLink "RopeSwingModel" (311 : Nat) "RopeSwingModel" "where" "I") ∈ TB := tb_of 1040 _ (by decide +kernel) rfl
theorem wd_1041 : (Jvm.Cond.fieldLink "RopeSwingModel" (321 : Nat) "RopeSwingModel" "endTick" "I") ∈ TB := tb_of 1041 _ (by decide +kernel) rfl
theorem wd_1042 : (Jvm.Cond.fieldLink "RopeSwingModel" (299 : Nat) "RopeSwingModel" "flew" "I") ∈ TB := tb_of 1042 _ (by decide +kernel) rfl
theorem wd_1043 : (Jvm.Cond.fieldLink "RopeSwingModel" (308 : Nat) "RopeSwingModel" "highest" "I") ∈ TB := tb_of 1043 _ (by decide +kernel) rfl
theorem wd_1044 : (Jvm.Cond.fieldLink "RopeSwingModel" (289 : Nat) "RopeSwingModel" "turned" "I") ∈ TB := tb_of 1044 _ (by decide +kernel) rfl
theorem wd_1045 : (Jvm.Cond.fieldLink "RopeSwingModel" (342 : Nat) "RopeSwingModel" "wideFrom" "I") ∈ TB := tb_of 1045 _ (by decide +kernel) rfl
theorem wd_1046 : (Jvm.Cond.fieldLink "RopeSwingModel" (345 : Nat) "RopeSwingModel" "goodMany" "I") ∈ TB := tb_of 1046 _ (by decide +kernel) rfl
theorem wd_1047 : (Jvm.Cond.fieldLink "RopeSwingModel" (60 : Nat) "RopeSwingModel" "farthest" "[I") ∈ TB := tb_of 1047 _ (by decide +kernel) rfl
theorem wd_1048 : (Jvm.Cond.fieldLink "RopeSwingModel" (379 : Nat) "RopeSwingModel" "seed" "I") ∈ TB := tb_of 1048 _ (by decide +kernel) rfl
theorem wd_1049 : (Jvm.Cond.fieldLink "RopeSwingModel" (63 : Nat) "RopeSwingModel" "endMany" "[I") ∈ TB := tb_of 1049 _ (by decide +kernel) rfl
theorem wd_1050 : (Jvm.Cond.fieldLink "RopeSwingModel" (66 : Nat) "RopeSwingModel" "images" "[I") ∈ TB := tb_of 1050 _ (by decide +kernel) rfl
theorem wd_1051 : (Jvm.Cond.fieldLink "RopeSwingModel" (69 : Nat) "RopeSwingModel" "isKept" "[Z") ∈ TB := tb_of 1051 _ (by decide +kernel) rfl
theorem wd_1052 : (Jvm.Cond.laysFinal "RopeSwingModel" "RopeSwingModel" "told" "[I") ∈ TB := tb_of 1052 _ (by decide +kernel) rfl
theorem wd_1054 : (Jvm.Cond.laysFinal "RopeSwingModel" "RopeSwingModel" "depths" "[I") ∈ TB := tb_of 1054 _ (by decide +kernel) rfl
theorem wd_1056 : (Jvm.Cond.laysFinal "RopeSwingModel" "RopeSwingModel" "isStone" "[Z") ∈ TB := tb_of 1056 _ (by decide +kernel) rfl
theorem wd_1058 : (Jvm.Cond.laysFinal "RopeSwingModel" "RopeSwingModel" "lowers" "[I") ∈ TB := tb_of 1058 _ (by decide +kernel) rfl
theorem wd_1060 : (Jvm.Cond.lays "RopeSwingModel" "RopeSwingModel" "swingers" "I") ∈ TB := tb_of 1060 _ (by decide +kernel) rfl
theorem wd_1062 : (Jvm.Cond.laysFinal "RopeSwingModel" "RopeSwingModel" "people" "[I") ∈ TB := tb_of 1062 _ (by decide +kernel) rfl
theorem wd_1064 : (Jvm.Cond.laysFinal "RopeSwingModel" "RopeSwingModel" "hand" "[I") ∈ TB := tb_of 1064 _ (by decide +kernel) rfl
theorem wd_1066 : (Jvm.Cond.laysFinal "RopeSwingModel" "RopeSwingModel" "text" "[I") ∈ TB := tb_of 1066 _ (by decide +kernel) rfl
theorem wd_1068 : (Jvm.Cond.lays "RopeSwingModel" "RopeSwingModel" "texted" "I") ∈ TB := tb_of 1068 _ (by decide +kernel) rfl
theorem wd_1070 : (Jvm.Cond.lays "RopeSwingModel" "RopeSwingModel" "faultPlace" "I") ∈ TB := tb_of 1070 _ (by decide +kernel) rfl
theorem wd_1072 : (Jvm.Cond.lays "RopeSwingModel" "RopeSwingModel" "at0" "I") ∈ TB := tb_of 1072 _ (by decide +kernel) rfl
theorem wd_1074 : (Jvm.Cond.lays "RopeSwingModel" "RopeSwingModel" "said" "J") ∈ TB := tb_of 1074 _ (by decide +kernel) rfl
theorem wd_1076 : (Jvm.Cond.lays "RopeSwingModel" "RopeSwingModel" "wordEnd" "I") ∈ TB := tb_of 1076 _ (by decide +kernel) rfl
theorem wd_1078 : (Jvm.Cond.lays "RopeSwingModel" "RopeSwingModel" "number" "I") ∈ TB := tb_of 1078 _ (by decide +kernel) rfl
theorem wd_1080 : (Jvm.Cond.lays "RopeSwingModel" "RopeSwingModel" "numberAt" "I") ∈ TB := tb_of 1080 _ (by decide +kernel) rfl
theorem wd_1082 : (Jvm.Cond.laysFinal "RopeSwingModel" "RopeSwingModel" "readTold" "[I") ∈ TB := tb_of 1082 _ (by decide +kernel) rfl
theorem wd_1084 : (Jvm.Cond.laysFinal "RopeSwingModel" "RopeSwingModel" "readDepths" "[I") ∈ TB := tb_of 1084 _ (by decide +kernel) rfl
theorem wd_1086 : (Jvm.Cond.laysFinal "RopeSwingModel" "RopeSwingModel" "readStone" "[Z") ∈ TB := tb_of 1086 _ (by decide +kernel) rfl
theorem wd_1088 : (Jvm.Cond.laysFinal "RopeSwingModel" "RopeSwingModel" "readLowers" "[I") ∈ TB := tb_of 1088 _ (by decide +kernel) rfl
theorem wd_1090 : (Jvm.Cond.lays "RopeSwingModel" "RopeSwingModel" "toldSet" "I") ∈ TB := tb_of 1090 _ (by decide +kernel) rfl
theorem wd_1092 : (Jvm.Cond.lays "RopeSwingModel" "RopeSwingModel" "clauses" "I") ∈ TB := tb_of 1092 _ (by decide +kernel) rfl
theorem wd_1094 : (Jvm.Cond.lays "RopeSwingModel" "RopeSwingModel" "ropeLong" "I") ∈ TB := tb_of 1094 _ (by decide +kernel) rfl
theorem wd_1096 : (Jvm.Cond.lays "RopeSwingModel" "RopeSwingModel" "run" "I") ∈ TB := tb_of 1096 _ (by decide +kernel) rfl
theorem wd_1098 : (Jvm.Cond.lays "RopeSwingModel" "RopeSwingModel" "strength" "I") ∈ TB := tb_of 1098 _ (by decide +kernel) rfl
theorem wd_1100 : (Jvm.Cond.lays "RopeSwingModel" "RopeSwingModel" "weight" "I") ∈ TB := tb_of 1100 _ (by decide +kernel) rfl
theorem wd_1102 : (Jvm.Cond.lays "RopeSwingModel" "RopeSwingModel" "feet" "I") ∈ TB := tb_of 1102 _ (by decide +kernel) rfl
theorem wd_1104 : (Jvm.Cond.lays "RopeSwingModel" "RopeSwingModel" "grip" "I") ∈ TB := tb_of 1104 _ (by decide +kernel) rfl
theorem wd_1106 : (Jvm.Cond.lays "RopeSwingModel" "RopeSwingModel" "lag" "I") ∈ TB := tb_of 1106 _ (by decide +kernel) rfl
theorem wd_1108 : (Jvm.Cond.lays "RopeSwingModel" "RopeSwingModel" "turning" "I") ∈ TB := tb_of 1108 _ (by decide +kernel) rfl
theorem wd_1110 : (Jvm.Cond.laysFinal "RopeSwingModel" "RopeSwingModel" "angleAt" "[I") ∈ TB := tb_of 1110 _ (by decide +kernel) rfl
theorem wd_1112 : (Jvm.Cond.laysFinal "RopeSwingModel" "RopeSwingModel" "paceAt" "[I") ∈ TB := tb_of 1112 _ (by decide +kernel) rfl
theorem wd_1114 : (Jvm.Cond.laysFinal "RopeSwingModel" "RopeSwingModel" "pullAt" "[I") ∈ TB := tb_of 1114 _ (by decide +kernel) rfl
theorem wd_1116 : (Jvm.Cond.laysFinal "RopeSwingModel" "RopeSwingModel" "leftAt" "[I") ∈ TB := tb_of 1116 _ (by decide +kernel) rfl
theorem wd_1118 : (Jvm.Cond.lays "RopeSwingModel" "RopeSwingModel" "ended" "I") ∈ TB := tb_of 1118 _ (by decide +kernel) rfl
theorem wd_1120 : (Jvm.Cond.lays "RopeSwingModel" "RopeSwingModel" "where" "I") ∈ TB := tb_of 1120 _ (by decide +kernel) rfl
theorem wd_1122 : (Jvm.Cond.lays "RopeSwingModel" "RopeSwingModel" "endTick" "I") ∈ TB := tb_of 1122 _ (by decide +kernel) rfl
theorem wd_1124 : (Jvm.Cond.lays "RopeSwingModel" "RopeSwingModel" "flew" "I") ∈ TB := tb_of 1124 _ (by decide +kernel) rfl
theorem wd_1126 : (Jvm.Cond.lays "RopeSwingModel" "RopeSwingModel" "highest" "I") ∈ TB := tb_of 1126 _ (by decide +kernel) rfl
theorem wd_1128 : (Jvm.Cond.lays "RopeSwingModel" "RopeSwingModel" "turned" "I") ∈ TB := tb_of 1128 _ (by decide +kernel) rfl
theorem wd_1130 : (Jvm.Cond.lays "RopeSwingModel" "RopeSwingModel" "wideFrom" "I") ∈ TB := tb_of 1130 _ (by decide +kernel) rfl
theorem wd_1132 : (Jvm.Cond.lays "RopeSwingModel" "RopeSwingModel" "goodMany" "I") ∈ TB := tb_of 1132 _ (by decide +kernel) rfl
theorem wd_1134 : (Jvm.Cond.laysFinal "RopeSwingModel" "RopeSwingModel" "farthest" "[I") ∈ TB := tb_of 1134 _ (by decide +kernel) rfl
theorem wd_1136 : (Jvm.Cond.lays "RopeSwingModel" "RopeSwingModel" "seed" "I") ∈ TB := tb_of 1136 _ (by decide +kernel) rfl
theorem wd_1138 : (Jvm.Cond.laysFinal "RopeSwingModel" "RopeSwingModel" "endMany" "[I") ∈ TB := tb_of 1138 _ (by decide +kernel) rfl
theorem wd_1140 : (Jvm.Cond.laysFinal "RopeSwingModel" "RopeSwingModel" "images" "[I") ∈ TB := tb_of 1140 _ (by decide +kernel) rfl
theorem wd_1142 : (Jvm.Cond.laysFinal "RopeSwingModel" "RopeSwingModel" "isKept" "[Z") ∈ TB := tb_of 1142 _ (by decide +kernel) rfl
theorem wd_1145 : (Jvm.Cond.arrayClass Jvm.ClassFile.FieldType.boolean) ∈ TB := tb_of 1145 _ (by decide +kernel) rfl
theorem wd_1146 : (Jvm.Cond.methodLink "RopeSwingLaw" (19 : Nat) ({ cls := "RopeSwingModel", name := "feed", desc := "(IJ)I" } : Jvm.MethodName)) ∈ TB := tb_of 1146 _ (by decide +kernel) rfl
theorem wd_1147 : (Jvm.Cond.instanceMethod ({ cls := "RopeSwingModel", name := "feed", desc := "(IJ)I" } : Jvm.MethodName)) ∈ TB := tb_of 1147 _ (by decide +kernel) rfl
theorem wd_1148 : (Jvm.Cond.selects "RopeSwingModel" ({ cls := "RopeSwingModel", name := "feed", desc := "(IJ)I" } : Jvm.MethodName) ({ cls := "RopeSwingModel", name := "feed", desc := "(IJ)I" } : Jvm.MethodName)) ∈ TB := tb_of 1148 _ (by decide +kernel) rfl
theorem wd_1149 : (Jvm.Cond.code ({ cls := "RopeSwingModel", name := "feed", desc := "(IJ)I" } : Jvm.MethodName) prog_12_method_5_code (5 : Nat) (Option.some Jvm.ClassFile.FieldType.int)) ∈ TB := tb_of 1149 _ (by decide +kernel) rfl
theorem wd_1150 : (Jvm.Cond.constantLong "RopeSwingModel" (85 : Nat) (8 : Int64)) ∈ TB := tb_of 1150 _ (by decide +kernel) rfl
theorem wd_1151 : (Jvm.Cond.methodLink "RopeSwingModel" (81 : Nat) ({ cls := "RopeSwingModel", name := "in", desc := "(JJJ)Z" } : Jvm.MethodName)) ∈ TB := tb_of 1151 _ (by decide +kernel) rfl
theorem wd_1152 : (Jvm.Cond.static ({ cls := "RopeSwingModel", name := "in", desc := "(JJJ)Z" } : Jvm.MethodName)) ∈ TB := tb_of 1152 _ (by decide +kernel) rfl
theorem wd_1153 : (Jvm.Cond.code ({ cls := "RopeSwingModel", name := "in", desc := "(JJJ)Z" } : Jvm.MethodName) prog_12_method_3_code (6 : Nat) (Option.some Jvm.ClassFile.FieldType.boolean)) ∈ TB := tb_of 1153 _ (by decide +kernel) rfl
theorem wd_1154 : (Jvm.Cond.constant "RopeSwingModel" (87 : Nat) (-1000000002 : Int32)) ∈ TB := tb_of 1154 _ (by decide +kernel) rfl
theorem wd_1155 : (Jvm.Cond.constant "RopeSwingModel" (91 : Nat) (-1000000004 : Int32)) ∈ TB := tb_of 1155 _ (by decide +kernel) rfl
theorem wd_1156 : (Jvm.Cond.constantLong "RopeSwingModel" (92 : Nat) (255 : Int64)) ∈ TB := tb_of 1156 _ (by decide +kernel) rfl
theorem wd_1157 : (Jvm.Cond.methodLink "RopeSwingLaw" (24 : Nat) ({ cls := "RopeSwingModel", name := "place", desc := "()I" } : Jvm.MethodName)) ∈ TB := tb_of 1157 _ (by decide +kernel) rfl
theorem wd_1158 : (Jvm.Cond.instanceMethod ({ cls := "RopeSwingModel", name := "place", desc := "()I" } : Jvm.MethodName)) ∈ TB := tb_of 1158 _ (by decide +kernel) rfl
theorem wd_1159 : (Jvm.Cond.selects "RopeSwingModel" ({ cls := "RopeSwingModel", name := "place", desc := "()I" } : Jvm.MethodName) ({ cls := "RopeSwingModel", name := "place", desc := "()I" } : Jvm.MethodName)) ∈ TB := tb_of 1159 _ (by decide +kernel) rfl
theorem wd_1160 : (Jvm.Cond.code ({ cls := "RopeSwingModel", name := "place", desc := "()I" } : Jvm.MethodName) prog_12_method_24_code (2 : Nat) (Option.some Jvm.ClassFile.FieldType.int)) ∈ TB := tb_of 1160 _ (by decide +kernel) rfl
theorem wd_1161 : (Jvm.Cond.methodLink "RopeSwingModel" (97 : Nat) ({ cls := "RopeSwingModel", name := "here", desc := "()I" } : Jvm.MethodName)) ∈ TB := tb_of 1161 _ (by decide +kernel) rfl
theorem wd_1163 : (Jvm.Cond.instanceMethod ({ cls := "RopeSwingModel", name := "here", desc := "()I" } : Jvm.MethodName)) ∈ TB := tb_of 1163 _ (by decide +kernel) rfl
theorem wd_1164 : (Jvm.Cond.code ({ cls := "RopeSwingModel", name := "here", desc := "()I" } : Jvm.MethodName) prog_12_method_6_code (1 : Nat) (Option.some Jvm.ClassFile.FieldType.int)) ∈ TB := tb_of 1164 _ (by decide +kernel) rfl
theorem wd_1165 : (Jvm.Cond.methodLink "RopeSwingModel" (185 : Nat) ({ cls := "RopeSwingModel", name := "takeClause", desc := "()I" } : Jvm.MethodName)) ∈ TB := tb_of 1165 _ (by decide +kernel) rfl
theorem wd_1167 : (Jvm.Cond.instanceMethod ({ cls := "RopeSwingModel", name := "takeClause", desc := "()I" } : Jvm.MethodName)) ∈ TB := tb_of 1167 _ (by decide +kernel) rfl
theorem wd_1168 : (Jvm.Cond.code ({ cls := "RopeSwingModel", name := "takeClause", desc := "()I" } : Jvm.MethodName) prog_12_method_22_code (3 : Nat) (Option.some Jvm.ClassFile.FieldType.int)) ∈ TB := tb_of 1168 _ (by decide +kernel) rfl
theorem wd_1169 : (Jvm.Cond.methodLink "RopeSwingModel" (163 : Nat) ({ cls := "RopeSwingModel", name := "readWord", desc := "()V" } : Jvm.MethodName)) ∈ TB := tb_of 1169 _ (by decide +kernel) rfl
theorem wd_1171 : (Jvm.Cond.instanceMethod ({ cls := "RopeSwingModel", name := "readWord", desc := "()V" } : Jvm.MethodName)) ∈ TB := tb_of 1171 _ (by decide +kernel) rfl
theorem wd_1172 : (Jvm.Cond.code ({ cls := "RopeSwingModel", name := "readWord", desc := "()V" } : Jvm.MethodName) prog_12_method_8_code (2 : Nat) (Option.none : Option Jvm.ClassFile.FieldType)) ∈ TB := tb_of 1172 _ (by decide +kernel) rfl
theorem wd_1173 : (Jvm.Cond.constantLong "RopeSwingModel" (108 : Nat) (97 : Int64)) ∈ TB := tb_of 1173 _ (by decide +kernel) rfl
theorem wd_1174 : (Jvm.Cond.constantLong "RopeSwingModel" (110 : Nat) (122 : Int64)) ∈ TB := tb_of 1174 _ (by decide +kernel) rfl
theorem wd_1175 : (Jvm.Cond.constantLong "RopeSwingModel" (112 : Nat) (1000000000000 : Int64)) ∈ TB := tb_of 1175 _ (by decide +kernel) rfl
theorem wd_1176 : (Jvm.Cond.constantLong "RopeSwingModel" (114 : Nat) (2000000000000 : Int64)) ∈ TB := tb_of 1176 _ (by decide +kernel) rfl
theorem wd_1177 : (Jvm.Cond.constantLong "RopeSwingModel" (116 : Nat) (27 : Int64)) ∈ TB := tb_of 1177 _ (by decide +kernel) rfl
theorem wd_1178 : (Jvm.Cond.constantLong "RopeSwingModel" (118 : Nat) (96 : Int64)) ∈ TB := tb_of 1178 _ (by decide +kernel) rfl
theorem wd_1179 : (Jvm.Cond.methodLink "RopeSwingModel" (166 : Nat) ({ cls := "RopeSwingModel", name := "clauseOf", desc := "()I" } : Jvm.MethodName)) ∈ TB := tb_of 1179 _ (by decide +kernel) rfl
theorem wd_1181 : (Jvm.Cond.instanceMethod ({ cls := "RopeSwingModel", name := "clauseOf", desc := "()I" } : Jvm.MethodName)) ∈ TB := tb_of 1181 _ (by decide +kernel) rfl
theorem wd_1182 : (Jvm.Cond.code ({ cls := "RopeSwingModel", name := "clauseOf", desc := "()I" } : Jvm.MethodName) prog_12_method_21_code (3 : Nat) (Option.some Jvm.ClassFile.FieldType.int)) ∈ TB := tb_of 1182 _ (by decide +kernel) rfl
theorem wd_1183 : (Jvm.Cond.methodLink "RopeSwingModel" (155 : Nat) ({ cls := "RopeSwingModel", name := "code", desc := "(IIII)J" } : Jvm.MethodName)) ∈ TB := tb_of 1183 _ (by decide +kernel) rfl
theorem wd_1184 : (Jvm.Cond.static ({ cls := "RopeSwingModel", name := "code", desc := "(IIII)J" } : Jvm.MethodName)) ∈ TB := tb_of 1184 _ (by decide +kernel) rfl
theorem wd_1185 : (Jvm.Cond.code ({ cls := "RopeSwingModel", name := "code", desc := "(IIII)J" } : Jvm.MethodName) prog_12_method_9_code (4 : Nat) (Option.some Jvm.ClassFile.FieldType.long)) ∈ TB := tb_of 1185 _ (by decide +kernel) rfl
theorem wd_1186 : (Jvm.Cond.methodLink "RopeSwingModel" (159 : Nat) ({ cls := "RopeSwingModel", name := "longer", desc := "(JI)J" } : Jvm.MethodName)) ∈ TB := tb_of 1186 _ (by decide +kernel) rfl
theorem wd_1187 : (Jvm.Cond.static ({ cls := "RopeSwingModel", name := "longer", desc := "(JI)J" } : Jvm.MethodName)) ∈ TB := tb_of 1187 _ (by decide +kernel) rfl
theorem wd_1188 : (Jvm.Cond.code ({ cls := "RopeSwingModel", name := "longer", desc := "(JI)J" } : Jvm.MethodName) prog_12_method_10_code (3 : Nat) (Option.some Jvm.ClassFile.FieldType.long)) ∈ TB := tb_of 1188 _ (by decide +kernel) rfl
theorem wd_1189 : (Jvm.Cond.methodLink "RopeSwingModel" (124 : Nat) ({ cls := "RopeSwingModel", name := "fails", desc := "(II)I" } : Jvm.MethodName)) ∈ TB := tb_of 1189 _ (by decide +kernel) rfl
theorem wd_1191 : (Jvm.Cond.instanceMethod ({ cls := "RopeSwingModel", name := "fails", desc := "(II)I" } : Jvm.MethodName)) ∈ TB := tb_of 1191 _ (by decide +kernel) rfl
theorem wd_1192 : (Jvm.Cond.code ({ cls := "RopeSwingModel", name := "fails", desc := "(II)I" } : Jvm.MethodName) prog_12_method_7_code (3 : Nat) (Option.some Jvm.ClassFile.FieldType.int)) ∈ TB := tb_of 1192 _ (by decide +kernel) rfl
theorem wd_1193 : (Jvm.Cond.methodLink "RopeSwingModel" (147 : Nat) ({ cls := "RopeSwingModel", name := "take", desc := "(III)I" } : Jvm.MethodName)) ∈ TB := tb_of 1193 _ (by decide +kernel) rfl
theorem wd_1195 : (Jvm.Cond.instanceMethod ({ cls := "RopeSwingModel", name := "take", desc := "(III)I" } : Jvm.MethodName)) ∈ TB := tb_of 1195 _ (by decide +kernel) rfl
theorem wd_1196 : (Jvm.Cond.code ({ cls := "RopeSwingModel", name := "take", desc := "(III)I" } : Jvm.MethodName) prog_12_method_16_code (5 : Nat) (Option.some Jvm.ClassFile.FieldType.int)) ∈ TB := tb_of 1196 _ (by decide +kernel) rfl
theorem wd_1197 : (Jvm.Cond.methodLink "RopeSwingModel" (144 : Nat) ({ cls := "RopeSwingModel", name := "takeNumber", desc := "(II)I" } : Jvm.MethodName)) ∈ TB := tb_of 1197 _ (by decide +kernel) rfl
theorem wd_1199 : (Jvm.Cond.instanceMethod ({ cls := "RopeSwingModel", name := "takeNumber", desc := "(II)I" } : Jvm.MethodName)) ∈ TB := tb_of 1199 _ (by decide +kernel) rfl
theorem wd_1200 : (Jvm.Cond.code ({ cls := "RopeSwingModel", name := "takeNumber", desc := "(II)I" } : Jvm.MethodName) prog_12_method_11_code (4 : Nat) (Option.some Jvm.ClassFile.FieldType.int)) ∈ TB := tb_of 1200 _ (by decide +kernel) rfl
theorem wd_1201 : (Jvm.Cond.constantLong "RopeSwingModel" (120 : Nat) (48 : Int64)) ∈ TB := tb_of 1201 _ (by decide +kernel) rfl
theorem wd_1202 : (Jvm.Cond.constantLong "RopeSwingModel" (122 : Nat) (57 : Int64)) ∈ TB := tb_of 1202 _ (by decide +kernel) rfl
theorem wd_1203 : (Jvm.Cond.methodLink "RopeSwingModel" (169 : Nat) ({ cls := "RopeSwingModel", name := "takeRope", desc := "()I" } : Jvm.MethodName)) ∈ TB := tb_of 1203 _ (by decide +kernel) rfl
theorem wd_1205 : (Jvm.Cond.instanceMethod ({ cls := "RopeSwingModel", name := "takeRope", desc := "()I" } : Jvm.MethodName)) ∈ TB := tb_of 1205 _ (by decide +kernel) rfl
theorem wd_1206 : (Jvm.Cond.code ({ cls := "RopeSwingModel", name := "takeRope", desc := "()I" } : Jvm.MethodName) prog_12_method_17_code (2 : Nat) (Option.some Jvm.ClassFile.FieldType.int)) ∈ TB := tb_of 1206 _ (by decide +kernel) rfl
theorem wd_1207 : (Jvm.Cond.methodLink "RopeSwingModel" (172 : Nat) ({ cls := "RopeSwingModel", name := "takeStart", desc := "()I" } : Jvm.MethodName)) ∈ TB := tb_of 1207 _ (by decide +kernel) rfl
theorem wd_1209 : (Jvm.Cond.instanceMethod ({ cls := "RopeSwingModel", name := "takeStart", desc := "()I" } : Jvm.MethodName)) ∈ TB := tb_of 1209 _ (by decide +kernel) rfl
theorem wd_1210 : (Jvm.Cond.code ({ cls := "RopeSwingModel", name := "takeStart", desc := "()I" } : Jvm.MethodName) prog_12_method_18_code (2 : Nat) (Option.some Jvm.ClassFile.FieldType.int)) ∈ TB := tb_of 1210 _ (by decide +kernel) rfl
theorem wd_1211 : (Jvm.Cond.methodLink "RopeSwingModel" (175 : Nat) ({ cls := "RopeSwingModel", name := "takeRow", desc := "([III)I" } : Jvm.MethodName)) ∈ TB := tb_of 1211 _ (by decide +kernel) rfl
theorem wd_1213 : (Jvm.Cond.instanceMethod ({ cls := "RopeSwingModel", name := "takeRow", desc := "([III)I" } : Jvm.MethodName)) ∈ TB := tb_of 1213 _ (by decide +kernel) rfl
theorem wd_1214 : (Jvm.Cond.code ({ cls := "RopeSwingModel", name := "takeRow", desc := "([III)I" } : Jvm.MethodName) prog_12_method_19_code (7 : Nat) (Option.some Jvm.ClassFile.FieldType.int)) ∈ TB := tb_of 1214 _ (by decide +kernel) rfl
theorem wd_1215 : (Jvm.Cond.methodLink "RopeSwingModel" (151 : Nat) ({ cls := "RopeSwingModel", name := "isComma", desc := "()Z" } : Jvm.MethodName)) ∈ TB := tb_of 1215 _ (by decide +kernel) rfl
theorem wd_1217 : (Jvm.Cond.instanceMethod ({ cls := "RopeSwingModel", name := "isComma", desc := "()Z" } : Jvm.MethodName)) ∈ TB := tb_of 1217 _ (by decide +kernel) rfl
theorem wd_1218 : (Jvm.Cond.code ({ cls := "RopeSwingModel", name := "isComma", desc := "()Z" } : Jvm.MethodName) prog_12_method_13_code (2 : Nat) (Option.some Jvm.ClassFile.FieldType.boolean)) ∈ TB := tb_of 1218 _ (by decide +kernel) rfl
theorem wd_1219 : (Jvm.Cond.methodLink "RopeSwingModel" (179 : Nat) ({ cls := "RopeSwingModel", name := "takeStones", desc := "()I" } : Jvm.MethodName)) ∈ TB := tb_of 1219 _ (by decide +kernel) rfl
theorem wd_1221 : (Jvm.Cond.instanceMethod ({ cls := "RopeSwingModel", name := "takeStones", desc := "()I" } : Jvm.MethodName)) ∈ TB := tb_of 1221 _ (by decide +kernel) rfl
theorem wd_1222 : (Jvm.Cond.code ({ cls := "RopeSwingModel", name := "takeStones", desc := "()I" } : Jvm.MethodName) prog_12_method_20_code (3 : Nat) (Option.some Jvm.ClassFile.FieldType.int)) ∈ TB := tb_of 1222 _ (by decide +kernel) rfl
theorem wd_1223 : (Jvm.Cond.methodLink "RopeSwingModel" (182 : Nat) ({ cls := "RopeSwingModel", name := "takeStop", desc := "()I" } : Jvm.MethodName)) ∈ TB := tb_of 1223 _ (by decide +kernel) rfl
theorem wd_1225 : (Jvm.Cond.instanceMethod ({ cls := "RopeSwingModel", name := "takeStop", desc := "()I" } : Jvm.MethodName)) ∈ TB := tb_of 1225 _ (by decide +kernel) rfl
theorem wd_1226 : (Jvm.Cond.code ({ cls := "RopeSwingModel", name := "takeStop", desc := "()I" } : Jvm.MethodName) prog_12_method_12_code (1 : Nat) (Option.some Jvm.ClassFile.FieldType.int)) ∈ TB := tb_of 1226 _ (by decide +kernel) rfl
theorem wd_1227 : (Jvm.Cond.methodLink "RopeSwingLaw" (28 : Nat) ({ cls := "RopeSwingModel", name := "swinger", desc := "()I" } : Jvm.MethodName)) ∈ TB := tb_of 1227 _ (by decide +kernel) rfl
theorem wd_1228 : (Jvm.Cond.instanceMethod ({ cls := "RopeSwingModel", name := "swinger", desc := "()I" } : Jvm.MethodName)) ∈ TB := tb_of 1228 _ (by decide +kernel) rfl
theorem wd_1229 : (Jvm.Cond.selects "RopeSwingModel" ({ cls := "RopeSwingModel", name := "swinger", desc := "()I" } : Jvm.MethodName) ({ cls := "RopeSwingModel", name := "swinger", desc := "()I" } : Jvm.MethodName)) ∈ TB := tb_of 1229 _ (by decide +kernel) rfl
theorem wd_1230 : (Jvm.Cond.code ({ cls := "RopeSwingModel", name := "swinger", desc := "()I" } : Jvm.MethodName) prog_12_method_26_code (2 : Nat) (Option.some Jvm.ClassFile.FieldType.int)) ∈ TB := tb_of 1230 _ (by decide +kernel) rfl
theorem wd_1231 : (Jvm.Cond.constant "RopeSwingModel" (188 : Nat) (-1000000003 : Int32)) ∈ TB := tb_of 1231 _ (by decide +kernel) rfl
theorem wd_1232 : (Jvm.Cond.methodLink "RopeSwingModel" (189 : Nat) ({ cls := "RopeSwingModel", name := "takeSwinger", desc := "()I" } : Jvm.MethodName)) ∈ TB := tb_of 1232 _ (by decide +kernel) rfl
theorem wd_1234 : (Jvm.Cond.instanceMethod ({ cls := "RopeSwingModel", name := "takeSwinger", desc := "()I" } : Jvm.MethodName)) ∈ TB := tb_of 1234 _ (by decide +kernel) rfl
theorem wd_1235 : (Jvm.Cond.code ({ cls := "RopeSwingModel", name := "takeSwinger", desc := "()I" } : Jvm.MethodName) prog_12_method_25_code (3 : Nat) (Option.some Jvm.ClassFile.FieldType.int)) ∈ TB := tb_of 1235 _ (by decide +kernel) rfl
theorem wd_1236 : (Jvm.Cond.methodLink "RopeSwingLaw" (32 : Nat) ({ cls := "RopeSwingModel", name := "fault", desc := "()I" } : Jvm.MethodName)) ∈ TB := tb_of 1236 _ (by decide +kernel) rfl
theorem wd_1237 : (Jvm.Cond.instanceMethod ({ cls := "RopeSwingModel", name := "fault", desc := "()I" } : Jvm.MethodName)) ∈ TB := tb_of 1237 _ (by decide +kernel) rfl
theorem wd_1238 : (Jvm.Cond.selects "RopeSwingModel" ({ cls := "RopeSwingModel", name := "fault", desc := "()I" } : Jvm.MethodName) ({ cls := "RopeSwingModel", name := "fault", desc := "()I" } : Jvm.MethodName)) ∈ TB := tb_of 1238 _ (by decide +kernel) rfl
theorem wd_1239 : (Jvm.Cond.code ({ cls := "RopeSwingModel", name := "fault", desc := "()I" } : Jvm.MethodName) prog_12_method_27_code (1 : Nat) (Option.some Jvm.ClassFile.FieldType.int)) ∈ TB := tb_of 1239 _ (by decide +kernel) rfl
theorem wd_1240 : (Jvm.Cond.methodLink "RopeSwingLaw" (37 : Nat) ({ cls := "RopeSwingModel", name := "told", desc := "(I)I" } : Jvm.MethodName)) ∈ TB := tb_of 1240 _ (by decide +kernel) rfl
theorem wd_1241 : (Jvm.Cond.instanceMethod ({ cls := "RopeSwingModel", name := "told", desc := "(I)I" } : Jvm.MethodName)) ∈ TB := tb_of 1241 _ (by decide +kernel) rfl
theorem wd_1242 : (Jvm.Cond.selects "RopeSwingModel" ({ cls := "RopeSwingModel", name := "told", desc := "(I)I" } : Jvm.MethodName) ({ cls := "RopeSwingModel", name := "told", desc := "(I)I" } : Jvm.MethodName)) ∈ TB := tb_of 1242 _ (by decide +kernel) rfl
theorem wd_1243 : (Jvm.Cond.code ({ cls := "RopeSwingModel", name := "told", desc := "(I)I" } : Jvm.MethodName) prog_12_method_28_code (2 : Nat) (Option.some Jvm.ClassFile.FieldType.int)) ∈ TB := tb_of 1243 _ (by decide +kernel) rfl
theorem wd_1244 : (Jvm.Cond.methodLink "RopeSwingLaw" (42 : Nat) ({ cls := "RopeSwingModel", name := "cell", desc := "(II)I" } : Jvm.MethodName)) ∈ TB := tb_of 1244 _ (by decide +kernel) rfl
theorem wd_1245 : (Jvm.Cond.instanceMethod ({ cls := "RopeSwingModel", name := "cell", desc := "(II)I" } : Jvm.MethodName)) ∈ TB := tb_of 1245 _ (by decide +kernel) rfl
theorem wd_1246 : (Jvm.Cond.selects "RopeSwingModel" ({ cls := "RopeSwingModel", name := "cell", desc := "(II)I" } : Jvm.MethodName) ({ cls := "RopeSwingModel", name := "cell", desc := "(II)I" } : Jvm.MethodName)) ∈ TB := tb_of 1246 _ (by decide +kernel) rfl
theorem wd_1247 : (Jvm.Cond.code ({ cls := "RopeSwingModel", name := "cell", desc := "(II)I" } : Jvm.MethodName) prog_12_method_32_code (3 : Nat) (Option.some Jvm.ClassFile.FieldType.int)) ∈ TB := tb_of 1247 _ (by decide +kernel) rfl
theorem wd_1248 : (Jvm.Cond.constantLong "RopeSwingModel" (195 : Nat) (23 : Int64)) ∈ TB := tb_of 1248 _ (by decide +kernel) rfl
theorem wd_1249 : (Jvm.Cond.constant "RopeSwingModel" (197 : Nat) (-1000000001 : Int32)) ∈ TB := tb_of 1249 _ (by decide +kernel) rfl
theorem wd_1250 : (Jvm.Cond.methodLink "RopeSwingModel" (198 : Nat) ({ cls := "RopeSwingModel", name := "depthOf", desc := "(I)I" } : Jvm.MethodName)) ∈ TB := tb_of 1250 _ (by decide +kernel) rfl
theorem wd_1252 : (Jvm.Cond.instanceMethod ({ cls := "RopeSwingModel", name := "depthOf", desc := "(I)I" } : Jvm.MethodName)) ∈ TB := tb_of 1252 _ (by decide +kernel) rfl
theorem wd_1253 : (Jvm.Cond.code ({ cls := "RopeSwingModel", name := "depthOf", desc := "(I)I" } : Jvm.MethodName) prog_12_method_30_code (2 : Nat) (Option.some Jvm.ClassFile.FieldType.int)) ∈ TB := tb_of 1253 _ (by decide +kernel) rfl
theorem wd_1254 : (Jvm.Cond.methodLink "RopeSwingModel" (192 : Nat) ({ cls := "RopeSwingModel", name := "lower", desc := "()I" } : Jvm.MethodName)) ∈ TB := tb_of 1254 _ (by decide +kernel) rfl
theorem wd_1256 : (Jvm.Cond.instanceMethod ({ cls := "RopeSwingModel", name := "lower", desc := "()I" } : Jvm.MethodName)) ∈ TB := tb_of 1256 _ (by decide +kernel) rfl
theorem wd_1257 : (Jvm.Cond.code ({ cls := "RopeSwingModel", name := "lower", desc := "()I" } : Jvm.MethodName) prog_12_method_29_code (1 : Nat) (Option.some Jvm.ClassFile.FieldType.int)) ∈ TB := tb_of 1257 _ (by decide +kernel) rfl
theorem wd_1258 : (Jvm.Cond.methodLink "RopeSwingModel" (201 : Nat) ({ cls := "RopeSwingModel", name := "kindOf", desc := "(I)I" } : Jvm.MethodName)) ∈ TB := tb_of 1258 _ (by decide +kernel) rfl
theorem wd_1260 : (Jvm.Cond.instanceMethod ({ cls := "RopeSwingModel", name := "kindOf", desc := "(I)I" } : Jvm.MethodName)) ∈ TB := tb_of 1260 _ (by decide +kernel) rfl
theorem wd_1261 : (Jvm.Cond.code ({ cls := "RopeSwingModel", name := "kindOf", desc := "(I)I" } : Jvm.MethodName) prog_12_method_31_code (2 : Nat) (Option.some Jvm.ClassFile.FieldType.int)) ∈ TB := tb_of 1261 _ (by decide +kernel) rfl
theorem wd_1262 : (Jvm.Cond.methodLink "RopeSwingLaw" (46 : Nat) ({ cls := "RopeSwingModel", name := "who", desc := "(II)I" } : Jvm.MethodName)) ∈ TB := tb_of 1262 _ (by decide +kernel) rfl
theorem wd_1263 : (Jvm.Cond.instanceMethod ({ cls := "RopeSwingModel", name := "who", desc := "(II)I" } : Jvm.MethodName)) ∈ TB := tb_of 1263 _ (by decide +kernel) rfl
theorem wd_1264 : (Jvm.Cond.selects "RopeSwingModel" ({ cls := "RopeSwingModel", name := "who", desc := "(II)I" } : Jvm.MethodName) ({ cls := "RopeSwingModel", name := "who", desc := "(II)I" } : Jvm.MethodName)) ∈ TB := tb_of 1264 _ (by decide +kernel) rfl
theorem wd_1265 : (Jvm.Cond.code ({ cls := "RopeSwingModel", name := "who", desc := "(II)I" } : Jvm.MethodName) prog_12_method_33_code (3 : Nat) (Option.some Jvm.ClassFile.FieldType.int)) ∈ TB := tb_of 1265 _ (by decide +kernel) rfl
theorem wd_1266 : (Jvm.Cond.methodLink "RopeSwingModel" (204 : Nat) ({ cls := "RopeSwingModel", name := "isSwinger", desc := "(I)Z" } : Jvm.MethodName)) ∈ TB := tb_of 1266 _ (by decide +kernel) rfl
theorem wd_1268 : (Jvm.Cond.instanceMethod ({ cls := "RopeSwingModel", name := "isSwinger", desc := "(I)Z" } : Jvm.MethodName)) ∈ TB := tb_of 1268 _ (by decide +kernel) rfl
theorem wd_1269 : (Jvm.Cond.code ({ cls := "RopeSwingModel", name := "isSwinger", desc := "(I)Z" } : Jvm.MethodName) prog_12_method_4_code (2 : Nat) (Option.some Jvm.ClassFile.FieldType.boolean)) ∈ TB := tb_of 1269 _ (by decide +kernel) rfl
theorem wd_1270 : (Jvm.Cond.constantLong "RopeSwingModel" (208 : Nat) (4 : Int64)) ∈ TB := tb_of 1270 _ (by decide +kernel) rfl
theorem wd_1271 : (Jvm.Cond.methodLink "RopeSwingLaw" (50 : Nat) ({ cls := "RopeSwingModel", name := "set", desc := "(II)I" } : Jvm.MethodName)) ∈ TB := tb_of 1271 _ (by decide +kernel) rfl
theorem wd_1272 : (Jvm.Cond.instanceMethod ({ cls := "RopeSwingModel", name := "set", desc := "(II)I" } : Jvm.MethodName)) ∈ TB := tb_of 1272 _ (by decide +kernel) rfl
theorem wd_1273 : (Jvm.Cond.selects "RopeSwingModel" ({ cls := "RopeSwingModel", name := "set", desc := "(II)I" } : Jvm.MethodName) ({ cls := "RopeSwingModel", name := "set", desc := "(II)I" } : Jvm.MethodName)) ∈ TB := tb_of 1273 _ (by decide +kernel) rfl
theorem wd_1274 : (Jvm.Cond.code ({ cls := "RopeSwingModel", name := "set", desc := "(II)I" } : Jvm.MethodName) prog_12_method_35_code (4 : Nat) (Option.some Jvm.ClassFile.FieldType.int)) ∈ TB := tb_of 1274 _ (by decide +kernel) rfl
theorem wd_1275 : (Jvm.Cond.methodLink "RopeSwingModel" (210 : Nat) ({ cls := "RopeSwingModel", name := "mostOf", desc := "(I)I" } : Jvm.MethodName)) ∈ TB := tb_of 1275 _ (by decide +kernel) rfl
theorem wd_1276 : (Jvm.Cond.static ({ cls := "RopeSwingModel", name := "mostOf", desc := "(I)I" } : Jvm.MethodName)) ∈ TB := tb_of 1276 _ (by decide +kernel) rfl
theorem wd_1277 : (Jvm.Cond.code ({ cls := "RopeSwingModel", name := "mostOf", desc := "(I)I" } : Jvm.MethodName) prog_12_method_34_code (1 : Nat) (Option.some Jvm.ClassFile.FieldType.int)) ∈ TB := tb_of 1277 _ (by decide +kernel) rfl
theorem wd_1278 : (Jvm.Cond.methodLink "RopeSwingLaw" (54 : Nat) ({ cls := "RopeSwingModel", name := "now", desc := "(I)I" } : Jvm.MethodName)) ∈ TB := tb_of 1278 _ (by decide +kernel) rfl
theorem wd_1279 : (Jvm.Cond.instanceMethod ({ cls := "RopeSwingModel", name := "now", desc := "(I)I" } : Jvm.MethodName)) ∈ TB := tb_of 1279 _ (by decide +kernel) rfl
theorem wd_1280 : (Jvm.Cond.selects "RopeSwingModel" ({ cls := "RopeSwingModel", name := "now", desc := "(I)I" } : Jvm.MethodName) ({ cls := "RopeSwingModel", name := "now", desc := "(I)I" } : Jvm.MethodName)) ∈ TB := tb_of 1280 _ (by decide +kernel) rfl
theorem wd_1281 : (Jvm.Cond.code ({ cls := "RopeSwingModel", name := "now", desc := "(I)I" } : Jvm.MethodName) prog_12_method_37_code (2 : Nat) (Option.some Jvm.ClassFile.FieldType.int)) ∈ TB := tb_of 1281 _ (by decide +kernel) rfl
theorem wd_1282 : (Jvm.Cond.methodLink "RopeSwingModel" (213 : Nat) ({ cls := "RopeSwingModel", name := "strengthIn", desc := "(I)I" } : Jvm.MethodName)) ∈ TB := tb_of 1282 _ (by decide +kernel) rfl
theorem wd_1284 : (Jvm.Cond.instanceMethod ({ cls := "RopeSwingModel", name := "strengthIn", desc := "(I)I" } : Jvm.MethodName)) ∈ TB := tb_of 1284 _ (by decide +kernel) rfl
theorem wd_1285 : (Jvm.Cond.code ({ cls := "RopeSwingModel", name := "strengthIn", desc := "(I)I" } : Jvm.MethodName) prog_12_method_36_code (4 : Nat) (Option.some Jvm.ClassFile.FieldType.int)) ∈ TB := tb_of 1285 _ (by decide +kernel) rfl
theorem wd_1286 : (Jvm.Cond.methodLink "RopeSwingLaw" (58 : Nat) ({ cls := "RopeSwingModel", name := "sine", desc := "(I)I" } : Jvm.MethodName)) ∈ TB := tb_of 1286 _ (by decide +kernel) rfl
theorem wd_1287 : (Jvm.Cond.instanceMethod ({ cls := "RopeSwingModel", name := "sine", desc := "(I)I" } : Jvm.MethodName)) ∈ TB := tb_of 1287 _ (by decide +kernel) rfl
theorem wd_1288 : (Jvm.Cond.selects "RopeSwingModel" ({ cls := "RopeSwingModel", name := "sine", desc := "(I)I" } : Jvm.MethodName) ({ cls := "RopeSwingModel", name := "sine", desc := "(I)I" } : Jvm.MethodName)) ∈ TB := tb_of 1288 _ (by decide +kernel) rfl
theorem wd_1289 : (Jvm.Cond.code ({ cls := "RopeSwingModel", name := "sine", desc := "(I)I" } : Jvm.MethodName) prog_12_method_41_code (2 : Nat) (Option.some Jvm.ClassFile.FieldType.int)) ∈ TB := tb_of 1289 _ (by decide +kernel) rfl
theorem wd_1290 : (Jvm.Cond.constantLong "RopeSwingModel" (226 : Nat) (-1800 : Int64)) ∈ TB := tb_of 1290 _ (by decide +kernel) rfl
theorem wd_1291 : (Jvm.Cond.constantLong "RopeSwingModel" (228 : Nat) (1800 : Int64)) ∈ TB := tb_of 1291 _ (by decide +kernel) rfl
theorem wd_1292 : (Jvm.Cond.methodLink "RopeSwingModel" (223 : Nat) ({ cls := "RopeSwingModel", name := "sineOf", desc := "(I)I" } : Jvm.MethodName)) ∈ TB := tb_of 1292 _ (by decide +kernel) rfl
theorem wd_1293 : (Jvm.Cond.static ({ cls := "RopeSwingModel", name := "sineOf", desc := "(I)I" } : Jvm.MethodName)) ∈ TB := tb_of 1293 _ (by decide +kernel) rfl
theorem wd_1294 : (Jvm.Cond.code ({ cls := "RopeSwingModel", name := "sineOf", desc := "(I)I" } : Jvm.MethodName) prog_12_method_39_code (5 : Nat) (Option.some Jvm.ClassFile.FieldType.int)) ∈ TB := tb_of 1294 _ (by decide +kernel) rfl
theorem wd_1295 : (Jvm.Cond.methodLink "RopeSwingModel" (216 : Nat) ({ cls := "RopeSwingModel", name := "size", desc := "(I)I" } : Jvm.MethodName)) ∈ TB := tb_of 1295 _ (by decide +kernel) rfl
theorem wd_1296 : (Jvm.Cond.static ({ cls := "RopeSwingModel", name := "size", desc := "(I)I" } : Jvm.MethodName)) ∈ TB := tb_of 1296 _ (by decide +kernel) rfl
theorem wd_1297 : (Jvm.Cond.code ({ cls := "RopeSwingModel", name := "size", desc := "(I)I" } : Jvm.MethodName) prog_12_method_38_code (1 : Nat) (Option.some Jvm.ClassFile.FieldType.int)) ∈ TB := tb_of 1297 _ (by decide +kernel) rfl
theorem wd_1298 : (Jvm.Cond.constantLong "RopeSwingModel" (219 : Nat) (4000 : Int64)) ∈ TB := tb_of 1298 _ (by decide +kernel) rfl
theorem wd_1299 : (Jvm.Cond.constantLong "RopeSwingModel" (221 : Nat) (4050000 : Int64)) ∈ TB := tb_of 1299 _ (by decide +kernel) rfl
theorem wd_1300 : (Jvm.Cond.methodLink "RopeSwingLaw" (63 : Nat) ({ cls := "RopeSwingModel", name := "holds", desc := "(III)I" } : Jvm.MethodName)) ∈ TB := tb_of 1300 _ (by decide +kernel) rfl
theorem wd_1301 : (Jvm.Cond.instanceMethod ({ cls := "RopeSwingModel", name := "holds", desc := "(III)I" } : Jvm.MethodName)) ∈ TB := tb_of 1301 _ (by decide +kernel) rfl
theorem wd_1302 : (Jvm.Cond.selects "RopeSwingModel" ({ cls := "RopeSwingModel", name := "holds", desc := "(III)I" } : Jvm.MethodName) ({ cls := "RopeSwingModel", name := "holds", desc := "(III)I" } : Jvm.MethodName)) ∈ TB := tb_of 1302 _ (by decide +kernel) rfl
theorem wd_1303 : (Jvm.Cond.code ({ cls := "RopeSwingModel", name := "holds", desc := "(III)I" } : Jvm.MethodName) prog_12_method_48_code (4 : Nat) (Option.some Jvm.ClassFile.FieldType.int)) ∈ TB := tb_of 1303 _ (by decide +kernel) rfl
theorem wd_1304 : (Jvm.Cond.constantLong "RopeSwingModel" (264 : Nat) (200 : Int64)) ∈ TB := tb_of 1304 _ (by decide +kernel) rfl
theorem wd_1305 : (Jvm.Cond.constantLong "RopeSwingModel" (266 : Nat) (5 : Int64)) ∈ TB := tb_of 1305 _ (by decide +kernel) rfl
theorem wd_1306 : (Jvm.Cond.methodLink "RopeSwingModel" (268 : Nat) ({ cls := "RopeSwingModel", name := "useHand", desc := "()V" } : Jvm.MethodName)) ∈ TB := tb_of 1306 _ (by decide +kernel) rfl
theorem wd_1308 : (Jvm.Cond.instanceMethod ({ cls := "RopeSwingModel", name := "useHand", desc := "()V" } : Jvm.MethodName)) ∈ TB := tb_of 1308 _ (by decide +kernel) rfl
theorem wd_1309 : (Jvm.Cond.code ({ cls := "RopeSwingModel", name := "useHand", desc := "()V" } : Jvm.MethodName) prog_12_method_42_code (1 : Nat) (Option.none : Option Jvm.ClassFile.FieldType)) ∈ TB := tb_of 1309 _ (by decide +kernel) rfl
theorem wd_1310 : (Jvm.Cond.methodLink "RopeSwingModel" (271 : Nat) ({ cls := "RopeSwingModel", name := "usePerson", desc := "(I)V" } : Jvm.MethodName)) ∈ TB := tb_of 1310 _ (by decide +kernel) rfl
theorem wd_1312 : (Jvm.Cond.instanceMethod ({ cls := "RopeSwingModel", name := "usePerson", desc := "(I)V" } : Jvm.MethodName)) ∈ TB := tb_of 1312 _ (by decide +kernel) rfl
theorem wd_1313 : (Jvm.Cond.code ({ cls := "RopeSwingModel", name := "usePerson", desc := "(I)V" } : Jvm.MethodName) prog_12_method_43_code (2 : Nat) (Option.none : Option Jvm.ClassFile.FieldType)) ∈ TB := tb_of 1313 _ (by decide +kernel) rfl
theorem wd_1314 : (Jvm.Cond.methodLink "RopeSwingModel" (275 : Nat) ({ cls := "RopeSwingModel", name := "swing", desc := "()V" } : Jvm.MethodName)) ∈ TB := tb_of 1314 _ (by decide +kernel) rfl
theorem wd_1316 : (Jvm.Cond.instanceMethod ({ cls := "RopeSwingModel", name := "swing", desc := "()V" } : Jvm.MethodName)) ∈ TB := tb_of 1316 _ (by decide +kernel) rfl
theorem wd_1317 : (Jvm.Cond.code ({ cls := "RopeSwingModel", name := "swing", desc := "()V" } : Jvm.MethodName) prog_12_method_45_code (2 : Nat) (Option.none : Option Jvm.ClassFile.FieldType)) ∈ TB := tb_of 1317 _ (by decide +kernel) rfl
theorem wd_1318 : (Jvm.Cond.methodLink "RopeSwingModel" (261 : Nat) ({ cls := "RopeSwingModel", name := "pullOf", desc := "(III)I" } : Jvm.MethodName)) ∈ TB := tb_of 1318 _ (by decide +kernel) rfl
theorem wd_1320 : (Jvm.Cond.instanceMethod ({ cls := "RopeSwingModel", name := "pullOf", desc := "(III)I" } : Jvm.MethodName)) ∈ TB := tb_of 1320 _ (by decide +kernel) rfl
theorem wd_1321 : (Jvm.Cond.code ({ cls := "RopeSwingModel", name := "pullOf", desc := "(III)I" } : Jvm.MethodName) prog_12_method_44_code (6 : Nat) (Option.some Jvm.ClassFile.FieldType.int)) ∈ TB := tb_of 1321 _ (by decide +kernel) rfl
theorem wd_1322 : (Jvm.Cond.methodLink "RopeSwingModel" (254 : Nat) ({ cls := "RopeSwingModel", name := "cosineOf", desc := "(I)I" } : Jvm.MethodName)) ∈ TB := tb_of 1322 _ (by decide +kernel) rfl
theorem wd_1323 : (Jvm.Cond.static ({ cls := "RopeSwingModel", name := "cosineOf", desc := "(I)I" } : Jvm.MethodName)) ∈ TB := tb_of 1323 _ (by decide +kernel) rfl
theorem wd_1324 : (Jvm.Cond.code ({ cls := "RopeSwingModel", name := "cosineOf", desc := "(I)I" } : Jvm.MethodName) prog_12_method_40_code (1 : Nat) (Option.some Jvm.ClassFile.FieldType.int)) ∈ TB := tb_of 1324 _ (by decide +kernel) rfl
theorem wd_1325 : (Jvm.Cond.constantLong "RopeSwingModel" (257 : Nat) (80500000 : Int64)) ∈ TB := tb_of 1325 _ (by decide +kernel) rfl
theorem wd_1326 : (Jvm.Cond.constantLong "RopeSwingModel" (259 : Nat) (100 : Int64)) ∈ TB := tb_of 1326 _ (by decide +kernel) rfl
theorem wd_1327 : (Jvm.Cond.methodLink "RopeSwingModel" (278 : Nat) ({ cls := "RopeSwingModel", name := "handsX", desc := "(I)I" } : Jvm.MethodName)) ∈ TB := tb_of 1327 _ (by decide +kernel) rfl
theorem wd_1329 : (Jvm.Cond.instanceMethod ({ cls := "RopeSwingModel", name := "handsX", desc := "(I)I" } : Jvm.MethodName)) ∈ TB := tb_of 1329 _ (by decide +kernel) rfl
theorem wd_1330 : (Jvm.Cond.code ({ cls := "RopeSwingModel", name := "handsX", desc := "(I)I" } : Jvm.MethodName) prog_12_method_46_code (2 : Nat) (Option.some Jvm.ClassFile.FieldType.int)) ∈ TB := tb_of 1330 _ (by decide +kernel) rfl
theorem wd_1331 : (Jvm.Cond.methodLink "RopeSwingModel" (281 : Nat) ({ cls := "RopeSwingModel", name := "handsHeight", desc := "(I)I" } : Jvm.MethodName)) ∈ TB := tb_of 1331 _ (by decide +kernel) rfl
theorem wd_1333 : (Jvm.Cond.instanceMethod ({ cls := "RopeSwingModel", name := "handsHeight", desc := "(I)I" } : Jvm.MethodName)) ∈ TB := tb_of 1333 _ (by decide +kernel) rfl
theorem wd_1334 : (Jvm.Cond.code ({ cls := "RopeSwingModel", name := "handsHeight", desc := "(I)I" } : Jvm.MethodName) prog_12_method_47_code (2 : Nat) (Option.some Jvm.ClassFile.FieldType.int)) ∈ TB := tb_of 1334 _ (by decide +kernel) rfl
theorem wd_1335 : (Jvm.Cond.methodLink "RopeSwingLaw" (67 : Nat) ({ cls := "RopeSwingModel", name := "lands", desc := "(III)I" } : Jvm.MethodName)) ∈ TB := tb_of 1335 _ (by decide +kernel) rfl
theorem wd_1336 : (Jvm.Cond.instanceMethod ({ cls := "RopeSwingModel", name := "lands", desc := "(III)I" } : Jvm.MethodName)) ∈ TB := tb_of 1336 _ (by decide +kernel) rfl
theorem wd_1337 : (Jvm.Cond.selects "RopeSwingModel" ({ cls := "RopeSwingModel", name := "lands", desc := "(III)I" } : Jvm.MethodName) ({ cls := "RopeSwingModel", name := "lands", desc := "(III)I" } : Jvm.MethodName)) ∈ TB := tb_of 1337 _ (by decide +kernel) rfl
theorem wd_1338 : (Jvm.Cond.code ({ cls := "RopeSwingModel", name := "lands", desc := "(III)I" } : Jvm.MethodName) prog_12_method_57_code (4 : Nat) (Option.some Jvm.ClassFile.FieldType.int)) ∈ TB := tb_of 1338 _ (by decide +kernel) rfl
theorem wd_1339 : (Jvm.Cond.methodLink "RopeSwingModel" (327 : Nat) ({ cls := "RopeSwingModel", name := "isTime", desc := "(I)Z" } : Jvm.MethodName)) ∈ TB := tb_of 1339 _ (by decide +kernel) rfl
theorem wd_1340 : (Jvm.Cond.static ({ cls := "RopeSwingModel", name := "isTime", desc := "(I)Z" } : Jvm.MethodName)) ∈ TB := tb_of 1340 _ (by decide +kernel) rfl
theorem wd_1341 : (Jvm.Cond.code ({ cls := "RopeSwingModel", name := "isTime", desc := "(I)Z" } : Jvm.MethodName) prog_12_method_55_code (1 : Nat) (Option.some Jvm.ClassFile.FieldType.boolean)) ∈ TB := tb_of 1341 _ (by decide +kernel) rfl
theorem wd_1342 : (Jvm.Cond.methodLink "RopeSwingModel" (330 : Nat) ({ cls := "RopeSwingModel", name := "ready", desc := "(I)V" } : Jvm.MethodName)) ∈ TB := tb_of 1342 _ (by decide +kernel) rfl
theorem wd_1344 : (Jvm.Cond.instanceMethod ({ cls := "RopeSwingModel", name := "ready", desc := "(I)V" } : Jvm.MethodName)) ∈ TB := tb_of 1344 _ (by decide +kernel) rfl
theorem wd_1345 : (Jvm.Cond.code ({ cls := "RopeSwingModel", name := "ready", desc := "(I)V" } : Jvm.MethodName) prog_12_method_56_code (2 : Nat) (Option.none : Option Jvm.ClassFile.FieldType)) ∈ TB := tb_of 1345 _ (by decide +kernel) rfl
theorem wd_1346 : (Jvm.Cond.methodLink "RopeSwingModel" (333 : Nat) ({ cls := "RopeSwingModel", name := "letGo", desc := "(I)V" } : Jvm.MethodName)) ∈ TB := tb_of 1346 _ (by decide +kernel) rfl
theorem wd_1348 : (Jvm.Cond.instanceMethod ({ cls := "RopeSwingModel", name := "letGo", desc := "(I)V" } : Jvm.MethodName)) ∈ TB := tb_of 1348 _ (by decide +kernel) rfl
theorem wd_1349 : (Jvm.Cond.code ({ cls := "RopeSwingModel", name := "letGo", desc := "(I)V" } : Jvm.MethodName) prog_12_method_54_code (4 : Nat) (Option.none : Option Jvm.ClassFile.FieldType)) ∈ TB := tb_of 1349 _ (by decide +kernel) rfl
theorem wd_1350 : (Jvm.Cond.methodLink "RopeSwingModel" (318 : Nat) ({ cls := "RopeSwingModel", name := "endAt", desc := "(II)I" } : Jvm.MethodName)) ∈ TB := tb_of 1350 _ (by decide +kernel) rfl
theorem wd_1352 : (Jvm.Cond.instanceMethod ({ cls := "RopeSwingModel", name := "endAt", desc := "(II)I" } : Jvm.MethodName)) ∈ TB := tb_of 1352 _ (by decide +kernel) rfl
theorem wd_1353 : (Jvm.Cond.code ({ cls := "RopeSwingModel", name := "endAt", desc := "(II)I" } : Jvm.MethodName) prog_12_method_53_code (4 : Nat) (Option.some Jvm.ClassFile.FieldType.int)) ∈ TB := tb_of 1353 _ (by decide +kernel) rfl
theorem wd_1354 : (Jvm.Cond.methodLink "RopeSwingModel" (284 : Nat) ({ cls := "RopeSwingModel", name := "cellOf", desc := "(I)I" } : Jvm.MethodName)) ∈ TB := tb_of 1354 _ (by decide +kernel) rfl
theorem wd_1355 : (Jvm.Cond.static ({ cls := "RopeSwingModel", name := "cellOf", desc := "(I)I" } : Jvm.MethodName)) ∈ TB := tb_of 1355 _ (by decide +kernel) rfl
theorem wd_1356 : (Jvm.Cond.code ({ cls := "RopeSwingModel", name := "cellOf", desc := "(I)I" } : Jvm.MethodName) prog_12_method_49_code (2 : Nat) (Option.some Jvm.ClassFile.FieldType.int)) ∈ TB := tb_of 1356 _ (by decide +kernel) rfl
theorem wd_1357 : (Jvm.Cond.methodLink "RopeSwingModel" (324 : Nat) ({ cls := "RopeSwingModel", name := "fly", desc := "(IZ)V" } : Jvm.MethodName)) ∈ TB := tb_of 1357 _ (by decide +kernel) rfl
theorem wd_1359 : (Jvm.Cond.instanceMethod ({ cls := "RopeSwingModel", name := "fly", desc := "(IZ)V" } : Jvm.MethodName)) ∈ TB := tb_of 1359 _ (by decide +kernel) rfl
theorem wd_1360 : (Jvm.Cond.code ({ cls := "RopeSwingModel", name := "fly", desc := "(IZ)V" } : Jvm.MethodName) prog_12_method_52_code (17 : Nat) (Option.none : Option Jvm.ClassFile.FieldType)) ∈ TB := tb_of 1360 _ (by decide +kernel) rfl
theorem wd_1361 : (Jvm.Cond.constantLong "RopeSwingModel" (295 : Nat) (573 : Int64)) ∈ TB := tb_of 1361 _ (by decide +kernel) rfl
theorem wd_1362 : (Jvm.Cond.constantLong "RopeSwingModel" (297 : Nat) (1000 : Int64)) ∈ TB := tb_of 1362 _ (by decide +kernel) rfl
theorem wd_1363 : (Jvm.Cond.constantLong "RopeSwingModel" (302 : Nat) (245 : Int64)) ∈ TB := tb_of 1363 _ (by decide +kernel) rfl
theorem wd_1364 : (Jvm.Cond.methodLink "RopeSwingModel" (304 : Nat) ({ cls := "RopeSwingModel", name := "isDown", desc := "(JJ)Z" } : Jvm.MethodName)) ∈ TB := tb_of 1364 _ (by decide +kernel) rfl
theorem wd_1366 : (Jvm.Cond.instanceMethod ({ cls := "RopeSwingModel", name := "isDown", desc := "(JJ)Z" } : Jvm.MethodName)) ∈ TB := tb_of 1366 _ (by decide +kernel) rfl
theorem wd_1367 : (Jvm.Cond.code ({ cls := "RopeSwingModel", name := "isDown", desc := "(JJ)Z" } : Jvm.MethodName) prog_12_method_50_code (6 : Nat) (Option.some Jvm.ClassFile.FieldType.boolean)) ∈ TB := tb_of 1367 _ (by decide +kernel) rfl
theorem wd_1368 : (Jvm.Cond.constantLong "RopeSwingModel" (287 : Nat) (-100 : Int64)) ∈ TB := tb_of 1368 _ (by decide +kernel) rfl
theorem wd_1369 : (Jvm.Cond.methodLink "RopeSwingModel" (314 : Nat) ({ cls := "RopeSwingModel", name := "land", desc := "(IZ)V" } : Jvm.MethodName)) ∈ TB := tb_of 1369 _ (by decide +kernel) rfl
theorem wd_1371 : (Jvm.Cond.instanceMethod ({ cls := "RopeSwingModel", name := "land", desc := "(IZ)V" } : Jvm.MethodName)) ∈ TB := tb_of 1371 _ (by decide +kernel) rfl
theorem wd_1372 : (Jvm.Cond.code ({ cls := "RopeSwingModel", name := "land", desc := "(IZ)V" } : Jvm.MethodName) prog_12_method_51_code (6 : Nat) (Option.none : Option Jvm.ClassFile.FieldType)) ∈ TB := tb_of 1372 _ (by decide +kernel) rfl
theorem wd_1373 : (Jvm.Cond.methodLink "RopeSwingLaw" (71 : Nat) ({ cls := "RopeSwingModel", name := "best", desc := "(II)I" } : Jvm.MethodName)) ∈ TB := tb_of 1373 _ (by decide +kernel) rfl
theorem wd_1374 : (Jvm.Cond.instanceMethod ({ cls := "RopeSwingModel", name := "best", desc := "(II)I" } : Jvm.MethodName)) ∈ TB := tb_of 1374 _ (by decide +kernel) rfl
theorem wd_1375 : (Jvm.Cond.selects "RopeSwingModel" ({ cls := "RopeSwingModel", name := "best", desc := "(II)I" } : Jvm.MethodName) ({ cls := "RopeSwingModel", name := "best", desc := "(II)I" } : Jvm.MethodName)) ∈ TB := tb_of 1375 _ (by decide +kernel) rfl
theorem wd_1376 : (Jvm.Cond.code ({ cls := "RopeSwingModel", name := "best", desc := "(II)I" } : Jvm.MethodName) prog_12_method_60_code (3 : Nat) (Option.some Jvm.ClassFile.FieldType.int)) ∈ TB := tb_of 1376 _ (by decide +kernel) rfl
theorem wd_1377 : (Jvm.Cond.methodLink "RopeSwingModel" (339 : Nat) ({ cls := "RopeSwingModel", name := "bestTime", desc := "(I)I" } : Jvm.MethodName)) ∈ TB := tb_of 1377 _ (by decide +kernel) rfl
theorem wd_1379 : (Jvm.Cond.instanceMethod ({ cls := "RopeSwingModel", name := "bestTime", desc := "(I)I" } : Jvm.MethodName)) ∈ TB := tb_of 1379 _ (by decide +kernel) rfl
theorem wd_1380 : (Jvm.Cond.code ({ cls := "RopeSwingModel", name := "bestTime", desc := "(I)I" } : Jvm.MethodName) prog_12_method_59_code (7 : Nat) (Option.some Jvm.ClassFile.FieldType.int)) ∈ TB := tb_of 1380 _ (by decide +kernel) rfl
theorem wd_1381 : (Jvm.Cond.methodLink "RopeSwingModel" (336 : Nat) ({ cls := "RopeSwingModel", name := "isGood", desc := "(I)Z" } : Jvm.MethodName)) ∈ TB := tb_of 1381 _ (by decide +kernel) rfl
theorem wd_1383 : (Jvm.Cond.instanceMethod ({ cls := "RopeSwingModel", name := "isGood", desc := "(I)Z" } : Jvm.MethodName)) ∈ TB := tb_of 1383 _ (by decide +kernel) rfl
theorem wd_1384 : (Jvm.Cond.code ({ cls := "RopeSwingModel", name := "isGood", desc := "(I)Z" } : Jvm.MethodName) prog_12_method_58_code (2 : Nat) (Option.some Jvm.ClassFile.FieldType.boolean)) ∈ TB := tb_of 1384 _ (by decide +kernel) rfl
theorem wd_1385 : (Jvm.Cond.methodLink "RopeSwingLaw" (75 : Nat) ({ cls := "RopeSwingModel", name := "wide", desc := "(II)I" } : Jvm.MethodName)) ∈ TB := tb_of 1385 _ (by decide +kernel) rfl
theorem wd_1386 : (Jvm.Cond.instanceMethod ({ cls := "RopeSwingModel", name := "wide", desc := "(II)I" } : Jvm.MethodName)) ∈ TB := tb_of 1386 _ (by decide +kernel) rfl
theorem wd_1387 : (Jvm.Cond.selects "RopeSwingModel" ({ cls := "RopeSwingModel", name := "wide", desc := "(II)I" } : Jvm.MethodName) ({ cls := "RopeSwingModel", name := "wide", desc := "(II)I" } : Jvm.MethodName)) ∈ TB := tb_of 1387 _ (by decide +kernel) rfl
theorem wd_1388 : (Jvm.Cond.code ({ cls := "RopeSwingModel", name := "wide", desc := "(II)I" } : Jvm.MethodName) prog_12_method_62_code (4 : Nat) (Option.some Jvm.ClassFile.FieldType.int)) ∈ TB := tb_of 1388 _ (by decide +kernel) rfl
theorem wd_1389 : (Jvm.Cond.constantLong "RopeSwingModel" (348 : Nat) (2 : Int64)) ∈ TB := tb_of 1389 _ (by decide +kernel) rfl
theorem wd_1390 : (Jvm.Cond.methodLink "RopeSwingModel" (350 : Nat) ({ cls := "RopeSwingModel", name := "wideRow", desc := "()I" } : Jvm.MethodName)) ∈ TB := tb_of 1390 _ (by decide +kernel) rfl
theorem wd_1392 : (Jvm.Cond.instanceMethod ({ cls := "RopeSwingModel", name := "wideRow", desc := "()I" } : Jvm.MethodName)) ∈ TB := tb_of 1392 _ (by decide +kernel) rfl
theorem wd_1393 : (Jvm.Cond.code ({ cls := "RopeSwingModel", name := "wideRow", desc := "()I" } : Jvm.MethodName) prog_12_method_61_code (5 : Nat) (Option.some Jvm.ClassFile.FieldType.int)) ∈ TB := tb_of 1393 _ (by decide +kernel) rfl
theorem wd_1394 : (Jvm.Cond.methodLink "RopeSwingLaw" (79 : Nat) ({ cls := "RopeSwingModel", name := "odds", desc := "(III)I" } : Jvm.MethodName)) ∈ TB := tb_of 1394 _ (by decide +kernel) rfl
theorem wd_1395 : (Jvm.Cond.instanceMethod ({ cls := "RopeSwingModel", name := "odds", desc := "(III)I" } : Jvm.MethodName)) ∈ TB := tb_of 1395 _ (by decide +kernel) rfl
theorem wd_1396 : (Jvm.Cond.selects "RopeSwingModel" ({ cls := "RopeSwingModel", name := "odds", desc := "(III)I" } : Jvm.MethodName) ({ cls := "RopeSwingModel", name := "odds", desc := "(III)I" } : Jvm.MethodName)) ∈ TB := tb_of 1396 _ (by decide +kernel) rfl
theorem wd_1397 : (Jvm.Cond.code ({ cls := "RopeSwingModel", name := "odds", desc := "(III)I" } : Jvm.MethodName) prog_12_method_63_code (6 : Nat) (Option.some Jvm.ClassFile.FieldType.int)) ∈ TB := tb_of 1397 _ (by decide +kernel) rfl
theorem wd_1398 : (Jvm.Cond.constantLong "RopeSwingModel" (353 : Nat) (40 : Int64)) ∈ TB := tb_of 1398 _ (by decide +kernel) rfl
theorem wd_1399 : (Jvm.Cond.constantLong "RopeSwingModel" (355 : Nat) (1000000 : Int64)) ∈ TB := tb_of 1399 _ (by decide +kernel) rfl
theorem wd_1400 : (Jvm.Cond.methodLink "RopeSwingLaw" (83 : Nat) ({ cls := "RopeSwingModel", name := "strong", desc := "(II)I" } : Jvm.MethodName)) ∈ TB := tb_of 1400 _ (by decide +kernel) rfl
theorem wd_1401 : (Jvm.Cond.instanceMethod ({ cls := "RopeSwingModel", name := "strong", desc := "(II)I" } : Jvm.MethodName)) ∈ TB := tb_of 1401 _ (by decide +kernel) rfl
theorem wd_1402 : (Jvm.Cond.selects "RopeSwingModel" ({ cls := "RopeSwingModel", name := "strong", desc := "(II)I" } : Jvm.MethodName) ({ cls := "RopeSwingModel", name := "strong", desc := "(II)I" } : Jvm.MethodName)) ∈ TB := tb_of 1402 _ (by decide +kernel) rfl
theorem wd_1403 : (Jvm.Cond.code ({ cls := "RopeSwingModel", name := "strong", desc := "(II)I" } : Jvm.MethodName) prog_12_method_64_code (6 : Nat) (Option.some Jvm.ClassFile.FieldType.int)) ∈ TB := tb_of 1403 _ (by decide +kernel) rfl
theorem wd_1404 : (Jvm.Cond.methodLink "RopeSwingLaw" (87 : Nat) ({ cls := "RopeSwingModel", name := "heavy", desc := "()I" } : Jvm.MethodName)) ∈ TB := tb_of 1404 _ (by decide +kernel) rfl
theorem wd_1405 : (Jvm.Cond.instanceMethod ({ cls := "RopeSwingModel", name := "heavy", desc := "()I" } : Jvm.MethodName)) ∈ TB := tb_of 1405 _ (by decide +kernel) rfl
theorem wd_1406 : (Jvm.Cond.selects "RopeSwingModel" ({ cls := "RopeSwingModel", name := "heavy", desc := "()I" } : Jvm.MethodName) ({ cls := "RopeSwingModel", name := "heavy", desc := "()I" } : Jvm.MethodName)) ∈ TB := tb_of 1406 _ (by decide +kernel) rfl
theorem wd_1407 : (Jvm.Cond.code ({ cls := "RopeSwingModel", name := "heavy", desc := "()I" } : Jvm.MethodName) prog_12_method_65_code (4 : Nat) (Option.some Jvm.ClassFile.FieldType.int)) ∈ TB := tb_of 1407 _ (by decide +kernel) rfl
theorem wd_1408 : (Jvm.Cond.methodLink "RopeSwingLaw" (91 : Nat) ({ cls := "RopeSwingModel", name := "may", desc := "()I" } : Jvm.MethodName)) ∈ TB := tb_of 1408 _ (by decide +kernel) rfl
theorem wd_1409 : (Jvm.Cond.instanceMethod ({ cls := "RopeSwingModel", name := "may", desc := "()I" } : Jvm.MethodName)) ∈ TB := tb_of 1409 _ (by decide +kernel) rfl
theorem wd_1410 : (Jvm.Cond.selects "RopeSwingModel" ({ cls := "RopeSwingModel", name := "may", desc := "()I" } : Jvm.MethodName) ({ cls := "RopeSwingModel", name := "may", desc := "()I" } : Jvm.MethodName)) ∈ TB := tb_of 1410 _ (by decide +kernel) rfl
theorem wd_1411 : (Jvm.Cond.code ({ cls := "RopeSwingModel", name := "may", desc := "()I" } : Jvm.MethodName) prog_12_method_67_code (3 : Nat) (Option.some Jvm.ClassFile.FieldType.int)) ∈ TB := tb_of 1411 _ (by decide +kernel) rfl
theorem wd_1412 : (Jvm.Cond.methodLink "RopeSwingModel" (357 : Nat) ({ cls := "RopeSwingModel", name := "hasGood", desc := "()Z" } : Jvm.MethodName)) ∈ TB := tb_of 1412 _ (by decide +kernel) rfl
theorem wd_1414 : (Jvm.Cond.instanceMethod ({ cls := "RopeSwingModel", name := "hasGood", desc := "()Z" } : Jvm.MethodName)) ∈ TB := tb_of 1414 _ (by decide +kernel) rfl
theorem wd_1415 : (Jvm.Cond.code ({ cls := "RopeSwingModel", name := "hasGood", desc := "()Z" } : Jvm.MethodName) prog_12_method_66_code (3 : Nat) (Option.some Jvm.ClassFile.FieldType.boolean)) ∈ TB := tb_of 1415 _ (by decide +kernel) rfl
theorem wd_1416 : (Jvm.Cond.methodLink "RopeSwingLaw" (95 : Nat) ({ cls := "RopeSwingModel", name := "months", desc := "(I)I" } : Jvm.MethodName)) ∈ TB := tb_of 1416 _ (by decide +kernel) rfl
theorem wd_1417 : (Jvm.Cond.instanceMethod ({ cls := "RopeSwingModel", name := "months", desc := "(I)I" } : Jvm.MethodName)) ∈ TB := tb_of 1417 _ (by decide +kernel) rfl
theorem wd_1418 : (Jvm.Cond.selects "RopeSwingModel" ({ cls := "RopeSwingModel", name := "months", desc := "(I)I" } : Jvm.MethodName) ({ cls := "RopeSwingModel", name := "months", desc := "(I)I" } : Jvm.MethodName)) ∈ TB := tb_of 1418 _ (by decide +kernel) rfl
theorem wd_1419 : (Jvm.Cond.code ({ cls := "RopeSwingModel", name := "months", desc := "(I)I" } : Jvm.MethodName) prog_12_method_68_code (5 : Nat) (Option.some Jvm.ClassFile.FieldType.int)) ∈ TB := tb_of 1419 _ (by decide +kernel) rfl
theorem wd_1420 : (Jvm.Cond.methodLink "RopeSwingLaw" (99 : Nat) ({ cls := "RopeSwingModel", name := "rope", desc := "(II)I" } : Jvm.MethodName)) ∈ TB := tb_of 1420 _ (by decide +kernel) rfl
theorem wd_1421 : (Jvm.Cond.instanceMethod ({ cls := "RopeSwingModel", name := "rope", desc := "(II)I" } : Jvm.MethodName)) ∈ TB := tb_of 1421 _ (by decide +kernel) rfl
theorem wd_1422 : (Jvm.Cond.selects "RopeSwingModel" ({ cls := "RopeSwingModel", name := "rope", desc := "(II)I" } : Jvm.MethodName) ({ cls := "RopeSwingModel", name := "rope", desc := "(II)I" } : Jvm.MethodName)) ∈ TB := tb_of 1422 _ (by decide +kernel) rfl
theorem wd_1423 : (Jvm.Cond.code ({ cls := "RopeSwingModel", name := "rope", desc := "(II)I" } : Jvm.MethodName) prog_12_method_69_code (8 : Nat) (Option.some Jvm.ClassFile.FieldType.int)) ∈ TB := tb_of 1423 _ (by decide +kernel) rfl
theorem wd_1424 : (Jvm.Cond.methodLink "RopeSwingLaw" (103 : Nat) ({ cls := "RopeSwingModel", name := "turn", desc := "(II)I" } : Jvm.MethodName)) ∈ TB := tb_of 1424 _ (by decide +kernel) rfl
theorem wd_1425 : (Jvm.Cond.instanceMethod ({ cls := "RopeSwingModel", name := "turn", desc := "(II)I" } : Jvm.MethodName)) ∈ TB := tb_of 1425 _ (by decide +kernel) rfl
theorem wd_1426 : (Jvm.Cond.selects "RopeSwingModel" ({ cls := "RopeSwingModel", name := "turn", desc := "(II)I" } : Jvm.MethodName) ({ cls := "RopeSwingModel", name := "turn", desc := "(II)I" } : Jvm.MethodName)) ∈ TB := tb_of 1426 _ (by decide +kernel) rfl
theorem wd_1427 : (Jvm.Cond.code ({ cls := "RopeSwingModel", name := "turn", desc := "(II)I" } : Jvm.MethodName) prog_12_method_70_code (4 : Nat) (Option.some Jvm.ClassFile.FieldType.int)) ∈ TB := tb_of 1427 _ (by decide +kernel) rfl
theorem wd_1428 : (Jvm.Cond.methodLink "RopeSwingLaw" (107 : Nat) ({ cls := "RopeSwingModel", name := "film", desc := "(II)I" } : Jvm.MethodName)) ∈ TB := tb_of 1428 _ (by decide +kernel) rfl
theorem wd_1429 : (Jvm.Cond.instanceMethod ({ cls := "RopeSwingModel", name := "film", desc := "(II)I" } : Jvm.MethodName)) ∈ TB := tb_of 1429 _ (by decide +kernel) rfl
theorem wd_1430 : (Jvm.Cond.selects "RopeSwingModel" ({ cls := "RopeSwingModel", name := "film", desc := "(II)I" } : Jvm.MethodName) ({ cls := "RopeSwingModel", name := "film", desc := "(II)I" } : Jvm.MethodName)) ∈ TB := tb_of 1430 _ (by decide +kernel) rfl
theorem wd_1431 : (Jvm.Cond.code ({ cls := "RopeSwingModel", name := "film", desc := "(II)I" } : Jvm.MethodName) prog_12_method_71_code (8 : Nat) (Option.some Jvm.ClassFile.FieldType.int)) ∈ TB := tb_of 1431 _ (by decide +kernel) rfl
theorem wd_1432 : (Jvm.Cond.constantLong "RopeSwingModel" (360 : Nat) (-180 : Int64)) ∈ TB := tb_of 1432 _ (by decide +kernel) rfl
theorem wd_1433 : (Jvm.Cond.constantLong "RopeSwingModel" (362 : Nat) (180 : Int64)) ∈ TB := tb_of 1433 _ (by decide +kernel) rfl
theorem wd_1434 : (Jvm.Cond.methodLink "RopeSwingLaw" (111 : Nat) ({ cls := "RopeSwingModel", name := "age", desc := "(I)I" } : Jvm.MethodName)) ∈ TB := tb_of 1434 _ (by decide +kernel) rfl
theorem wd_1435 : (Jvm.Cond.instanceMethod ({ cls := "RopeSwingModel", name := "age", desc := "(I)I" } : Jvm.MethodName)) ∈ TB := tb_of 1435 _ (by decide +kernel) rfl
theorem wd_1436 : (Jvm.Cond.selects "RopeSwingModel" ({ cls := "RopeSwingModel", name := "age", desc := "(I)I" } : Jvm.MethodName) ({ cls := "RopeSwingModel", name := "age", desc := "(I)I" } : Jvm.MethodName)) ∈ TB := tb_of 1436 _ (by decide +kernel) rfl
theorem wd_1437 : (Jvm.Cond.code ({ cls := "RopeSwingModel", name := "age", desc := "(I)I" } : Jvm.MethodName) prog_12_method_72_code (3 : Nat) (Option.some Jvm.ClassFile.FieldType.int)) ∈ TB := tb_of 1437 _ (by decide +kernel) rfl
theorem wd_1438 : (Jvm.Cond.methodLink "RopeSwingLaw" (115 : Nat) ({ cls := "RopeSwingModel", name := "harmed", desc := "(I)I" } : Jvm.MethodName)) ∈ TB := tb_of 1438 _ (by decide +kernel) rfl
theorem wd_1439 : (Jvm.Cond.instanceMethod ({ cls := "RopeSwingModel", name := "harmed", desc := "(I)I" } : Jvm.MethodName)) ∈ TB := tb_of 1439 _ (by decide +kernel) rfl
theorem wd_1440 : (Jvm.Cond.selects "RopeSwingModel" ({ cls := "RopeSwingModel", name := "harmed", desc := "(I)I" } : Jvm.MethodName) ({ cls := "RopeSwingModel", name := "harmed", desc := "(I)I" } : Jvm.MethodName)) ∈ TB := tb_of 1440 _ (by decide +kernel) rfl
theorem wd_1441 : (Jvm.Cond.code ({ cls := "RopeSwingModel", name := "harmed", desc := "(I)I" } : Jvm.MethodName) prog_12_method_76_code (2 : Nat) (Option.some Jvm.ClassFile.FieldType.int)) ∈ TB := tb_of 1441 _ (by decide +kernel) rfl
theorem wd_1442 : (Jvm.Cond.constantLong "RopeSwingModel" (368 : Nat) (63 : Int64)) ∈ TB := tb_of 1442 _ (by decide +kernel) rfl
theorem wd_1443 : (Jvm.Cond.methodLink "RopeSwingModel" (370 : Nat) ({ cls := "RopeSwingModel", name := "findFarthest", desc := "()V" } : Jvm.MethodName)) ∈ TB := tb_of 1443 _ (by decide +kernel) rfl
theorem wd_1445 : (Jvm.Cond.instanceMethod ({ cls := "RopeSwingModel", name := "findFarthest", desc := "()V" } : Jvm.MethodName)) ∈ TB := tb_of 1445 _ (by decide +kernel) rfl
theorem wd_1446 : (Jvm.Cond.code ({ cls := "RopeSwingModel", name := "findFarthest", desc := "()V" } : Jvm.MethodName) prog_12_method_74_code (3 : Nat) (Option.none : Option Jvm.ClassFile.FieldType)) ∈ TB := tb_of 1446 _ (by decide +kernel) rfl
theorem wd_1447 : (Jvm.Cond.methodLink "RopeSwingModel" (373 : Nat) ({ cls := "RopeSwingModel", name := "harmedBy", desc := "(I)I" } : Jvm.MethodName)) ∈ TB := tb_of 1447 _ (by decide +kernel) rfl
theorem wd_1449 : (Jvm.Cond.instanceMethod ({ cls := "RopeSwingModel", name := "harmedBy", desc := "(I)I" } : Jvm.MethodName)) ∈ TB := tb_of 1449 _ (by decide +kernel) rfl
theorem wd_1450 : (Jvm.Cond.code ({ cls := "RopeSwingModel", name := "harmedBy", desc := "(I)I" } : Jvm.MethodName) prog_12_method_75_code (4 : Nat) (Option.some Jvm.ClassFile.FieldType.int)) ∈ TB := tb_of 1450 _ (by decide +kernel) rfl
theorem wd_1451 : (Jvm.Cond.methodLink "RopeSwingModel" (364 : Nat) ({ cls := "RopeSwingModel", name := "isOut", desc := "(II)Z" } : Jvm.MethodName)) ∈ TB := tb_of 1451 _ (by decide +kernel) rfl
theorem wd_1453 : (Jvm.Cond.instanceMethod ({ cls := "RopeSwingModel", name := "isOut", desc := "(II)Z" } : Jvm.MethodName)) ∈ TB := tb_of 1453 _ (by decide +kernel) rfl
theorem wd_1454 : (Jvm.Cond.code ({ cls := "RopeSwingModel", name := "isOut", desc := "(II)Z" } : Jvm.MethodName) prog_12_method_73_code (5 : Nat) (Option.some Jvm.ClassFile.FieldType.boolean)) ∈ TB := tb_of 1454 _ (by decide +kernel) rfl
theorem wd_1455 : (Jvm.Cond.methodLink "RopeSwingLaw" (119 : Nat) ({ cls := "RopeSwingModel", name := "enough", desc := "()I" } : Jvm.MethodName)) ∈ TB := tb_of 1455 _ (by decide +kernel) rfl
theorem wd_1456 : (Jvm.Cond.instanceMethod ({ cls := "RopeSwingModel", name := "enough", desc := "()I" } : Jvm.MethodName)) ∈ TB := tb_of 1456 _ (by decide +kernel) rfl
theorem wd_1457 : (Jvm.Cond.selects "RopeSwingModel" ({ cls := "RopeSwingModel", name := "enough", desc := "()I" } : Jvm.MethodName) ({ cls := "RopeSwingModel", name := "enough", desc := "()I" } : Jvm.MethodName)) ∈ TB := tb_of 1457 _ (by decide +kernel) rfl
theorem wd_1458 : (Jvm.Cond.code ({ cls := "RopeSwingModel", name := "enough", desc := "()I" } : Jvm.MethodName) prog_12_method_78_code (4 : Nat) (Option.some Jvm.ClassFile.FieldType.int)) ∈ TB := tb_of 1458 _ (by decide +kernel) rfl
theorem wd_1459 : (Jvm.Cond.methodLink "RopeSwingModel" (376 : Nat) ({ cls := "RopeSwingModel", name := "bits", desc := "(I)I" } : Jvm.MethodName)) ∈ TB := tb_of 1459 _ (by decide +kernel) rfl
theorem wd_1460 : (Jvm.Cond.static ({ cls := "RopeSwingModel", name := "bits", desc := "(I)I" } : Jvm.MethodName)) ∈ TB := tb_of 1460 _ (by decide +kernel) rfl
theorem wd_1461 : (Jvm.Cond.code ({ cls := "RopeSwingModel", name := "bits", desc := "(I)I" } : Jvm.MethodName) prog_12_method_77_code (3 : Nat) (Option.some Jvm.ClassFile.FieldType.int)) ∈ TB := tb_of 1461 _ (by decide +kernel) rfl
theorem wd_1462 : (Jvm.Cond.methodLink "RopeSwingLaw" (123 : Nat) ({ cls := "RopeSwingModel", name := "seed", desc := "(I)I" } : Jvm.MethodName)) ∈ TB := tb_of 1462 _ (by decide +kernel) rfl
theorem wd_1463 : (Jvm.Cond.instanceMethod ({ cls := "RopeSwingModel", name := "seed", desc := "(I)I" } : Jvm.MethodName)) ∈ TB := tb_of 1463 _ (by decide +kernel) rfl
theorem wd_1464 : (Jvm.Cond.selects "RopeSwingModel" ({ cls := "RopeSwingModel", name := "seed", desc := "(I)I" } : Jvm.MethodName) ({ cls := "RopeSwingModel", name := "seed", desc := "(I)I" } : Jvm.MethodName)) ∈ TB := tb_of 1464 _ (by decide +kernel) rfl
theorem wd_1465 : (Jvm.Cond.code ({ cls := "RopeSwingModel", name := "seed", desc := "(I)I" } : Jvm.MethodName) prog_12_method_79_code (3 : Nat) (Option.some Jvm.ClassFile.FieldType.int)) ∈ TB := tb_of 1465 _ (by decide +kernel) rfl
theorem wd_1466 : (Jvm.Cond.methodLink "RopeSwingLaw" (127 : Nat) ({ cls := "RopeSwingModel", name := "afternoon", desc := "(I)I" } : Jvm.MethodName)) ∈ TB := tb_of 1466 _ (by decide +kernel) rfl
theorem wd_1467 : (Jvm.Cond.instanceMethod ({ cls := "RopeSwingModel", name := "afternoon", desc := "(I)I" } : Jvm.MethodName)) ∈ TB := tb_of 1467 _ (by decide +kernel) rfl
theorem wd_1468 : (Jvm.Cond.selects "RopeSwingModel" ({ cls := "RopeSwingModel", name := "afternoon", desc := "(I)I" } : Jvm.MethodName) ({ cls := "RopeSwingModel", name := "afternoon", desc := "(I)I" } : Jvm.MethodName)) ∈ TB := tb_of 1468 _ (by decide +kernel) rfl
theorem wd_1469 : (Jvm.Cond.code ({ cls := "RopeSwingModel", name := "afternoon", desc := "(I)I" } : Jvm.MethodName) prog_12_method_81_code (4 : Nat) (Option.some Jvm.ClassFile.FieldType.int)) ∈ TB := tb_of 1469 _ (by decide +kernel) rfl
theorem wd_1470 : (Jvm.Cond.methodLink "RopeSwingModel" (389 : Nat) ({ cls := "RopeSwingModel", name := "draw", desc := "(I)I" } : Jvm.MethodName)) ∈ TB := tb_of 1470 _ (by decide +kernel) rfl
theorem wd_1472 : (Jvm.Cond.instanceMethod ({ cls := "RopeSwingModel", name := "draw", desc := "(I)I" } : Jvm.MethodName)) ∈ TB := tb_of 1472 _ (by decide +kernel) rfl
theorem wd_1473 : (Jvm.Cond.code ({ cls := "RopeSwingModel", name := "draw", desc := "(I)I" } : Jvm.MethodName) prog_12_method_80_code (2 : Nat) (Option.some Jvm.ClassFile.FieldType.int)) ∈ TB := tb_of 1473 _ (by decide +kernel) rfl
theorem wd_1474 : (Jvm.Cond.constantLong "RopeSwingModel" (382 : Nat) (1103515245 : Int64)) ∈ TB := tb_of 1474 _ (by decide +kernel) rfl
theorem wd_1475 : (Jvm.Cond.constantLong "RopeSwingModel" (384 : Nat) (12345 : Int64)) ∈ TB := tb_of 1475 _ (by decide +kernel) rfl
theorem wd_1476 : (Jvm.Cond.constantLong "RopeSwingModel" (386 : Nat) (2147483648 : Int64)) ∈ TB := tb_of 1476 _ (by decide +kernel) rfl
theorem wd_1477 : (Jvm.Cond.constant "RopeSwingModel" (388 : Nat) (65536 : Int32)) ∈ TB := tb_of 1477 _ (by decide +kernel) rfl
theorem wd_1478 : (Jvm.Cond.methodLink "RopeSwingLaw" (131 : Nat) ({ cls := "RopeSwingModel", name := "ends", desc := "(I)I" } : Jvm.MethodName)) ∈ TB := tb_of 1478 _ (by decide +kernel) rfl
theorem wd_1479 : (Jvm.Cond.instanceMethod ({ cls := "RopeSwingModel", name := "ends", desc := "(I)I" } : Jvm.MethodName)) ∈ TB := tb_of 1479 _ (by decide +kernel) rfl
theorem wd_1480 : (Jvm.Cond.selects "RopeSwingModel" ({ cls := "RopeSwingModel", name := "ends", desc := "(I)I" } : Jvm.MethodName) ({ cls := "RopeSwingModel", name := "ends", desc := "(I)I" } : Jvm.MethodName)) ∈ TB := tb_of 1480 _ (by decide +kernel) rfl
theorem wd_1481 : (Jvm.Cond.code ({ cls := "RopeSwingModel", name := "ends", desc := "(I)I" } : Jvm.MethodName) prog_12_method_82_code (2 : Nat) (Option.some Jvm.ClassFile.FieldType.int)) ∈ TB := tb_of 1481 _ (by decide +kernel) rfl
theorem wd_1482 : (Jvm.Cond.methodLink "RopeSwingLaw" (135 : Nat) ({ cls := "RopeSwingModel", name := "keep", desc := "(I)I" } : Jvm.MethodName)) ∈ TB := tb_of 1482 _ (by decide +kernel) rfl
theorem wd_1483 : (Jvm.Cond.instanceMethod ({ cls := "RopeSwingModel", name := "keep", desc := "(I)I" } : Jvm.MethodName)) ∈ TB := tb_of 1483 _ (by decide +kernel) rfl
theorem wd_1484 : (Jvm.Cond.selects "RopeSwingModel" ({ cls := "RopeSwingModel", name := "keep", desc := "(I)I" } : Jvm.MethodName) ({ cls := "RopeSwingModel", name := "keep", desc := "(I)I" } : Jvm.MethodName)) ∈ TB := tb_of 1484 _ (by decide +kernel) rfl
theorem wd_1485 : (Jvm.Cond.code ({ cls := "RopeSwingModel", name := "keep", desc := "(I)I" } : Jvm.MethodName) prog_12_method_83_code (4 : Nat) (Option.some Jvm.ClassFile.FieldType.int)) ∈ TB := tb_of 1485 _ (by decide +kernel) rfl
theorem wd_1486 : (Jvm.Cond.methodLink "RopeSwingLaw" (139 : Nat) ({ cls := "RopeSwingModel", name := "goBack", desc := "(I)I" } : Jvm.MethodName)) ∈ TB := tb_of 1486 _ (by decide +kernel) rfl
theorem wd_1487 : (Jvm.Cond.instanceMethod ({ cls := "RopeSwingModel", name := "goBack", desc := "(I)I" } : Jvm.MethodName)) ∈ TB := tb_of 1487 _ (by decide +kernel) rfl
theorem wd_1488 : (Jvm.Cond.selects "RopeSwingModel" ({ cls := "RopeSwingModel", name := "goBack", desc := "(I)I" } : Jvm.MethodName) ({ cls := "RopeSwingModel", name := "goBack", desc := "(I)I" } : Jvm.MethodName)) ∈ TB := tb_of 1488 _ (by decide +kernel) rfl
theorem wd_1489 : (Jvm.Cond.code ({ cls := "RopeSwingModel", name := "goBack", desc := "(I)I" } : Jvm.MethodName) prog_12_method_84_code (4 : Nat) (Option.some Jvm.ClassFile.FieldType.int)) ∈ TB := tb_of 1489 _ (by decide +kernel) rfl
theorem wd_1490 : (Jvm.Cond.constantLong "RopeSwingLaw" (13 : Nat) (4294967295 : Int64)) ∈ TB := tb_of 1490 _ (by decide +kernel) rfl
theorem wd_1491 : (Jvm.Cond.fieldLink "java/lang/String" (9 : Nat) "java/lang/String" "value" "[B") ∈ TB := tb_of 1491 _ (by decide +kernel) rfl
theorem wd_1492 : (Jvm.Cond.fieldLink "java/lang/String" (15 : Nat) "java/lang/String" "coder" "B") ∈ TB := tb_of 1492 _ (by decide +kernel) rfl
theorem inT0 : ∀ w ∈ u_ws RX0 TX0 17, w ∈ TB := tb_at [316, 318, 320, 322, 324, 326, 328, 330, 332, 334, 336, 338, 340, 342, 344, 346, 348] (by decide +kernel) (by decide +kernel)
theorem inT1 : ∀ w ∈ u_ws RX1 TX1 13, w ∈ TB := tb_at [253, 255, 257, 259, 261, 263, 265, 267, 269, 271, 273, 275, 277] (by decide +kernel) (by decide +kernel)
theorem inT2 : ∀ w ∈ u_ws RX2 TX2 3, w ∈ TB := tb_at [225, 227, 229] (by decide +kernel) (by decide +kernel)
theorem inT3 : ∀ w ∈ u_ws RX3 TX3 4, w ∈ TB := tb_at [171, 173, 175, 177] (by decide +kernel) (by decide +kernel)
theorem inT4 : ∀ w ∈ u_ws RX4 TX4 8, w ∈ TB := tb_at [125, 127, 129, 131, 133, 135, 137, 139] (by decide +kernel) (by decide +kernel)
theorem inT5 : ∀ w ∈ u_ws RX5 TX5 4, w ∈ TB := tb_at [203, 205, 207, 209] (by decide +kernel) (by decide +kernel)
theorem inT6 : ∀ w ∈ u_ws RX6 TX6 1, w ∈ TB := tb_at [189] (by decide +kernel) (by decide +kernel)
theorem inT7 : ∀ w ∈ u_ws RX7 TX7 2, w ∈ TB := tb_at [105, 107] (by decide +kernel) (by decide +kernel)
theorem inT8 : ∀ w ∈ u_ws RX8 TX8 5, w ∈ TB := tb_at [367, 369, 371, 373, 375] (by decide +kernel) (by decide +kernel)
theorem inT9 : ∀ w ∈ u_ws RX9 TX9 14, w ∈ TB := tb_at [407, 409, 411, 413, 415, 417, 419, 421, 423, 425, 427, 429, 431, 433] (by decide +kernel) (by decide +kernel)
theorem inT10 : ∀ w ∈ u_ws RX10 TX10 46, w ∈ TB := tb_at [1052, 1054, 1056, 1058, 1060, 1062, 1064, 1066, 1068, 1070, 1072, 1074, 1076, 1078, 1080, 1082, 1084, 1086, 1088, 1090, 1092, 1094, 1096, 1098, 1100, 1102, 1104, 1106, 1108, 1110, 1112, 1114, 1116, 1118, 1120, 1122, 1124, 1126, 1128, 1130, 1132, 1134, 1136, 1138, 1140, 1142] (by decide +kernel) (by decide +kernel)
