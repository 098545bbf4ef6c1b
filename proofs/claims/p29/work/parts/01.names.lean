def RX0 : String := "DimensionLines$Bounds"
def TX0 : u_T := fun k => match k with
  | 0 => ("DimensionLines$Bounds", "greatest", "[[I", true)
  | 1 => ("DimensionLines$Bounds", "group", "[I", true)
  | 2 => ("DimensionLines$Bounds", "superfluous", "[Z", true)
  | 3 => ("DimensionLines$Bounds", "groupCount", "I", false)
  | 4 => ("DimensionLines$Bounds", "superfluousCount", "I", false)
  | 5 => ("DimensionLines$Bounds", "dimensionCount", "I", false)
  | 6 => ("DimensionLines$Bounds", "removed", "[Z", true)
  | 7 => ("DimensionLines$Bounds", "ways", "[I", true)
  | 8 => ("DimensionLines$Bounds", "stepFrom", "[I", true)
  | 9 => ("DimensionLines$Bounds", "stepTo", "[I", true)
  | _ => ("DimensionLines$Bounds", "stepLength", "[I", true)
def tyX0 : Nat → FieldType := fun k => match k with
  | 0 => .array (.array .int)
  | 1 => .array .int
  | 2 => .array .boolean
  | 3 => .int
  | 4 => .int
  | 5 => .int
  | 6 => .array .boolean
  | 7 => .array .int
  | 8 => .array .int
  | 9 => .array .int
  | _ => .array .int
abbrev wsX00 : List Cond := u_ws RX0 TX0 11
theorem nmX0 : ∀ a, a < 11 → ∀ b, b < 11 → a ≠ b → (TX0 a).2.1 ≠ (TX0 b).2.1 := by decide +kernel
theorem tyX0_ok : ∀ k, k < 11 → parseFieldDescriptor (TX0 k).2.2.1 = some (tyX0 k) := by decide +kernel
abbrev cX0_init : ByteArray := prog_2_method_1_code
def yX0_init : MethodName := ⟨RX0, "<init>", "()V"⟩
abbrev cX0_workOut : ByteArray := prog_2_method_2_code
def yX0_workOut : MethodName := ⟨RX0, "workOut", "(LDimensionLines$Drawing;)V"⟩
abbrev cX0_areBound : ByteArray := prog_2_method_3_code
def yX0_areBound : MethodName := ⟨RX0, "areBound", "(II)Z"⟩
abbrev cX0_gain : ByteArray := prog_2_method_4_code
def yX0_gain : MethodName := ⟨RX0, "gain", "(LDimensionLines$Drawing;III)I"⟩
abbrev cX0_bestToMakeExact : ByteArray := prog_2_method_5_code
def yX0_bestToMakeExact : MethodName := ⟨RX0, "bestToMakeExact", "(LDimensionLines$Drawing;II)I"⟩
abbrev cX0_countLeft : ByteArray := prog_2_method_6_code
def yX0_countLeft : MethodName := ⟨RX0, "countLeft", "()I"⟩
abbrev cX0_greatestIfExact : ByteArray := prog_2_method_7_code
def yX0_greatestIfExact : MethodName := ⟨RX0, "greatestIfExact", "(LDimensionLines$Drawing;III)I"⟩
abbrev cX0_listSteps : ByteArray := prog_2_method_8_code
def yX0_listSteps : MethodName := ⟨RX0, "listSteps", "(LDimensionLines$Drawing;)V"⟩
abbrev cX0_removeNone : ByteArray := prog_2_method_9_code
def yX0_removeNone : MethodName := ⟨RX0, "removeNone", "()V"⟩
abbrev cX0_isSuperfluous : ByteArray := prog_2_method_10_code
def yX0_isSuperfluous : MethodName := ⟨RX0, "isSuperfluous", "(I)Z"⟩
abbrev cX0_findWays : ByteArray := prog_2_method_11_code
def yX0_findWays : MethodName := ⟨RX0, "findWays", "(I[I)V"⟩
abbrev cX0_formGroups : ByteArray := prog_2_method_12_code
def yX0_formGroups : MethodName := ⟨RX0, "formGroups", "(I)V"⟩
def RX1 : String := "DimensionLines$Drawing"
def TX1 : u_T := fun k => match k with
  | 0 => ("DimensionLines$Drawing", "positions", "[I", true)
  | 1 => ("DimensionLines$Drawing", "first", "[I", true)
  | 2 => ("DimensionLines$Drawing", "second", "[I", true)
  | 3 => ("DimensionLines$Drawing", "minus", "[I", true)
  | 4 => ("DimensionLines$Drawing", "plus", "[I", true)
  | 5 => ("DimensionLines$Drawing", "chainOf", "[I", true)
  | 6 => ("DimensionLines$Drawing", "least", "[I", true)
  | 7 => ("DimensionLines$Drawing", "pointCount", "I", false)
  | 8 => ("DimensionLines$Drawing", "dimensionCount", "I", false)
  | 9 => ("DimensionLines$Drawing", "letter", "I", false)
  | _ => ("DimensionLines$Drawing", "arrow", "I", false)
def tyX1 : Nat → FieldType := fun k => match k with
  | 0 => .array .int
  | 1 => .array .int
  | 2 => .array .int
  | 3 => .array .int
  | 4 => .array .int
  | 5 => .array .int
  | 6 => .array .int
  | 7 => .int
  | 8 => .int
  | 9 => .int
  | _ => .int
abbrev wsX10 : List Cond := u_ws RX1 TX1 11
theorem nmX1 : ∀ a, a < 11 → ∀ b, b < 11 → a ≠ b → (TX1 a).2.1 ≠ (TX1 b).2.1 := by decide +kernel
theorem tyX1_ok : ∀ k, k < 11 → parseFieldDescriptor (TX1 k).2.2.1 = some (tyX1 k) := by decide +kernel
abbrev cX1_init : ByteArray := prog_3_method_1_code
def yX1_init : MethodName := ⟨RX1, "<init>", "()V"⟩
abbrev cX1_copyFrom : ByteArray := prog_3_method_2_code
def yX1_copyFrom : MethodName := ⟨RX1, "copyFrom", "(LDimensionLines$Drawing;)V"⟩
abbrev cX1_copyContentFrom : ByteArray := prog_3_method_3_code
def yX1_copyContentFrom : MethodName := ⟨RX1, "copyContentFrom", "(LDimensionLines$Drawing;)V"⟩
abbrev cX1_hasPoint : ByteArray := prog_3_method_4_code
def yX1_hasPoint : MethodName := ⟨RX1, "hasPoint", "(I)Z"⟩
abbrev cX1_hasDimension : ByteArray := prog_3_method_5_code
def yX1_hasDimension : MethodName := ⟨RX1, "hasDimension", "(I)Z"⟩
abbrev cX1_hasPointAt : ByteArray := prog_3_method_6_code
def yX1_hasPointAt : MethodName := ⟨RX1, "hasPointAt", "(I)Z"⟩
abbrev cX1_countPointsBefore : ByteArray := prog_3_method_7_code
def yX1_countPointsBefore : MethodName := ⟨RX1, "countPointsBefore", "(I)I"⟩
abbrev cX1_isEnd : ByteArray := prog_3_method_8_code
def yX1_isEnd : MethodName := ⟨RX1, "isEnd", "(II)Z"⟩
abbrev cX1_countDimensionsAt : ByteArray := prog_3_method_9_code
def yX1_countDimensionsAt : MethodName := ⟨RX1, "countDimensionsAt", "(I)I"⟩
abbrev cX1_valueOf : ByteArray := prog_3_method_10_code
def yX1_valueOf : MethodName := ⟨RX1, "valueOf", "(I)I"⟩
abbrev cX1_insertPoint : ByteArray := prog_3_method_11_code
def yX1_insertPoint : MethodName := ⟨RX1, "insertPoint", "(I)I"⟩
abbrev cX1_shiftPoint : ByteArray := prog_3_method_12_code
def yX1_shiftPoint : MethodName := ⟨RX1, "shiftPoint", "(II)I"⟩
abbrev cX1_renumberEnds : ByteArray := prog_3_method_14_code
def yX1_renumberEnds : MethodName := ⟨RX1, "renumberEnds", "(II)V"⟩
abbrev cX1_renumbered : ByteArray := prog_3_method_15_code
def yX1_renumbered : MethodName := ⟨RX1, "renumbered", "(III)I"⟩
abbrev cX1_closeGap : ByteArray := prog_3_method_16_code
def yX1_closeGap : MethodName := ⟨RX1, "closeGap", "([III)V"⟩
abbrev cX1_append : ByteArray := prog_3_method_17_code
def yX1_append : MethodName := ⟨RX1, "append", "(II)I"⟩
abbrev cX1_removeDimension : ByteArray := prog_3_method_18_code
def yX1_removeDimension : MethodName := ⟨RX1, "removeDimension", "(I)V"⟩
def RX2 : String := "DimensionLines$History"
def TX2 : u_T := fun k => match k with
  | 0 => ("DimensionLines$History", "states", "[LDimensionLines$Drawing;", true)
  | 1 => ("DimensionLines$History", "latest", "I", false)
  | _ => ("DimensionLines$History", "kept", "I", false)
def tyX2 : Nat → FieldType := fun k => match k with
  | 0 => .array (.object "DimensionLines$Drawing")
  | 1 => .int
  | _ => .int
abbrev wsX20 : List Cond := u_ws RX2 TX2 3
theorem nmX2 : ∀ a, a < 3 → ∀ b, b < 3 → a ≠ b → (TX2 a).2.1 ≠ (TX2 b).2.1 := by decide +kernel
theorem tyX2_ok : ∀ k, k < 3 → parseFieldDescriptor (TX2 k).2.2.1 = some (tyX2 k) := by decide +kernel
abbrev cX2_init : ByteArray := prog_4_method_1_code
def yX2_init : MethodName := ⟨RX2, "<init>", "()V"⟩
abbrev cX2_record : ByteArray := prog_4_method_2_code
def yX2_record : MethodName := ⟨RX2, "record", "(LDimensionLines$Drawing;)V"⟩
def RX3 : String := "DimensionLines$Lanes"
def TX3 : u_T := fun k => match k with
  | 0 => ("DimensionLines$Lanes", "form", "[I", true)
  | 1 => ("DimensionLines$Lanes", "begin", "[I", true)
  | 2 => ("DimensionLines$Lanes", "end", "[I", true)
  | 3 => ("DimensionLines$Lanes", "lane", "[I", true)
  | 4 => ("DimensionLines$Lanes", "crossed", "[I", true)
  | 5 => ("DimensionLines$Lanes", "crossings", "[I", true)
  | 6 => ("DimensionLines$Lanes", "unitCount", "I", false)
  | 7 => ("DimensionLines$Lanes", "laneCount", "I", false)
  | 8 => ("DimensionLines$Lanes", "crossingCount", "I", false)
  | 9 => ("DimensionLines$Lanes", "top", "[I", true)
  | 10 => ("DimensionLines$Lanes", "leader", "[I", true)
  | 11 => ("DimensionLines$Lanes", "spanBegin", "[I", true)
  | 12 => ("DimensionLines$Lanes", "spanEnd", "[I", true)
  | 13 => ("DimensionLines$Lanes", "leastOfUnit", "[I", true)
  | 14 => ("DimensionLines$Lanes", "order", "[I", true)
  | _ => ("DimensionLines$Lanes", "dimensionCount", "I", false)
def tyX3 : Nat → FieldType := fun k => match k with
  | 0 => .array .int
  | 1 => .array .int
  | 2 => .array .int
  | 3 => .array .int
  | 4 => .array .int
  | 5 => .array .int
  | 6 => .int
  | 7 => .int
  | 8 => .int
  | 9 => .array .int
  | 10 => .array .int
  | 11 => .array .int
  | 12 => .array .int
  | 13 => .array .int
  | 14 => .array .int
  | _ => .int
abbrev wsX30 : List Cond := u_ws RX3 TX3 16
theorem nmX3 : ∀ a, a < 16 → ∀ b, b < 16 → a ≠ b → (TX3 a).2.1 ≠ (TX3 b).2.1 := by decide +kernel
theorem tyX3_ok : ∀ k, k < 16 → parseFieldDescriptor (TX3 k).2.2.1 = some (tyX3 k) := by decide +kernel
abbrev cX3_init : ByteArray := prog_5_method_1_code
def yX3_init : MethodName := ⟨RX3, "<init>", "()V"⟩
abbrev cX3_layOut : ByteArray := prog_5_method_2_code
def yX3_layOut : MethodName := ⟨RX3, "layOut", "(LDimensionLines$Drawing;I)V"⟩
abbrev cX3_topOf : ByteArray := prog_5_method_3_code
def yX3_topOf : MethodName := ⟨RX3, "topOf", "(I)I"⟩
abbrev cX3_measure : ByteArray := prog_5_method_5_code
def yX3_measure : MethodName := ⟨RX3, "measure", "(LDimensionLines$Drawing;II)V"⟩
abbrev cX3_digitsOf : ByteArray := prog_5_method_6_code
def yX3_digitsOf : MethodName := ⟨RX3, "digitsOf", "(I)I"⟩
abbrev cX3_joinUnit : ByteArray := prog_5_method_7_code
def yX3_joinUnit : MethodName := ⟨RX3, "joinUnit", "(LDimensionLines$Drawing;I)V"⟩
abbrev cX3_leaderOf : ByteArray := prog_5_method_8_code
def yX3_leaderOf : MethodName := ⟨RX3, "leaderOf", "(LDimensionLines$Drawing;I)I"⟩
abbrev cX3_place : ByteArray := prog_5_method_9_code
def yX3_place : MethodName := ⟨RX3, "place", "(I)V"⟩
abbrev cX3_comesBefore : ByteArray := prog_5_method_10_code
def yX3_comesBefore : MethodName := ⟨RX3, "comesBefore", "(II)Z"⟩
abbrev cX3_lowestLaneFor : ByteArray := prog_5_method_11_code
def yX3_lowestLaneFor : MethodName := ⟨RX3, "lowestLaneFor", "(II)I"⟩
abbrev cX3_isTaken : ByteArray := prog_5_method_12_code
def yX3_isTaken : MethodName := ⟨RX3, "isTaken", "(II)Z"⟩
abbrev cX3_drawWitnessLines : ByteArray := prog_5_method_13_code
def yX3_drawWitnessLines : MethodName := ⟨RX3, "drawWitnessLines", "(LDimensionLines$Drawing;)V"⟩
abbrev cX3_countCrossings : ByteArray := prog_5_method_14_code
def yX3_countCrossings : MethodName := ⟨RX3, "countCrossings", "(LDimensionLines$Drawing;I)V"⟩
def RX4 : String := "DimensionLines$TextReader"
def TX4 : u_T := fun k => match k with
  | 0 => ("DimensionLines$TextReader", "text", "[I", true)
  | 1 => ("DimensionLines$TextReader", "result", "LDimensionLines$Drawing;", true)
  | 2 => ("DimensionLines$TextReader", "length", "I", false)
  | 3 => ("DimensionLines$TextReader", "fault", "I", false)
  | 4 => ("DimensionLines$TextReader", "faultIndex", "I", false)
  | 5 => ("DimensionLines$TextReader", "cursor", "I", false)
  | _ => ("DimensionLines$TextReader", "numberStart", "I", false)
def tyX4 : Nat → FieldType := fun k => match k with
  | 0 => .array .int
  | 1 => .object "DimensionLines$Drawing"
  | 2 => .int
  | 3 => .int
  | 4 => .int
  | 5 => .int
  | _ => .int
abbrev wsX40 : List Cond := u_ws RX4 TX4 7
theorem nmX4 : ∀ a, a < 7 → ∀ b, b < 7 → a ≠ b → (TX4 a).2.1 ≠ (TX4 b).2.1 := by decide +kernel
theorem tyX4_ok : ∀ k, k < 7 → parseFieldDescriptor (TX4 k).2.2.1 = some (tyX4 k) := by decide +kernel
abbrev cX4_init : ByteArray := prog_6_method_1_code
def yX4_init : MethodName := ⟨RX4, "<init>", "()V"⟩
def RX5 : String := "DimensionLines"
def TX5 : u_T := fun k => match k with
  | 0 => ("DimensionLines", "drawing", "LDimensionLines$Drawing;", true)
  | 1 => ("DimensionLines", "history", "LDimensionLines$History;", true)
  | 2 => ("DimensionLines", "reader", "LDimensionLines$TextReader;", true)
  | 3 => ("DimensionLines", "lanes", "LDimensionLines$Lanes;", true)
  | 4 => ("DimensionLines", "lanesIf", "LDimensionLines$Lanes;", true)
  | 5 => ("DimensionLines", "bounds", "LDimensionLines$Bounds;", true)
  | 6 => ("DimensionLines", "lanesFresh", "Z", false)
  | _ => ("DimensionLines", "boundsFresh", "Z", false)
def tyX5 : Nat → FieldType := fun k => match k with
  | 0 => .object "DimensionLines$Drawing"
  | 1 => .object "DimensionLines$History"
  | 2 => .object "DimensionLines$TextReader"
  | 3 => .object "DimensionLines$Lanes"
  | 4 => .object "DimensionLines$Lanes"
  | 5 => .object "DimensionLines$Bounds"
  | 6 => .boolean
  | _ => .boolean
abbrev wsX50 : List Cond := u_ws RX5 TX5 8
theorem nmX5 : ∀ a, a < 8 → ∀ b, b < 8 → a ≠ b → (TX5 a).2.1 ≠ (TX5 b).2.1 := by decide +kernel
theorem tyX5_ok : ∀ k, k < 8 → parseFieldDescriptor (TX5 k).2.2.1 = some (tyX5 k) := by decide +kernel
abbrev cX5_init : ByteArray := prog_1_method_1_code
def yX5_init : MethodName := ⟨RX5, "<init>", "()V"⟩
abbrev cX5_addPoint : ByteArray := prog_1_method_6_code
def yX5_addPoint : MethodName := ⟨RX5, "addPoint", "(I)I"⟩
abbrev cX5_add : ByteArray := prog_1_method_9_code
def yX5_add : MethodName := ⟨RX5, "add", "(II)I"⟩
abbrev cX5_drop : ByteArray := prog_1_method_10_code
def yX5_drop : MethodName := ⟨RX5, "drop", "(I)I"⟩
abbrev cX5_setTolerance : ByteArray := prog_1_method_11_code
def yX5_setTolerance : MethodName := ⟨RX5, "setTolerance", "(III)I"⟩
abbrev cX5_setChain : ByteArray := prog_1_method_12_code
def yX5_setChain : MethodName := ⟨RX5, "setChain", "(II)I"⟩
abbrev cX5_setLeast : ByteArray := prog_1_method_13_code
def yX5_setLeast : MethodName := ⟨RX5, "setLeast", "(II)I"⟩
abbrev cX5_setLetter : ByteArray := prog_1_method_14_code
def yX5_setLetter : MethodName := ⟨RX5, "setLetter", "(I)I"⟩
abbrev cX5_setArrow : ByteArray := prog_1_method_15_code
def yX5_setArrow : MethodName := ⟨RX5, "setArrow", "(I)I"⟩
abbrev cX5_point : ByteArray := prog_1_method_16_code
def yX5_point : MethodName := ⟨RX5, "point", "(II)I"⟩
abbrev cX5_dimension : ByteArray := prog_1_method_17_code
def yX5_dimension : MethodName := ⟨RX5, "dimension", "(II)I"⟩
abbrev cX5_distance : ByteArray := prog_1_method_19_code
def yX5_distance : MethodName := ⟨RX5, "distance", "(IIZ)I"⟩
abbrev cX5_ifExact : ByteArray := prog_1_method_20_code
def yX5_ifExact : MethodName := ⟨RX5, "ifExact", "(III)I"⟩
abbrev cX5_critical : ByteArray := prog_1_method_21_code
def yX5_critical : MethodName := ⟨RX5, "critical", "(II)I"⟩
abbrev cX5_needed : ByteArray := prog_1_method_22_code
def yX5_needed : MethodName := ⟨RX5, "needed", "()I"⟩
abbrev cX5_count : ByteArray := prog_1_method_26_code
def yX5_count : MethodName := ⟨RX5, "count", "(I)I"⟩
abbrev cX5_isWithin : ByteArray := prog_1_method_29_code
def yX5_isWithin : MethodName := ⟨RX5, "isWithin", "(III)Z"⟩
abbrev cX5_areTwoPoints : ByteArray := prog_1_method_30_code
def yX5_areTwoPoints : MethodName := ⟨RX5, "areTwoPoints", "(II)Z"⟩
abbrev cX5_beginChange : ByteArray := prog_1_method_31_code
def yX5_beginChange : MethodName := ⟨RX5, "beginChange", "()V"⟩
abbrev cX5_forgetWhatWasWorkedOut : ByteArray := prog_1_method_32_code
def yX5_forgetWhatWasWorkedOut : MethodName := ⟨RX5, "forgetWhatWasWorkedOut", "()V"⟩
abbrev cX5_laidLanes : ByteArray := prog_1_method_33_code
def yX5_laidLanes : MethodName := ⟨RX5, "laidLanes", "()LDimensionLines$Lanes;"⟩
abbrev cX5_knownBounds : ByteArray := prog_1_method_34_code
def yX5_knownBounds : MethodName := ⟨RX5, "knownBounds", "()LDimensionLines$Bounds;"⟩
def RX6 : String := "DimensionLinesModel"
def TX6 : u_T := fun k => match k with
  | _ => ("", "", "", false)
def tyX6 : Nat → FieldType := fun k => match k with
  | _ => .int
abbrev wsX60 : List Cond := u_ws RX6 TX6 0
theorem nmX6 : ∀ a, a < 0 → ∀ b, b < 0 → a ≠ b → (TX6 a).2.1 ≠ (TX6 b).2.1 := by decide +kernel
theorem tyX6_ok : ∀ k, k < 0 → parseFieldDescriptor (TX6 k).2.2.1 = some (tyX6 k) := by decide +kernel
def RJ9 : String := "java/lang/Math"
def TJ9 : u_T := fun k => match k with
  | _ => ("", "", "", false)
def tyJ9 : Nat → FieldType := fun k => match k with
  | _ => .int
abbrev cJ9_max_7cf53 : ByteArray := prog_9_method_65_code
def yJ9_max_7cf53 : MethodName := ⟨RJ9, "max", "(II)I"⟩
abbrev cJ9_min_7cf53 : ByteArray := prog_9_method_69_code
def yJ9_min_7cf53 : MethodName := ⟨RJ9, "min", "(II)I"⟩
def RJ10 : String := "java/lang/System"
def TJ10 : u_T := fun k => match k with
  | _ => ("", "", "", false)
def tyJ10 : Nat → FieldType := fun k => match k with
  | _ => .int
def RJ7 : String := "java/util/Arrays"
def TJ7 : u_T := fun k => match k with
  | _ => ("", "", "", false)
def tyJ7 : Nat → FieldType := fun k => match k with
  | _ => .int
abbrev cJ7_fill_53178 : ByteArray := prog_11_method_103_code
def yJ7_fill_53178 : MethodName := ⟨RJ7, "fill", "([II)V"⟩
def RL : String := "DimensionLinesLaw"
abbrev cL_cell : ByteArray := method_2_code
def yL_cell : MethodName := ⟨RL, "cell", "([II)I"⟩
abbrev cL_low : ByteArray := method_3_code
def yL_low : MethodName := ⟨RL, "low", "(II)I"⟩
abbrev cL_drawing : ByteArray := method_4_code
def yL_drawing : MethodName := ⟨RL, "drawing", "(LDimensionLines;[IIII)Z"⟩
abbrev cL_position : ByteArray := method_5_code
def yL_position : MethodName := ⟨RL, "position", "(LDimensionLines;II)I"⟩
abbrev cL_fitted : ByteArray := method_6_code
def yL_fitted : MethodName := ⟨RL, "fitted", "(LDimensionLines;I)Z"⟩
abbrev cL_unit : ByteArray := method_7_code
def yL_unit : MethodName := ⟨RL, "unit", "(LDimensionLines;I)I"⟩
abbrev cL_span : ByteArray := method_8_code
def yL_span : MethodName := ⟨RL, "span", "(LDimensionLines;II)I"⟩
abbrev cL_lanes : ByteArray := method_9_code
def yL_lanes : MethodName := ⟨RL, "lanes", "(LDimensionLines;)Z"⟩
abbrev cL_isTaken : ByteArray := method_10_code
def yL_isTaken : MethodName := ⟨RL, "isTaken", "(LDimensionLines;III[I)Z"⟩
abbrev cL_witnesses : ByteArray := method_11_code
def yL_witnesses : MethodName := ⟨RL, "witnesses", "(LDimensionLines;)Z"⟩
abbrev cL_reach : ByteArray := method_12_code
def yL_reach : MethodName := ⟨RL, "reach", "(LDimensionLines;III[I)V"⟩
abbrev cL_isSuperfluous : ByteArray := method_13_code
def yL_isSuperfluous : MethodName := ⟨RL, "isSuperfluous", "(LDimensionLines;I)Z"⟩
abbrev cL_tolerances : ByteArray := method_14_code
def yL_tolerances : MethodName := ⟨RL, "tolerances", "(LDimensionLines;I)Z"⟩
abbrev cL_law : ByteArray := code
def yL_law : MethodName := ⟨RL, "law", "([I)Z"⟩
abbrev vwCl : List vw_C := [(RX0, TX0, 11), (RX1, TX1, 11), (RX2, TX2, 3), (RX3, TX3, 16), (RX4, TX4, 7), (RX5, TX5, 8)]
def R_law : String := "DimensionLinesLaw"
def lw_P (b : Addr) (xs : List Int32) (args : Array Value) (s : State) : Prop := args = #[.ref b] ∧ s.IntsAt b xs ∧ xs.length ≤ 260 ∧ (Jvm.Cond.and given_1 narrow_1).before args s = true
def lw_Q (_ : Array Value) (s : State) (o : Outcome) (t : State) : Prop := o = .returned (some (.int 1)) ∧ Framed s o t [] 600000 7302250
def lw_Z (below : List Frame) (a : Array Value) (s : State) : State → Prop := fun t => ∃ o, t.status = .running ∧ Ended t below o ∧ lw_Q a s o t
/-- the law's own end, with 1 on the stack, nothing written that was there before, its room as the claim has it -/
theorem lw_ret {p : Program} {l : Launch} {e : Env} {s : State} {m : MethodId} {below : List Frame} {meth : Method} {c : Code} {b : Nat} (hx : p.tables.exec = Jvm.exec) (hb : c.code = code) (hr : meth.sig.returnType = ret) (hlocks : meth.locks = false) {pc : Nat} {H : Heap} {ls : Array Slot} (hdg : decode code pc = .ok (.ireturn, 1)) : W p l e room_1 s m #[Value.ref b] below meth c H [] 600000 7302250 (lw_Z below #[Value.ref b] s) (F0 m pc ls [.int 1]) := by
  intro T hT X
  obtain ⟨fs, hret, hrun, hended, hW, hframe⟩ := X.leave (v := some (.int 1)) (hlocks := hlocks) (fun h => by rw [hr] at h; cases h)
  have hmeth' : T.vm.method? m = some meth := X.method'
  refine ⟨T.setFrames fs, ?_, .returned (some (.int 1)), hrun, hended, rfl, ⟨_, rfl⟩, hW, hframe⟩
  jvm_step X.here [X.here.top, hx, hb, hdg, hmeth', hr, ret, narrow_b1]
  (try refine ⟨rfl, ?_⟩); (try refine ⟨rfl, ?_⟩)
  first | (intro acts; rw [hret _ acts rfl rfl rfl]) | rw [hret _ _ rfl rfl rfl]
  exact Steps.refl _
/-- what holds at the law's entry: the machine, the code, the tables' words (any of lw_tbl by 'hts w (by decide +kernel)'), the script of L ints xs at the cell b, what the Statement gives of the start (any of its parts by flat_of_before) -/
def lw_At (p : Program) (s : State) (m : MethodId) (meth : Method) (c : Code) (b L : Nat) (xs : Nat → Int32) : Prop :=
  p.tables.exec = Jvm.exec ∧ c.code = code ∧ meth.sig.returnType = ret ∧ c.maxLocals = 7 ∧ s.vm.findClass R_law = some m.cls ∧ (∀ w ∈ lw_tbl, w.before #[Value.ref b] s = true) ∧ va_X b L xs s s.heap ∧ b < s.heap.size ∧ meth.locks = false ∧ (Jvm.Cond.and given_1 narrow_1).before #[Value.ref b] s = true

/-! the words that every method is proved under -/
def UW : List Cond := lw_tbl.filter goodWord
theorem uw_t {w : Cond} (i : Nat) (h : tables_1[i]? = some w) (hg : goodWord w = true) : w ∈ UW := List.mem_filter.mpr ⟨List.mem_append_right _ (List.mem_of_getElem? h), hg⟩
theorem uw_s {q : MethodName × Nat} (i : Nat) (h : lw_privs[i]? = some q) : Cond.selects q.1.cls q.1 q.1 ∈ UW := List.mem_filter.mpr ⟨List.mem_append_left _ (List.mem_map.mpr ⟨q, List.mem_of_getElem? h, rfl⟩), rfl⟩
theorem uw_good : GoodIn UW UW := fun w h => ⟨h, good_of_word (List.mem_filter.mp h).2⟩
theorem uw_ps {ws : List Cond} (ps : List Nat) (h : ws = ps.filterMap (fun i => tables_1[i]?)) (hg : ws.all goodWord = true) : ∀ w ∈ ws, w ∈ UW := by
  intro w hw
  have h1 := List.all_eq_true.mp hg w hw
  rw [h] at hw
  obtain ⟨i, -, hi⟩ := List.mem_filterMap.mp hw
  exact uw_t i hi h1
def ZC (t : Nat) (C : String) (T : u_T) (N : Nat) (ty : Nat → FieldType) : Prop := vwCl[t]? = some (C, T, N) ∧ (∀ w ∈ u_ws C T N, w ∈ UW) ∧ (∀ k, k < N → parseFieldDescriptor (T k).2.2.1 = some (ty k)) ∧ (∀ a, a < N → ∀ b, b < N → a ≠ b → (T a).2.1 ≠ (T b).2.1)
theorem zc_0 : ZC 0 RX0 TX0 11 tyX0 := ⟨rfl, uw_ps [223, 225, 227, 229, 231, 233, 235, 237, 239, 241, 243] (by decide +kernel) (by decide +kernel), tyX0_ok, nmX0⟩
theorem zc_1 : ZC 1 RX1 TX1 11 tyX1 := ⟨rfl, uw_ps [60, 62, 64, 66, 68, 70, 72, 74, 76, 78, 80] (by decide +kernel) (by decide +kernel), tyX1_ok, nmX1⟩
theorem zc_2 : ZC 2 RX2 TX2 3 tyX2 := ⟨rfl, uw_ps [97, 99, 101] (by decide +kernel) (by decide +kernel), tyX2_ok, nmX2⟩
theorem zc_3 : ZC 3 RX3 TX3 16 tyX3 := ⟨rfl, uw_ps [166, 168, 170, 172, 174, 176, 178, 180, 182, 184, 186, 188, 190, 192, 194, 196] (by decide +kernel) (by decide +kernel), tyX3_ok, nmX3⟩
theorem zc_4 : ZC 4 RX4 TX4 7 tyX4 := ⟨rfl, uw_ps [120, 122, 124, 126, 128, 130, 132] (by decide +kernel) (by decide +kernel), tyX4_ok, nmX4⟩
theorem zc_5 : ZC 5 RX5 TX5 8 tyX5 := ⟨rfl, uw_ps [255, 257, 259, 261, 263, 265, 267, 269] (by decide +kernel) (by decide +kernel), tyX5_ok, nmX5⟩
