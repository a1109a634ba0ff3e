def RX0 : String := "RootIsolator$Chain"
def TX0 : u_T := fun k => match k with
  | 0 => ("RootIsolator$Chain", "rows", "[LRootIsolator$Poly;", true)
  | 1 => ("RootIsolator$Chain", "used", "I", false)
  | 2 => ("RootIsolator$Chain", "rest", "LRootIsolator$Poly;", true)
  | 3 => ("RootIsolator$Chain", "gauge", "LRootIsolator$Whole;", true)
  | 4 => ("RootIsolator$Chain", "height", "LRootIsolator$Whole;", true)
  | 5 => ("RootIsolator$Chain", "divider", "LRootIsolator$Whole;", true)
  | 6 => ("RootIsolator$Chain", "under", "LRootIsolator$Whole;", true)
  | 7 => ("RootIsolator$Chain", "scale", "LRootIsolator$Whole;", true)
  | 8 => ("RootIsolator$Chain", "upper", "LRootIsolator$Whole;", true)
  | _ => ("RootIsolator$Chain", "term", "LRootIsolator$Whole;", true)
def tyX0 : Nat → FieldType := fun k => match k with
  | 0 => .array (.object "RootIsolator$Poly")
  | 1 => .int
  | 2 => .object "RootIsolator$Poly"
  | 3 => .object "RootIsolator$Whole"
  | 4 => .object "RootIsolator$Whole"
  | 5 => .object "RootIsolator$Whole"
  | 6 => .object "RootIsolator$Whole"
  | 7 => .object "RootIsolator$Whole"
  | 8 => .object "RootIsolator$Whole"
  | _ => .object "RootIsolator$Whole"
abbrev wsX00 : List Cond := u_ws RX0 TX0 10
theorem nmX0 : ∀ a, a < 10 → ∀ b, b < 10 → a ≠ b → (TX0 a).2.1 ≠ (TX0 b).2.1 := by decide +kernel
theorem tyX0_ok : ∀ k, k < 10 → parseFieldDescriptor (TX0 k).2.2.1 = some (tyX0 k) := by decide +kernel
abbrev cX0_init : ByteArray := prog_2_method_1_code
def yX0_init : MethodName := ⟨RX0, "<init>", "()V"⟩
abbrev cX0_first : ByteArray := prog_2_method_2_code
def yX0_first : MethodName := ⟨RX0, "first", "()LRootIsolator$Poly;"⟩
abbrev cX0_last : ByteArray := prog_2_method_3_code
def yX0_last : MethodName := ⟨RX0, "last", "()LRootIsolator$Poly;"⟩
abbrev cX0_lastTop : ByteArray := prog_2_method_4_code
def yX0_lastTop : MethodName := ⟨RX0, "lastTop", "()I"⟩
abbrev cX0_startRoots : ByteArray := prog_2_method_5_code
def yX0_startRoots : MethodName := ⟨RX0, "startRoots", "([I)V"⟩
abbrev cX0_startPair : ByteArray := prog_2_method_6_code
def yX0_startPair : MethodName := ⟨RX0, "startPair", "([I[I)V"⟩
abbrev cX0_startSigns : ByteArray := prog_2_method_7_code
def yX0_startSigns : MethodName := ⟨RX0, "startSigns", "([I[I)V"⟩
abbrev cX0_startLast : ByteArray := prog_2_method_8_code
def yX0_startLast : MethodName := ⟨RX0, "startLast", "()V"⟩
abbrev cX0_extend : ByteArray := prog_2_method_9_code
def yX0_extend : MethodName := ⟨RX0, "extend", "()V"⟩
abbrev cX0_reduceBy : ByteArray := prog_2_method_10_code
def yX0_reduceBy : MethodName := ⟨RX0, "reduceBy", "(LRootIsolator$Poly;)V"⟩
abbrev cX0_divideRest : ByteArray := prog_2_method_11_code
def yX0_divideRest : MethodName := ⟨RX0, "divideRest", "(I)V"⟩
abbrev cX0_nextGauge : ByteArray := prog_2_method_12_code
def yX0_nextGauge : MethodName := ⟨RX0, "nextGauge", "(LRootIsolator$Poly;I)V"⟩
abbrev cX0_changesAt : ByteArray := prog_2_method_13_code
def yX0_changesAt : MethodName := ⟨RX0, "changesAt", "(LRootIsolator$Point;I)I"⟩
abbrev cX0_changesBelowAll : ByteArray := prog_2_method_14_code
def yX0_changesBelowAll : MethodName := ⟨RX0, "changesBelowAll", "()I"⟩
abbrev cX0_allRoots : ByteArray := prog_2_method_15_code
def yX0_allRoots : MethodName := ⟨RX0, "allRoots", "()I"⟩
abbrev cX0_changesBeyond : ByteArray := prog_2_method_16_code
def yX0_changesBeyond : MethodName := ⟨RX0, "changesBeyond", "(Z)I"⟩
def RX1 : String := "RootIsolator$Point"
def TX1 : u_T := fun k => match k with
  | 0 => ("RootIsolator$Point", "numerator", "LRootIsolator$Whole;", true)
  | 1 => ("RootIsolator$Point", "exponent", "I", false)
  | 2 => ("RootIsolator$Point", "sum", "LRootIsolator$Whole;", true)
  | 3 => ("RootIsolator$Point", "term", "LRootIsolator$Whole;", true)
  | _ => ("RootIsolator$Point", "factor", "LRootIsolator$Whole;", true)
def tyX1 : Nat → FieldType := fun k => match k with
  | 0 => .object "RootIsolator$Whole"
  | 1 => .int
  | 2 => .object "RootIsolator$Whole"
  | 3 => .object "RootIsolator$Whole"
  | _ => .object "RootIsolator$Whole"
abbrev wsX10 : List Cond := u_ws RX1 TX1 5
theorem nmX1 : ∀ a, a < 5 → ∀ b, b < 5 → a ≠ b → (TX1 a).2.1 ≠ (TX1 b).2.1 := by decide +kernel
theorem tyX1_ok : ∀ k, k < 5 → parseFieldDescriptor (TX1 k).2.2.1 = some (tyX1 k) := by decide +kernel
abbrev cX1_init : ByteArray := prog_3_method_1_code
def yX1_init : MethodName := ⟨RX1, "<init>", "()V"⟩
abbrev cX1_moveTo : ByteArray := prog_3_method_2_code
def yX1_moveTo : MethodName := ⟨RX1, "moveTo", "(JI)V"⟩
abbrev cX1_taylor : ByteArray := prog_3_method_3_code
def yX1_taylor : MethodName := ⟨RX1, "taylor", "(LRootIsolator$Poly;I)LRootIsolator$Whole;"⟩
abbrev cX1_choose : ByteArray := prog_3_method_4_code
def yX1_choose : MethodName := ⟨RX1, "choose", "(II)J"⟩
def RX2 : String := "RootIsolator$Poly"
def TX2 : u_T := fun k => match k with
  | 0 => ("RootIsolator$Poly", "parts", "[LRootIsolator$Whole;", true)
  | _ => ("RootIsolator$Poly", "top", "I", false)
def tyX2 : Nat → FieldType := fun k => match k with
  | 0 => .array (.object "RootIsolator$Whole")
  | _ => .int
abbrev wsX20 : List Cond := u_ws RX2 TX2 2
theorem nmX2 : ∀ a, a < 2 → ∀ b, b < 2 → a ≠ b → (TX2 a).2.1 ≠ (TX2 b).2.1 := by decide +kernel
theorem tyX2_ok : ∀ k, k < 2 → parseFieldDescriptor (TX2 k).2.2.1 = some (tyX2 k) := by decide +kernel
abbrev cX2_init : ByteArray := prog_4_method_1_code
def yX2_init : MethodName := ⟨RX2, "<init>", "(I)V"⟩
abbrev cX2_load : ByteArray := prog_4_method_2_code
def yX2_load : MethodName := ⟨RX2, "load", "([I)V"⟩
abbrev cX2_clear : ByteArray := prog_4_method_3_code
def yX2_clear : MethodName := ⟨RX2, "clear", "()V"⟩
abbrev cX2_copy : ByteArray := prog_4_method_4_code
def yX2_copy : MethodName := ⟨RX2, "copy", "(LRootIsolator$Poly;)V"⟩
abbrev cX2_loadDerivative : ByteArray := prog_4_method_5_code
def yX2_loadDerivative : MethodName := ⟨RX2, "loadDerivative", "(LRootIsolator$Poly;LRootIsolator$Whole;)V"⟩
abbrev cX2_findTop : ByteArray := prog_4_method_6_code
def yX2_findTop : MethodName := ⟨RX2, "findTop", "()V"⟩
def RX3 : String := "RootIsolator$Whole"
def TX3 : u_T := fun k => match k with
  | 0 => ("RootIsolator$Whole", "limbs", "[I", false)
  | 1 => ("RootIsolator$Whole", "size", "I", false)
  | _ => ("RootIsolator$Whole", "side", "I", false)
def tyX3 : Nat → FieldType := fun k => match k with
  | 0 => .array .int
  | 1 => .int
  | _ => .int
abbrev wsX30 : List Cond := u_ws RX3 TX3 3
theorem nmX3 : ∀ a, a < 3 → ∀ b, b < 3 → a ≠ b → (TX3 a).2.1 ≠ (TX3 b).2.1 := by decide +kernel
theorem tyX3_ok : ∀ k, k < 3 → parseFieldDescriptor (TX3 k).2.2.1 = some (tyX3 k) := by decide +kernel
abbrev cX3_init : ByteArray := prog_5_method_1_code
def yX3_init : MethodName := ⟨RX3, "<init>", "()V"⟩
abbrev cX3_put : ByteArray := prog_5_method_2_code
def yX3_put : MethodName := ⟨RX3, "put", "(J)V"⟩
abbrev cX3_copy : ByteArray := prog_5_method_3_code
def yX3_copy : MethodName := ⟨RX3, "copy", "(LRootIsolator$Whole;)V"⟩
abbrev cX3_negate : ByteArray := prog_5_method_4_code
def yX3_negate : MethodName := ⟨RX3, "negate", "()V"⟩
abbrev cX3_dropSign : ByteArray := prog_5_method_5_code
def yX3_dropSign : MethodName := ⟨RX3, "dropSign", "()V"⟩
abbrev cX3_isShort : ByteArray := prog_5_method_6_code
def yX3_isShort : MethodName := ⟨RX3, "isShort", "()Z"⟩
abbrev cX3_lowPart : ByteArray := prog_5_method_7_code
def yX3_lowPart : MethodName := ⟨RX3, "lowPart", "()I"⟩
abbrev cX3_makeRoom : ByteArray := prog_5_method_8_code
def yX3_makeRoom : MethodName := ⟨RX3, "makeRoom", "(I)V"⟩
abbrev cX3_trim : ByteArray := prog_5_method_9_code
def yX3_trim : MethodName := ⟨RX3, "trim", "(I)V"⟩
abbrev cX3_add : ByteArray := prog_5_method_10_code
def yX3_add : MethodName := ⟨RX3, "add", "(LRootIsolator$Whole;I)V"⟩
abbrev cX3_isSmaller : ByteArray := prog_5_method_11_code
def yX3_isSmaller : MethodName := ⟨RX3, "isSmaller", "(LRootIsolator$Whole;)Z"⟩
abbrev cX3_addMagnitude : ByteArray := prog_5_method_12_code
def yX3_addMagnitude : MethodName := ⟨RX3, "addMagnitude", "(LRootIsolator$Whole;)V"⟩
abbrev cX3_takeFrom : ByteArray := prog_5_method_13_code
def yX3_takeFrom : MethodName := ⟨RX3, "takeFrom", "([II[II)V"⟩
abbrev cX3_multiply : ByteArray := prog_5_method_14_code
def yX3_multiply : MethodName := ⟨RX3, "multiply", "(LRootIsolator$Whole;)V"⟩
abbrev cX3_shiftUp : ByteArray := prog_5_method_15_code
def yX3_shiftUp : MethodName := ⟨RX3, "shiftUp", "(I)V"⟩
abbrev cX3_shiftDown : ByteArray := prog_5_method_16_code
def yX3_shiftDown : MethodName := ⟨RX3, "shiftDown", "(I)V"⟩
abbrev cX3_makeOdd : ByteArray := prog_5_method_17_code
def yX3_makeOdd : MethodName := ⟨RX3, "makeOdd", "()I"⟩
abbrev cX3_divideByOdd : ByteArray := prog_5_method_18_code
def yX3_divideByOdd : MethodName := ⟨RX3, "divideByOdd", "(LRootIsolator$Whole;)V"⟩
abbrev cX3_inverseOf : ByteArray := prog_5_method_19_code
def yX3_inverseOf : MethodName := ⟨RX3, "inverseOf", "(I)I"⟩
def RX4 : String := "RootIsolator"
def TX4 : u_T := fun k => match k with
  | 0 => ("RootIsolator", "a", "[I", false)
  | 1 => ("RootIsolator", "b", "[I", false)
  | 2 => ("RootIsolator", "found", "I", false)
  | 3 => ("RootIsolator", "levels", "[I", true)
  | 4 => ("RootIsolator", "cells", "[J", true)
  | 5 => ("RootIsolator", "ends", "[I", true)
  | 6 => ("RootIsolator", "repeats", "[I", true)
  | 7 => ("RootIsolator", "chain", "LRootIsolator$Chain;", true)
  | 8 => ("RootIsolator", "held", "I", false)
  | 9 => ("RootIsolator", "point", "LRootIsolator$Point;", true)
  | 10 => ("RootIsolator", "plain", "LRootIsolator$Poly;", true)
  | 11 => ("RootIsolator", "fresh", "[J", true)
  | 12 => ("RootIsolator", "lows", "[J", true)
  | _ => ("RootIsolator", "highs", "[J", true)
def tyX4 : Nat → FieldType := fun k => match k with
  | 0 => .array .int
  | 1 => .array .int
  | 2 => .int
  | 3 => .array .int
  | 4 => .array .long
  | 5 => .array .int
  | 6 => .array .int
  | 7 => .object "RootIsolator$Chain"
  | 8 => .int
  | 9 => .object "RootIsolator$Point"
  | 10 => .object "RootIsolator$Poly"
  | 11 => .array .long
  | 12 => .array .long
  | _ => .array .long
abbrev wsX40 : List Cond := u_ws RX4 TX4 14
theorem nmX4 : ∀ a, a < 14 → ∀ b, b < 14 → a ≠ b → (TX4 a).2.1 ≠ (TX4 b).2.1 := by decide +kernel
theorem tyX4_ok : ∀ k, k < 14 → parseFieldDescriptor (TX4 k).2.2.1 = some (tyX4 k) := by decide +kernel
abbrev cX4_init : ByteArray := prog_1_method_1_code
def yX4_init : MethodName := ⟨RX4, "<init>", "()V"⟩
abbrev cX4_set : ByteArray := prog_1_method_2_code
def yX4_set : MethodName := ⟨RX4, "set", "(III)I"⟩
abbrev cX4_get : ByteArray := prog_1_method_3_code
def yX4_get : MethodName := ⟨RX4, "get", "(II)I"⟩
abbrev cX4_degree : ByteArray := prog_1_method_4_code
def yX4_degree : MethodName := ⟨RX4, "degree", "(I)I"⟩
abbrev cX4_sign : ByteArray := prog_1_method_5_code
def yX4_sign : MethodName := ⟨RX4, "sign", "(IJI)I"⟩
abbrev cX4_between : ByteArray := prog_1_method_6_code
def yX4_between : MethodName := ⟨RX4, "between", "(IJIJI)I"⟩
abbrev cX4_roots : ByteArray := prog_1_method_7_code
def yX4_roots : MethodName := ⟨RX4, "roots", "(I)I"⟩
abbrev cX4_isolate : ByteArray := prog_1_method_8_code
def yX4_isolate : MethodName := ⟨RX4, "isolate", "(I)I"⟩
abbrev cX4_level : ByteArray := prog_1_method_9_code
def yX4_level : MethodName := ⟨RX4, "level", "(I)I"⟩
abbrev cX4_cell : ByteArray := prog_1_method_10_code
def yX4_cell : MethodName := ⟨RX4, "cell", "(I)J"⟩
abbrev cX4_exact : ByteArray := prog_1_method_11_code
def yX4_exact : MethodName := ⟨RX4, "exact", "(I)I"⟩
abbrev cX4_multiplicity : ByteArray := prog_1_method_12_code
def yX4_multiplicity : MethodName := ⟨RX4, "multiplicity", "(I)I"⟩
abbrev cX4_signAt : ByteArray := prog_1_method_13_code
def yX4_signAt : MethodName := ⟨RX4, "signAt", "(I)I"⟩
abbrev cX4_common : ByteArray := prog_1_method_14_code
def yX4_common : MethodName := ⟨RX4, "common", "()I"⟩
abbrev cX4_divisor : ByteArray := prog_1_method_15_code
def yX4_divisor : MethodName := ⟨RX4, "divisor", "()I"⟩
abbrev cX4_derive : ByteArray := prog_1_method_16_code
def yX4_derive : MethodName := ⟨RX4, "derive", "()I"⟩
abbrev cX4_times : ByteArray := prog_1_method_17_code
def yX4_times : MethodName := ⟨RX4, "times", "(I)I"⟩
abbrev cX4_shift : ByteArray := prog_1_method_18_code
def yX4_shift : MethodName := ⟨RX4, "shift", "(I)I"⟩
abbrev cX4_swap : ByteArray := prog_1_method_19_code
def yX4_swap : MethodName := ⟨RX4, "swap", "()I"⟩
abbrev cX4_isPolynomial : ByteArray := prog_1_method_20_code
def yX4_isPolynomial : MethodName := ⟨RX4, "isPolynomial", "(I)Z"⟩
abbrev cX4_isPower : ByteArray := prog_1_method_21_code
def yX4_isPower : MethodName := ⟨RX4, "isPower", "(I)Z"⟩
abbrev cX4_isLevel : ByteArray := prog_1_method_22_code
def yX4_isLevel : MethodName := ⟨RX4, "isLevel", "(I)Z"⟩
abbrev cX4_isNumber : ByteArray := prog_1_method_23_code
def yX4_isNumber : MethodName := ⟨RX4, "isNumber", "(J)Z"⟩
abbrev cX4_isFound : ByteArray := prog_1_method_24_code
def yX4_isFound : MethodName := ⟨RX4, "isFound", "(I)Z"⟩
abbrev cX4_chosen : ByteArray := prog_1_method_25_code
def yX4_chosen : MethodName := ⟨RX4, "chosen", "(I)[I"⟩
abbrev cX4_topPower : ByteArray := prog_1_method_26_code
def yX4_topPower : MethodName := ⟨RX4, "topPower", "([I)I"⟩
abbrev cX4_isBelow : ByteArray := prog_1_method_27_code
def yX4_isBelow : MethodName := ⟨RX4, "isBelow", "(JIJI)Z"⟩
abbrev cX4_take : ByteArray := prog_1_method_28_code
def yX4_take : MethodName := ⟨RX4, "take", "([J[I)Z"⟩
abbrev cX4_replaceA : ByteArray := prog_1_method_29_code
def yX4_replaceA : MethodName := ⟨RX4, "replaceA", "()I"⟩
abbrev cX4_sideOf : ByteArray := prog_1_method_30_code
def yX4_sideOf : MethodName := ⟨RX4, "sideOf", "([IJI)I"⟩
abbrev cX4_hold : ByteArray := prog_1_method_31_code
def yX4_hold : MethodName := ⟨RX4, "hold", "(I)V"⟩
abbrev cX4_rootsUpTo : ByteArray := prog_1_method_32_code
def yX4_rootsUpTo : MethodName := ⟨RX4, "rootsUpTo", "(JI)I"⟩
abbrev cX4_bound : ByteArray := prog_1_method_33_code
def yX4_bound : MethodName := ⟨RX4, "bound", "()J"⟩
abbrev cX4_findCells : ByteArray := prog_1_method_34_code
def yX4_findCells : MethodName := ⟨RX4, "findCells", "(II)V"⟩
abbrev cX4_isApart : ByteArray := prog_1_method_35_code
def yX4_isApart : MethodName := ⟨RX4, "isApart", "(II)Z"⟩
abbrev cX4_part : ByteArray := prog_1_method_36_code
def yX4_part : MethodName := ⟨RX4, "part", "(JII)V"⟩
abbrev cX4_narrow : ByteArray := prog_1_method_37_code
def yX4_narrow : MethodName := ⟨RX4, "narrow", "(JJI)J"⟩
abbrev cX4_simpleSide : ByteArray := prog_1_method_38_code
def yX4_simpleSide : MethodName := ⟨RX4, "simpleSide", "(JI)I"⟩
abbrev cX4_separate : ByteArray := prog_1_method_39_code
def yX4_separate : MethodName := ⟨RX4, "separate", "(II)Z"⟩
abbrev cX4_isAlone : ByteArray := prog_1_method_40_code
def yX4_isAlone : MethodName := ⟨RX4, "isAlone", "(II)Z"⟩
abbrev cX4_markEnds : ByteArray := prog_1_method_41_code
def yX4_markEnds : MethodName := ⟨RX4, "markEnds", "(I)V"⟩
abbrev cX4_countRepeats : ByteArray := prog_1_method_42_code
def yX4_countRepeats : MethodName := ⟨RX4, "countRepeats", "(I)V"⟩
def RX5 : String := "RootIsolatorModel"
def TX5 : u_T := fun k => match k with
  | 0 => ("RootIsolatorModel", "given", "[[I", true)
  | 1 => ("RootIsolatorModel", "limbs", "[I", true)
  | 2 => ("RootIsolatorModel", "sizes", "[I", true)
  | 3 => ("RootIsolatorModel", "signs", "[I", true)
  | 4 => ("RootIsolatorModel", "degrees", "[I", true)
  | 5 => ("RootIsolatorModel", "isFound", "Z", false)
  | 6 => ("RootIsolatorModel", "many", "I", false)
  | 7 => ("RootIsolatorModel", "levels", "[I", true)
  | 8 => ("RootIsolatorModel", "cells", "[J", true)
  | _ => ("RootIsolatorModel", "second", "[Z", true)
def tyX5 : Nat → FieldType := fun k => match k with
  | 0 => .array (.array .int)
  | 1 => .array .int
  | 2 => .array .int
  | 3 => .array .int
  | 4 => .array .int
  | 5 => .boolean
  | 6 => .int
  | 7 => .array .int
  | 8 => .array .long
  | _ => .array .boolean
abbrev wsX50 : List Cond := u_ws RX5 TX5 10
theorem nmX5 : ∀ a, a < 10 → ∀ b, b < 10 → a ≠ b → (TX5 a).2.1 ≠ (TX5 b).2.1 := by decide +kernel
theorem tyX5_ok : ∀ k, k < 10 → parseFieldDescriptor (TX5 k).2.2.1 = some (tyX5 k) := by decide +kernel
abbrev cX5_init : ByteArray := prog_7_method_1_code
def yX5_init : MethodName := ⟨RX5, "<init>", "()V"⟩
abbrev cX5_in : ByteArray := prog_7_method_2_code
def yX5_in : MethodName := ⟨RX5, "in", "(JJJ)Z"⟩
abbrev cX5_setLong : ByteArray := prog_7_method_3_code
def yX5_setLong : MethodName := ⟨RX5, "setLong", "(IJ)V"⟩
abbrev cX5_copy : ByteArray := prog_7_method_4_code
def yX5_copy : MethodName := ⟨RX5, "copy", "(II)V"⟩
abbrev cX5_trim : ByteArray := prog_7_method_5_code
def yX5_trim : MethodName := ⟨RX5, "trim", "(III)V"⟩
abbrev cX5_compareSizes : ByteArray := prog_7_method_6_code
def yX5_compareSizes : MethodName := ⟨RX5, "compareSizes", "(II)I"⟩
abbrev cX5_addSizes : ByteArray := prog_7_method_7_code
def yX5_addSizes : MethodName := ⟨RX5, "addSizes", "(IIII)V"⟩
abbrev cX5_lessSizes : ByteArray := prog_7_method_8_code
def yX5_lessSizes : MethodName := ⟨RX5, "lessSizes", "(IIII)V"⟩
abbrev cX5_add : ByteArray := prog_7_method_9_code
def yX5_add : MethodName := ⟨RX5, "add", "(IIII)V"⟩
abbrev cX5_multiply : ByteArray := prog_7_method_10_code
def yX5_multiply : MethodName := ⟨RX5, "multiply", "(III)V"⟩
abbrev cX5_up : ByteArray := prog_7_method_11_code
def yX5_up : MethodName := ⟨RX5, "up", "(II)V"⟩
abbrev cX5_down : ByteArray := prog_7_method_12_code
def yX5_down : MethodName := ⟨RX5, "down", "(II)V"⟩
abbrev cX5_bit : ByteArray := prog_7_method_13_code
def yX5_bit : MethodName := ⟨RX5, "bit", "(II)Z"⟩
abbrev cX5_divide : ByteArray := prog_7_method_14_code
def yX5_divide : MethodName := ⟨RX5, "divide", "(III)V"⟩
abbrev cX5_divisorOf : ByteArray := prog_7_method_15_code
def yX5_divisorOf : MethodName := ⟨RX5, "divisorOf", "(II)V"⟩
abbrev cX5_at : ByteArray := prog_7_method_16_code
def yX5_at : MethodName := ⟨RX5, "at", "(II)I"⟩
abbrev cX5_findDegree : ByteArray := prog_7_method_17_code
def yX5_findDegree : MethodName := ⟨RX5, "findDegree", "(II)V"⟩
abbrev cX5_take : ByteArray := prog_7_method_18_code
def yX5_take : MethodName := ⟨RX5, "take", "(II)V"⟩
abbrev cX5_copyRow : ByteArray := prog_7_method_19_code
def yX5_copyRow : MethodName := ⟨RX5, "copyRow", "(II)V"⟩
abbrev cX5_makePrimitive : ByteArray := prog_7_method_20_code
def yX5_makePrimitive : MethodName := ⟨RX5, "makePrimitive", "(I)V"⟩
abbrev cX5_reduce : ByteArray := prog_7_method_21_code
def yX5_reduce : MethodName := ⟨RX5, "reduce", "()V"⟩
abbrev cX5_findCommon : ByteArray := prog_7_method_22_code
def yX5_findCommon : MethodName := ⟨RX5, "findCommon", "()V"⟩
abbrev cX5_deriveRow : ByteArray := prog_7_method_23_code
def yX5_deriveRow : MethodName := ⟨RX5, "deriveRow", "(II)V"⟩
abbrev cX5_makeFree : ByteArray := prog_7_method_24_code
def yX5_makeFree : MethodName := ⟨RX5, "makeFree", "(II)V"⟩
abbrev cX5_move : ByteArray := prog_7_method_25_code
def yX5_move : MethodName := ⟨RX5, "move", "(IIJJ)V"⟩
abbrev cX5_shiftRow : ByteArray := prog_7_method_26_code
def yX5_shiftRow : MethodName := ⟨RX5, "shiftRow", "(I)V"⟩
abbrev cX5_halve : ByteArray := prog_7_method_27_code
def yX5_halve : MethodName := ⟨RX5, "halve", "(I)V"⟩
abbrev cX5_twice : ByteArray := prog_7_method_28_code
def yX5_twice : MethodName := ⟨RX5, "twice", "(I)V"⟩
abbrev cX5_signAtOne : ByteArray := prog_7_method_29_code
def yX5_signAtOne : MethodName := ⟨RX5, "signAtOne", "(I)I"⟩
abbrev cX5_changes : ByteArray := prog_7_method_30_code
def yX5_changes : MethodName := ⟨RX5, "changes", "(I)I"⟩
abbrev cX5_between : ByteArray := prog_7_method_31_code
def yX5_between : MethodName := ⟨RX5, "between", "(I)I"⟩
abbrev cX5_upTo : ByteArray := prog_7_method_32_code
def yX5_upTo : MethodName := ⟨RX5, "upTo", "(I)I"⟩
abbrev cX5_isWhich : ByteArray := prog_7_method_33_code
def yX5_isWhich : MethodName := ⟨RX5, "isWhich", "(I)Z"⟩
abbrev cX5_forget : ByteArray := prog_7_method_34_code
def yX5_forget : MethodName := ⟨RX5, "forget", "()V"⟩
abbrev cX5_set : ByteArray := prog_7_method_35_code
def yX5_set : MethodName := ⟨RX5, "set", "(III)I"⟩
abbrev cX5_get : ByteArray := prog_7_method_36_code
def yX5_get : MethodName := ⟨RX5, "get", "(II)I"⟩
abbrev cX5_degreeOf : ByteArray := prog_7_method_37_code
def yX5_degreeOf : MethodName := ⟨RX5, "degreeOf", "(I)I"⟩
abbrev cX5_told : ByteArray := prog_7_method_38_code
def yX5_told : MethodName := ⟨RX5, "told", "(I)I"⟩
abbrev cX5_degree : ByteArray := prog_7_method_39_code
def yX5_degree : MethodName := ⟨RX5, "degree", "(I)I"⟩
abbrev cX5_sign : ByteArray := prog_7_method_40_code
def yX5_sign : MethodName := ⟨RX5, "sign", "(IJI)I"⟩
abbrev cX5_fine : ByteArray := prog_7_method_41_code
def yX5_fine : MethodName := ⟨RX5, "fine", "(JI)J"⟩
abbrev cX5_between_ : ByteArray := prog_7_method_42_code
def yX5_between_ : MethodName := ⟨RX5, "between", "(IJIJI)I"⟩
abbrev cX5_roots : ByteArray := prog_7_method_43_code
def yX5_roots : MethodName := ⟨RX5, "roots", "(I)I"⟩
abbrev cX5_isolate : ByteArray := prog_7_method_44_code
def yX5_isolate : MethodName := ⟨RX5, "isolate", "(I)I"⟩
abbrev cX5_isRoot : ByteArray := prog_7_method_45_code
def yX5_isRoot : MethodName := ⟨RX5, "isRoot", "(I)Z"⟩
abbrev cX5_level : ByteArray := prog_7_method_46_code
def yX5_level : MethodName := ⟨RX5, "level", "(I)I"⟩
abbrev cX5_cell : ByteArray := prog_7_method_47_code
def yX5_cell : MethodName := ⟨RX5, "cell", "(I)J"⟩
abbrev cX5_exact : ByteArray := prog_7_method_48_code
def yX5_exact : MethodName := ⟨RX5, "exact", "(I)I"⟩
abbrev cX5_moveTo : ByteArray := prog_7_method_49_code
def yX5_moveTo : MethodName := ⟨RX5, "moveTo", "(III)V"⟩
abbrev cX5_multiplicity : ByteArray := prog_7_method_50_code
def yX5_multiplicity : MethodName := ⟨RX5, "multiplicity", "(I)I"⟩
abbrev cX5_signAt : ByteArray := prog_7_method_51_code
def yX5_signAt : MethodName := ⟨RX5, "signAt", "(I)I"⟩
abbrev cX5_findCommonOfBoth : ByteArray := prog_7_method_52_code
def yX5_findCommonOfBoth : MethodName := ⟨RX5, "findCommonOfBoth", "()V"⟩
abbrev cX5_common : ByteArray := prog_7_method_53_code
def yX5_common : MethodName := ⟨RX5, "common", "()I"⟩
abbrev cX5_divisor : ByteArray := prog_7_method_54_code
def yX5_divisor : MethodName := ⟨RX5, "divisor", "()I"⟩
abbrev cX5_derive : ByteArray := prog_7_method_55_code
def yX5_derive : MethodName := ⟨RX5, "derive", "()I"⟩
abbrev cX5_timesAt : ByteArray := prog_7_method_56_code
def yX5_timesAt : MethodName := ⟨RX5, "timesAt", "(II)J"⟩
abbrev cX5_times : ByteArray := prog_7_method_57_code
def yX5_times : MethodName := ⟨RX5, "times", "(I)I"⟩
abbrev cX5_isSmall : ByteArray := prog_7_method_58_code
def yX5_isSmall : MethodName := ⟨RX5, "isSmall", "(I)Z"⟩
abbrev cX5_shift : ByteArray := prog_7_method_59_code
def yX5_shift : MethodName := ⟨RX5, "shift", "(I)I"⟩
abbrev cX5_swap : ByteArray := prog_7_method_60_code
def yX5_swap : MethodName := ⟨RX5, "swap", "()I"⟩
def RJ9 : String := "java/lang/Math"
def TJ9 : u_T := fun k => match k with
  | _ => ("", "", "", false)
def tyJ9 : Nat → FieldType := fun k => match k with
  | _ => .int
abbrev wsJ90 : List Cond := u_ws RJ9 TJ9 0
theorem nmJ9 : ∀ a, a < 0 → ∀ b, b < 0 → a ≠ b → (TJ9 a).2.1 ≠ (TJ9 b).2.1 := by decide +kernel
theorem tyJ9_ok : ∀ k, k < 0 → parseFieldDescriptor (TJ9 k).2.2.1 = some (tyJ9 k) := by decide +kernel
abbrev cJ9_abs_0f7a4 : ByteArray := prog_8_method_59_code
def yJ9_abs_0f7a4 : MethodName := ⟨RJ9, "abs", "(I)I"⟩
abbrev cJ9_max_f86c9 : ByteArray := prog_8_method_66_code
def yJ9_max_f86c9 : MethodName := ⟨RJ9, "max", "(JJ)J"⟩
abbrev cJ9_min_7cf53 : ByteArray := prog_8_method_69_code
def yJ9_min_7cf53 : MethodName := ⟨RJ9, "min", "(II)I"⟩
abbrev cJ9_min_f86c9 : ByteArray := prog_8_method_70_code
def yJ9_min_f86c9 : MethodName := ⟨RJ9, "min", "(JJ)J"⟩
def RJ10 : String := "java/lang/System"
def TJ10 : u_T := fun k => match k with
  | _ => ("", "", "", false)
def tyJ10 : Nat → FieldType := fun k => match k with
  | _ => .int
abbrev wsJ100 : List Cond := u_ws RJ10 TJ10 0
theorem nmJ10 : ∀ a, a < 0 → ∀ b, b < 0 → a ≠ b → (TJ10 a).2.1 ≠ (TJ10 b).2.1 := by decide +kernel
theorem tyJ10_ok : ∀ k, k < 0 → parseFieldDescriptor (TJ10 k).2.2.1 = some (tyJ10 k) := by decide +kernel
def RL : String := "RootIsolatorLaw"
abbrev cL_law : ByteArray := code
def yL_law : MethodName := ⟨RL, "law", "([I)Z"⟩
abbrev vwCl : List vw_C := [(RX0, TX0, 10), (RX1, TX1, 5), (RX2, TX2, 2), (RX3, TX3, 3), (RX4, TX4, 14), (RX5, TX5, 10)]
/-- the words of the tables that stay true -/
def wG : List Cond := lw_tbl.filter goodWord
theorem wG_hts {args : Array Value} {s : State} (h : ∀ w ∈ lw_tbl, w.before args s = true) : ∀ w ∈ wG, w.before args s = true := fun w hw => h w (List.mem_filter.1 hw).1
theorem wG_in {w : Cond} (h : w ∈ lw_tbl) (g : goodWord w = true) : w ∈ wG := List.mem_filter.2 ⟨h, g⟩
theorem wG_t {w : Cond} (i : Nat) (h : tables_1[i]? = some w) (g : goodWord w = true) : w ∈ wG := wG_in (List.mem_append_right _ (List.mem_of_getElem? h)) g
theorem wG_s {w : Cond} (i : Nat) (h : (k2_sels lw_privs)[i]? = some w) (g : goodWord w = true) : w ∈ wG := wG_in (List.mem_append_left _ (List.mem_of_getElem? h)) g
theorem wG_good {big ws : List Cond} (hm : ∀ w ∈ ws, w ∈ big) (h : ∀ w ∈ ws, w ∈ wG) : GoodIn big ws := fun w hw => ⟨hm w hw, good_of_word (List.mem_filter.1 (h w hw)).2⟩
/-- a method's words: its code, and all that stays true -/
def wC (y : MethodName) (cc : ByteArray) (n : Nat) (r : Option FieldType) : List Cond := .code y cc n r :: wG
theorem wC_in {y : MethodName} {cc : ByteArray} {n : Nat} {r : Option FieldType} {w : Cond} (h : w ∈ wG) : w ∈ wC y cc n r := List.mem_cons_of_mem _ h
/-- a call of an own method by its words -/
theorem wC_V {y0 y : MethodName} {c0 cc : ByteArray} {n0 n idx : Nat} {r0 r : Option FieldType} {own C : String} (h1 : Cond.methodLink own idx y ∈ wG) (h2 : Cond.instanceMethod y ∈ wG) (h3 : Cond.selects C y y ∈ wG) (h4 : Cond.initialized C ∈ wG) (h5 : Cond.code y cc n r ∈ wG) : GoodIn (wC y0 c0 n0 r0) (wsV own idx C y (wC y cc n r)) := by
  have k : ∀ w ∈ wsV own idx C y (wC y cc n r), w ∈ wG := by
    intro w hw
    unfold wsV wC at hw
    simp only [List.mem_append, List.mem_cons, List.not_mem_nil, or_false] at hw
    rcases hw with (rfl | rfl | rfl | rfl) | rfl | hw
    · exact h1
    · exact h2
    · exact h3
    · exact h4
    · exact h5
    · exact hw
  exact wG_good (fun w hw => wC_in (k w hw)) k
theorem wC_S {y0 y : MethodName} {c0 cc : ByteArray} {n0 n idx : Nat} {r0 r : Option FieldType} {own : String} (h1 : Cond.methodLink own idx y ∈ wG) (h2 : Cond.static y ∈ wG) (h4 : Cond.initialized own ∈ wG) (h5 : Cond.code y cc n r ∈ wG) : GoodIn (wC y0 c0 n0 r0) (wsS own idx y (wC y cc n r)) := by
  have k : ∀ w ∈ wsS own idx y (wC y cc n r), w ∈ wG := by
    intro w hw
    unfold wsS wC at hw
    simp only [List.mem_append, List.mem_cons, List.not_mem_nil, or_false] at hw
    rcases hw with (rfl | rfl | rfl) | rfl | hw
    · exact h1
    · exact h2
    · exact h4
    · exact h5
    · exact hw
  exact wG_good (fun w hw => wC_in (k w hw)) k
