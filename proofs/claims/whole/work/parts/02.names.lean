def RX0 : String := "FilterReader$DocumentReader"
def TX0 : u_T := fun k => match k with
  | 0 => ("FilterReader$DocumentReader", "tape", "LFilterReader$Tape;", true)
  | _ => ("FilterReader$DocumentReader", "at", "I", false)
def tyX0 : Nat → FieldType := fun k => match k with
  | 0 => .object "FilterReader$Tape"
  | _ => .int
theorem nmX0 : ∀ a, a < 2 → ∀ b, b < 2 → a ≠ b → (TX0 a).2.1 ≠ (TX0 b).2.1 := by decide +kernel
theorem tyX0_ok : ∀ k, k < 2 → parseFieldDescriptor (TX0 k).2.2.1 = some (tyX0 k) := by decide +kernel
abbrev cX0_init : ByteArray := prog_2_method_1_code
def yX0_init : MethodName := ⟨RX0, "<init>", "(LFilterReader$Tape;)V"⟩
abbrev cX0_readWhole : ByteArray := prog_2_method_2_code
def yX0_readWhole : MethodName := ⟨RX0, "readWhole", "(I)LFilterReader$Value;"⟩
abbrev cX0_readParts : ByteArray := prog_2_method_3_code
def yX0_readParts : MethodName := ⟨RX0, "readParts", "(LFilterReader$Value;II)Z"⟩
abbrev cX0_readElement : ByteArray := prog_2_method_4_code
def yX0_readElement : MethodName := ⟨RX0, "readElement", "(II)LFilterReader$Value;"⟩
abbrev cX0_readValue : ByteArray := prog_2_method_5_code
def yX0_readValue : MethodName := ⟨RX0, "readValue", "(LFilterReader$Value;II)Z"⟩
abbrev cX0_readTruth : ByteArray := prog_2_method_6_code
def yX0_readTruth : MethodName := ⟨RX0, "readTruth", "(LFilterReader$Value;I)Z"⟩
abbrev cX0_readWholeNumber : ByteArray := prog_2_method_7_code
def yX0_readWholeNumber : MethodName := ⟨RX0, "readWholeNumber", "(LFilterReader$Value;II)Z"⟩
abbrev cX0_readText : ByteArray := prog_2_method_8_code
def yX0_readText : MethodName := ⟨RX0, "readText", "(LFilterReader$Value;I)Z"⟩
abbrev cX0_readNumber : ByteArray := prog_2_method_9_code
def yX0_readNumber : MethodName := ⟨RX0, "readNumber", "(I)J"⟩
abbrev cX0_mayFollow : ByteArray := prog_2_method_10_code
def yX0_mayFollow : MethodName := ⟨RX0, "mayFollow", "(LFilterReader$Value;LFilterReader$Value;)Z"⟩
abbrev cX0_isDecimal : ByteArray := prog_2_method_11_code
def yX0_isDecimal : MethodName := ⟨RX0, "isDecimal", "(Ljava/lang/String;I)Z"⟩
abbrev cX0_zeroFrom : ByteArray := prog_2_method_12_code
def yX0_zeroFrom : MethodName := ⟨RX0, "zeroFrom", "(II)I"⟩
abbrev cX0_textOf : ByteArray := prog_2_method_13_code
def yX0_textOf : MethodName := ⟨RX0, "textOf", "(II)Ljava/lang/String;"⟩
abbrev cX0_isRightUtf8 : ByteArray := prog_2_method_14_code
def yX0_isRightUtf8 : MethodName := ⟨RX0, "isRightUtf8", "(II)Z"⟩
abbrev cX0_followers : ByteArray := prog_2_method_15_code
def yX0_followers : MethodName := ⟨RX0, "followers", "(I)I"⟩
abbrev cX0_leadingBits : ByteArray := prog_2_method_16_code
def yX0_leadingBits : MethodName := ⟨RX0, "leadingBits", "(II)I"⟩
abbrev cX0_leastCode : ByteArray := prog_2_method_17_code
def yX0_leastCode : MethodName := ⟨RX0, "leastCode", "(I)I"⟩
abbrev cX0_isCharacter : ByteArray := prog_2_method_18_code
def yX0_isCharacter : MethodName := ⟨RX0, "isCharacter", "(II)Z"⟩
def RX1 : String := "FilterReader$Filter"
def TX1 : u_T := fun k => match k with
  | 0 => ("FilterReader$Filter", "clauses", "LFilterReader$Rule;", true)
  | _ => ("FilterReader$Filter", "counts", "[I", true)
def tyX1 : Nat → FieldType := fun k => match k with
  | 0 => .object "FilterReader$Rule"
  | _ => .array .int
theorem nmX1 : ∀ a, a < 2 → ∀ b, b < 2 → a ≠ b → (TX1 a).2.1 ≠ (TX1 b).2.1 := by decide +kernel
theorem tyX1_ok : ∀ k, k < 2 → parseFieldDescriptor (TX1 k).2.2.1 = some (tyX1 k) := by decide +kernel
abbrev cX1_init : ByteArray := prog_3_method_1_code
def yX1_init : MethodName := ⟨RX1, "<init>", "(LFilterReader$Value;)V"⟩
def RX2 : String := "FilterReader$FilterMaker"
def TX2 : u_T := fun k => match k with
  | 0 => ("FilterReader$FilterMaker", "made", "LFilterReader$Filter;", true)
  | 1 => ("FilterReader$FilterMaker", "fault", "I", false)
  | _ => ("FilterReader$FilterMaker", "faultPlace", "I", false)
def tyX2 : Nat → FieldType := fun k => match k with
  | 0 => .object "FilterReader$Filter"
  | 1 => .int
  | _ => .int
theorem nmX2 : ∀ a, a < 3 → ∀ b, b < 3 → a ≠ b → (TX2 a).2.1 ≠ (TX2 b).2.1 := by decide +kernel
theorem tyX2_ok : ∀ k, k < 3 → parseFieldDescriptor (TX2 k).2.2.1 = some (tyX2 k) := by decide +kernel
abbrev cX2_init : ByteArray := prog_4_method_1_code
def yX2_init : MethodName := ⟨RX2, "<init>", "(LFilterReader$Value;)V"⟩
abbrev cX2_make : ByteArray := prog_4_method_2_code
def yX2_make : MethodName := ⟨RX2, "make", "()V"⟩
abbrev cX2_addClauses : ByteArray := prog_4_method_3_code
def yX2_addClauses : MethodName := ⟨RX2, "addClauses", "(LFilterReader$Rule;I)V"⟩
abbrev cX2_addJoin : ByteArray := prog_4_method_4_code
def yX2_addJoin : MethodName := ⟨RX2, "addJoin", "(LFilterReader$Rule;LFilterReader$Value;I)V"⟩
abbrev cX2_addJoined : ByteArray := prog_4_method_5_code
def yX2_addJoined : MethodName := ⟨RX2, "addJoined", "(LFilterReader$Rule;I)V"⟩
abbrev cX2_addPath : ByteArray := prog_4_method_6_code
def yX2_addPath : MethodName := ⟨RX2, "addPath", "(LFilterReader$Rule;LFilterReader$Value;I)V"⟩
abbrev cX2_addConditions : ByteArray := prog_4_method_7_code
def yX2_addConditions : MethodName := ⟨RX2, "addConditions", "(LFilterReader$Rule;I)V"⟩
abbrev cX2_addCondition : ByteArray := prog_4_method_8_code
def yX2_addCondition : MethodName := ⟨RX2, "addCondition", "(LFilterReader$Rule;LFilterReader$Value;I)V"⟩
abbrev cX2_mayCount : ByteArray := prog_4_method_9_code
def yX2_mayCount : MethodName := ⟨RX2, "mayCount", "(ILFilterReader$Value;)Z"⟩
abbrev cX2_refuse : ByteArray := prog_4_method_10_code
def yX2_refuse : MethodName := ⟨RX2, "refuse", "(ILFilterReader$Value;)V"⟩
abbrev cX2_joinSign : ByteArray := prog_4_method_11_code
def yX2_joinSign : MethodName := ⟨RX2, "joinSign", "(Ljava/lang/String;)I"⟩
abbrev cX2_conditionSign : ByteArray := prog_4_method_12_code
def yX2_conditionSign : MethodName := ⟨RX2, "conditionSign", "(LFilterReader$Value;)I"⟩
abbrev cX2_orderSign : ByteArray := prog_4_method_13_code
def yX2_orderSign : MethodName := ⟨RX2, "orderSign", "(LFilterReader$Value;)I"⟩
abbrev cX2_elemSign : ByteArray := prog_4_method_14_code
def yX2_elemSign : MethodName := ⟨RX2, "elemSign", "(LFilterReader$Value;)I"⟩
abbrev cX2_isNegated : ByteArray := prog_4_method_15_code
def yX2_isNegated : MethodName := ⟨RX2, "isNegated", "(LFilterReader$Value;)Z"⟩
abbrev cX2_isValueFor : ByteArray := prog_4_method_16_code
def yX2_isValueFor : MethodName := ⟨RX2, "isValueFor", "(ILFilterReader$Value;)Z"⟩
def RX3 : String := "FilterReader$Kind"
def TX3 : u_T := fun k => match k with
  | _ => ("", "", "", false)
def tyX3 : Nat → FieldType := fun k => match k with
  | _ => .int
theorem nmX3 : ∀ a, a < 0 → ∀ b, b < 0 → a ≠ b → (TX3 a).2.1 ≠ (TX3 b).2.1 := by decide +kernel
theorem tyX3_ok : ∀ k, k < 0 → parseFieldDescriptor (TX3 k).2.2.1 = some (tyX3 k) := by decide +kernel
abbrev cX3_classOf : ByteArray := prog_5_method_2_code
def yX3_classOf : MethodName := ⟨RX3, "classOf", "(I)I"⟩
def RX4 : String := "FilterReader$Matcher"
def TX4 : u_T := fun k => match k with
  | _ => ("FilterReader$Matcher", "missing", "LFilterReader$Value;", true)
def tyX4 : Nat → FieldType := fun k => match k with
  | _ => .object "FilterReader$Value"
theorem nmX4 : ∀ a, a < 1 → ∀ b, b < 1 → a ≠ b → (TX4 a).2.1 ≠ (TX4 b).2.1 := by decide +kernel
theorem tyX4_ok : ∀ k, k < 1 → parseFieldDescriptor (TX4 k).2.2.1 = some (tyX4 k) := by decide +kernel
abbrev cX4_init : ByteArray := prog_6_method_1_code
def yX4_init : MethodName := ⟨RX4, "<init>", "()V"⟩
abbrev cX4_firstFailing : ByteArray := prog_6_method_2_code
def yX4_firstFailing : MethodName := ⟨RX4, "firstFailing", "(LFilterReader$Rule;LFilterReader$Value;I)I"⟩
abbrev cX4_clauseHolds : ByteArray := prog_6_method_3_code
def yX4_clauseHolds : MethodName := ⟨RX4, "clauseHolds", "(LFilterReader$Rule;LFilterReader$Value;I)Z"⟩
abbrev cX4_somePartIs : ByteArray := prog_6_method_4_code
def yX4_somePartIs : MethodName := ⟨RX4, "somePartIs", "(ZLFilterReader$Rule;LFilterReader$Value;I)Z"⟩
abbrev cX4_conditionsHold : ByteArray := prog_6_method_5_code
def yX4_conditionsHold : MethodName := ⟨RX4, "conditionsHold", "(LFilterReader$Rule;LFilterReader$Step;LFilterReader$Value;I)Z"⟩
abbrev cX4_conditionHolds : ByteArray := prog_6_method_6_code
def yX4_conditionHolds : MethodName := ⟨RX4, "conditionHolds", "(LFilterReader$Rule;LFilterReader$Step;LFilterReader$Value;I)Z"⟩
abbrev cX4_tryLeaves : ByteArray := prog_6_method_7_code
def yX4_tryLeaves : MethodName := ⟨RX4, "tryLeaves", "(LFilterReader$Rule;LFilterReader$Step;LFilterReader$Value;I)I"⟩
abbrev cX4_tryLeavesOfRow : ByteArray := prog_6_method_8_code
def yX4_tryLeavesOfRow : MethodName := ⟨RX4, "tryLeavesOfRow", "(LFilterReader$Rule;LFilterReader$Step;LFilterReader$Value;I)I"⟩
abbrev cX4_tryLeaf : ByteArray := prog_6_method_9_code
def yX4_tryLeaf : MethodName := ⟨RX4, "tryLeaf", "(LFilterReader$Rule;LFilterReader$Value;I)I"⟩
abbrev cX4_passes : ByteArray := prog_6_method_10_code
def yX4_passes : MethodName := ⟨RX4, "passes", "(LFilterReader$Rule;LFilterReader$Value;I)Z"⟩
abbrev cX4_hasItemFor : ByteArray := prog_6_method_11_code
def yX4_hasItemFor : MethodName := ⟨RX4, "hasItemFor", "(LFilterReader$Rule;LFilterReader$Value;I)Z"⟩
abbrev cX4_passesSome : ByteArray := prog_6_method_12_code
def yX4_passesSome : MethodName := ⟨RX4, "passesSome", "(LFilterReader$Value;LFilterReader$Value;)Z"⟩
abbrev cX4_passesWithItems : ByteArray := prog_6_method_13_code
def yX4_passesWithItems : MethodName := ⟨RX4, "passesWithItems", "(ILFilterReader$Value;LFilterReader$Value;)Z"⟩
abbrev cX4_compares : ByteArray := prog_6_method_14_code
def yX4_compares : MethodName := ⟨RX4, "compares", "(ILFilterReader$Value;LFilterReader$Value;)Z"⟩
def RX5 : String := "FilterReader$Order"
def TX5 : u_T := fun k => match k with
  | _ => ("", "", "", false)
def tyX5 : Nat → FieldType := fun k => match k with
  | _ => .int
theorem nmX5 : ∀ a, a < 0 → ∀ b, b < 0 → a ≠ b → (TX5 a).2.1 ≠ (TX5 b).2.1 := by decide +kernel
theorem tyX5_ok : ∀ k, k < 0 → parseFieldDescriptor (TX5 k).2.2.1 = some (tyX5 k) := by decide +kernel
abbrev cX5_compare : ByteArray := prog_7_method_2_code
def yX5_compare : MethodName := ⟨RX5, "compare", "(LFilterReader$Value;LFilterReader$Value;I)I"⟩
abbrev cX5_compareParts : ByteArray := prog_7_method_3_code
def yX5_compareParts : MethodName := ⟨RX5, "compareParts", "(LFilterReader$Value;LFilterReader$Value;I)I"⟩
abbrev cX5_compareElements : ByteArray := prog_7_method_4_code
def yX5_compareElements : MethodName := ⟨RX5, "compareElements", "(LFilterReader$Value;LFilterReader$Value;I)I"⟩
abbrev cX5_compareTexts : ByteArray := prog_7_method_5_code
def yX5_compareTexts : MethodName := ⟨RX5, "compareTexts", "(Ljava/lang/String;Ljava/lang/String;)I"⟩
def RX6 : String := "FilterReader$Rule"
def TX6 : u_T := fun k => match k with
  | 0 => ("FilterReader$Rule", "sign", "I", true)
  | 1 => ("FilterReader$Rule", "negated", "Z", true)
  | 2 => ("FilterReader$Rule", "value", "LFilterReader$Value;", true)
  | 3 => ("FilterReader$Rule", "path", "LFilterReader$Step;", true)
  | 4 => ("FilterReader$Rule", "first", "LFilterReader$Rule;", false)
  | 5 => ("FilterReader$Rule", "last", "LFilterReader$Rule;", false)
  | _ => ("FilterReader$Rule", "next", "LFilterReader$Rule;", false)
def tyX6 : Nat → FieldType := fun k => match k with
  | 0 => .int
  | 1 => .boolean
  | 2 => .object "FilterReader$Value"
  | 3 => .object "FilterReader$Step"
  | 4 => .object "FilterReader$Rule"
  | 5 => .object "FilterReader$Rule"
  | _ => .object "FilterReader$Rule"
theorem nmX6 : ∀ a, a < 7 → ∀ b, b < 7 → a ≠ b → (TX6 a).2.1 ≠ (TX6 b).2.1 := by decide +kernel
theorem tyX6_ok : ∀ k, k < 7 → parseFieldDescriptor (TX6 k).2.2.1 = some (tyX6 k) := by decide +kernel
abbrev cX6_init : ByteArray := prog_8_method_1_code
def yX6_init : MethodName := ⟨RX6, "<init>", "(IZLFilterReader$Value;LFilterReader$Step;)V"⟩
abbrev cX6_add : ByteArray := prog_8_method_2_code
def yX6_add : MethodName := ⟨RX6, "add", "(LFilterReader$Rule;)V"⟩
def RX7 : String := "FilterReader$Step"
def TX7 : u_T := fun k => match k with
  | 0 => ("FilterReader$Step", "name", "Ljava/lang/String;", true)
  | 1 => ("FilterReader$Step", "next", "LFilterReader$Step;", true)
  | _ => ("FilterReader$Step", "count", "I", true)
def tyX7 : Nat → FieldType := fun k => match k with
  | 0 => .object "java/lang/String"
  | 1 => .object "FilterReader$Step"
  | _ => .int
theorem nmX7 : ∀ a, a < 3 → ∀ b, b < 3 → a ≠ b → (TX7 a).2.1 ≠ (TX7 b).2.1 := by decide +kernel
theorem tyX7_ok : ∀ k, k < 3 → parseFieldDescriptor (TX7 k).2.2.1 = some (tyX7 k) := by decide +kernel
abbrev cX7_init : ByteArray := prog_9_method_1_code
def yX7_init : MethodName := ⟨RX7, "<init>", "(Ljava/lang/String;LFilterReader$Step;)V"⟩
abbrev cX7_ofPath : ByteArray := prog_9_method_2_code
def yX7_ofPath : MethodName := ⟨RX7, "ofPath", "(Ljava/lang/String;)LFilterReader$Step;"⟩
def RX8 : String := "FilterReader$Tape"
def TX8 : u_T := fun k => match k with
  | 0 => ("FilterReader$Tape", "bytes", "[I", true)
  | _ => ("FilterReader$Tape", "count", "I", false)
def tyX8 : Nat → FieldType := fun k => match k with
  | 0 => .array .int
  | _ => .int
theorem nmX8 : ∀ a, a < 2 → ∀ b, b < 2 → a ≠ b → (TX8 a).2.1 ≠ (TX8 b).2.1 := by decide +kernel
theorem tyX8_ok : ∀ k, k < 2 → parseFieldDescriptor (TX8 k).2.2.1 = some (tyX8 k) := by decide +kernel
abbrev cX8_init : ByteArray := prog_10_method_1_code
def yX8_init : MethodName := ⟨RX8, "<init>", "()V"⟩
abbrev cX8_hasRoom : ByteArray := prog_10_method_2_code
def yX8_hasRoom : MethodName := ⟨RX8, "hasRoom", "()Z"⟩
abbrev cX8_has : ByteArray := prog_10_method_3_code
def yX8_has : MethodName := ⟨RX8, "has", "(I)Z"⟩
abbrev cX8_clear : ByteArray := prog_10_method_4_code
def yX8_clear : MethodName := ⟨RX8, "clear", "()V"⟩
abbrev cX8_put : ByteArray := prog_10_method_5_code
def yX8_put : MethodName := ⟨RX8, "put", "(I)V"⟩
abbrev cX8_byteAt : ByteArray := prog_10_method_6_code
def yX8_byteAt : MethodName := ⟨RX8, "byteAt", "(I)I"⟩
def RX9 : String := "FilterReader$Value"
def TX9 : u_T := fun k => match k with
  | 0 => ("FilterReader$Value", "kind", "I", true)
  | 1 => ("FilterReader$Value", "place", "I", true)
  | 2 => ("FilterReader$Value", "name", "Ljava/lang/String;", true)
  | 3 => ("FilterReader$Value", "text", "Ljava/lang/String;", false)
  | 4 => ("FilterReader$Value", "number", "J", false)
  | 5 => ("FilterReader$Value", "first", "LFilterReader$Value;", false)
  | 6 => ("FilterReader$Value", "last", "LFilterReader$Value;", false)
  | 7 => ("FilterReader$Value", "next", "LFilterReader$Value;", false)
  | _ => ("FilterReader$Value", "count", "I", false)
def tyX9 : Nat → FieldType := fun k => match k with
  | 0 => .int
  | 1 => .int
  | 2 => .object "java/lang/String"
  | 3 => .object "java/lang/String"
  | 4 => .long
  | 5 => .object "FilterReader$Value"
  | 6 => .object "FilterReader$Value"
  | 7 => .object "FilterReader$Value"
  | _ => .int
theorem nmX9 : ∀ a, a < 9 → ∀ b, b < 9 → a ≠ b → (TX9 a).2.1 ≠ (TX9 b).2.1 := by decide +kernel
theorem tyX9_ok : ∀ k, k < 9 → parseFieldDescriptor (TX9 k).2.2.1 = some (tyX9 k) := by decide +kernel
abbrev cX9_init : ByteArray := prog_11_method_1_code
def yX9_init : MethodName := ⟨RX9, "<init>", "(IILjava/lang/String;)V"⟩
abbrev cX9_add : ByteArray := prog_11_method_2_code
def yX9_add : MethodName := ⟨RX9, "add", "(LFilterReader$Value;)V"⟩
abbrev cX9_named : ByteArray := prog_11_method_3_code
def yX9_named : MethodName := ⟨RX9, "named", "(Ljava/lang/String;)LFilterReader$Value;"⟩
abbrev cX9_isConditions : ByteArray := prog_11_method_4_code
def yX9_isConditions : MethodName := ⟨RX9, "isConditions", "()Z"⟩
def RX10 : String := "FilterReader"
def TX10 : u_T := fun k => match k with
  | 0 => ("FilterReader", "tape", "LFilterReader$Tape;", true)
  | 1 => ("FilterReader", "matcher", "LFilterReader$Matcher;", true)
  | 2 => ("FilterReader", "slots", "[LFilterReader$Value;", true)
  | 3 => ("FilterReader", "filters", "[LFilterReader$Filter;", true)
  | _ => ("FilterReader", "faultPlace", "I", false)
def tyX10 : Nat → FieldType := fun k => match k with
  | 0 => .object "FilterReader$Tape"
  | 1 => .object "FilterReader$Matcher"
  | 2 => .array (.object "FilterReader$Value")
  | 3 => .array (.object "FilterReader$Filter")
  | _ => .int
theorem nmX10 : ∀ a, a < 5 → ∀ b, b < 5 → a ≠ b → (TX10 a).2.1 ≠ (TX10 b).2.1 := by decide +kernel
theorem tyX10_ok : ∀ k, k < 5 → parseFieldDescriptor (TX10 k).2.2.1 = some (tyX10 k) := by decide +kernel
abbrev cX10_init : ByteArray := prog_1_method_1_code
def yX10_init : MethodName := ⟨RX10, "<init>", "()V"⟩
abbrev cX10_feed : ByteArray := prog_1_method_2_code
def yX10_feed : MethodName := ⟨RX10, "feed", "(IIIII)I"⟩
abbrev cX10_read : ByteArray := prog_1_method_3_code
def yX10_read : MethodName := ⟨RX10, "read", "(II)I"⟩
abbrev cX10_filter : ByteArray := prog_1_method_4_code
def yX10_filter : MethodName := ⟨RX10, "filter", "(II)I"⟩
abbrev cX10_place : ByteArray := prog_1_method_5_code
def yX10_place : MethodName := ⟨RX10, "place", "()I"⟩
abbrev cX10_many : ByteArray := prog_1_method_6_code
def yX10_many : MethodName := ⟨RX10, "many", "(II)I"⟩
abbrev cX10_holds : ByteArray := prog_1_method_7_code
def yX10_holds : MethodName := ⟨RX10, "holds", "(II)I"⟩
abbrev cX10_fails : ByteArray := prog_1_method_8_code
def yX10_fails : MethodName := ⟨RX10, "fails", "(II)I"⟩
abbrev cX10_which : ByteArray := prog_1_method_9_code
def yX10_which : MethodName := ⟨RX10, "which", "(I)I"⟩
abbrev cX10_takeDocument : ByteArray := prog_1_method_10_code
def yX10_takeDocument : MethodName := ⟨RX10, "takeDocument", "(I)LFilterReader$Value;"⟩
abbrev cX10_slotAt : ByteArray := prog_1_method_11_code
def yX10_slotAt : MethodName := ⟨RX10, "slotAt", "(I)LFilterReader$Value;"⟩
abbrev cX10_filterAt : ByteArray := prog_1_method_12_code
def yX10_filterAt : MethodName := ⟨RX10, "filterAt", "(I)LFilterReader$Filter;"⟩
abbrev cX10_beginsWithDollar : ByteArray := prog_1_method_13_code
def yX10_beginsWithDollar : MethodName := ⟨RX10, "beginsWithDollar", "(Ljava/lang/String;)Z"⟩
def RX11 : String := "FilterReaderModel"
def TX11 : u_T := fun k => match k with
  | 0 => ("FilterReaderModel", "thrown", "I", false)
  | 1 => ("FilterReaderModel", "store", "[I", true)
  | 2 => ("FilterReaderModel", "taped", "I", false)
  | 3 => ("FilterReaderModel", "place", "I", false)
  | 4 => ("FilterReaderModel", "counted", "[I", true)
  | 5 => ("FilterReaderModel", "paths", "[I", true)
  | 6 => ("FilterReaderModel", "steps", "[I", true)
  | 7 => ("FilterReaderModel", "nowCounted", "I", false)
  | 8 => ("FilterReaderModel", "nowPaths", "I", false)
  | 9 => ("FilterReaderModel", "nowSteps", "I", false)
  | 10 => ("FilterReaderModel", "wrong", "I", false)
  | 11 => ("FilterReaderModel", "wrongAt", "I", false)
  | 12 => ("FilterReaderModel", "work", "[I", true)
  | 13 => ("FilterReaderModel", "fault", "I", false)
  | 14 => ("FilterReaderModel", "nodes", "I", false)
  | 15 => ("FilterReaderModel", "parent", "[I", true)
  | 16 => ("FilterReaderModel", "begin", "[I", true)
  | 17 => ("FilterReaderModel", "nameEnd", "[I", true)
  | 18 => ("FilterReaderModel", "ends", "[I", true)
  | 19 => ("FilterReaderModel", "box", "[I", true)
  | 20 => ("FilterReaderModel", "many", "[I", true)
  | 21 => ("FilterReaderModel", "row", "[I", true)
  | _ => ("FilterReaderModel", "met", "Z", false)
def tyX11 : Nat → FieldType := fun k => match k with
  | 0 => .int
  | 1 => .array .int
  | 2 => .int
  | 3 => .int
  | 4 => .array .int
  | 5 => .array .int
  | 6 => .array .int
  | 7 => .int
  | 8 => .int
  | 9 => .int
  | 10 => .int
  | 11 => .int
  | 12 => .array .int
  | 13 => .int
  | 14 => .int
  | 15 => .array .int
  | 16 => .array .int
  | 17 => .array .int
  | 18 => .array .int
  | 19 => .array .int
  | 20 => .array .int
  | 21 => .array .int
  | _ => .boolean
theorem nmX11 : ∀ a, a < 23 → ∀ b, b < 23 → a ≠ b → (TX11 a).2.1 ≠ (TX11 b).2.1 := by decide +kernel
theorem tyX11_ok : ∀ k, k < 23 → parseFieldDescriptor (TX11 k).2.2.1 = some (tyX11 k) := by decide +kernel
abbrev cX11_init : ByteArray := prog_13_method_1_code
def yX11_init : MethodName := ⟨RX11, "<init>", "()V"⟩
abbrev cX11_feed : ByteArray := prog_13_method_3_code
def yX11_feed : MethodName := ⟨RX11, "feed", "(IIIII)I"⟩
abbrev cX11_put : ByteArray := prog_13_method_4_code
def yX11_put : MethodName := ⟨RX11, "put", "(I)V"⟩
abbrev cX11_character : ByteArray := prog_13_method_5_code
def yX11_character : MethodName := ⟨RX11, "character", "([III)I"⟩
abbrev cX11_badText : ByteArray := prog_13_method_6_code
def yX11_badText : MethodName := ⟨RX11, "badText", "([III)I"⟩
abbrev cX11_stop : ByteArray := prog_13_method_7_code
def yX11_stop : MethodName := ⟨RX11, "stop", "(II)V"⟩
abbrev cX11_low : ByteArray := prog_13_method_8_code
def yX11_low : MethodName := ⟨RX11, "low", "(II)J"⟩
abbrev cX11_opens : ByteArray := prog_13_method_9_code
def yX11_opens : MethodName := ⟨RX11, "opens", "(IIIIZ)Z"⟩
abbrev cX11_isKind : ByteArray := prog_13_method_10_code
def yX11_isKind : MethodName := ⟨RX11, "isKind", "(I)Z"⟩
abbrev cX11_goOver : ByteArray := prog_13_method_11_code
def yX11_goOver : MethodName := ⟨RX11, "goOver", "(I)V"⟩
abbrev cX11_element : ByteArray := prog_13_method_12_code
def yX11_element : MethodName := ⟨RX11, "element", "(III)I"⟩
abbrev cX11_isName : ByteArray := prog_13_method_13_code
def yX11_isName : MethodName := ⟨RX11, "isName", "(III)Z"⟩
abbrev cX11_digits : ByteArray := prog_13_method_14_code
def yX11_digits : MethodName := ⟨RX11, "digits", "(I)I"⟩
abbrev cX11_digit : ByteArray := prog_13_method_15_code
def yX11_digit : MethodName := ⟨RX11, "digit", "(II)I"⟩
abbrev cX11_isNumber : ByteArray := prog_13_method_16_code
def yX11_isNumber : MethodName := ⟨RX11, "isNumber", "([IIII)Z"⟩
abbrev cX11_value : ByteArray := prog_13_method_17_code
def yX11_value : MethodName := ⟨RX11, "value", "(III)I"⟩
abbrev cX11_text : ByteArray := prog_13_method_18_code
def yX11_text : MethodName := ⟨RX11, "text", "(II)I"⟩
abbrev cX11_isDocument : ByteArray := prog_13_method_19_code
def yX11_isDocument : MethodName := ⟨RX11, "isDocument", "(I)Z"⟩
abbrev cX11_whole : ByteArray := prog_13_method_20_code
def yX11_whole : MethodName := ⟨RX11, "whole", "(I)I"⟩
abbrev cX11_nameEndOf : ByteArray := prog_13_method_21_code
def yX11_nameEndOf : MethodName := ⟨RX11, "nameEndOf", "(I)I"⟩
abbrev cX11_valueOf : ByteArray := prog_13_method_22_code
def yX11_valueOf : MethodName := ⟨RX11, "valueOf", "(I)I"⟩
abbrev cX11_lengthOf : ByteArray := prog_13_method_23_code
def yX11_lengthOf : MethodName := ⟨RX11, "lengthOf", "(II)I"⟩
abbrev cX11_firstOf : ByteArray := prog_13_method_24_code
def yX11_firstOf : MethodName := ⟨RX11, "firstOf", "(I)I"⟩
abbrev cX11_nextOf : ByteArray := prog_13_method_25_code
def yX11_nextOf : MethodName := ⟨RX11, "nextOf", "(I)I"⟩
abbrev cX11_countOf : ByteArray := prog_13_method_26_code
def yX11_countOf : MethodName := ⟨RX11, "countOf", "(I)I"⟩
abbrev cX11_isNamed : ByteArray := prog_13_method_27_code
def yX11_isNamed : MethodName := ⟨RX11, "isNamed", "(IJ)Z"⟩
abbrev cX11_isDollar : ByteArray := prog_13_method_28_code
def yX11_isDollar : MethodName := ⟨RX11, "isDollar", "(I)Z"⟩
abbrev cX11_isConditions : ByteArray := prog_13_method_29_code
def yX11_isConditions : MethodName := ⟨RX11, "isConditions", "(II)Z"⟩
abbrev cX11_isAnd : ByteArray := prog_13_method_30_code
def yX11_isAnd : MethodName := ⟨RX11, "isAnd", "(I)Z"⟩
abbrev cX11_isOr : ByteArray := prog_13_method_31_code
def yX11_isOr : MethodName := ⟨RX11, "isOr", "(I)Z"⟩
abbrev cX11_isNor : ByteArray := prog_13_method_32_code
def yX11_isNor : MethodName := ⟨RX11, "isNor", "(I)Z"⟩
abbrev cX11_isJoin : ByteArray := prog_13_method_33_code
def yX11_isJoin : MethodName := ⟨RX11, "isJoin", "(I)Z"⟩
abbrev cX11_condition : ByteArray := prog_13_method_34_code
def yX11_condition : MethodName := ⟨RX11, "condition", "(I)I"⟩
abbrev cX11_say : ByteArray := prog_13_method_35_code
def yX11_say : MethodName := ⟨RX11, "say", "(II)V"⟩
abbrev cX11_count : ByteArray := prog_13_method_36_code
def yX11_count : MethodName := ⟨RX11, "count", "(II)V"⟩
abbrev cX11_stepsOf : ByteArray := prog_13_method_37_code
def yX11_stepsOf : MethodName := ⟨RX11, "stepsOf", "(I)I"⟩
abbrev cX11_checkFilter : ByteArray := prog_13_method_38_code
def yX11_checkFilter : MethodName := ⟨RX11, "checkFilter", "(I)V"⟩
abbrev cX11_checkJoin : ByteArray := prog_13_method_39_code
def yX11_checkJoin : MethodName := ⟨RX11, "checkJoin", "(I)V"⟩
abbrev cX11_checkPath : ByteArray := prog_13_method_40_code
def yX11_checkPath : MethodName := ⟨RX11, "checkPath", "(I)V"⟩
abbrev cX11_checkConditions : ByteArray := prog_13_method_41_code
def yX11_checkConditions : MethodName := ⟨RX11, "checkConditions", "(I)V"⟩
abbrev cX11_isRight : ByteArray := prog_13_method_42_code
def yX11_isRight : MethodName := ⟨RX11, "isRight", "(III)Z"⟩
abbrev cX11_asConditions : ByteArray := prog_13_method_43_code
def yX11_asConditions : MethodName := ⟨RX11, "asConditions", "(I)Z"⟩
abbrev cX11_number : ByteArray := prog_13_method_44_code
def yX11_number : MethodName := ⟨RX11, "number", "(II)J"⟩
abbrev cX11_classOf : ByteArray := prog_13_method_45_code
def yX11_classOf : MethodName := ⟨RX11, "classOf", "(I)I"⟩
abbrev cX11_orderBytes : ByteArray := prog_13_method_46_code
def yX11_orderBytes : MethodName := ⟨RX11, "orderBytes", "(IIII)I"⟩
abbrev cX11_order : ByteArray := prog_13_method_47_code
def yX11_order : MethodName := ⟨RX11, "order", "(IIII)I"⟩
abbrev cX11_orderBoxes : ByteArray := prog_13_method_48_code
def yX11_orderBoxes : MethodName := ⟨RX11, "orderBoxes", "(IIZ)I"⟩
abbrev cX11_isEqual : ByteArray := prog_13_method_49_code
def yX11_isEqual : MethodName := ⟨RX11, "isEqual", "(IIII)Z"⟩
abbrev cX11_stands : ByteArray := prog_13_method_50_code
def yX11_stands : MethodName := ⟨RX11, "stands", "(IIIII)Z"⟩
abbrev cX11_isSo : ByteArray := prog_13_method_51_code
def yX11_isSo : MethodName := ⟨RX11, "isSo", "(IIIII)Z"⟩
abbrev cX11_hasItem : ByteArray := prog_13_method_52_code
def yX11_hasItem : MethodName := ⟨RX11, "hasItem", "(II)Z"⟩
abbrev cX11_does : ByteArray := prog_13_method_53_code
def yX11_does : MethodName := ⟨RX11, "does", "(III)Z"⟩
abbrev cX11_some : ByteArray := prog_13_method_54_code
def yX11_some : MethodName := ⟨RX11, "some", "(IIIII)Z"⟩
abbrev cX11_isStep : ByteArray := prog_13_method_55_code
def yX11_isStep : MethodName := ⟨RX11, "isStep", "(II)Z"⟩
abbrev cX11_nextStep : ByteArray := prog_13_method_56_code
def yX11_nextStep : MethodName := ⟨RX11, "nextStep", "(I)I"⟩
abbrev cX11_any : ByteArray := prog_13_method_57_code
def yX11_any : MethodName := ⟨RX11, "any", "(IIIII)Z"⟩
abbrev cX11_holdsOne : ByteArray := prog_13_method_58_code
def yX11_holdsOne : MethodName := ⟨RX11, "holdsOne", "(IIII)Z"⟩
abbrev cX11_all : ByteArray := prog_13_method_59_code
def yX11_all : MethodName := ⟨RX11, "all", "(IIII)Z"⟩
abbrev cX11_elementHolds : ByteArray := prog_13_method_60_code
def yX11_elementHolds : MethodName := ⟨RX11, "elementHolds", "(II)Z"⟩
abbrev cX11_filterHolds : ByteArray := prog_13_method_61_code
def yX11_filterHolds : MethodName := ⟨RX11, "filterHolds", "(II)Z"⟩
abbrev cX11_isFour : ByteArray := prog_13_method_62_code
def yX11_isFour : MethodName := ⟨RX11, "isFour", "(I)Z"⟩
abbrev cX11_read : ByteArray := prog_13_method_63_code
def yX11_read : MethodName := ⟨RX11, "read", "(II)I"⟩
abbrev cX11_filter : ByteArray := prog_13_method_64_code
def yX11_filter : MethodName := ⟨RX11, "filter", "(II)I"⟩
abbrev cX11_place : ByteArray := prog_13_method_65_code
def yX11_place : MethodName := ⟨RX11, "place", "()I"⟩
abbrev cX11_many : ByteArray := prog_13_method_66_code
def yX11_many : MethodName := ⟨RX11, "many", "(II)I"⟩
abbrev cX11_holds : ByteArray := prog_13_method_67_code
def yX11_holds : MethodName := ⟨RX11, "holds", "(II)I"⟩
abbrev cX11_fails : ByteArray := prog_13_method_68_code
def yX11_fails : MethodName := ⟨RX11, "fails", "(II)I"⟩
abbrev cX11_which : ByteArray := prog_13_method_69_code
def yX11_which : MethodName := ⟨RX11, "which", "(I)I"⟩
def RJx8e188 : String := "java/lang/Cloneable"
def TJx8e188 : u_T := fun k => match k with
  | _ => ("", "", "", false)
def tyJx8e188 : Nat → FieldType := fun k => match k with
  | _ => .int
theorem nmJx8e188 : ∀ a, a < 0 → ∀ b, b < 0 → a ≠ b → (TJx8e188 a).2.1 ≠ (TJx8e188 b).2.1 := by decide +kernel
theorem tyJx8e188_ok : ∀ k, k < 0 → parseFieldDescriptor (TJx8e188 k).2.2.1 = some (tyJx8e188 k) := by decide +kernel
def RJ6 : String := "java/lang/Integer"
def TJ6 : u_T := fun k => match k with
  | _ => ("", "", "", false)
def tyJ6 : Nat → FieldType := fun k => match k with
  | _ => .int
theorem nmJ6 : ∀ a, a < 0 → ∀ b, b < 0 → a ≠ b → (TJ6 a).2.1 ≠ (TJ6 b).2.1 := by decide +kernel
theorem tyJ6_ok : ∀ k, k < 0 → parseFieldDescriptor (TJ6 k).2.2.1 = some (tyJ6 k) := by decide +kernel
abbrev cJ6_compare_7cf53 : ByteArray := prog_15_method_40_code
def yJ6_compare_7cf53 : MethodName := ⟨RJ6, "compare", "(II)I"⟩
def RJ13 : String := "java/lang/Long"
def TJ13 : u_T := fun k => match k with
  | _ => ("", "", "", false)
def tyJ13 : Nat → FieldType := fun k => match k with
  | _ => .int
theorem nmJ13 : ∀ a, a < 0 → ∀ b, b < 0 → a ≠ b → (TJ13 a).2.1 ≠ (TJ13 b).2.1 := by decide +kernel
theorem tyJ13_ok : ∀ k, k < 0 → parseFieldDescriptor (TJ13 k).2.2.1 = some (tyJ13 k) := by decide +kernel
abbrev cJ13_compare_74951 : ByteArray := prog_16_method_42_code
def yJ13_compare_74951 : MethodName := ⟨RJ13, "compare", "(JJ)I"⟩
def RJ9 : String := "java/lang/Math"
def TJ9 : u_T := fun k => match k with
  | _ => ("", "", "", false)
def tyJ9 : Nat → FieldType := fun k => match k with
  | _ => .int
theorem nmJ9 : ∀ a, a < 0 → ∀ b, b < 0 → a ≠ b → (TJ9 a).2.1 ≠ (TJ9 b).2.1 := by decide +kernel
theorem tyJ9_ok : ∀ k, k < 0 → parseFieldDescriptor (TJ9 k).2.2.1 = some (tyJ9 k) := by decide +kernel
abbrev cJ9_max_7cf53 : ByteArray := prog_17_method_65_code
def yJ9_max_7cf53 : MethodName := ⟨RJ9, "max", "(II)I"⟩
abbrev cJ9_min_7cf53 : ByteArray := prog_17_method_69_code
def yJ9_min_7cf53 : MethodName := ⟨RJ9, "min", "(II)I"⟩
def RJ0 : String := "java/lang/String"
def TJ0 : u_T := fun k => match k with
  | 0 => ("java/lang/String", "value", "[B", true)
  | 1 => ("java/lang/String", "coder", "B", true)
  | 2 => ("java/lang/String", "hash", "I", false)
  | _ => ("java/lang/String", "hashIsZero", "Z", false)
def tyJ0 : Nat → FieldType := fun k => match k with
  | 0 => .array .byte
  | 1 => .byte
  | 2 => .int
  | _ => .boolean
theorem nmJ0 : ∀ a, a < 4 → ∀ b, b < 4 → a ≠ b → (TJ0 a).2.1 ≠ (TJ0 b).2.1 := by decide +kernel
theorem tyJ0_ok : ∀ k, k < 4 → parseFieldDescriptor (TJ0 k).2.2.1 = some (tyJ0 k) := by decide +kernel
abbrev cJ0_init_905df : ByteArray := prog_18_method_3_code
def yJ0_init_905df : MethodName := ⟨RJ0, "<init>", "([C)V"⟩
abbrev cJ0_length_8abf5 : ByteArray := prog_18_method_54_code
def yJ0_length_8abf5 : MethodName := ⟨RJ0, "length", "()I"⟩
abbrev cJ0_isEmpty_aae02 : ByteArray := prog_18_method_55_code
def yJ0_isEmpty_aae02 : MethodName := ⟨RJ0, "isEmpty", "()Z"⟩
abbrev cJ0_charAt_5068e : ByteArray := prog_18_method_56_code
def yJ0_charAt_5068e : MethodName := ⟨RJ0, "charAt", "(I)C"⟩
abbrev cJ0_equals_9ea2d : ByteArray := prog_18_method_66_code
def yJ0_equals_9ea2d : MethodName := ⟨RJ0, "equals", "(Ljava/lang/Object;)Z"⟩
abbrev cJ0_substring_37a41 : ByteArray := prog_18_method_92_code
def yJ0_substring_37a41 : MethodName := ⟨RJ0, "substring", "(II)Ljava/lang/String;"⟩
abbrev cJ0_init_bb550 : ByteArray := prog_18_method_149_code
def yJ0_init_bb550 : MethodName := ⟨RJ0, "<init>", "([CIILjava/lang/Void;)V"⟩
abbrev cJ0_init_031fb : ByteArray := prog_18_method_151_code
def yJ0_init_031fb : MethodName := ⟨RJ0, "<init>", "([BB)V"⟩
abbrev cJ0_coder_7d493 : ByteArray := prog_18_method_152_code
def yJ0_coder_7d493 : MethodName := ⟨RJ0, "coder", "()B"⟩
abbrev cJ0_isLatin1_aae02 : ByteArray := prog_18_method_154_code
def yJ0_isLatin1_aae02 : MethodName := ⟨RJ0, "isLatin1", "()Z"⟩
abbrev cJ0_checkIndex_df160 : ByteArray := prog_18_method_155_code
def yJ0_checkIndex_df160 : MethodName := ⟨RJ0, "checkIndex", "(II)V"⟩
abbrev cJ0_checkBoundsOffCount_cabcc : ByteArray := prog_18_method_157_code
def yJ0_checkBoundsOffCount_cabcc : MethodName := ⟨RJ0, "checkBoundsOffCount", "(III)I"⟩
abbrev cJ0_checkBoundsBeginEnd_23922 : ByteArray := prog_18_method_158_code
def yJ0_checkBoundsBeginEnd_23922 : MethodName := ⟨RJ0, "checkBoundsBeginEnd", "(III)V"⟩
def RJ1 : String := "java/lang/StringLatin1"
def TJ1 : u_T := fun k => match k with
  | _ => ("", "", "", false)
def tyJ1 : Nat → FieldType := fun k => match k with
  | _ => .int
theorem nmJ1 : ∀ a, a < 0 → ∀ b, b < 0 → a ≠ b → (TJ1 a).2.1 ≠ (TJ1 b).2.1 := by decide +kernel
theorem tyJ1_ok : ∀ k, k < 0 → parseFieldDescriptor (TJ1 k).2.2.1 = some (tyJ1 k) := by decide +kernel
abbrev cJ1_charAt_3b067 : ByteArray := prog_19_method_2_code
def yJ1_charAt_3b067 : MethodName := ⟨RJ1, "charAt", "([BI)C"⟩
abbrev cJ1_equals_b5fdf : ByteArray := prog_19_method_13_code
def yJ1_equals_b5fdf : MethodName := ⟨RJ1, "equals", "([B[B)Z"⟩
abbrev cJ1_newString_b4f7a : ByteArray := prog_19_method_47_code
def yJ1_newString_b4f7a : MethodName := ⟨RJ1, "newString", "([BII)Ljava/lang/String;"⟩
def RJ2 : String := "java/lang/StringUTF16"
def TJ2 : u_T := fun k => match k with
  | _ => ("", "", "", false)
def tyJ2 : Nat → FieldType := fun k => match k with
  | _ => .int
theorem nmJ2 : ∀ a, a < 0 → ∀ b, b < 0 → a ≠ b → (TJ2 a).2.1 ≠ (TJ2 b).2.1 := by decide +kernel
theorem tyJ2_ok : ∀ k, k < 0 → parseFieldDescriptor (TJ2 k).2.2.1 = some (tyJ2 k) := by decide +kernel
abbrev cJ2_newBytesFor_77867 : ByteArray := prog_20_method_2_code
def yJ2_newBytesFor_77867 : MethodName := ⟨RJ2, "newBytesFor", "(I)[B"⟩
abbrev cJ2_newBytesLength_0f7a4 : ByteArray := prog_20_method_3_code
def yJ2_newBytesLength_0f7a4 : MethodName := ⟨RJ2, "newBytesLength", "(I)I"⟩
abbrev cJ2_putChar_b72d1 : ByteArray := prog_20_method_4_code
def yJ2_putChar_b72d1 : MethodName := ⟨RJ2, "putChar", "([BII)V"⟩
abbrev cJ2_getChar_3b067 : ByteArray := prog_20_method_5_code
def yJ2_getChar_3b067 : MethodName := ⟨RJ2, "getChar", "([BI)C"⟩
abbrev cJ2_length_9d52b : ByteArray := prog_20_method_6_code
def yJ2_length_9d52b : MethodName := ⟨RJ2, "length", "([B)I"⟩
abbrev cJ2_toBytes_dfd3c : ByteArray := prog_20_method_14_code
def yJ2_toBytes_dfd3c : MethodName := ⟨RJ2, "toBytes", "([CII)[B"⟩
abbrev cJ2_coderFromArrayLen_85cad : ByteArray := prog_20_method_15_code
def yJ2_coderFromArrayLen_85cad : MethodName := ⟨RJ2, "coderFromArrayLen", "([BI)B"⟩
abbrev cJ2_compress_dfd3c : ByteArray := prog_20_method_16_code
def yJ2_compress_dfd3c : MethodName := ⟨RJ2, "compress", "([CII)[B"⟩
abbrev cJ2_compress_39247 : ByteArray := prog_20_method_17_code
def yJ2_compress_39247 : MethodName := ⟨RJ2, "compress", "([BII)[B"⟩
abbrev cJ2_compress_fe38e : ByteArray := prog_20_method_21_code
def yJ2_compress_fe38e : MethodName := ⟨RJ2, "compress", "([CI[BII)I"⟩
abbrev cJ2_compress_5af95 : ByteArray := prog_20_method_22_code
def yJ2_compress_5af95 : MethodName := ⟨RJ2, "compress", "([BI[BII)I"⟩
abbrev cJ2_newString_b4f7a : ByteArray := prog_20_method_69_code
def yJ2_newString_b4f7a : MethodName := ⟨RJ2, "newString", "([BII)Ljava/lang/String;"⟩
abbrev cJ2_charAt_3b067 : ByteArray := prog_20_method_83_code
def yJ2_charAt_3b067 : MethodName := ⟨RJ2, "charAt", "([BI)C"⟩
abbrev cJ2_checkIndex_2214a : ByteArray := prog_20_method_91_code
def yJ2_checkIndex_2214a : MethodName := ⟨RJ2, "checkIndex", "(I[B)V"⟩
abbrev cJ2_checkBoundsOffCount_d044e : ByteArray := prog_20_method_94_code
def yJ2_checkBoundsOffCount_d044e : MethodName := ⟨RJ2, "checkBoundsOffCount", "(II[B)V"⟩
def RJ10 : String := "java/lang/System"
def TJ10 : u_T := fun k => match k with
  | _ => ("", "", "", false)
def tyJ10 : Nat → FieldType := fun k => match k with
  | _ => .int
theorem nmJ10 : ∀ a, a < 0 → ∀ b, b < 0 → a ≠ b → (TJ10 a).2.1 ≠ (TJ10 b).2.1 := by decide +kernel
theorem tyJ10_ok : ∀ k, k < 0 → parseFieldDescriptor (TJ10 k).2.2.1 = some (tyJ10 k) := by decide +kernel
def RJ7 : String := "java/util/Arrays"
def TJ7 : u_T := fun k => match k with
  | _ => ("", "", "", false)
def tyJ7 : Nat → FieldType := fun k => match k with
  | _ => .int
theorem nmJ7 : ∀ a, a < 0 → ∀ b, b < 0 → a ≠ b → (TJ7 a).2.1 ≠ (TJ7 b).2.1 := by decide +kernel
theorem tyJ7_ok : ∀ k, k < 0 → parseFieldDescriptor (TJ7 k).2.2.1 = some (tyJ7 k) := by decide +kernel
abbrev cJ7_checkLength_df160 : ByteArray := prog_22_method_131_code
def yJ7_checkLength_df160 : MethodName := ⟨RJ7, "checkLength", "(II)V"⟩
abbrev cJ7_copyOfRange_39247 : ByteArray := prog_22_method_132_code
def yJ7_copyOfRange_39247 : MethodName := ⟨RJ7, "copyOfRange", "([BII)[B"⟩
abbrev cJ7_copyOfRangeByte_39247 : ByteArray := prog_22_method_133_code
def yJ7_copyOfRangeByte_39247 : MethodName := ⟨RJ7, "copyOfRangeByte", "([BII)[B"⟩
def RJ3 : String := "jdk/internal/util/Preconditions"
def TJ3 : u_T := fun k => match k with
  | _ => ("", "", "", false)
def tyJ3 : Nat → FieldType := fun k => match k with
  | _ => .int
theorem nmJ3 : ∀ a, a < 0 → ∀ b, b < 0 → a ≠ b → (TJ3 a).2.1 ≠ (TJ3 b).2.1 := by decide +kernel
theorem tyJ3_ok : ∀ k, k < 0 → parseFieldDescriptor (TJ3 k).2.2.1 = some (tyJ3 k) := by decide +kernel
abbrev cJ3_checkIndex_8e157 : ByteArray := prog_23_method_11_code
def yJ3_checkIndex_8e157 : MethodName := ⟨RJ3, "checkIndex", "(IILjava/util/function/BiFunction;)I"⟩
abbrev cJ3_checkFromToIndex_8c36e : ByteArray := prog_23_method_12_code
def yJ3_checkFromToIndex_8c36e : MethodName := ⟨RJ3, "checkFromToIndex", "(IIILjava/util/function/BiFunction;)I"⟩
abbrev cJ3_checkFromIndexSize_8c36e : ByteArray := prog_23_method_13_code
def yJ3_checkFromIndexSize_8c36e : MethodName := ⟨RJ3, "checkFromIndexSize", "(IIILjava/util/function/BiFunction;)I"⟩
def RL : String := "FilterReaderLaw"
abbrev cL_law : ByteArray := code
def yL_law : MethodName := ⟨RL, "law", "([I)Z"⟩
abbrev vwCl : List vw_C := [(RJ0, TJ0, 4), (RX0, TX0, 2), (RX1, TX1, 2), (RX2, TX2, 3), (RX4, TX4, 1), (RX6, TX6, 7), (RX7, TX7, 3), (RX8, TX8, 2), (RX9, TX9, 9), (RX10, TX10, 5), (RX11, TX11, 23)]
