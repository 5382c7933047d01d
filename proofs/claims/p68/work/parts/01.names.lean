def RX0 : String := "PassedPenance$Acts"
def TX0 : u_T := fun k => match k with
  | 0 => ("PassedPenance$Acts", "count", "I", false)
  | 1 => ("PassedPenance$Acts", "confessed", "I", false)
  | 2 => ("PassedPenance$Acts", "lies", "[I", true)
  | 3 => ("PassedPenance$Acts", "held", "[I", true)
  | 4 => ("PassedPenance$Acts", "doer", "[I", true)
  | _ => ("PassedPenance$Acts", "partner", "[I", true)
def tyX0 : Nat → FieldType := fun k => match k with
  | 0 => .int
  | 1 => .int
  | 2 => .array .int
  | 3 => .array .int
  | 4 => .array .int
  | _ => .array .int
abbrev wsX00 : List Cond := u_ws RX0 TX0 6
theorem nmX0 : ∀ a, a < 6 → ∀ b, b < 6 → a ≠ b → (TX0 a).2.1 ≠ (TX0 b).2.1 := by decide +kernel
theorem tyX0_ok : ∀ k, k < 6 → parseFieldDescriptor (TX0 k).2.2.1 = some (tyX0 k) := by decide +kernel
abbrev cX0_init : ByteArray := prog_2_method_1_code
def yX0_init : MethodName := ⟨RX0, "<init>", "()V"⟩
abbrev cX0_begin : ByteArray := prog_2_method_2_code
def yX0_begin : MethodName := ⟨RX0, "begin", "(LPassedPenance$Church;)V"⟩
abbrev cX0_takeOver : ByteArray := prog_2_method_3_code
def yX0_takeOver : MethodName := ⟨RX0, "takeOver", "(LPassedPenance$Acts;)V"⟩
abbrev cX0_isFull : ByteArray := prog_2_method_4_code
def yX0_isFull : MethodName := ⟨RX0, "isFull", "()Z"⟩
abbrev cX0_hasConfessed : ByteArray := prog_2_method_5_code
def yX0_hasConfessed : MethodName := ⟨RX0, "hasConfessed", "(I)Z"⟩
abbrev cX0_addConfession : ByteArray := prog_2_method_6_code
def yX0_addConfession : MethodName := ⟨RX0, "addConfession", "(LPassedPenance$Church;I)I"⟩
abbrev cX0_addClearing : ByteArray := prog_2_method_7_code
def yX0_addClearing : MethodName := ⟨RX0, "addClearing", "(II)V"⟩
abbrev cX0_log : ByteArray := prog_2_method_8_code
def yX0_log : MethodName := ⟨RX0, "log", "(II)V"⟩
abbrev cX0_change : ByteArray := prog_2_method_9_code
def yX0_change : MethodName := ⟨RX0, "change", "(II)V"⟩
abbrev cX0_takeBack : ByteArray := prog_2_method_10_code
def yX0_takeBack : MethodName := ⟨RX0, "takeBack", "(LPassedPenance$Church;)V"⟩
def RX1 : String := "PassedPenance$Bench"
def TX1 : u_T := fun k => match k with
  | 0 => ("PassedPenance$Bench", "church", "LPassedPenance$Church;", true)
  | 1 => ("PassedPenance$Bench", "box", "I", false)
  | 2 => ("PassedPenance$Bench", "size", "I", false)
  | 3 => ("PassedPenance$Bench", "who", "[I", true)
  | 4 => ("PassedPenance$Bench", "lies", "[I", true)
  | _ => ("PassedPenance$Bench", "costs", "[[I", true)
def tyX1 : Nat → FieldType := fun k => match k with
  | 0 => .object "PassedPenance$Church"
  | 1 => .int
  | 2 => .int
  | 3 => .array .int
  | 4 => .array .int
  | _ => .array (.array .int)
abbrev wsX10 : List Cond := u_ws RX1 TX1 6
theorem nmX1 : ∀ a, a < 6 → ∀ b, b < 6 → a ≠ b → (TX1 a).2.1 ≠ (TX1 b).2.1 := by decide +kernel
theorem tyX1_ok : ∀ k, k < 6 → parseFieldDescriptor (TX1 k).2.2.1 = some (tyX1 k) := by decide +kernel
abbrev cX1_init : ByteArray := prog_3_method_1_code
def yX1_init : MethodName := ⟨RX1, "<init>", "(LPassedPenance$Church;)V"⟩
abbrev cX1_seat : ByteArray := prog_3_method_2_code
def yX1_seat : MethodName := ⟨RX1, "seat", "(I)V"⟩
abbrev cX1_allSeats : ByteArray := prog_3_method_3_code
def yX1_allSeats : MethodName := ⟨RX1, "allSeats", "()I"⟩
abbrev cX1_node : ByteArray := prog_3_method_4_code
def yX1_node : MethodName := ⟨RX1, "node", "(II)I"⟩
abbrev cX1_isNode : ByteArray := prog_3_method_5_code
def yX1_isNode : MethodName := ⟨RX1, "isNode", "(II)Z"⟩
def RX2 : String := "PassedPenance$Church"
def TX2 : u_T := fun k => match k with
  | 0 => ("PassedPenance$Church", "lines", "I", false)
  | 1 => ("PassedPenance$Church", "hours", "I", false)
  | 2 => ("PassedPenance$Church", "boxes", "I", false)
  | 3 => ("PassedPenance$Church", "odds", "I", false)
  | 4 => ("PassedPenance$Church", "penances", "I", false)
  | 5 => ("PassedPenance$Church", "persons", "I", false)
  | 6 => ("PassedPenance$Church", "days", "[I", true)
  | 7 => ("PassedPenance$Church", "sin", "[I", true)
  | 8 => ("PassedPenance$Church", "hourOf", "[I", true)
  | 9 => ("PassedPenance$Church", "boxOf", "[I", true)
  | 10 => ("PassedPenance$Church", "strength", "[I", true)
  | 11 => ("PassedPenance$Church", "grudges", "[[I", true)
  | _ => ("PassedPenance$Church", "left", "[I", true)
def tyX2 : Nat → FieldType := fun k => match k with
  | 0 => .int
  | 1 => .int
  | 2 => .int
  | 3 => .int
  | 4 => .int
  | 5 => .int
  | 6 => .array .int
  | 7 => .array .int
  | 8 => .array .int
  | 9 => .array .int
  | 10 => .array .int
  | 11 => .array (.array .int)
  | _ => .array .int
abbrev wsX20 : List Cond := u_ws RX2 TX2 13
theorem nmX2 : ∀ a, a < 13 → ∀ b, b < 13 → a ≠ b → (TX2 a).2.1 ≠ (TX2 b).2.1 := by decide +kernel
theorem tyX2_ok : ∀ k, k < 13 → parseFieldDescriptor (TX2 k).2.2.1 = some (tyX2 k) := by decide +kernel
abbrev cX2_init : ByteArray := prog_4_method_1_code
def yX2_init : MethodName := ⟨RX2, "<init>", "()V"⟩
abbrev cX2_forget : ByteArray := prog_4_method_2_code
def yX2_forget : MethodName := ⟨RX2, "forget", "()V"⟩
abbrev cX2_takeOver : ByteArray := prog_4_method_3_code
def yX2_takeOver : MethodName := ⟨RX2, "takeOver", "(LPassedPenance$Church;)V"⟩
abbrev cX2_isNone : ByteArray := prog_4_method_4_code
def yX2_isNone : MethodName := ⟨RX2, "isNone", "()Z"⟩
abbrev cX2_hasPenance : ByteArray := prog_4_method_5_code
def yX2_hasPenance : MethodName := ⟨RX2, "hasPenance", "(I)Z"⟩
abbrev cX2_hasPenanceOrNone : ByteArray := prog_4_method_6_code
def yX2_hasPenanceOrNone : MethodName := ⟨RX2, "hasPenanceOrNone", "(I)Z"⟩
abbrev cX2_hasPerson : ByteArray := prog_4_method_7_code
def yX2_hasPerson : MethodName := ⟨RX2, "hasPerson", "(I)Z"⟩
abbrev cX2_hasBox : ByteArray := prog_4_method_8_code
def yX2_hasBox : MethodName := ⟨RX2, "hasBox", "(I)Z"⟩
abbrev cX2_hasHour : ByteArray := prog_4_method_9_code
def yX2_hasHour : MethodName := ⟨RX2, "hasHour", "(I)Z"⟩
abbrev cX2_putGrudge : ByteArray := prog_4_method_10_code
def yX2_putGrudge : MethodName := ⟨RX2, "putGrudge", "(III)V"⟩
abbrev cX2_grudge : ByteArray := prog_4_method_11_code
def yX2_grudge : MethodName := ⟨RX2, "grudge", "(II)I"⟩
abbrev cX2_costOf : ByteArray := prog_4_method_12_code
def yX2_costOf : MethodName := ⟨RX2, "costOf", "(II)I"⟩
abbrev cX2_personsOf : ByteArray := prog_4_method_13_code
def yX2_personsOf : MethodName := ⟨RX2, "personsOf", "(I)I"⟩
abbrev cX2_isAhead : ByteArray := prog_4_method_14_code
def yX2_isAhead : MethodName := ⟨RX2, "isAhead", "(III)Z"⟩
abbrev cX2_placeOf : ByteArray := prog_4_method_15_code
def yX2_placeOf : MethodName := ⟨RX2, "placeOf", "(I)I"⟩
abbrev cX2_inQueue : ByteArray := prog_4_method_16_code
def yX2_inQueue : MethodName := ⟨RX2, "inQueue", "(II)I"⟩
abbrev cX2_rightAhead : ByteArray := prog_4_method_17_code
def yX2_rightAhead : MethodName := ⟨RX2, "rightAhead", "(IIII)I"⟩
abbrev cX2_forerunner : ByteArray := prog_4_method_18_code
def yX2_forerunner : MethodName := ⟨RX2, "forerunner", "(I)I"⟩
abbrev cX2_gotBy : ByteArray := prog_4_method_19_code
def yX2_gotBy : MethodName := ⟨RX2, "gotBy", "(II)I"⟩
abbrev cX2_leftBehind : ByteArray := prog_4_method_20_code
def yX2_leftBehind : MethodName := ⟨RX2, "leftBehind", "(I)I"⟩
abbrev cX2_costsOf : ByteArray := prog_4_method_21_code
def yX2_costsOf : MethodName := ⟨RX2, "costsOf", "(I)I"⟩
abbrev cX2_loss : ByteArray := prog_4_method_22_code
def yX2_loss : MethodName := ⟨RX2, "loss", "(I)I"⟩
abbrev cX2_costsIfSin : ByteArray := prog_4_method_23_code
def yX2_costsIfSin : MethodName := ⟨RX2, "costsIfSin", "(II)I"⟩
abbrev cX2_bestSin : ByteArray := prog_4_method_24_code
def yX2_bestSin : MethodName := ⟨RX2, "bestSin", "(I)I"⟩
abbrev cX2_costInHour : ByteArray := prog_4_method_25_code
def yX2_costInHour : MethodName := ⟨RX2, "costInHour", "(II)I"⟩
abbrev cX2_bestHour : ByteArray := prog_4_method_26_code
def yX2_bestHour : MethodName := ⟨RX2, "bestHour", "(I)I"⟩
abbrev cX2_restless : ByteArray := prog_4_method_27_code
def yX2_restless : MethodName := ⟨RX2, "restless", "()I"⟩
abbrev cX2_firstOf : ByteArray := prog_4_method_28_code
def yX2_firstOf : MethodName := ⟨RX2, "firstOf", "(I)I"⟩
abbrev cX2_settleDown : ByteArray := prog_4_method_29_code
def yX2_settleDown : MethodName := ⟨RX2, "settleDown", "()I"⟩
abbrev cX2_comers : ByteArray := prog_4_method_30_code
def yX2_comers : MethodName := ⟨RX2, "comers", "(J)I"⟩
abbrev cX2_fateOf : ByteArray := prog_4_method_31_code
def yX2_fateOf : MethodName := ⟨RX2, "fateOf", "(IJ)I"⟩
def RX3 : String := "PassedPenance$Deal"
def TX3 : u_T := fun k => match k with
  | 0 => ("PassedPenance$Deal", "church", "LPassedPenance$Church;", true)
  | 1 => ("PassedPenance$Deal", "least", "[I", true)
  | _ => ("PassedPenance$Deal", "shares", "[I", true)
def tyX3 : Nat → FieldType := fun k => match k with
  | 0 => .object "PassedPenance$Church"
  | 1 => .array .int
  | _ => .array .int
abbrev wsX30 : List Cond := u_ws RX3 TX3 3
theorem nmX3 : ∀ a, a < 3 → ∀ b, b < 3 → a ≠ b → (TX3 a).2.1 ≠ (TX3 b).2.1 := by decide +kernel
theorem tyX3_ok : ∀ k, k < 3 → parseFieldDescriptor (TX3 k).2.2.1 = some (tyX3 k) := by decide +kernel
abbrev cX3_init : ByteArray := prog_5_method_1_code
def yX3_init : MethodName := ⟨RX3, "<init>", "(LPassedPenance$Church;)V"⟩
abbrev cX3_weigh : ByteArray := prog_5_method_2_code
def yX3_weigh : MethodName := ⟨RX3, "weigh", "()V"⟩
abbrev cX3_costsWith : ByteArray := prog_5_method_3_code
def yX3_costsWith : MethodName := ⟨RX3, "costsWith", "(II)I"⟩
abbrev cX3_shareOf : ByteArray := prog_5_method_4_code
def yX3_shareOf : MethodName := ⟨RX3, "shareOf", "(I)I"⟩
abbrev cX3_firstShare : ByteArray := prog_5_method_5_code
def yX3_firstShare : MethodName := ⟨RX3, "firstShare", "(I)I"⟩
abbrev cX3_isLess : ByteArray := prog_5_method_6_code
def yX3_isLess : MethodName := ⟨RX3, "isLess", "(II)Z"⟩
def RX4 : String := "PassedPenance$Image"
def TX4 : u_T := fun k => match k with
  | 0 => ("PassedPenance$Image", "church", "LPassedPenance$Church;", true)
  | _ => ("PassedPenance$Image", "acts", "LPassedPenance$Acts;", true)
def tyX4 : Nat → FieldType := fun k => match k with
  | 0 => .object "PassedPenance$Church"
  | _ => .object "PassedPenance$Acts"
abbrev wsX40 : List Cond := u_ws RX4 TX4 2
theorem nmX4 : ∀ a, a < 2 → ∀ b, b < 2 → a ≠ b → (TX4 a).2.1 ≠ (TX4 b).2.1 := by decide +kernel
theorem tyX4_ok : ∀ k, k < 2 → parseFieldDescriptor (TX4 k).2.2.1 = some (tyX4 k) := by decide +kernel
abbrev cX4_init : ByteArray := prog_6_method_1_code
def yX4_init : MethodName := ⟨RX4, "<init>", "()V"⟩
def RX5 : String := "PassedPenance$Mean"
def TX5 : u_T := fun k => match k with
  | 0 => ("PassedPenance$Mean", "above", "J", false)
  | _ => ("PassedPenance$Mean", "below", "J", false)
def tyX5 : Nat → FieldType := fun k => match k with
  | 0 => .long
  | _ => .long
abbrev wsX50 : List Cond := u_ws RX5 TX5 2
theorem nmX5 : ∀ a, a < 2 → ∀ b, b < 2 → a ≠ b → (TX5 a).2.1 ≠ (TX5 b).2.1 := by decide +kernel
theorem tyX5_ok : ∀ k, k < 2 → parseFieldDescriptor (TX5 k).2.2.1 = some (tyX5 k) := by decide +kernel
abbrev cX5_init : ByteArray := prog_7_method_1_code
def yX5_init : MethodName := ⟨RX5, "<init>", "()V"⟩
abbrev cX5_expect : ByteArray := prog_7_method_2_code
def yX5_expect : MethodName := ⟨RX5, "expect", "(LPassedPenance$Rows;ILPassedPenance$Church;II)V"⟩
abbrev cX5_put : ByteArray := prog_7_method_3_code
def yX5_put : MethodName := ⟨RX5, "put", "(JJ)V"⟩
abbrev cX5_commonDivisor : ByteArray := prog_7_method_4_code
def yX5_commonDivisor : MethodName := ⟨RX5, "commonDivisor", "(JJ)J"⟩
abbrev cX5_isBelow : ByteArray := prog_7_method_5_code
def yX5_isBelow : MethodName := ⟨RX5, "isBelow", "(LPassedPenance$Mean;)Z"⟩
abbrev cX5_cut : ByteArray := prog_7_method_6_code
def yX5_cut : MethodName := ⟨RX5, "cut", "()I"⟩
def RX6 : String := "PassedPenance$Orders"
def TX6 : u_T := fun k => match k with
  | 0 => ("PassedPenance$Orders", "bench", "LPassedPenance$Bench;", true)
  | 1 => ("PassedPenance$Orders", "least", "[I", true)
  | 2 => ("PassedPenance$Orders", "many", "[I", true)
  | 3 => ("PassedPenance$Orders", "greatest", "[I", true)
  | 4 => ("PassedPenance$Orders", "hardest", "[I", true)
  | _ => ("PassedPenance$Orders", "alike", "[I", true)
def tyX6 : Nat → FieldType := fun k => match k with
  | 0 => .object "PassedPenance$Bench"
  | 1 => .array .int
  | 2 => .array .int
  | 3 => .array .int
  | 4 => .array .int
  | _ => .array .int
abbrev wsX60 : List Cond := u_ws RX6 TX6 6
theorem nmX6 : ∀ a, a < 6 → ∀ b, b < 6 → a ≠ b → (TX6 a).2.1 ≠ (TX6 b).2.1 := by decide +kernel
theorem tyX6_ok : ∀ k, k < 6 → parseFieldDescriptor (TX6 k).2.2.1 = some (tyX6 k) := by decide +kernel
abbrev cX6_init : ByteArray := prog_8_method_1_code
def yX6_init : MethodName := ⟨RX6, "<init>", "(LPassedPenance$Bench;)V"⟩
abbrev cX6_weigh : ByteArray := prog_8_method_2_code
def yX6_weigh : MethodName := ⟨RX6, "weigh", "()V"⟩
abbrev cX6_weighNode : ByteArray := prog_8_method_3_code
def yX6_weighNode : MethodName := ⟨RX6, "weighNode", "(IIZ)V"⟩
abbrev cX6_goOn : ByteArray := prog_8_method_4_code
def yX6_goOn : MethodName := ⟨RX6, "goOn", "(IIII)V"⟩
abbrev cX6_personAt : ByteArray := prog_8_method_5_code
def yX6_personAt : MethodName := ⟨RX6, "personAt", "(I)I"⟩
abbrev cX6_firstSeat : ByteArray := prog_8_method_6_code
def yX6_firstSeat : MethodName := ⟨RX6, "firstSeat", "(II)I"⟩
def RX7 : String := "PassedPenance$Reader"
def TX7 : u_T := fun k => match k with
  | 0 => ("PassedPenance$Reader", "told", "LPassedPenance$Church;", true)
  | 1 => ("PassedPenance$Reader", "length", "I", false)
  | 2 => ("PassedPenance$Reader", "fault", "I", false)
  | 3 => ("PassedPenance$Reader", "place", "I", false)
  | 4 => ("PassedPenance$Reader", "bytes", "[I", true)
  | 5 => ("PassedPenance$Reader", "start", "I", false)
  | 6 => ("PassedPenance$Reader", "behind", "I", false)
  | 7 => ("PassedPenance$Reader", "kind", "I", false)
  | _ => ("PassedPenance$Reader", "value", "I", false)
def tyX7 : Nat → FieldType := fun k => match k with
  | 0 => .object "PassedPenance$Church"
  | 1 => .int
  | 2 => .int
  | 3 => .int
  | 4 => .array .int
  | 5 => .int
  | 6 => .int
  | 7 => .int
  | _ => .int
abbrev wsX70 : List Cond := u_ws RX7 TX7 9
theorem nmX7 : ∀ a, a < 9 → ∀ b, b < 9 → a ≠ b → (TX7 a).2.1 ≠ (TX7 b).2.1 := by decide +kernel
theorem tyX7_ok : ∀ k, k < 9 → parseFieldDescriptor (TX7 k).2.2.1 = some (tyX7 k) := by decide +kernel
abbrev cX7_init : ByteArray := prog_9_method_1_code
def yX7_init : MethodName := ⟨RX7, "<init>", "()V"⟩
abbrev cX7_hasRoom : ByteArray := prog_9_method_2_code
def yX7_hasRoom : MethodName := ⟨RX7, "hasRoom", "()Z"⟩
abbrev cX7_addNumber : ByteArray := prog_9_method_3_code
def yX7_addNumber : MethodName := ⟨RX7, "addNumber", "(I)V"⟩
abbrev cX7_readAll : ByteArray := prog_9_method_4_code
def yX7_readAll : MethodName := ⟨RX7, "readAll", "()V"⟩
abbrev cX7_readLine : ByteArray := prog_9_method_5_code
def yX7_readLine : MethodName := ⟨RX7, "readLine", "()Z"⟩
abbrev cX7_readHead : ByteArray := prog_9_method_6_code
def yX7_readHead : MethodName := ⟨RX7, "readHead", "()Z"⟩
abbrev cX7_readPenance : ByteArray := prog_9_method_7_code
def yX7_readPenance : MethodName := ⟨RX7, "readPenance", "()Z"⟩
abbrev cX7_readPerson : ByteArray := prog_9_method_8_code
def yX7_readPerson : MethodName := ⟨RX7, "readPerson", "()Z"⟩
abbrev cX7_readGrudges : ByteArray := prog_9_method_9_code
def yX7_readGrudges : MethodName := ⟨RX7, "readGrudges", "()Z"⟩
abbrev cX7_readLeft : ByteArray := prog_9_method_10_code
def yX7_readLeft : MethodName := ⟨RX7, "readLeft", "()Z"⟩
abbrev cX7_passSign : ByteArray := prog_9_method_11_code
def yX7_passSign : MethodName := ⟨RX7, "passSign", "()Z"⟩
abbrev cX7_passWord : ByteArray := prog_9_method_12_code
def yX7_passWord : MethodName := ⟨RX7, "passWord", "(Ljava/lang/String;)Z"⟩
abbrev cX7_passNumber : ByteArray := prog_9_method_13_code
def yX7_passNumber : MethodName := ⟨RX7, "passNumber", "()I"⟩
abbrev cX7_isNumber : ByteArray := prog_9_method_14_code
def yX7_isNumber : MethodName := ⟨RX7, "isNumber", "(II)Z"⟩
abbrev cX7_isWord : ByteArray := prog_9_method_15_code
def yX7_isWord : MethodName := ⟨RX7, "isWord", "(Ljava/lang/String;)Z"⟩
abbrev cX7_refuse : ByteArray := prog_9_method_16_code
def yX7_refuse : MethodName := ⟨RX7, "refuse", "(I)Z"⟩
abbrev cX7_step : ByteArray := prog_9_method_17_code
def yX7_step : MethodName := ⟨RX7, "step", "()V"⟩
abbrev cX7_takeValue : ByteArray := prog_9_method_18_code
def yX7_takeValue : MethodName := ⟨RX7, "takeValue", "()V"⟩
abbrev cX7_kindAt : ByteArray := prog_9_method_19_code
def yX7_kindAt : MethodName := ⟨RX7, "kindAt", "(I)I"⟩
def RX8 : String := "PassedPenance$Rows"
def TX8 : u_T := fun k => match k with
  | 0 => ("PassedPenance$Rows", "numbers", "[[J", true)
  | 1 => ("PassedPenance$Rows", "widths", "[I", true)
  | _ => ("PassedPenance$Rows", "lengths", "[I", true)
def tyX8 : Nat → FieldType := fun k => match k with
  | 0 => .array (.array .long)
  | 1 => .array .int
  | _ => .array .int
abbrev wsX80 : List Cond := u_ws RX8 TX8 3
theorem nmX8 : ∀ a, a < 3 → ∀ b, b < 3 → a ≠ b → (TX8 a).2.1 ≠ (TX8 b).2.1 := by decide +kernel
theorem tyX8_ok : ∀ k, k < 3 → parseFieldDescriptor (TX8 k).2.2.1 = some (tyX8 k) := by decide +kernel
abbrev cX8_init : ByteArray := prog_10_method_1_code
def yX8_init : MethodName := ⟨RX8, "<init>", "()V"⟩
abbrev cX8_isSlot : ByteArray := prog_10_method_2_code
def yX8_isSlot : MethodName := ⟨RX8, "isSlot", "(I)Z"⟩
abbrev cX8_hasRow : ByteArray := prog_10_method_3_code
def yX8_hasRow : MethodName := ⟨RX8, "hasRow", "(I)Z"⟩
abbrev cX8_howMany : ByteArray := prog_10_method_4_code
def yX8_howMany : MethodName := ⟨RX8, "howMany", "()I"⟩
abbrev cX8_lay : ByteArray := prog_10_method_5_code
def yX8_lay : MethodName := ⟨RX8, "lay", "(III)V"⟩
abbrev cX8_put : ByteArray := prog_10_method_6_code
def yX8_put : MethodName := ⟨RX8, "put", "(IIJ)V"⟩
abbrev cX8_cutTo : ByteArray := prog_10_method_7_code
def yX8_cutTo : MethodName := ⟨RX8, "cutTo", "(IJ)J"⟩
abbrev cX8_holds : ByteArray := prog_10_method_8_code
def yX8_holds : MethodName := ⟨RX8, "holds", "(III)Z"⟩
abbrev cX8_tellsHowOften : ByteArray := prog_10_method_9_code
def yX8_tellsHowOften : MethodName := ⟨RX8, "tellsHowOften", "(II)Z"⟩
def RX9 : String := "PassedPenance$Sightings"
def TX9 : u_T := fun k => match k with
  | 0 => ("PassedPenance$Sightings", "bench", "LPassedPenance$Bench;", true)
  | 1 => ("PassedPenance$Sightings", "firstBits", "I", false)
  | 2 => ("PassedPenance$Sightings", "allowed", "[I", true)
  | 3 => ("PassedPenance$Sightings", "ways", "[I", true)
  | 4 => ("PassedPenance$Sightings", "rest", "[I", true)
  | _ => ("PassedPenance$Sightings", "tallies", "[[I", true)
def tyX9 : Nat → FieldType := fun k => match k with
  | 0 => .object "PassedPenance$Bench"
  | 1 => .int
  | 2 => .array .int
  | 3 => .array .int
  | 4 => .array .int
  | _ => .array (.array .int)
abbrev wsX90 : List Cond := u_ws RX9 TX9 6
theorem nmX9 : ∀ a, a < 6 → ∀ b, b < 6 → a ≠ b → (TX9 a).2.1 ≠ (TX9 b).2.1 := by decide +kernel
theorem tyX9_ok : ∀ k, k < 6 → parseFieldDescriptor (TX9 k).2.2.1 = some (tyX9 k) := by decide +kernel
abbrev cX9_init : ByteArray := prog_11_method_1_code
def yX9_init : MethodName := ⟨RX9, "<init>", "(LPassedPenance$Bench;)V"⟩
abbrev cX9_kindOf : ByteArray := prog_11_method_2_code
def yX9_kindOf : MethodName := ⟨RX9, "kindOf", "(I)I"⟩
abbrev cX9_note : ByteArray := prog_11_method_3_code
def yX9_note : MethodName := ⟨RX9, "note", "(LPassedPenance$Rows;I)Z"⟩
abbrev cX9_inBounds : ByteArray := prog_11_method_4_code
def yX9_inBounds : MethodName := ⟨RX9, "inBounds", "(JI)I"⟩
abbrev cX9_isSeated : ByteArray := prog_11_method_5_code
def yX9_isSeated : MethodName := ⟨RX9, "isSeated", "(I)Z"⟩
abbrev cX9_tally : ByteArray := prog_11_method_6_code
def yX9_tally : MethodName := ⟨RX9, "tally", "()V"⟩
abbrev cX9_fitsBehind : ByteArray := prog_11_method_7_code
def yX9_fitsBehind : MethodName := ⟨RX9, "fitsBehind", "(III)Z"⟩
abbrev cX9_countRest : ByteArray := prog_11_method_8_code
def yX9_countRest : MethodName := ⟨RX9, "countRest", "(IIZ)V"⟩
abbrev cX9_countOn : ByteArray := prog_11_method_9_code
def yX9_countOn : MethodName := ⟨RX9, "countOn", "(II)V"⟩
abbrev cX9_total : ByteArray := prog_11_method_10_code
def yX9_total : MethodName := ⟨RX9, "total", "()I"⟩
abbrev cX9_possible : ByteArray := prog_11_method_11_code
def yX9_possible : MethodName := ⟨RX9, "possible", "(I)I"⟩
abbrev cX9_leftAtWorst : ByteArray := prog_11_method_12_code
def yX9_leftAtWorst : MethodName := ⟨RX9, "leftAtWorst", "(I)I"⟩
abbrev cX9_mostTelling : ByteArray := prog_11_method_13_code
def yX9_mostTelling : MethodName := ⟨RX9, "mostTelling", "()I"⟩
def RX10 : String := "PassedPenance$Swaps"
def TX10 : u_T := fun k => match k with
  | 0 => ("PassedPenance$Swaps", "lesser", "I", false)
  | 1 => ("PassedPenance$Swaps", "greater", "I", false)
  | 2 => ("PassedPenance$Swaps", "size", "I", false)
  | 3 => ("PassedPenance$Swaps", "got", "[I", true)
  | 4 => ("PassedPenance$Swaps", "sin", "[I", true)
  | 5 => ("PassedPenance$Swaps", "excess", "[J", true)
  | _ => ("PassedPenance$Swaps", "groups", "[I", true)
def tyX10 : Nat → FieldType := fun k => match k with
  | 0 => .int
  | 1 => .int
  | 2 => .int
  | 3 => .array .int
  | 4 => .array .int
  | 5 => .array .long
  | _ => .array .int
abbrev wsX100 : List Cond := u_ws RX10 TX10 7
theorem nmX10 : ∀ a, a < 7 → ∀ b, b < 7 → a ≠ b → (TX10 a).2.1 ≠ (TX10 b).2.1 := by decide +kernel
theorem tyX10_ok : ∀ k, k < 7 → parseFieldDescriptor (TX10 k).2.2.1 = some (tyX10 k) := by decide +kernel
abbrev cX10_init : ByteArray := prog_12_method_1_code
def yX10_init : MethodName := ⟨RX10, "<init>", "()V"⟩
abbrev cX10_lookAt : ByteArray := prog_12_method_2_code
def yX10_lookAt : MethodName := ⟨RX10, "lookAt", "(LPassedPenance$Church;)V"⟩
abbrev cX10_lane : ByteArray := prog_12_method_3_code
def yX10_lane : MethodName := ⟨RX10, "lane", "(I)J"⟩
abbrev cX10_fewest : ByteArray := prog_12_method_4_code
def yX10_fewest : MethodName := ⟨RX10, "fewest", "()I"⟩
abbrev cX10_findPair : ByteArray := prog_12_method_5_code
def yX10_findPair : MethodName := ⟨RX10, "findPair", "()V"⟩
abbrev cX10_fewestBehind : ByteArray := prog_12_method_6_code
def yX10_fewestBehind : MethodName := ⟨RX10, "fewestBehind", "(II)I"⟩
abbrev cX10_change : ByteArray := prog_12_method_7_code
def yX10_change : MethodName := ⟨RX10, "change", "(II)V"⟩
def RX11 : String := "PassedPenance"
def TX11 : u_T := fun k => match k with
  | 0 => ("PassedPenance", "reader", "LPassedPenance$Reader;", true)
  | 1 => ("PassedPenance", "church", "LPassedPenance$Church;", true)
  | 2 => ("PassedPenance", "trial", "LPassedPenance$Church;", true)
  | 3 => ("PassedPenance", "acts", "LPassedPenance$Acts;", true)
  | 4 => ("PassedPenance", "rows", "LPassedPenance$Rows;", true)
  | 5 => ("PassedPenance", "bench", "LPassedPenance$Bench;", true)
  | 6 => ("PassedPenance", "orders", "LPassedPenance$Orders;", true)
  | 7 => ("PassedPenance", "sightings", "LPassedPenance$Sightings;", true)
  | 8 => ("PassedPenance", "swaps", "LPassedPenance$Swaps;", true)
  | 9 => ("PassedPenance", "deal", "LPassedPenance$Deal;", true)
  | 10 => ("PassedPenance", "mean", "LPassedPenance$Mean;", true)
  | 11 => ("PassedPenance", "leastMean", "LPassedPenance$Mean;", true)
  | _ => ("PassedPenance", "images", "[LPassedPenance$Image;", true)
def tyX11 : Nat → FieldType := fun k => match k with
  | 0 => .object "PassedPenance$Reader"
  | 1 => .object "PassedPenance$Church"
  | 2 => .object "PassedPenance$Church"
  | 3 => .object "PassedPenance$Acts"
  | 4 => .object "PassedPenance$Rows"
  | 5 => .object "PassedPenance$Bench"
  | 6 => .object "PassedPenance$Orders"
  | 7 => .object "PassedPenance$Sightings"
  | 8 => .object "PassedPenance$Swaps"
  | 9 => .object "PassedPenance$Deal"
  | 10 => .object "PassedPenance$Mean"
  | 11 => .object "PassedPenance$Mean"
  | _ => .array (.object "PassedPenance$Image")
abbrev wsX110 : List Cond := u_ws RX11 TX11 13
theorem nmX11 : ∀ a, a < 13 → ∀ b, b < 13 → a ≠ b → (TX11 a).2.1 ≠ (TX11 b).2.1 := by decide +kernel
theorem tyX11_ok : ∀ k, k < 13 → parseFieldDescriptor (TX11 k).2.2.1 = some (tyX11 k) := by decide +kernel
abbrev cX11_init : ByteArray := prog_1_method_1_code
def yX11_init : MethodName := ⟨RX11, "<init>", "()V"⟩
abbrev cX11_feed : ByteArray := prog_1_method_2_code
def yX11_feed : MethodName := ⟨RX11, "feed", "(IIIII)I"⟩
abbrev cX11_end : ByteArray := prog_1_method_3_code
def yX11_end : MethodName := ⟨RX11, "end", "(I)I"⟩
abbrev cX11_church : ByteArray := prog_1_method_4_code
def yX11_church : MethodName := ⟨RX11, "church", "()I"⟩
abbrev cX11_fault : ByteArray := prog_1_method_5_code
def yX11_fault : MethodName := ⟨RX11, "fault", "(I)I"⟩
abbrev cX11_penance : ByteArray := prog_1_method_6_code
def yX11_penance : MethodName := ⟨RX11, "penance", "(I)I"⟩
abbrev cX11_person : ByteArray := prog_1_method_7_code
def yX11_person : MethodName := ⟨RX11, "person", "(II)I"⟩
abbrev cX11_minds : ByteArray := prog_1_method_8_code
def yX11_minds : MethodName := ⟨RX11, "minds", "(II)I"⟩
abbrev cX11_cost : ByteArray := prog_1_method_9_code
def yX11_cost : MethodName := ⟨RX11, "cost", "(II)I"⟩
abbrev cX11_box : ByteArray := prog_1_method_10_code
def yX11_box : MethodName := ⟨RX11, "box", "(I)I"⟩
abbrev cX11_queue : ByteArray := prog_1_method_11_code
def yX11_queue : MethodName := ⟨RX11, "queue", "(II)I"⟩
abbrev cX11_gets : ByteArray := prog_1_method_12_code
def yX11_gets : MethodName := ⟨RX11, "gets", "(I)I"⟩
abbrev cX11_giver : ByteArray := prog_1_method_13_code
def yX11_giver : MethodName := ⟨RX11, "giver", "(I)I"⟩
abbrev cX11_back : ByteArray := prog_1_method_14_code
def yX11_back : MethodName := ⟨RX11, "back", "(II)I"⟩
abbrev cX11_last : ByteArray := prog_1_method_15_code
def yX11_last : MethodName := ⟨RX11, "last", "(I)I"⟩
abbrev cX11_bears : ByteArray := prog_1_method_16_code
def yX11_bears : MethodName := ⟨RX11, "bears", "(I)I"⟩
abbrev cX11_own : ByteArray := prog_1_method_17_code
def yX11_own : MethodName := ⟨RX11, "own", "()I"⟩
abbrev cX11_gain : ByteArray := prog_1_method_18_code
def yX11_gain : MethodName := ⟨RX11, "gain", "()I"⟩
abbrev cX11_worst : ByteArray := prog_1_method_19_code
def yX11_worst : MethodName := ⟨RX11, "worst", "()I"⟩
abbrev cX11_passes : ByteArray := prog_1_method_20_code
def yX11_passes : MethodName := ⟨RX11, "passes", "(I)I"⟩
abbrev cX11_ahead : ByteArray := prog_1_method_21_code
def yX11_ahead : MethodName := ⟨RX11, "ahead", "(I)I"⟩
abbrev cX11_kneel : ByteArray := prog_1_method_22_code
def yX11_kneel : MethodName := ⟨RX11, "kneel", "(I)I"⟩
abbrev cX11_sins : ByteArray := prog_1_method_23_code
def yX11_sins : MethodName := ⟨RX11, "sins", "(I)I"⟩
abbrev cX11_sinned : ByteArray := prog_1_method_24_code
def yX11_sinned : MethodName := ⟨RX11, "sinned", "(I)I"⟩
abbrev cX11_best : ByteArray := prog_1_method_25_code
def yX11_best : MethodName := ⟨RX11, "best", "(I)I"⟩
abbrev cX11_orders : ByteArray := prog_1_method_26_code
def yX11_orders : MethodName := ⟨RX11, "orders", "(II)I"⟩
abbrev cX11_most : ByteArray := prog_1_method_27_code
def yX11_most : MethodName := ⟨RX11, "most", "(I)I"⟩
abbrev cX11_fair : ByteArray := prog_1_method_28_code
def yX11_fair : MethodName := ⟨RX11, "fair", "(I)I"⟩
abbrev cX11_likes : ByteArray := prog_1_method_29_code
def yX11_likes : MethodName := ⟨RX11, "likes", "(I)I"⟩
abbrev cX11_ways : ByteArray := prog_1_method_30_code
def yX11_ways : MethodName := ⟨RX11, "ways", "(I)I"⟩
abbrev cX11_weighs : ByteArray := prog_1_method_31_code
def yX11_weighs : MethodName := ⟨RX11, "weighs", "(I)Z"⟩
abbrev cX11_comes : ByteArray := prog_1_method_32_code
def yX11_comes : MethodName := ⟨RX11, "comes", "(II)I"⟩
abbrev cX11_hour : ByteArray := prog_1_method_33_code
def yX11_hour : MethodName := ⟨RX11, "hour", "(I)I"⟩
abbrev cX11_stir : ByteArray := prog_1_method_34_code
def yX11_stir : MethodName := ⟨RX11, "stir", "()I"⟩
abbrev cX11_settles : ByteArray := prog_1_method_35_code
def yX11_settles : MethodName := ⟨RX11, "settles", "()I"⟩
abbrev cX11_settled : ByteArray := prog_1_method_36_code
def yX11_settled : MethodName := ⟨RX11, "settled", "(I)I"⟩
abbrev cX11_swaps : ByteArray := prog_1_method_37_code
def yX11_swaps : MethodName := ⟨RX11, "swaps", "()I"⟩
abbrev cX11_swap : ByteArray := prog_1_method_38_code
def yX11_swap : MethodName := ⟨RX11, "swap", "(I)I"⟩
abbrev cX11_trades : ByteArray := prog_1_method_39_code
def yX11_trades : MethodName := ⟨RX11, "trades", "()I"⟩
abbrev cX11_wouldTrade : ByteArray := prog_1_method_40_code
def yX11_wouldTrade : MethodName := ⟨RX11, "wouldTrade", "(II)Z"⟩
abbrev cX11_deal : ByteArray := prog_1_method_41_code
def yX11_deal : MethodName := ⟨RX11, "deal", "()I"⟩
abbrev cX11_dealt : ByteArray := prog_1_method_42_code
def yX11_dealt : MethodName := ⟨RX11, "dealt", "(I)I"⟩
abbrev cX11_fits : ByteArray := prog_1_method_43_code
def yX11_fits : MethodName := ⟨RX11, "fits", "(II)I"⟩
abbrev cX11_firsts : ByteArray := prog_1_method_44_code
def yX11_firsts : MethodName := ⟨RX11, "firsts", "(II)I"⟩
abbrev cX11_may : ByteArray := prog_1_method_45_code
def yX11_may : MethodName := ⟨RX11, "may", "(III)I"⟩
abbrev cX11_ask : ByteArray := prog_1_method_46_code
def yX11_ask : MethodName := ⟨RX11, "ask", "(II)I"⟩
abbrev cX11_leaves : ByteArray := prog_1_method_47_code
def yX11_leaves : MethodName := ⟨RX11, "leaves", "(II)I"⟩
abbrev cX11_compare : ByteArray := prog_1_method_48_code
def yX11_compare : MethodName := ⟨RX11, "compare", "(II)I"⟩
abbrev cX11_mean : ByteArray := prog_1_method_49_code
def yX11_mean : MethodName := ⟨RX11, "mean", "(III)J"⟩
abbrev cX11_choose : ByteArray := prog_1_method_50_code
def yX11_choose : MethodName := ⟨RX11, "choose", "(I)I"⟩
abbrev cX11_pass : ByteArray := prog_1_method_51_code
def yX11_pass : MethodName := ⟨RX11, "pass", "(IIII)J"⟩
abbrev cX11_takes : ByteArray := prog_1_method_52_code
def yX11_takes : MethodName := ⟨RX11, "takes", "(III)I"⟩
abbrev cX11_whyNoMean : ByteArray := prog_1_method_53_code
def yX11_whyNoMean : MethodName := ⟨RX11, "whyNoMean", "(III)I"⟩
abbrev cX11_confess : ByteArray := prog_1_method_54_code
def yX11_confess : MethodName := ⟨RX11, "confess", "(I)I"⟩
abbrev cX11_clear : ByteArray := prog_1_method_55_code
def yX11_clear : MethodName := ⟨RX11, "clear", "(II)I"⟩
abbrev cX11_now : ByteArray := prog_1_method_56_code
def yX11_now : MethodName := ⟨RX11, "now", "(I)I"⟩
abbrev cX11_has : ByteArray := prog_1_method_57_code
def yX11_has : MethodName := ⟨RX11, "has", "(I)I"⟩
abbrev cX11_done : ByteArray := prog_1_method_58_code
def yX11_done : MethodName := ⟨RX11, "done", "()I"⟩
abbrev cX11_sum : ByteArray := prog_1_method_59_code
def yX11_sum : MethodName := ⟨RX11, "sum", "()I"⟩
abbrev cX11_undo : ByteArray := prog_1_method_60_code
def yX11_undo : MethodName := ⟨RX11, "undo", "()I"⟩
abbrev cX11_anew : ByteArray := prog_1_method_61_code
def yX11_anew : MethodName := ⟨RX11, "anew", "()I"⟩
abbrev cX11_drawn : ByteArray := prog_1_method_62_code
def yX11_drawn : MethodName := ⟨RX11, "drawn", "(II)I"⟩
abbrev cX11_fate : ByteArray := prog_1_method_63_code
def yX11_fate : MethodName := ⟨RX11, "fate", "(II)I"⟩
abbrev cX11_luck : ByteArray := prog_1_method_64_code
def yX11_luck : MethodName := ⟨RX11, "luck", "(III)I"⟩
abbrev cX11_isSeed : ByteArray := prog_1_method_65_code
def yX11_isSeed : MethodName := ⟨RX11, "isSeed", "(I)Z"⟩
abbrev cX11_set : ByteArray := prog_1_method_66_code
def yX11_set : MethodName := ⟨RX11, "set", "(II)I"⟩
abbrev cX11_move : ByteArray := prog_1_method_67_code
def yX11_move : MethodName := ⟨RX11, "move", "(II)I"⟩
abbrev cX11_count : ByteArray := prog_1_method_68_code
def yX11_count : MethodName := ⟨RX11, "count", "(I)I"⟩
abbrev cX11_image : ByteArray := prog_1_method_69_code
def yX11_image : MethodName := ⟨RX11, "image", "(I)I"⟩
abbrev cX11_again : ByteArray := prog_1_method_70_code
def yX11_again : MethodName := ⟨RX11, "again", "(I)I"⟩
abbrev cX11_row : ByteArray := prog_1_method_71_code
def yX11_row : MethodName := ⟨RX11, "row", "(III)I"⟩
abbrev cX11_write : ByteArray := prog_1_method_72_code
def yX11_write : MethodName := ⟨RX11, "write", "(IIJ)I"⟩
abbrev cX11_paste : ByteArray := prog_1_method_73_code
def yX11_paste : MethodName := ⟨RX11, "paste", "(IIIII)I"⟩
def RX12 : String := "PassedPenanceModel"
def TX12 : u_T := fun k => match k with
  | 0 => ("PassedPenanceModel", "thrown", "I", false)
  | 1 => ("PassedPenanceModel", "width", "[I", true)
  | 2 => ("PassedPenanceModel", "many", "[I", true)
  | 3 => ("PassedPenanceModel", "cells", "[J", true)
  | 4 => ("PassedPenanceModel", "moved", "[J", true)
  | 5 => ("PassedPenanceModel", "tape", "[B", true)
  | 6 => ("PassedPenanceModel", "taped", "I", false)
  | 7 => ("PassedPenanceModel", "at", "I", false)
  | 8 => ("PassedPenanceModel", "token", "I", false)
  | 9 => ("PassedPenanceModel", "place", "I", false)
  | 10 => ("PassedPenanceModel", "value", "I", false)
  | 11 => ("PassedPenanceModel", "word", "J", false)
  | 12 => ("PassedPenanceModel", "bad", "I", false)
  | 13 => ("PassedPenanceModel", "badPlace", "I", false)
  | 14 => ("PassedPenanceModel", "fault", "I", false)
  | 15 => ("PassedPenanceModel", "faultPlace", "I", false)
  | 16 => ("PassedPenanceModel", "lines", "[I", true)
  | 17 => ("PassedPenanceModel", "has", "[I", true)
  | 18 => ("PassedPenanceModel", "days", "[I", true)
  | 19 => ("PassedPenanceModel", "person", "[I", true)
  | 20 => ("PassedPenanceModel", "lying", "[I", true)
  | 21 => ("PassedPenanceModel", "act", "[I", true)
  | 22 => ("PassedPenanceModel", "isKept", "[Z", true)
  | 23 => ("PassedPenanceModel", "hours", "[I", true)
  | 24 => ("PassedPenanceModel", "coming", "I", false)
  | 25 => ("PassedPenanceModel", "sinsLeast", "I", false)
  | 26 => ("PassedPenanceModel", "best", "[I", true)
  | 27 => ("PassedPenanceModel", "ways", "[I", true)
  | 28 => ("PassedPenanceModel", "got", "[I", true)
  | 29 => ("PassedPenanceModel", "from", "[I", true)
  | 30 => ("PassedPenanceModel", "mostRings", "I", false)
  | 31 => ("PassedPenanceModel", "dealt", "[I", true)
  | 32 => ("PassedPenanceModel", "seen", "[I", true)
  | 33 => ("PassedPenanceModel", "firsts", "[I", true)
  | 34 => ("PassedPenanceModel", "often", "[I", true)
  | 35 => ("PassedPenanceModel", "now", "[I", true)
  | 36 => ("PassedPenanceModel", "fitMany", "I", false)
  | 37 => ("PassedPenanceModel", "askBest", "I", false)
  | 38 => ("PassedPenanceModel", "askLeaves", "I", false)
  | 39 => ("PassedPenanceModel", "passBelow", "J", false)
  | 40 => ("PassedPenanceModel", "lies", "[I", true)
  | _ => ("PassedPenanceModel", "hasNow", "[I", true)
def tyX12 : Nat → FieldType := fun k => match k with
  | 0 => .int
  | 1 => .array .int
  | 2 => .array .int
  | 3 => .array .long
  | 4 => .array .long
  | 5 => .array .byte
  | 6 => .int
  | 7 => .int
  | 8 => .int
  | 9 => .int
  | 10 => .int
  | 11 => .long
  | 12 => .int
  | 13 => .int
  | 14 => .int
  | 15 => .int
  | 16 => .array .int
  | 17 => .array .int
  | 18 => .array .int
  | 19 => .array .int
  | 20 => .array .int
  | 21 => .array .int
  | 22 => .array .boolean
  | 23 => .array .int
  | 24 => .int
  | 25 => .int
  | 26 => .array .int
  | 27 => .array .int
  | 28 => .array .int
  | 29 => .array .int
  | 30 => .int
  | 31 => .array .int
  | 32 => .array .int
  | 33 => .array .int
  | 34 => .array .int
  | 35 => .array .int
  | 36 => .int
  | 37 => .int
  | 38 => .int
  | 39 => .long
  | 40 => .array .int
  | _ => .array .int
abbrev wsX120 : List Cond := u_ws RX12 TX12 42
theorem nmX12 : ∀ a, a < 42 → ∀ b, b < 42 → a ≠ b → (TX12 a).2.1 ≠ (TX12 b).2.1 := by decide +kernel
theorem tyX12_ok : ∀ k, k < 42 → parseFieldDescriptor (TX12 k).2.2.1 = some (tyX12 k) := by decide +kernel
abbrev cX12_init : ByteArray := prog_14_method_1_code
def yX12_init : MethodName := ⟨RX12, "<init>", "()V"⟩
abbrev cX12_in : ByteArray := prog_14_method_3_code
def yX12_in : MethodName := ⟨RX12, "in", "(JJJ)Z"⟩
abbrev cX12_isSlot : ByteArray := prog_14_method_4_code
def yX12_isSlot : MethodName := ⟨RX12, "isSlot", "(I)Z"⟩
abbrev cX12_row : ByteArray := prog_14_method_5_code
def yX12_row : MethodName := ⟨RX12, "row", "(III)I"⟩
abbrev cX12_cut : ByteArray := prog_14_method_6_code
def yX12_cut : MethodName := ⟨RX12, "cut", "(JI)J"⟩
abbrev cX12_write : ByteArray := prog_14_method_7_code
def yX12_write : MethodName := ⟨RX12, "write", "(IIJ)I"⟩
abbrev cX12_paste : ByteArray := prog_14_method_8_code
def yX12_paste : MethodName := ⟨RX12, "paste", "(IIIII)I"⟩
abbrev cX12_feed : ByteArray := prog_14_method_9_code
def yX12_feed : MethodName := ⟨RX12, "feed", "(IIIII)I"⟩
abbrev cX12_four : ByteArray := prog_14_method_10_code
def yX12_four : MethodName := ⟨RX12, "four", "(I)V"⟩
abbrev cX12_end : ByteArray := prog_14_method_11_code
def yX12_end : MethodName := ⟨RX12, "end", "(I)I"⟩
abbrev cX12_isByte : ByteArray := prog_14_method_12_code
def yX12_isByte : MethodName := ⟨RX12, "isByte", "(III)Z"⟩
abbrev cX12_next : ByteArray := prog_14_method_13_code
def yX12_next : MethodName := ⟨RX12, "next", "()V"⟩
abbrev cX12_isGood : ByteArray := prog_14_method_14_code
def yX12_isGood : MethodName := ⟨RX12, "isGood", "()Z"⟩
abbrev cX12_fails : ByteArray := prog_14_method_15_code
def yX12_fails : MethodName := ⟨RX12, "fails", "(I)V"⟩
abbrev cX12_is : ByteArray := prog_14_method_16_code
def yX12_is : MethodName := ⟨RX12, "is", "(J)Z"⟩
abbrev cX12_takes : ByteArray := prog_14_method_17_code
def yX12_takes : MethodName := ⟨RX12, "takes", "(J)Z"⟩
abbrev cX12_asks : ByteArray := prog_14_method_18_code
def yX12_asks : MethodName := ⟨RX12, "asks", "(J)V"⟩
abbrev cX12_number : ByteArray := prog_14_method_19_code
def yX12_number : MethodName := ⟨RX12, "number", "(II)I"⟩
abbrev cX12_number_ : ByteArray := prog_14_method_20_code
def yX12_number_ : MethodName := ⟨RX12, "number", "(JII)I"⟩
abbrev cX12_ends : ByteArray := prog_14_method_21_code
def yX12_ends : MethodName := ⟨RX12, "ends", "()V"⟩
abbrev cX12_begins : ByteArray := prog_14_method_22_code
def yX12_begins : MethodName := ⟨RX12, "begins", "()V"⟩
abbrev cX12_isOver : ByteArray := prog_14_method_23_code
def yX12_isOver : MethodName := ⟨RX12, "isOver", "()V"⟩
abbrev cX12_fault : ByteArray := prog_14_method_24_code
def yX12_fault : MethodName := ⟨RX12, "fault", "(I)I"⟩
abbrev cX12_hasRead : ByteArray := prog_14_method_25_code
def yX12_hasRead : MethodName := ⟨RX12, "hasRead", "(I)I"⟩
abbrev cX12_tells : ByteArray := prog_14_method_26_code
def yX12_tells : MethodName := ⟨RX12, "tells", "(II)V"⟩
abbrev cX12_penanceHere : ByteArray := prog_14_method_27_code
def yX12_penanceHere : MethodName := ⟨RX12, "penanceHere", "()I"⟩
abbrev cX12_boxHere : ByteArray := prog_14_method_28_code
def yX12_boxHere : MethodName := ⟨RX12, "boxHere", "()I"⟩
abbrev cX12_personLine : ByteArray := prog_14_method_29_code
def yX12_personLine : MethodName := ⟨RX12, "personLine", "()V"⟩
abbrev cX12_isRoom : ByteArray := prog_14_method_30_code
def yX12_isRoom : MethodName := ⟨RX12, "isRoom", "(ZII)Z"⟩
abbrev cX12_line : ByteArray := prog_14_method_31_code
def yX12_line : MethodName := ⟨RX12, "line", "()V"⟩
abbrev cX12_clears : ByteArray := prog_14_method_32_code
def yX12_clears : MethodName := ⟨RX12, "clears", "()V"⟩
abbrev cX12_church : ByteArray := prog_14_method_33_code
def yX12_church : MethodName := ⟨RX12, "church", "()I"⟩
abbrev cX12_copyRow : ByteArray := prog_14_method_34_code
def yX12_copyRow : MethodName := ⟨RX12, "copyRow", "([IIII)V"⟩
abbrev cX12_copyChurch : ByteArray := prog_14_method_35_code
def yX12_copyChurch : MethodName := ⟨RX12, "copyChurch", "(II)V"⟩
abbrev cX12_isChurch : ByteArray := prog_14_method_36_code
def yX12_isChurch : MethodName := ⟨RX12, "isChurch", "()Z"⟩
abbrev cX12_isPenance : ByteArray := prog_14_method_37_code
def yX12_isPenance : MethodName := ⟨RX12, "isPenance", "(J)Z"⟩
abbrev cX12_isPerson : ByteArray := prog_14_method_38_code
def yX12_isPerson : MethodName := ⟨RX12, "isPerson", "(J)Z"⟩
abbrev cX12_isBox : ByteArray := prog_14_method_39_code
def yX12_isBox : MethodName := ⟨RX12, "isBox", "(I)Z"⟩
abbrev cX12_isHour : ByteArray := prog_14_method_40_code
def yX12_isHour : MethodName := ⟨RX12, "isHour", "(I)Z"⟩
abbrev cX12_isBit : ByteArray := prog_14_method_41_code
def yX12_isBit : MethodName := ⟨RX12, "isBit", "(II)Z"⟩
abbrev cX12_sinOf : ByteArray := prog_14_method_42_code
def yX12_sinOf : MethodName := ⟨RX12, "sinOf", "(I)I"⟩
abbrev cX12_boxOf : ByteArray := prog_14_method_43_code
def yX12_boxOf : MethodName := ⟨RX12, "boxOf", "(I)I"⟩
abbrev cX12_costOf : ByteArray := prog_14_method_44_code
def yX12_costOf : MethodName := ⟨RX12, "costOf", "(II)I"⟩
abbrev cX12_everybody : ByteArray := prog_14_method_45_code
def yX12_everybody : MethodName := ⟨RX12, "everybody", "()I"⟩
abbrev cX12_of : ByteArray := prog_14_method_46_code
def yX12_of : MethodName := ⟨RX12, "of", "(I)I"⟩
abbrev cX12_lays : ByteArray := prog_14_method_47_code
def yX12_lays : MethodName := ⟨RX12, "lays", "()V"⟩
abbrev cX12_isAhead : ByteArray := prog_14_method_48_code
def yX12_isAhead : MethodName := ⟨RX12, "isAhead", "(II)Z"⟩
abbrev cX12_aheadOf : ByteArray := prog_14_method_49_code
def yX12_aheadOf : MethodName := ⟨RX12, "aheadOf", "(I)I"⟩
abbrev cX12_getsOf : ByteArray := prog_14_method_50_code
def yX12_getsOf : MethodName := ⟨RX12, "getsOf", "(I)I"⟩
abbrev cX12_hasCost : ByteArray := prog_14_method_51_code
def yX12_hasCost : MethodName := ⟨RX12, "hasCost", "(I)I"⟩
abbrev cX12_penance : ByteArray := prog_14_method_52_code
def yX12_penance : MethodName := ⟨RX12, "penance", "(I)I"⟩
abbrev cX12_person : ByteArray := prog_14_method_53_code
def yX12_person : MethodName := ⟨RX12, "person", "(II)I"⟩
abbrev cX12_minds : ByteArray := prog_14_method_54_code
def yX12_minds : MethodName := ⟨RX12, "minds", "(II)I"⟩
abbrev cX12_cost : ByteArray := prog_14_method_55_code
def yX12_cost : MethodName := ⟨RX12, "cost", "(II)I"⟩
abbrev cX12_box : ByteArray := prog_14_method_56_code
def yX12_box : MethodName := ⟨RX12, "box", "(I)I"⟩
abbrev cX12_queue : ByteArray := prog_14_method_57_code
def yX12_queue : MethodName := ⟨RX12, "queue", "(II)I"⟩
abbrev cX12_gets : ByteArray := prog_14_method_58_code
def yX12_gets : MethodName := ⟨RX12, "gets", "(I)I"⟩
abbrev cX12_giver : ByteArray := prog_14_method_59_code
def yX12_giver : MethodName := ⟨RX12, "giver", "(I)I"⟩
abbrev cX12_back : ByteArray := prog_14_method_60_code
def yX12_back : MethodName := ⟨RX12, "back", "(II)I"⟩
abbrev cX12_last : ByteArray := prog_14_method_61_code
def yX12_last : MethodName := ⟨RX12, "last", "(I)I"⟩
abbrev cX12_bears : ByteArray := prog_14_method_62_code
def yX12_bears : MethodName := ⟨RX12, "bears", "(I)I"⟩
abbrev cX12_own : ByteArray := prog_14_method_63_code
def yX12_own : MethodName := ⟨RX12, "own", "()I"⟩
abbrev cX12_gain : ByteArray := prog_14_method_64_code
def yX12_gain : MethodName := ⟨RX12, "gain", "()I"⟩
abbrev cX12_worst : ByteArray := prog_14_method_65_code
def yX12_worst : MethodName := ⟨RX12, "worst", "()I"⟩
abbrev cX12_passes : ByteArray := prog_14_method_66_code
def yX12_passes : MethodName := ⟨RX12, "passes", "(I)I"⟩
abbrev cX12_ahead : ByteArray := prog_14_method_67_code
def yX12_ahead : MethodName := ⟨RX12, "ahead", "(I)I"⟩
abbrev cX12_kneel : ByteArray := prog_14_method_68_code
def yX12_kneel : MethodName := ⟨RX12, "kneel", "(I)I"⟩
abbrev cX12_sinnedOf : ByteArray := prog_14_method_69_code
def yX12_sinnedOf : MethodName := ⟨RX12, "sinnedOf", "(I)I"⟩
abbrev cX12_sins : ByteArray := prog_14_method_70_code
def yX12_sins : MethodName := ⟨RX12, "sins", "(I)I"⟩
abbrev cX12_sinned : ByteArray := prog_14_method_71_code
def yX12_sinned : MethodName := ⟨RX12, "sinned", "(I)I"⟩
abbrev cX12_stepOf : ByteArray := prog_14_method_72_code
def yX12_stepOf : MethodName := ⟨RX12, "stepOf", "(IIII)I"⟩
abbrev cX12_joined : ByteArray := prog_14_method_73_code
def yX12_joined : MethodName := ⟨RX12, "joined", "(III)I"⟩
abbrev cX12_isBetter : ByteArray := prog_14_method_74_code
def yX12_isBetter : MethodName := ⟨RX12, "isBetter", "(III)Z"⟩
abbrev cX12_laysOrders : ByteArray := prog_14_method_75_code
def yX12_laysOrders : MethodName := ⟨RX12, "laysOrders", "(II)V"⟩
abbrev cX12_bestBy : ByteArray := prog_14_method_76_code
def yX12_bestBy : MethodName := ⟨RX12, "bestBy", "(II)I"⟩
abbrev cX12_best : ByteArray := prog_14_method_77_code
def yX12_best : MethodName := ⟨RX12, "best", "(I)I"⟩
abbrev cX12_orders : ByteArray := prog_14_method_78_code
def yX12_orders : MethodName := ⟨RX12, "orders", "(II)I"⟩
abbrev cX12_most : ByteArray := prog_14_method_79_code
def yX12_most : MethodName := ⟨RX12, "most", "(I)I"⟩
abbrev cX12_fair : ByteArray := prog_14_method_80_code
def yX12_fair : MethodName := ⟨RX12, "fair", "(I)I"⟩
abbrev cX12_likes : ByteArray := prog_14_method_81_code
def yX12_likes : MethodName := ⟨RX12, "likes", "(I)I"⟩
abbrev cX12_ways : ByteArray := prog_14_method_82_code
def yX12_ways : MethodName := ⟨RX12, "ways", "(I)I"⟩
abbrev cX12_comesIn : ByteArray := prog_14_method_83_code
def yX12_comesIn : MethodName := ⟨RX12, "comesIn", "(II)I"⟩
abbrev cX12_hourOf : ByteArray := prog_14_method_84_code
def yX12_hourOf : MethodName := ⟨RX12, "hourOf", "(I)I"⟩
abbrev cX12_stirs : ByteArray := prog_14_method_85_code
def yX12_stirs : MethodName := ⟨RX12, "stirs", "(I)Z"⟩
abbrev cX12_comes : ByteArray := prog_14_method_86_code
def yX12_comes : MethodName := ⟨RX12, "comes", "(II)I"⟩
abbrev cX12_hour : ByteArray := prog_14_method_87_code
def yX12_hour : MethodName := ⟨RX12, "hour", "(I)I"⟩
abbrev cX12_stir : ByteArray := prog_14_method_88_code
def yX12_stir : MethodName := ⟨RX12, "stir", "()I"⟩
abbrev cX12_settle : ByteArray := prog_14_method_89_code
def yX12_settle : MethodName := ⟨RX12, "settle", "()I"⟩
abbrev cX12_settles : ByteArray := prog_14_method_90_code
def yX12_settles : MethodName := ⟨RX12, "settles", "()I"⟩
abbrev cX12_settled : ByteArray := prog_14_method_91_code
def yX12_settled : MethodName := ⟨RX12, "settled", "(I)I"⟩
abbrev cX12_laysGot : ByteArray := prog_14_method_92_code
def yX12_laysGot : MethodName := ⟨RX12, "laysGot", "()V"⟩
abbrev cX12_rings : ByteArray := prog_14_method_93_code
def yX12_rings : MethodName := ⟨RX12, "rings", "()I"⟩
abbrev cX12_deals : ByteArray := prog_14_method_94_code
def yX12_deals : MethodName := ⟨RX12, "deals", "(II)V"⟩
abbrev cX12_fewestSwaps : ByteArray := prog_14_method_95_code
def yX12_fewestSwaps : MethodName := ⟨RX12, "fewestSwaps", "()I"⟩
abbrev cX12_swaps : ByteArray := prog_14_method_96_code
def yX12_swaps : MethodName := ⟨RX12, "swaps", "()I"⟩
abbrev cX12_changes : ByteArray := prog_14_method_97_code
def yX12_changes : MethodName := ⟨RX12, "changes", "(II)V"⟩
abbrev cX12_swap : ByteArray := prog_14_method_98_code
def yX12_swap : MethodName := ⟨RX12, "swap", "(I)I"⟩
abbrev cX12_trades : ByteArray := prog_14_method_99_code
def yX12_trades : MethodName := ⟨RX12, "trades", "()I"⟩
abbrev cX12_laysDeal : ByteArray := prog_14_method_100_code
def yX12_laysDeal : MethodName := ⟨RX12, "laysDeal", "()V"⟩
abbrev cX12_deal : ByteArray := prog_14_method_101_code
def yX12_deal : MethodName := ⟨RX12, "deal", "()I"⟩
abbrev cX12_dealOf : ByteArray := prog_14_method_102_code
def yX12_dealOf : MethodName := ⟨RX12, "dealOf", "(II)I"⟩
abbrev cX12_dealt : ByteArray := prog_14_method_103_code
def yX12_dealt : MethodName := ⟨RX12, "dealt", "(I)I"⟩
abbrev cX12_whyNot : ByteArray := prog_14_method_104_code
def yX12_whyNot : MethodName := ⟨RX12, "whyNot", "(II)I"⟩
abbrev cX12_laysFits : ByteArray := prog_14_method_105_code
def yX12_laysFits : MethodName := ⟨RX12, "laysFits", "(II)V"⟩
abbrev cX12_comesNext : ByteArray := prog_14_method_106_code
def yX12_comesNext : MethodName := ⟨RX12, "comesNext", "(IIII)V"⟩
abbrev cX12_fits : ByteArray := prog_14_method_107_code
def yX12_fits : MethodName := ⟨RX12, "fits", "(II)I"⟩
abbrev cX12_firsts : ByteArray := prog_14_method_108_code
def yX12_firsts : MethodName := ⟨RX12, "firsts", "(II)I"⟩
abbrev cX12_may : ByteArray := prog_14_method_109_code
def yX12_may : MethodName := ⟨RX12, "may", "(III)I"⟩
abbrev cX12_laysAsk : ByteArray := prog_14_method_110_code
def yX12_laysAsk : MethodName := ⟨RX12, "laysAsk", "(II)V"⟩
abbrev cX12_ask : ByteArray := prog_14_method_111_code
def yX12_ask : MethodName := ⟨RX12, "ask", "(II)I"⟩
abbrev cX12_leaves : ByteArray := prog_14_method_112_code
def yX12_leaves : MethodName := ⟨RX12, "leaves", "(II)I"⟩
abbrev cX12_whyNotMean : ByteArray := prog_14_method_113_code
def yX12_whyNotMean : MethodName := ⟨RX12, "whyNotMean", "(II)I"⟩
abbrev cX12_allOf : ByteArray := prog_14_method_114_code
def yX12_allOf : MethodName := ⟨RX12, "allOf", "(I)J"⟩
abbrev cX12_common : ByteArray := prog_14_method_115_code
def yX12_common : MethodName := ⟨RX12, "common", "(JJ)J"⟩
abbrev cX12_part : ByteArray := prog_14_method_116_code
def yX12_part : MethodName := ⟨RX12, "part", "(JJI)J"⟩
abbrev cX12_passOf : ByteArray := prog_14_method_117_code
def yX12_passOf : MethodName := ⟨RX12, "passOf", "(III)J"⟩
abbrev cX12_mean : ByteArray := prog_14_method_118_code
def yX12_mean : MethodName := ⟨RX12, "mean", "(III)J"⟩
abbrev cX12_choose : ByteArray := prog_14_method_119_code
def yX12_choose : MethodName := ⟨RX12, "choose", "(I)I"⟩
abbrev cX12_pass : ByteArray := prog_14_method_120_code
def yX12_pass : MethodName := ⟨RX12, "pass", "(IIII)J"⟩
abbrev cX12_takes_ : ByteArray := prog_14_method_121_code
def yX12_takes_ : MethodName := ⟨RX12, "takes", "(III)I"⟩
abbrev cX12_laysNow : ByteArray := prog_14_method_122_code
def yX12_laysNow : MethodName := ⟨RX12, "laysNow", "()V"⟩
abbrev cX12_isFull : ByteArray := prog_14_method_123_code
def yX12_isFull : MethodName := ⟨RX12, "isFull", "()Z"⟩
abbrev cX12_acts : ByteArray := prog_14_method_124_code
def yX12_acts : MethodName := ⟨RX12, "acts", "(II)V"⟩
abbrev cX12_confess : ByteArray := prog_14_method_125_code
def yX12_confess : MethodName := ⟨RX12, "confess", "(I)I"⟩
abbrev cX12_clear : ByteArray := prog_14_method_126_code
def yX12_clear : MethodName := ⟨RX12, "clear", "(II)I"⟩
abbrev cX12_now : ByteArray := prog_14_method_127_code
def yX12_now : MethodName := ⟨RX12, "now", "(I)I"⟩
abbrev cX12_has : ByteArray := prog_14_method_128_code
def yX12_has : MethodName := ⟨RX12, "has", "(I)I"⟩
abbrev cX12_done : ByteArray := prog_14_method_129_code
def yX12_done : MethodName := ⟨RX12, "done", "()I"⟩
abbrev cX12_sum : ByteArray := prog_14_method_130_code
def yX12_sum : MethodName := ⟨RX12, "sum", "()I"⟩
abbrev cX12_undo : ByteArray := prog_14_method_131_code
def yX12_undo : MethodName := ⟨RX12, "undo", "()I"⟩
abbrev cX12_anew : ByteArray := prog_14_method_132_code
def yX12_anew : MethodName := ⟨RX12, "anew", "()I"⟩
abbrev cX12_draws : ByteArray := prog_14_method_133_code
def yX12_draws : MethodName := ⟨RX12, "draws", "(J)V"⟩
abbrev cX12_isSeed : ByteArray := prog_14_method_134_code
def yX12_isSeed : MethodName := ⟨RX12, "isSeed", "(I)Z"⟩
abbrev cX12_drawn : ByteArray := prog_14_method_135_code
def yX12_drawn : MethodName := ⟨RX12, "drawn", "(II)I"⟩
abbrev cX12_fate : ByteArray := prog_14_method_136_code
def yX12_fate : MethodName := ⟨RX12, "fate", "(II)I"⟩
abbrev cX12_luck : ByteArray := prog_14_method_137_code
def yX12_luck : MethodName := ⟨RX12, "luck", "(III)I"⟩
abbrev cX12_set : ByteArray := prog_14_method_138_code
def yX12_set : MethodName := ⟨RX12, "set", "(II)I"⟩
abbrev cX12_move : ByteArray := prog_14_method_139_code
def yX12_move : MethodName := ⟨RX12, "move", "(II)I"⟩
abbrev cX12_count : ByteArray := prog_14_method_140_code
def yX12_count : MethodName := ⟨RX12, "count", "(I)I"⟩
abbrev cX12_image : ByteArray := prog_14_method_141_code
def yX12_image : MethodName := ⟨RX12, "image", "(I)I"⟩
abbrev cX12_again : ByteArray := prog_14_method_142_code
def yX12_again : MethodName := ⟨RX12, "again", "(I)I"⟩
def RJx145de : String := "java/io/Serializable"
def TJx145de : u_T := fun k => match k with
  | _ => ("", "", "", false)
def tyJx145de : Nat → FieldType := fun k => match k with
  | _ => .int
abbrev wsJx145de0 : List Cond := u_ws RJx145de TJx145de 0
theorem nmJx145de : ∀ a, a < 0 → ∀ b, b < 0 → a ≠ b → (TJx145de a).2.1 ≠ (TJx145de b).2.1 := by decide +kernel
theorem tyJx145de_ok : ∀ k, k < 0 → parseFieldDescriptor (TJx145de k).2.2.1 = some (tyJx145de k) := by decide +kernel
def RJx9f9b0 : String := "java/lang/CharSequence"
def TJx9f9b0 : u_T := fun k => match k with
  | _ => ("", "", "", false)
def tyJx9f9b0 : Nat → FieldType := fun k => match k with
  | _ => .int
abbrev wsJx9f9b00 : List Cond := u_ws RJx9f9b0 TJx9f9b0 0
theorem nmJx9f9b0 : ∀ a, a < 0 → ∀ b, b < 0 → a ≠ b → (TJx9f9b0 a).2.1 ≠ (TJx9f9b0 b).2.1 := by decide +kernel
theorem tyJx9f9b0_ok : ∀ k, k < 0 → parseFieldDescriptor (TJx9f9b0 k).2.2.1 = some (tyJx9f9b0 k) := by decide +kernel
def RJxb160c : String := "java/lang/Comparable"
def TJxb160c : u_T := fun k => match k with
  | _ => ("", "", "", false)
def tyJxb160c : Nat → FieldType := fun k => match k with
  | _ => .int
abbrev wsJxb160c0 : List Cond := u_ws RJxb160c TJxb160c 0
theorem nmJxb160c : ∀ a, a < 0 → ∀ b, b < 0 → a ≠ b → (TJxb160c a).2.1 ≠ (TJxb160c b).2.1 := by decide +kernel
theorem tyJxb160c_ok : ∀ k, k < 0 → parseFieldDescriptor (TJxb160c k).2.2.1 = some (tyJxb160c k) := by decide +kernel
def RJ6 : String := "java/lang/Integer"
def TJ6 : u_T := fun k => match k with
  | _ => ("", "", "", false)
def tyJ6 : Nat → FieldType := fun k => match k with
  | _ => .int
abbrev wsJ60 : List Cond := u_ws RJ6 TJ6 0
theorem nmJ6 : ∀ a, a < 0 → ∀ b, b < 0 → a ≠ b → (TJ6 a).2.1 ≠ (TJ6 b).2.1 := by decide +kernel
theorem tyJ6_ok : ∀ k, k < 0 → parseFieldDescriptor (TJ6 k).2.2.1 = some (tyJ6 k) := by decide +kernel
abbrev cJ6_bitCount_0f7a4 : ByteArray := prog_15_method_49_code
def yJ6_bitCount_0f7a4 : MethodName := ⟨RJ6, "bitCount", "(I)I"⟩
def RJ9 : String := "java/lang/Math"
def TJ9 : u_T := fun k => match k with
  | _ => ("", "", "", false)
def tyJ9 : Nat → FieldType := fun k => match k with
  | _ => .int
abbrev wsJ90 : List Cond := u_ws RJ9 TJ9 0
theorem nmJ9 : ∀ a, a < 0 → ∀ b, b < 0 → a ≠ b → (TJ9 a).2.1 ≠ (TJ9 b).2.1 := by decide +kernel
theorem tyJ9_ok : ∀ k, k < 0 → parseFieldDescriptor (TJ9 k).2.2.1 = some (tyJ9 k) := by decide +kernel
abbrev cJ9_max_7cf53 : ByteArray := prog_16_method_65_code
def yJ9_max_7cf53 : MethodName := ⟨RJ9, "max", "(II)I"⟩
abbrev cJ9_min_7cf53 : ByteArray := prog_16_method_69_code
def yJ9_min_7cf53 : MethodName := ⟨RJ9, "min", "(II)I"⟩
def RJ0 : String := "java/lang/String"
def TJ0 : u_T := fun k => match k with
  | _ => ("", "", "", false)
def tyJ0 : Nat → FieldType := fun k => match k with
  | _ => .int
abbrev wsJ00 : List Cond := u_ws RJ0 TJ0 0
theorem nmJ0 : ∀ a, a < 0 → ∀ b, b < 0 → a ≠ b → (TJ0 a).2.1 ≠ (TJ0 b).2.1 := by decide +kernel
theorem tyJ0_ok : ∀ k, k < 0 → parseFieldDescriptor (TJ0 k).2.2.1 = some (tyJ0 k) := by decide +kernel
abbrev cJ0_length_8abf5 : ByteArray := prog_17_method_54_code
def yJ0_length_8abf5 : MethodName := ⟨RJ0, "length", "()I"⟩
abbrev cJ0_charAt_5068e : ByteArray := prog_17_method_56_code
def yJ0_charAt_5068e : MethodName := ⟨RJ0, "charAt", "(I)C"⟩
abbrev cJ0_coder_7d493 : ByteArray := prog_17_method_152_code
def yJ0_coder_7d493 : MethodName := ⟨RJ0, "coder", "()B"⟩
abbrev cJ0_isLatin1_aae02 : ByteArray := prog_17_method_154_code
def yJ0_isLatin1_aae02 : MethodName := ⟨RJ0, "isLatin1", "()Z"⟩
abbrev cJ0_checkIndex_df160 : ByteArray := prog_17_method_155_code
def yJ0_checkIndex_df160 : MethodName := ⟨RJ0, "checkIndex", "(II)V"⟩
def RJ1 : String := "java/lang/StringLatin1"
def TJ1 : u_T := fun k => match k with
  | _ => ("", "", "", false)
def tyJ1 : Nat → FieldType := fun k => match k with
  | _ => .int
abbrev wsJ10 : List Cond := u_ws RJ1 TJ1 0
theorem nmJ1 : ∀ a, a < 0 → ∀ b, b < 0 → a ≠ b → (TJ1 a).2.1 ≠ (TJ1 b).2.1 := by decide +kernel
theorem tyJ1_ok : ∀ k, k < 0 → parseFieldDescriptor (TJ1 k).2.2.1 = some (tyJ1 k) := by decide +kernel
abbrev cJ1_charAt_3b067 : ByteArray := prog_18_method_2_code
def yJ1_charAt_3b067 : MethodName := ⟨RJ1, "charAt", "([BI)C"⟩
def RJ2 : String := "java/lang/StringUTF16"
def TJ2 : u_T := fun k => match k with
  | _ => ("", "", "", false)
def tyJ2 : Nat → FieldType := fun k => match k with
  | _ => .int
abbrev wsJ20 : List Cond := u_ws RJ2 TJ2 0
theorem nmJ2 : ∀ a, a < 0 → ∀ b, b < 0 → a ≠ b → (TJ2 a).2.1 ≠ (TJ2 b).2.1 := by decide +kernel
theorem tyJ2_ok : ∀ k, k < 0 → parseFieldDescriptor (TJ2 k).2.2.1 = some (tyJ2 k) := by decide +kernel
abbrev cJ2_getChar_3b067 : ByteArray := prog_19_method_5_code
def yJ2_getChar_3b067 : MethodName := ⟨RJ2, "getChar", "([BI)C"⟩
abbrev cJ2_length_9d52b : ByteArray := prog_19_method_6_code
def yJ2_length_9d52b : MethodName := ⟨RJ2, "length", "([B)I"⟩
abbrev cJ2_charAt_3b067 : ByteArray := prog_19_method_83_code
def yJ2_charAt_3b067 : MethodName := ⟨RJ2, "charAt", "([BI)C"⟩
abbrev cJ2_checkIndex_2214a : ByteArray := prog_19_method_91_code
def yJ2_checkIndex_2214a : MethodName := ⟨RJ2, "checkIndex", "(I[B)V"⟩
def RJ10 : String := "java/lang/System"
def TJ10 : u_T := fun k => match k with
  | _ => ("", "", "", false)
def tyJ10 : Nat → FieldType := fun k => match k with
  | _ => .int
abbrev wsJ100 : List Cond := u_ws RJ10 TJ10 0
theorem nmJ10 : ∀ a, a < 0 → ∀ b, b < 0 → a ≠ b → (TJ10 a).2.1 ≠ (TJ10 b).2.1 := by decide +kernel
theorem tyJ10_ok : ∀ k, k < 0 → parseFieldDescriptor (TJ10 k).2.2.1 = some (tyJ10 k) := by decide +kernel
def RJxfd54e : String := "java/lang/constant/Constable"
def TJxfd54e : u_T := fun k => match k with
  | _ => ("", "", "", false)
def tyJxfd54e : Nat → FieldType := fun k => match k with
  | _ => .int
abbrev wsJxfd54e0 : List Cond := u_ws RJxfd54e TJxfd54e 0
theorem nmJxfd54e : ∀ a, a < 0 → ∀ b, b < 0 → a ≠ b → (TJxfd54e a).2.1 ≠ (TJxfd54e b).2.1 := by decide +kernel
theorem tyJxfd54e_ok : ∀ k, k < 0 → parseFieldDescriptor (TJxfd54e k).2.2.1 = some (tyJxfd54e k) := by decide +kernel
def RJx3cf43 : String := "java/lang/constant/ConstantDesc"
def TJx3cf43 : u_T := fun k => match k with
  | _ => ("", "", "", false)
def tyJx3cf43 : Nat → FieldType := fun k => match k with
  | _ => .int
abbrev wsJx3cf430 : List Cond := u_ws RJx3cf43 TJx3cf43 0
theorem nmJx3cf43 : ∀ a, a < 0 → ∀ b, b < 0 → a ≠ b → (TJx3cf43 a).2.1 ≠ (TJx3cf43 b).2.1 := by decide +kernel
theorem tyJx3cf43_ok : ∀ k, k < 0 → parseFieldDescriptor (TJx3cf43 k).2.2.1 = some (tyJx3cf43 k) := by decide +kernel
def RJ7 : String := "java/util/Arrays"
def TJ7 : u_T := fun k => match k with
  | _ => ("", "", "", false)
def tyJ7 : Nat → FieldType := fun k => match k with
  | _ => .int
abbrev wsJ70 : List Cond := u_ws RJ7 TJ7 0
theorem nmJ7 : ∀ a, a < 0 → ∀ b, b < 0 → a ≠ b → (TJ7 a).2.1 ≠ (TJ7 b).2.1 := by decide +kernel
theorem tyJ7_ok : ∀ k, k < 0 → parseFieldDescriptor (TJ7 k).2.2.1 = some (tyJ7 k) := by decide +kernel
abbrev cJ7_fill_d0a16 : ByteArray := prog_21_method_101_code
def yJ7_fill_d0a16 : MethodName := ⟨RJ7, "fill", "([JJ)V"⟩
abbrev cJ7_fill_53178 : ByteArray := prog_21_method_103_code
def yJ7_fill_53178 : MethodName := ⟨RJ7, "fill", "([II)V"⟩
def RJ3 : String := "jdk/internal/util/Preconditions"
def TJ3 : u_T := fun k => match k with
  | _ => ("", "", "", false)
def tyJ3 : Nat → FieldType := fun k => match k with
  | _ => .int
abbrev wsJ30 : List Cond := u_ws RJ3 TJ3 0
theorem nmJ3 : ∀ a, a < 0 → ∀ b, b < 0 → a ≠ b → (TJ3 a).2.1 ≠ (TJ3 b).2.1 := by decide +kernel
theorem tyJ3_ok : ∀ k, k < 0 → parseFieldDescriptor (TJ3 k).2.2.1 = some (tyJ3 k) := by decide +kernel
abbrev cJ3_checkIndex_8e157 : ByteArray := prog_22_method_11_code
def yJ3_checkIndex_8e157 : MethodName := ⟨RJ3, "checkIndex", "(IILjava/util/function/BiFunction;)I"⟩
def RL : String := "PassedPenanceLaw"
abbrev cL_law : ByteArray := code
def yL_law : MethodName := ⟨RL, "law", "([I)Z"⟩
abbrev vwCl : List vw_C := [(RX0, TX0, 6), (RX1, TX1, 6), (RX2, TX2, 13), (RX3, TX3, 3), (RX4, TX4, 2), (RX5, TX5, 2), (RX6, TX6, 6), (RX7, TX7, 9), (RX8, TX8, 3), (RX9, TX9, 6), (RX10, TX10, 7), (RX11, TX11, 13), (RX12, TX12, 42)]
/-- the tables' words that stay -/
def xv_tb : List Cond := lw_tbl.filter goodWord
theorem xv_tbm {w : Cond} (h : w ∈ lw_tbl) (hg : goodWord w = true) : w ∈ xv_tb := List.mem_filter.mpr ⟨h, hg⟩
theorem xv_memp {ws : List Cond} (ps : List Nat) (hp : ws = ps.filterMap (fun i => lw_tbl[i]?)) (hg : ws.all goodWord = true) : ∀ w ∈ ws, w ∈ xv_tb := by
  intro w hw
  have h1 := List.all_eq_true.mp hg w hw
  rw [hp] at hw
  obtain ⟨i, -, hi⟩ := List.mem_filterMap.mp hw
  exact xv_tbm (List.mem_of_getElem? hi) h1
theorem xv_in0 : ∀ w ∈ u_ws RX0 TX0 6, w ∈ xv_tb := xv_memp [272, 274, 276, 278, 280, 282] (by decide +kernel) (by decide +kernel)
theorem xv_ia0 : Cond.instantiable RX0 6 ∈ xv_tb := xv_tbm (List.mem_of_getElem? (i := 257) (by decide +kernel)) (by decide +kernel)
theorem xv_it0 : Cond.initialized RX0 ∈ xv_tb := xv_tbm (List.mem_of_getElem? (i := 103) (by decide +kernel)) (by decide +kernel)
theorem xv_in1 : ∀ w ∈ u_ws RX1 TX1 6, w ∈ xv_tb := xv_memp [335, 337, 339, 341, 343, 345] (by decide +kernel) (by decide +kernel)
theorem xv_ia1 : Cond.instantiable RX1 6 ∈ xv_tb := xv_tbm (List.mem_of_getElem? (i := 314) (by decide +kernel)) (by decide +kernel)
theorem xv_it1 : Cond.initialized RX1 ∈ xv_tb := xv_tbm (List.mem_of_getElem? (i := 106) (by decide +kernel)) (by decide +kernel)
theorem xv_in2 : ∀ w ∈ u_ws RX2 TX2 13, w ∈ xv_tb := xv_memp [194, 196, 198, 200, 202, 204, 206, 208, 210, 212, 214, 216, 218] (by decide +kernel) (by decide +kernel)
theorem xv_ia2 : Cond.instantiable RX2 13 ∈ xv_tb := xv_tbm (List.mem_of_getElem? (i := 136) (by decide +kernel)) (by decide +kernel)
theorem xv_it2 : Cond.initialized RX2 ∈ xv_tb := xv_tbm (List.mem_of_getElem? (i := 102) (by decide +kernel)) (by decide +kernel)
theorem xv_in3 : ∀ w ∈ u_ws RX3 TX3 3, w ∈ xv_tb := xv_memp [445, 447, 449] (by decide +kernel) (by decide +kernel)
theorem xv_ia3 : Cond.instantiable RX3 3 ∈ xv_tb := xv_tbm (List.mem_of_getElem? (i := 436) (by decide +kernel)) (by decide +kernel)
theorem xv_it3 : Cond.initialized RX3 ∈ xv_tb := xv_tbm (List.mem_of_getElem? (i := 110) (by decide +kernel)) (by decide +kernel)
theorem xv_in4 : ∀ w ∈ u_ws RX4 TX4 2, w ∈ xv_tb := xv_memp [1300, 1302] (by decide +kernel) (by decide +kernel)
theorem xv_ia4 : Cond.instantiable RX4 2 ∈ xv_tb := xv_tbm (List.mem_of_getElem? (i := 1287) (by decide +kernel)) (by decide +kernel)
theorem xv_it4 : Cond.initialized RX4 ∈ xv_tb := xv_tbm (List.mem_of_getElem? (i := 120) (by decide +kernel)) (by decide +kernel)
theorem xv_in5 : ∀ w ∈ u_ws RX5 TX5 2, w ∈ xv_tb := xv_memp [462, 464] (by decide +kernel) (by decide +kernel)
theorem xv_ia5 : Cond.instantiable RX5 2 ∈ xv_tb := xv_tbm (List.mem_of_getElem? (i := 453) (by decide +kernel)) (by decide +kernel)
theorem xv_it5 : Cond.initialized RX5 ∈ xv_tb := xv_tbm (List.mem_of_getElem? (i := 111) (by decide +kernel)) (by decide +kernel)
theorem xv_in6 : ∀ w ∈ u_ws RX6 TX6 6, w ∈ xv_tb := xv_memp [365, 367, 369, 371, 373, 375] (by decide +kernel) (by decide +kernel)
theorem xv_ia6 : Cond.instantiable RX6 6 ∈ xv_tb := xv_tbm (List.mem_of_getElem? (i := 349) (by decide +kernel)) (by decide +kernel)
theorem xv_it6 : Cond.initialized RX6 ∈ xv_tb := xv_tbm (List.mem_of_getElem? (i := 107) (by decide +kernel)) (by decide +kernel)
theorem xv_in7 : ∀ w ∈ u_ws RX7 TX7 9, w ∈ xv_tb := xv_memp [235, 237, 239, 241, 243, 245, 247, 249, 251] (by decide +kernel) (by decide +kernel)
theorem xv_ia7 : Cond.instantiable RX7 9 ∈ xv_tb := xv_tbm (List.mem_of_getElem? (i := 130) (by decide +kernel)) (by decide +kernel)
theorem xv_it7 : Cond.initialized RX7 ∈ xv_tb := xv_tbm (List.mem_of_getElem? (i := 101) (by decide +kernel)) (by decide +kernel)
theorem xv_in8 : ∀ w ∈ u_ws RX8 TX8 3, w ∈ xv_tb := xv_memp [305, 307, 309] (by decide +kernel) (by decide +kernel)
theorem xv_ia8 : Cond.instantiable RX8 3 ∈ xv_tb := xv_tbm (List.mem_of_getElem? (i := 286) (by decide +kernel)) (by decide +kernel)
theorem xv_it8 : Cond.initialized RX8 ∈ xv_tb := xv_tbm (List.mem_of_getElem? (i := 104) (by decide +kernel)) (by decide +kernel)
theorem xv_in9 : ∀ w ∈ u_ws RX9 TX9 6, w ∈ xv_tb := xv_memp [392, 394, 396, 398, 400, 402] (by decide +kernel) (by decide +kernel)
theorem xv_ia9 : Cond.instantiable RX9 6 ∈ xv_tb := xv_tbm (List.mem_of_getElem? (i := 379) (by decide +kernel)) (by decide +kernel)
theorem xv_it9 : Cond.initialized RX9 ∈ xv_tb := xv_tbm (List.mem_of_getElem? (i := 108) (by decide +kernel)) (by decide +kernel)
theorem xv_in10 : ∀ w ∈ u_ws RX10 TX10 7, w ∈ xv_tb := xv_memp [420, 422, 424, 426, 428, 430, 432] (by decide +kernel) (by decide +kernel)
theorem xv_ia10 : Cond.instantiable RX10 7 ∈ xv_tb := xv_tbm (List.mem_of_getElem? (i := 406) (by decide +kernel)) (by decide +kernel)
theorem xv_it10 : Cond.initialized RX10 ∈ xv_tb := xv_tbm (List.mem_of_getElem? (i := 109) (by decide +kernel)) (by decide +kernel)
theorem xv_in11 : ∀ w ∈ u_ws RX11 TX11 13, w ∈ xv_tb := xv_memp [482, 484, 486, 488, 490, 492, 494, 496, 498, 500, 502, 504, 506] (by decide +kernel) (by decide +kernel)
theorem xv_ia11 : Cond.instantiable RX11 13 ∈ xv_tb := xv_tbm (List.mem_of_getElem? (i := 122) (by decide +kernel)) (by decide +kernel)
theorem xv_it11 : Cond.initialized RX11 ∈ xv_tb := xv_tbm (List.mem_of_getElem? (i := 100) (by decide +kernel)) (by decide +kernel)
theorem xv_in12 : ∀ w ∈ u_ws RX12 TX12 42, w ∈ xv_tb := xv_memp [1392, 1394, 1396, 1398, 1400, 1402, 1404, 1406, 1408, 1410, 1412, 1414, 1416, 1418, 1420, 1422, 1424, 1426, 1428, 1430, 1432, 1434, 1436, 1438, 1440, 1442, 1444, 1446, 1448, 1450, 1452, 1454, 1456, 1458, 1460, 1462, 1464, 1466, 1468, 1470, 1472, 1474] (by decide +kernel) (by decide +kernel)
theorem xv_ia12 : Cond.instantiable RX12 42 ∈ xv_tb := xv_tbm (List.mem_of_getElem? (i := 1345) (by decide +kernel)) (by decide +kernel)
theorem xv_it12 : Cond.initialized RX12 ∈ xv_tb := xv_tbm (List.mem_of_getElem? (i := 112) (by decide +kernel)) (by decide +kernel)
/-- the links to a nest mate -/
def xv_nest : List (String × Nat × MethodName × String) := [("PassedPenance", 11, ⟨"PassedPenance$Reader", "<init>", "()V"⟩, "PassedPenance"), ("PassedPenance$Reader", 11, ⟨"PassedPenance$Church", "<init>", "()V"⟩, "PassedPenance"), ("PassedPenance", 18, ⟨"PassedPenance$Church", "<init>", "()V"⟩, "PassedPenance"), ("PassedPenance", 28, ⟨"PassedPenance$Acts", "<init>", "()V"⟩, "PassedPenance"), ("PassedPenance", 67, ⟨"PassedPenance$Swaps", "<init>", "()V"⟩, "PassedPenance"), ("PassedPenance", 81, ⟨"PassedPenance$Mean", "<init>", "()V"⟩, "PassedPenance"), ("PassedPenance", 394, ⟨"PassedPenance$Image", "<init>", "()V"⟩, "PassedPenance"), ("PassedPenance$Image", 9, ⟨"PassedPenance$Church", "<init>", "()V"⟩, "PassedPenance"), ("PassedPenance$Image", 18, ⟨"PassedPenance$Acts", "<init>", "()V"⟩, "PassedPenance")]
theorem xv_nest_in : ∀ q ∈ xv_nest, Cond.methodLinkNest q.1 q.2.1 q.2.2.1 q.2.2.2 ∈ lw_tbl := by
  have h : xv_nest.map (fun q => Cond.methodLinkNest q.1 q.2.1 q.2.2.1 q.2.2.2) = [131, 137, 255, 258, 407, 454, 1288, 1293, 1295].filterMap (fun i => lw_tbl[i]?) := by decide +kernel
  intro q hq
  have hm := List.mem_map_of_mem (f := fun q : String × Nat × MethodName × String => Cond.methodLinkNest q.1 q.2.1 q.2.2.1 q.2.2.2) hq
  rw [h] at hm
  obtain ⟨i, -, hi⟩ := List.mem_filterMap.mp hm
  exact List.mem_of_getElem? hi
theorem xv_ao_in : Cond.arrayOver (.object "PassedPenance$Image") ∈ lw_tbl ∧ Cond.arrayOver (.array .int) ∈ lw_tbl ∧ Cond.arrayOver (.array .long) ∈ lw_tbl := ⟨List.mem_of_getElem? (i := 468) (by decide +kernel), List.mem_of_getElem? (i := 142) (by decide +kernel), List.mem_of_getElem? (i := 292) (by decide +kernel)⟩
