def RX0 : String := "Cycleworks$Bodies"
def TX0 : u_T := fun k => match k with
  | 0 => ("Cycleworks$Bodies", "capacities", "[I", true)
  | 1 => ("Cycleworks$Bodies", "energies", "[LCycleworks$Whole;", true)
  | 2 => ("Cycleworks$Bodies", "count", "I", false)
  | 3 => ("Cycleworks$Bodies", "nothing", "LCycleworks$Whole;", true)
  | 4 => ("Cycleworks$Bodies", "degrees", "LCycleworks$Whole;", true)
  | 5 => ("Cycleworks$Bodies", "otherDegrees", "LCycleworks$Whole;", true)
  | 6 => ("Cycleworks$Bodies", "share", "LCycleworks$Whole;", true)
  | _ => ("Cycleworks$Bodies", "rest", "LCycleworks$Whole;", true)
def tyX0 : Nat → FieldType := fun k => match k with
  | 0 => .array .int
  | 1 => .array (.object "Cycleworks$Whole")
  | 2 => .int
  | 3 => .object "Cycleworks$Whole"
  | 4 => .object "Cycleworks$Whole"
  | 5 => .object "Cycleworks$Whole"
  | 6 => .object "Cycleworks$Whole"
  | _ => .object "Cycleworks$Whole"
theorem nmX0 : ∀ a, a < 8 → ∀ b, b < 8 → a ≠ b → (TX0 a).2.1 ≠ (TX0 b).2.1 := by decide +kernel
theorem tyX0_ok : ∀ k, k < 8 → parseFieldDescriptor (TX0 k).2.2.1 = some (tyX0 k) := by decide +kernel
abbrev cX0_init : ByteArray := prog_2_method_1_code
def yX0_init : MethodName := ⟨RX0, "<init>", "()V"⟩
abbrev cX0_isFull : ByteArray := prog_2_method_2_code
def yX0_isFull : MethodName := ⟨RX0, "isFull", "()Z"⟩
abbrev cX0_has : ByteArray := prog_2_method_3_code
def yX0_has : MethodName := ⟨RX0, "has", "(I)Z"⟩
abbrev cX0_append : ByteArray := prog_2_method_4_code
def yX0_append : MethodName := ⟨RX0, "append", "(II)I"⟩
abbrev cX0_energyOf : ByteArray := prog_2_method_5_code
def yX0_energyOf : MethodName := ⟨RX0, "energyOf", "(I)LCycleworks$Whole;"⟩
abbrev cX0_capacityOf : ByteArray := prog_2_method_6_code
def yX0_capacityOf : MethodName := ⟨RX0, "capacityOf", "(I)I"⟩
abbrev cX0_temperatureOf : ByteArray := prog_2_method_7_code
def yX0_temperatureOf : MethodName := ⟨RX0, "temperatureOf", "(I)LCycleworks$Whole;"⟩
abbrev cX0_isWarm : ByteArray := prog_2_method_8_code
def yX0_isWarm : MethodName := ⟨RX0, "isWarm", "(ILCycleworks$Whole;I)Z"⟩
abbrev cX0_bears : ByteArray := prog_2_method_9_code
def yX0_bears : MethodName := ⟨RX0, "bears", "(II)Z"⟩
abbrev cX0_flowsByItself : ByteArray := prog_2_method_10_code
def yX0_flowsByItself : MethodName := ⟨RX0, "flowsByItself", "(III)Z"⟩
abbrev cX0_isAsWarm : ByteArray := prog_2_method_11_code
def yX0_isAsWarm : MethodName := ⟨RX0, "isAsWarm", "(III)Z"⟩
abbrev cX0_disorderOfMove : ByteArray := prog_2_method_12_code
def yX0_disorderOfMove : MethodName := ⟨RX0, "disorderOfMove", "(IIII)I"⟩
abbrev cX0_take : ByteArray := prog_2_method_13_code
def yX0_take : MethodName := ⟨RX0, "take", "(II)V"⟩
abbrev cX0_exchange : ByteArray := prog_2_method_14_code
def yX0_exchange : MethodName := ⟨RX0, "exchange", "(IILCycleworks$Whole;)Z"⟩
abbrev cX0_lowOfEnergies : ByteArray := prog_2_method_15_code
def yX0_lowOfEnergies : MethodName := ⟨RX0, "lowOfEnergies", "()J"⟩
abbrev cX0_sumOfTemperatures : ByteArray := prog_2_method_16_code
def yX0_sumOfTemperatures : MethodName := ⟨RX0, "sumOfTemperatures", "()LCycleworks$Whole;"⟩
abbrev cX0_areWarm : ByteArray := prog_2_method_17_code
def yX0_areWarm : MethodName := ⟨RX0, "areWarm", "()Z"⟩
def RX1 : String := "Cycleworks$Cylinder"
def TX1 : u_T := fun k => match k with
  | 0 => ("Cycleworks$Cylinder", "kinds", "[C", true)
  | 1 => ("Cycleworks$Cylinder", "goals", "[I", true)
  | 2 => ("Cycleworks$Cylinder", "partners", "[I", true)
  | 3 => ("Cycleworks$Cylinder", "count", "I", false)
  | 4 => ("Cycleworks$Cylinder", "amount", "I", false)
  | 5 => ("Cycleworks$Cylinder", "volume", "I", false)
  | 6 => ("Cycleworks$Cylinder", "energy", "LCycleworks$Whole;", false)
  | 7 => ("Cycleworks$Cylinder", "energyBehind", "LCycleworks$Whole;", false)
  | 8 => ("Cycleworks$Cylinder", "pressure", "LCycleworks$Whole;", true)
  | 9 => ("Cycleworks$Cylinder", "card", "[I", true)
  | 10 => ("Cycleworks$Cylinder", "marks", "I", false)
  | 11 => ("Cycleworks$Cylinder", "ran", "Z", false)
  | _ => ("Cycleworks$Cylinder", "ended", "Z", false)
def tyX1 : Nat → FieldType := fun k => match k with
  | 0 => .array .char
  | 1 => .array .int
  | 2 => .array .int
  | 3 => .int
  | 4 => .int
  | 5 => .int
  | 6 => .object "Cycleworks$Whole"
  | 7 => .object "Cycleworks$Whole"
  | 8 => .object "Cycleworks$Whole"
  | 9 => .array .int
  | 10 => .int
  | 11 => .boolean
  | _ => .boolean
theorem nmX1 : ∀ a, a < 13 → ∀ b, b < 13 → a ≠ b → (TX1 a).2.1 ≠ (TX1 b).2.1 := by decide +kernel
theorem tyX1_ok : ∀ k, k < 13 → parseFieldDescriptor (TX1 k).2.2.1 = some (tyX1 k) := by decide +kernel
abbrev cX1_init : ByteArray := prog_3_method_1_code
def yX1_init : MethodName := ⟨RX1, "<init>", "()V"⟩
abbrev cX1_isStroke : ByteArray := prog_3_method_2_code
def yX1_isStroke : MethodName := ⟨RX1, "isStroke", "(CI)Z"⟩
abbrev cX1_needsBody : ByteArray := prog_3_method_3_code
def yX1_needsBody : MethodName := ⟨RX1, "needsBody", "(C)Z"⟩
abbrev cX1_fill : ByteArray := prog_3_method_4_code
def yX1_fill : MethodName := ⟨RX1, "fill", "(III)V"⟩
abbrev cX1_isFull : ByteArray := prog_3_method_5_code
def yX1_isFull : MethodName := ⟨RX1, "isFull", "()Z"⟩
abbrev cX1_isEmpty : ByteArray := prog_3_method_6_code
def yX1_isEmpty : MethodName := ⟨RX1, "isEmpty", "()Z"⟩
abbrev cX1_append : ByteArray := prog_3_method_7_code
def yX1_append : MethodName := ⟨RX1, "append", "(CII)I"⟩
abbrev cX1_removeAll : ByteArray := prog_3_method_8_code
def yX1_removeAll : MethodName := ⟨RX1, "removeAll", "()I"⟩
abbrev cX1_pressureNow : ByteArray := prog_3_method_9_code
def yX1_pressureNow : MethodName := ⟨RX1, "pressureNow", "()LCycleworks$Whole;"⟩
abbrev cX1_hasMark : ByteArray := prog_3_method_10_code
def yX1_hasMark : MethodName := ⟨RX1, "hasMark", "(I)Z"⟩
abbrev cX1_markAt : ByteArray := prog_3_method_11_code
def yX1_markAt : MethodName := ⟨RX1, "markAt", "(I)I"⟩
abbrev cX1_beginRun : ByteArray := prog_3_method_12_code
def yX1_beginRun : MethodName := ⟨RX1, "beginRun", "()V"⟩
abbrev cX1_runStroke : ByteArray := prog_3_method_13_code
def yX1_runStroke : MethodName := ⟨RX1, "runStroke", "(ILCycleworks$Bodies;LCycleworks$Sums;)V"⟩
abbrev cX1_step : ByteArray := prog_3_method_14_code
def yX1_step : MethodName := ⟨RX1, "step", "(IILCycleworks$Bodies;LCycleworks$Sums;)Z"⟩
abbrev cX1_mark : ByteArray := prog_3_method_15_code
def yX1_mark : MethodName := ⟨RX1, "mark", "(I)V"⟩
def RX2 : String := "Cycleworks$Governor"
def TX2 : u_T := fun k => match k with
  | 0 => ("Cycleworks$Governor", "set", "I", false)
  | 1 => ("Cycleworks$Governor", "gain", "I", false)
  | 2 => ("Cycleworks$Governor", "stiction", "I", false)
  | 3 => ("Cycleworks$Governor", "limit", "I", false)
  | 4 => ("Cycleworks$Governor", "load", "I", false)
  | 5 => ("Cycleworks$Governor", "speed", "I", false)
  | 6 => ("Cycleworks$Governor", "valve", "I", false)
  | 7 => ("Cycleworks$Governor", "lastWay", "I", false)
  | 8 => ("Cycleworks$Governor", "turns", "I", false)
  | _ => ("Cycleworks$Governor", "tripped", "Z", false)
def tyX2 : Nat → FieldType := fun k => match k with
  | 0 => .int
  | 1 => .int
  | 2 => .int
  | 3 => .int
  | 4 => .int
  | 5 => .int
  | 6 => .int
  | 7 => .int
  | 8 => .int
  | _ => .boolean
theorem nmX2 : ∀ a, a < 10 → ∀ b, b < 10 → a ≠ b → (TX2 a).2.1 ≠ (TX2 b).2.1 := by decide +kernel
theorem tyX2_ok : ∀ k, k < 10 → parseFieldDescriptor (TX2 k).2.2.1 = some (tyX2 k) := by decide +kernel
abbrev cX2_init : ByteArray := prog_4_method_1_code
def yX2_init : MethodName := ⟨RX2, "<init>", "()V"⟩
abbrev cX2_adjust : ByteArray := prog_4_method_2_code
def yX2_adjust : MethodName := ⟨RX2, "adjust", "(IIII)V"⟩
abbrev cX2_passSecond : ByteArray := prog_4_method_3_code
def yX2_passSecond : MethodName := ⟨RX2, "passSecond", "()V"⟩
abbrev cX2_moveValve : ByteArray := prog_4_method_4_code
def yX2_moveValve : MethodName := ⟨RX2, "moveValve", "(I)V"⟩
def RX3 : String := "Cycleworks$Ring"
def TX3 : u_T := fun k => match k with
  | 0 => ("Cycleworks$Ring", "kinds", "[C", true)
  | 1 => ("Cycleworks$Ring", "goals", "[I", true)
  | 2 => ("Cycleworks$Ring", "qualities", "[I", true)
  | 3 => ("Cycleworks$Ring", "count", "I", false)
  | 4 => ("Cycleworks$Ring", "isSolved", "Z", false)
  | 5 => ("Cycleworks$Ring", "solved", "LCycleworks$Round;", false)
  | 6 => ("Cycleworks$Ring", "trial", "LCycleworks$Round;", false)
  | 7 => ("Cycleworks$Ring", "pressure", "I", false)
  | _ => ("Cycleworks$Ring", "heat", "I", false)
def tyX3 : Nat → FieldType := fun k => match k with
  | 0 => .array .char
  | 1 => .array .int
  | 2 => .array .int
  | 3 => .int
  | 4 => .boolean
  | 5 => .object "Cycleworks$Round"
  | 6 => .object "Cycleworks$Round"
  | 7 => .int
  | _ => .int
theorem nmX3 : ∀ a, a < 9 → ∀ b, b < 9 → a ≠ b → (TX3 a).2.1 ≠ (TX3 b).2.1 := by decide +kernel
theorem tyX3_ok : ∀ k, k < 9 → parseFieldDescriptor (TX3 k).2.2.1 = some (tyX3 k) := by decide +kernel
abbrev cX3_init : ByteArray := prog_5_method_1_code
def yX3_init : MethodName := ⟨RX3, "<init>", "()V"⟩
abbrev cX3_isPart : ByteArray := prog_5_method_2_code
def yX3_isPart : MethodName := ⟨RX3, "isPart", "(CII)Z"⟩
abbrev cX3_isFull : ByteArray := prog_5_method_3_code
def yX3_isFull : MethodName := ⟨RX3, "isFull", "()Z"⟩
abbrev cX3_isEmpty : ByteArray := prog_5_method_4_code
def yX3_isEmpty : MethodName := ⟨RX3, "isEmpty", "()Z"⟩
abbrev cX3_append : ByteArray := prog_5_method_5_code
def yX3_append : MethodName := ⟨RX3, "append", "(CII)I"⟩
abbrev cX3_removeAll : ByteArray := prog_5_method_6_code
def yX3_removeAll : MethodName := ⟨RX3, "removeAll", "()I"⟩
abbrev cX3_close : ByteArray := prog_5_method_7_code
def yX3_close : MethodName := ⟨RX3, "close", "(LCycleworks$Table;II)I"⟩
abbrev cX3_keepTrial : ByteArray := prog_5_method_8_code
def yX3_keepTrial : MethodName := ⟨RX3, "keepTrial", "()V"⟩
abbrev cX3_goRound : ByteArray := prog_5_method_9_code
def yX3_goRound : MethodName := ⟨RX3, "goRound", "(LCycleworks$Table;)Z"⟩
abbrev cX3_goThrough : ByteArray := prog_5_method_10_code
def yX3_goThrough : MethodName := ⟨RX3, "goThrough", "(CIILCycleworks$Table;)Z"⟩
abbrev cX3_warm : ByteArray := prog_5_method_11_code
def yX3_warm : MethodName := ⟨RX3, "warm", "(I)Z"⟩
abbrev cX3_cool : ByteArray := prog_5_method_12_code
def yX3_cool : MethodName := ⟨RX3, "cool", "(I)Z"⟩
abbrev cX3_goUp : ByteArray := prog_5_method_13_code
def yX3_goUp : MethodName := ⟨RX3, "goUp", "(I)Z"⟩
abbrev cX3_goDown : ByteArray := prog_5_method_14_code
def yX3_goDown : MethodName := ⟨RX3, "goDown", "(III)Z"⟩
abbrev cX3_possibleWork : ByteArray := prog_5_method_15_code
def yX3_possibleWork : MethodName := ⟨RX3, "possibleWork", "(ILCycleworks$Table;)I"⟩
def RX4 : String := "Cycleworks$Round"
def TX4 : u_T := fun k => match k with
  | 0 => ("Cycleworks$Round", "works", "[I", true)
  | 1 => ("Cycleworks$Round", "heats", "[I", true)
  | 2 => ("Cycleworks$Round", "losses", "[I", true)
  | 3 => ("Cycleworks$Round", "pressuresAhead", "[I", true)
  | 4 => ("Cycleworks$Round", "heatsAhead", "[I", true)
  | _ => ("Cycleworks$Round", "count", "I", false)
def tyX4 : Nat → FieldType := fun k => match k with
  | 0 => .array .int
  | 1 => .array .int
  | 2 => .array .int
  | 3 => .array .int
  | 4 => .array .int
  | _ => .int
theorem nmX4 : ∀ a, a < 6 → ∀ b, b < 6 → a ≠ b → (TX4 a).2.1 ≠ (TX4 b).2.1 := by decide +kernel
theorem tyX4_ok : ∀ k, k < 6 → parseFieldDescriptor (TX4 k).2.2.1 = some (tyX4 k) := by decide +kernel
abbrev cX4_init : ByteArray := prog_6_method_1_code
def yX4_init : MethodName := ⟨RX4, "<init>", "()V"⟩
abbrev cX4_has : ByteArray := prog_6_method_2_code
def yX4_has : MethodName := ⟨RX4, "has", "(I)Z"⟩
abbrev cX4_begin : ByteArray := prog_6_method_3_code
def yX4_begin : MethodName := ⟨RX4, "begin", "()V"⟩
abbrev cX4_open : ByteArray := prog_6_method_4_code
def yX4_open : MethodName := ⟨RX4, "open", "(II)V"⟩
abbrev cX4_writeWork : ByteArray := prog_6_method_5_code
def yX4_writeWork : MethodName := ⟨RX4, "writeWork", "(II)V"⟩
abbrev cX4_writeHeat : ByteArray := prog_6_method_6_code
def yX4_writeHeat : MethodName := ⟨RX4, "writeHeat", "(I)V"⟩
abbrev cX4_workOf : ByteArray := prog_6_method_7_code
def yX4_workOf : MethodName := ⟨RX4, "workOf", "(I)I"⟩
abbrev cX4_heatOf : ByteArray := prog_6_method_8_code
def yX4_heatOf : MethodName := ⟨RX4, "heatOf", "(I)I"⟩
abbrev cX4_lostOf : ByteArray := prog_6_method_9_code
def yX4_lostOf : MethodName := ⟨RX4, "lostOf", "(I)I"⟩
abbrev cX4_pressureAheadOf : ByteArray := prog_6_method_10_code
def yX4_pressureAheadOf : MethodName := ⟨RX4, "pressureAheadOf", "(I)I"⟩
abbrev cX4_heatAheadOf : ByteArray := prog_6_method_11_code
def yX4_heatAheadOf : MethodName := ⟨RX4, "heatAheadOf", "(I)I"⟩
abbrev cX4_sumOfWork : ByteArray := prog_6_method_12_code
def yX4_sumOfWork : MethodName := ⟨RX4, "sumOfWork", "()I"⟩
abbrev cX4_sumOfHeat : ByteArray := prog_6_method_13_code
def yX4_sumOfHeat : MethodName := ⟨RX4, "sumOfHeat", "()I"⟩
def RX5 : String := "Cycleworks$Streams"
def TX5 : u_T := fun k => match k with
  | 0 => ("Cycleworks$Streams", "starts", "[I", true)
  | 1 => ("Cycleworks$Streams", "ends", "[I", true)
  | 2 => ("Cycleworks$Streams", "flows", "[I", true)
  | _ => ("Cycleworks$Streams", "count", "I", false)
def tyX5 : Nat → FieldType := fun k => match k with
  | 0 => .array .int
  | 1 => .array .int
  | 2 => .array .int
  | _ => .int
theorem nmX5 : ∀ a, a < 4 → ∀ b, b < 4 → a ≠ b → (TX5 a).2.1 ≠ (TX5 b).2.1 := by decide +kernel
theorem tyX5_ok : ∀ k, k < 4 → parseFieldDescriptor (TX5 k).2.2.1 = some (tyX5 k) := by decide +kernel
abbrev cX5_init : ByteArray := prog_7_method_1_code
def yX5_init : MethodName := ⟨RX5, "<init>", "()V"⟩
abbrev cX5_isFull : ByteArray := prog_7_method_2_code
def yX5_isFull : MethodName := ⟨RX5, "isFull", "()Z"⟩
abbrev cX5_append : ByteArray := prog_7_method_3_code
def yX5_append : MethodName := ⟨RX5, "append", "(III)I"⟩
abbrev cX5_removeAll : ByteArray := prog_7_method_4_code
def yX5_removeAll : MethodName := ⟨RX5, "removeAll", "()I"⟩
abbrev cX5_leastHeat : ByteArray := prog_7_method_5_code
def yX5_leastHeat : MethodName := ⟨RX5, "leastHeat", "(I)I"⟩
abbrev cX5_leastCold : ByteArray := prog_7_method_6_code
def yX5_leastCold : MethodName := ⟨RX5, "leastCold", "(I)I"⟩
abbrev cX5_narrowest : ByteArray := prog_7_method_7_code
def yX5_narrowest : MethodName := ⟨RX5, "narrowest", "(I)I"⟩
abbrev cX5_isHot : ByteArray := prog_7_method_8_code
def yX5_isHot : MethodName := ⟨RX5, "isHot", "(I)Z"⟩
abbrev cX5_shiftOf : ByteArray := prog_7_method_9_code
def yX5_shiftOf : MethodName := ⟨RX5, "shiftOf", "(II)I"⟩
abbrev cX5_sumAt : ByteArray := prog_7_method_10_code
def yX5_sumAt : MethodName := ⟨RX5, "sumAt", "(II)I"⟩
def RX6 : String := "Cycleworks$Sums"
def TX6 : u_T := fun k => match k with
  | 0 => ("Cycleworks$Sums", "work", "J", false)
  | 1 => ("Cycleworks$Sums", "made", "I", false)
  | 2 => ("Cycleworks$Sums", "moves", "I", false)
  | 3 => ("Cycleworks$Sums", "makingMoves", "I", false)
  | _ => ("Cycleworks$Sums", "putIn", "J", false)
def tyX6 : Nat → FieldType := fun k => match k with
  | 0 => .long
  | 1 => .int
  | 2 => .int
  | 3 => .int
  | _ => .long
theorem nmX6 : ∀ a, a < 5 → ∀ b, b < 5 → a ≠ b → (TX6 a).2.1 ≠ (TX6 b).2.1 := by decide +kernel
theorem tyX6_ok : ∀ k, k < 5 → parseFieldDescriptor (TX6 k).2.2.1 = some (tyX6 k) := by decide +kernel
abbrev cX6_init : ByteArray := prog_8_method_1_code
def yX6_init : MethodName := ⟨RX6, "<init>", "()V"⟩
abbrev cX6_addWork : ByteArray := prog_8_method_2_code
def yX6_addWork : MethodName := ⟨RX6, "addWork", "(J)V"⟩
abbrev cX6_addMove : ByteArray := prog_8_method_3_code
def yX6_addMove : MethodName := ⟨RX6, "addMove", "(I)V"⟩
def RX7 : String := "Cycleworks$Table"
def TX7 : u_T := fun k => match k with
  | 0 => ("Cycleworks$Table", "pressures", "[I", true)
  | 1 => ("Cycleworks$Table", "boilings", "[I", true)
  | 2 => ("Cycleworks$Table", "liquids", "[I", true)
  | 3 => ("Cycleworks$Table", "vapours", "[I", true)
  | _ => ("Cycleworks$Table", "count", "I", false)
def tyX7 : Nat → FieldType := fun k => match k with
  | 0 => .array .int
  | 1 => .array .int
  | 2 => .array .int
  | 3 => .array .int
  | _ => .int
theorem nmX7 : ∀ a, a < 5 → ∀ b, b < 5 → a ≠ b → (TX7 a).2.1 ≠ (TX7 b).2.1 := by decide +kernel
theorem tyX7_ok : ∀ k, k < 5 → parseFieldDescriptor (TX7 k).2.2.1 = some (tyX7 k) := by decide +kernel
abbrev cX7_init : ByteArray := prog_9_method_1_code
def yX7_init : MethodName := ⟨RX7, "<init>", "()V"⟩
abbrev cX7_isFull : ByteArray := prog_9_method_2_code
def yX7_isFull : MethodName := ⟨RX7, "isFull", "()Z"⟩
abbrev cX7_isBelow : ByteArray := prog_9_method_3_code
def yX7_isBelow : MethodName := ⟨RX7, "isBelow", "(III)Z"⟩
abbrev cX7_append : ByteArray := prog_9_method_4_code
def yX7_append : MethodName := ⟨RX7, "append", "(IIII)I"⟩
abbrev cX7_reaches : ByteArray := prog_9_method_5_code
def yX7_reaches : MethodName := ⟨RX7, "reaches", "(I)Z"⟩
abbrev cX7_boilingAt : ByteArray := prog_9_method_6_code
def yX7_boilingAt : MethodName := ⟨RX7, "boilingAt", "(I)I"⟩
abbrev cX7_liquidAt : ByteArray := prog_9_method_7_code
def yX7_liquidAt : MethodName := ⟨RX7, "liquidAt", "(I)I"⟩
abbrev cX7_vapourAt : ByteArray := prog_9_method_8_code
def yX7_vapourAt : MethodName := ⟨RX7, "vapourAt", "(I)I"⟩
abbrev cX7_valueAt : ByteArray := prog_9_method_9_code
def yX7_valueAt : MethodName := ⟨RX7, "valueAt", "([II)I"⟩
abbrev cX7_phaseOf : ByteArray := prog_9_method_10_code
def yX7_phaseOf : MethodName := ⟨RX7, "phaseOf", "(II)C"⟩
abbrev cX7_drynessOf : ByteArray := prog_9_method_11_code
def yX7_drynessOf : MethodName := ⟨RX7, "drynessOf", "(II)I"⟩
abbrev cX7_temperatureOf : ByteArray := prog_9_method_12_code
def yX7_temperatureOf : MethodName := ⟨RX7, "temperatureOf", "(II)I"⟩
def RX8 : String := "Cycleworks$Whole"
def TX8 : u_T := fun k => match k with
  | 0 => ("Cycleworks$Whole", "first", "J", false)
  | 1 => ("Cycleworks$Whole", "others", "[J", false)
  | _ => ("Cycleworks$Whole", "count", "I", false)
def tyX8 : Nat → FieldType := fun k => match k with
  | 0 => .long
  | 1 => .array .long
  | _ => .int
theorem nmX8 : ∀ a, a < 3 → ∀ b, b < 3 → a ≠ b → (TX8 a).2.1 ≠ (TX8 b).2.1 := by decide +kernel
theorem tyX8_ok : ∀ k, k < 3 → parseFieldDescriptor (TX8 k).2.2.1 = some (tyX8 k) := by decide +kernel
abbrev cX8_init : ByteArray := prog_10_method_1_code
def yX8_init : MethodName := ⟨RX8, "<init>", "()V"⟩
abbrev cX8_digitAt : ByteArray := prog_10_method_2_code
def yX8_digitAt : MethodName := ⟨RX8, "digitAt", "(I)J"⟩
abbrev cX8_write : ByteArray := prog_10_method_3_code
def yX8_write : MethodName := ⟨RX8, "write", "(IJ)V"⟩
abbrev cX8_makeRoom : ByteArray := prog_10_method_4_code
def yX8_makeRoom : MethodName := ⟨RX8, "makeRoom", "(I)V"⟩
abbrev cX8_endAt : ByteArray := prog_10_method_5_code
def yX8_endAt : MethodName := ⟨RX8, "endAt", "(I)V"⟩
abbrev cX8_set : ByteArray := prog_10_method_6_code
def yX8_set : MethodName := ⟨RX8, "set", "(J)V"⟩
abbrev cX8_add : ByteArray := prog_10_method_7_code
def yX8_add : MethodName := ⟨RX8, "add", "(J)V"⟩
abbrev cX8_copy : ByteArray := prog_10_method_8_code
def yX8_copy : MethodName := ⟨RX8, "copy", "(LCycleworks$Whole;)V"⟩
abbrev cX8_setTimes : ByteArray := prog_10_method_9_code
def yX8_setTimes : MethodName := ⟨RX8, "setTimes", "(LCycleworks$Whole;I)V"⟩
abbrev cX8_setSum : ByteArray := prog_10_method_10_code
def yX8_setSum : MethodName := ⟨RX8, "setSum", "(LCycleworks$Whole;LCycleworks$Whole;I)V"⟩
abbrev cX8_setQuotient : ByteArray := prog_10_method_11_code
def yX8_setQuotient : MethodName := ⟨RX8, "setQuotient", "(LCycleworks$Whole;I)V"⟩
abbrev cX8_isZero : ByteArray := prog_10_method_12_code
def yX8_isZero : MethodName := ⟨RX8, "isZero", "()Z"⟩
abbrev cX8_isBelow : ByteArray := prog_10_method_13_code
def yX8_isBelow : MethodName := ⟨RX8, "isBelow", "(LCycleworks$Whole;)Z"⟩
abbrev cX8_capped : ByteArray := prog_10_method_14_code
def yX8_capped : MethodName := ⟨RX8, "capped", "()J"⟩
abbrev cX8_low : ByteArray := prog_10_method_15_code
def yX8_low : MethodName := ⟨RX8, "low", "()J"⟩
abbrev cX8_countBits : ByteArray := prog_10_method_16_code
def yX8_countBits : MethodName := ⟨RX8, "countBits", "()I"⟩
abbrev cX8_toDouble : ByteArray := prog_10_method_17_code
def yX8_toDouble : MethodName := ⟨RX8, "toDouble", "()D"⟩
def RX9 : String := "Cycleworks"
def TX9 : u_T := fun k => match k with
  | 0 => ("Cycleworks", "bodies", "LCycleworks$Bodies;", true)
  | 1 => ("Cycleworks", "table", "LCycleworks$Table;", true)
  | 2 => ("Cycleworks", "ring", "LCycleworks$Ring;", true)
  | 3 => ("Cycleworks", "cylinder", "LCycleworks$Cylinder;", true)
  | 4 => ("Cycleworks", "streams", "LCycleworks$Streams;", true)
  | 5 => ("Cycleworks", "governor", "LCycleworks$Governor;", true)
  | _ => ("Cycleworks", "sums", "LCycleworks$Sums;", true)
def tyX9 : Nat → FieldType := fun k => match k with
  | 0 => .object "Cycleworks$Bodies"
  | 1 => .object "Cycleworks$Table"
  | 2 => .object "Cycleworks$Ring"
  | 3 => .object "Cycleworks$Cylinder"
  | 4 => .object "Cycleworks$Streams"
  | 5 => .object "Cycleworks$Governor"
  | _ => .object "Cycleworks$Sums"
theorem nmX9 : ∀ a, a < 7 → ∀ b, b < 7 → a ≠ b → (TX9 a).2.1 ≠ (TX9 b).2.1 := by decide +kernel
theorem tyX9_ok : ∀ k, k < 7 → parseFieldDescriptor (TX9 k).2.2.1 = some (tyX9 k) := by decide +kernel
abbrev cX9_init : ByteArray := prog_1_method_1_code
def yX9_init : MethodName := ⟨RX9, "<init>", "()V"⟩
abbrev cX9_addBody : ByteArray := prog_1_method_2_code
def yX9_addBody : MethodName := ⟨RX9, "addBody", "(II)I"⟩
abbrev cX9_getTemperature : ByteArray := prog_1_method_3_code
def yX9_getTemperature : MethodName := ⟨RX9, "getTemperature", "(I)I"⟩
abbrev cX9_getEnergy : ByteArray := prog_1_method_4_code
def yX9_getEnergy : MethodName := ⟨RX9, "getEnergy", "(I)I"⟩
abbrev cX9_conduct : ByteArray := prog_1_method_5_code
def yX9_conduct : MethodName := ⟨RX9, "conduct", "(III)I"⟩
abbrev cX9_runEngine : ByteArray := prog_1_method_6_code
def yX9_runEngine : MethodName := ⟨RX9, "runEngine", "(IIII)I"⟩
abbrev cX9_runPump : ByteArray := prog_1_method_7_code
def yX9_runPump : MethodName := ⟨RX9, "runPump", "(IIII)I"⟩
abbrev cX9_getWork : ByteArray := prog_1_method_8_code
def yX9_getWork : MethodName := ⟨RX9, "getWork", "()I"⟩
abbrev cX9_getMade : ByteArray := prog_1_method_9_code
def yX9_getMade : MethodName := ⟨RX9, "getMade", "()I"⟩
abbrev cX9_addRow : ByteArray := prog_1_method_10_code
def yX9_addRow : MethodName := ⟨RX9, "addRow", "(IIII)I"⟩
abbrev cX9_getBoiling : ByteArray := prog_1_method_11_code
def yX9_getBoiling : MethodName := ⟨RX9, "getBoiling", "(I)I"⟩
abbrev cX9_getLiquid : ByteArray := prog_1_method_12_code
def yX9_getLiquid : MethodName := ⟨RX9, "getLiquid", "(I)I"⟩
abbrev cX9_getVapour : ByteArray := prog_1_method_13_code
def yX9_getVapour : MethodName := ⟨RX9, "getVapour", "(I)I"⟩
abbrev cX9_getPhase : ByteArray := prog_1_method_14_code
def yX9_getPhase : MethodName := ⟨RX9, "getPhase", "(II)C"⟩
abbrev cX9_getDryness : ByteArray := prog_1_method_15_code
def yX9_getDryness : MethodName := ⟨RX9, "getDryness", "(II)I"⟩
abbrev cX9_stateTemperature : ByteArray := prog_1_method_16_code
def yX9_stateTemperature : MethodName := ⟨RX9, "stateTemperature", "(II)I"⟩
abbrev cX9_addPart : ByteArray := prog_1_method_17_code
def yX9_addPart : MethodName := ⟨RX9, "addPart", "(CII)I"⟩
abbrev cX9_clearParts : ByteArray := prog_1_method_18_code
def yX9_clearParts : MethodName := ⟨RX9, "clearParts", "()I"⟩
abbrev cX9_solve : ByteArray := prog_1_method_19_code
def yX9_solve : MethodName := ⟨RX9, "solve", "(II)I"⟩
abbrev cX9_partWork : ByteArray := prog_1_method_20_code
def yX9_partWork : MethodName := ⟨RX9, "partWork", "(I)I"⟩
abbrev cX9_partHeat : ByteArray := prog_1_method_21_code
def yX9_partHeat : MethodName := ⟨RX9, "partHeat", "(I)I"⟩
abbrev cX9_partLost : ByteArray := prog_1_method_22_code
def yX9_partLost : MethodName := ⟨RX9, "partLost", "(I)I"⟩
abbrev cX9_pressureAhead : ByteArray := prog_1_method_23_code
def yX9_pressureAhead : MethodName := ⟨RX9, "pressureAhead", "(I)I"⟩
abbrev cX9_heatAhead : ByteArray := prog_1_method_24_code
def yX9_heatAhead : MethodName := ⟨RX9, "heatAhead", "(I)I"⟩
abbrev cX9_plantWork : ByteArray := prog_1_method_25_code
def yX9_plantWork : MethodName := ⟨RX9, "plantWork", "()I"⟩
abbrev cX9_setGas : ByteArray := prog_1_method_26_code
def yX9_setGas : MethodName := ⟨RX9, "setGas", "(III)I"⟩
abbrev cX9_addStroke : ByteArray := prog_1_method_27_code
def yX9_addStroke : MethodName := ⟨RX9, "addStroke", "(CII)I"⟩
abbrev cX9_clearStrokes : ByteArray := prog_1_method_28_code
def yX9_clearStrokes : MethodName := ⟨RX9, "clearStrokes", "()I"⟩
abbrev cX9_runCycles : ByteArray := prog_1_method_29_code
def yX9_runCycles : MethodName := ⟨RX9, "runCycles", "(I)I"⟩
abbrev cX9_wasEnded : ByteArray := prog_1_method_30_code
def yX9_wasEnded : MethodName := ⟨RX9, "wasEnded", "()Z"⟩
abbrev cX9_gasEnergy : ByteArray := prog_1_method_31_code
def yX9_gasEnergy : MethodName := ⟨RX9, "gasEnergy", "()I"⟩
abbrev cX9_gasPressure : ByteArray := prog_1_method_32_code
def yX9_gasPressure : MethodName := ⟨RX9, "gasPressure", "()I"⟩
abbrev cX9_gasVolume : ByteArray := prog_1_method_33_code
def yX9_gasVolume : MethodName := ⟨RX9, "gasVolume", "()I"⟩
abbrev cX9_cardAt : ByteArray := prog_1_method_34_code
def yX9_cardAt : MethodName := ⟨RX9, "cardAt", "(I)I"⟩
abbrev cX9_addStream : ByteArray := prog_1_method_35_code
def yX9_addStream : MethodName := ⟨RX9, "addStream", "(III)I"⟩
abbrev cX9_clearStreams : ByteArray := prog_1_method_36_code
def yX9_clearStreams : MethodName := ⟨RX9, "clearStreams", "()I"⟩
abbrev cX9_heatNeeded : ByteArray := prog_1_method_37_code
def yX9_heatNeeded : MethodName := ⟨RX9, "heatNeeded", "(I)I"⟩
abbrev cX9_coldNeeded : ByteArray := prog_1_method_38_code
def yX9_coldNeeded : MethodName := ⟨RX9, "coldNeeded", "(I)I"⟩
abbrev cX9_pinch : ByteArray := prog_1_method_39_code
def yX9_pinch : MethodName := ⟨RX9, "pinch", "(I)I"⟩
abbrev cX9_setGovernor : ByteArray := prog_1_method_40_code
def yX9_setGovernor : MethodName := ⟨RX9, "setGovernor", "(IIII)I"⟩
abbrev cX9_setLoad : ByteArray := prog_1_method_41_code
def yX9_setLoad : MethodName := ⟨RX9, "setLoad", "(I)I"⟩
abbrev cX9_runSeconds : ByteArray := prog_1_method_42_code
def yX9_runSeconds : MethodName := ⟨RX9, "runSeconds", "(I)I"⟩
abbrev cX9_getValve : ByteArray := prog_1_method_43_code
def yX9_getValve : MethodName := ⟨RX9, "getValve", "()I"⟩
abbrev cX9_countTurns : ByteArray := prog_1_method_44_code
def yX9_countTurns : MethodName := ⟨RX9, "countTurns", "()I"⟩
abbrev cX9_isTripped : ByteArray := prog_1_method_45_code
def yX9_isTripped : MethodName := ⟨RX9, "isTripped", "()Z"⟩
abbrev cX9_resetTrip : ByteArray := prog_1_method_46_code
def yX9_resetTrip : MethodName := ⟨RX9, "resetTrip", "()Z"⟩
abbrev cX9_claim : ByteArray := prog_1_method_47_code
def yX9_claim : MethodName := ⟨RX9, "claim", "(IIII)C"⟩
abbrev cX9_bestWork : ByteArray := prog_1_method_48_code
def yX9_bestWork : MethodName := ⟨RX9, "bestWork", "(III)I"⟩
abbrev cX9_checksum : ByteArray := prog_1_method_49_code
def yX9_checksum : MethodName := ⟨RX9, "checksum", "()J"⟩
abbrev cX9_makingShare : ByteArray := prog_1_method_50_code
def yX9_makingShare : MethodName := ⟨RX9, "makingShare", "()F"⟩
abbrev cX9_meanTemperature : ByteArray := prog_1_method_51_code
def yX9_meanTemperature : MethodName := ⟨RX9, "meanTemperature", "()D"⟩
abbrev cX9_isSound : ByteArray := prog_1_method_52_code
def yX9_isSound : MethodName := ⟨RX9, "isSound", "()Z"⟩
abbrev cX9_isOutside : ByteArray := prog_1_method_53_code
def yX9_isOutside : MethodName := ⟨RX9, "isOutside", "(III)Z"⟩
abbrev cX9_requireBody : ByteArray := prog_1_method_54_code
def yX9_requireBody : MethodName := ⟨RX9, "requireBody", "(I)V"⟩
abbrev cX9_requireTwoBodies : ByteArray := prog_1_method_55_code
def yX9_requireTwoBodies : MethodName := ⟨RX9, "requireTwoBodies", "(III)V"⟩
abbrev cX9_move : ByteArray := prog_1_method_56_code
def yX9_move : MethodName := ⟨RX9, "move", "(IIIII)I"⟩
abbrev cX9_requireRows : ByteArray := prog_1_method_57_code
def yX9_requireRows : MethodName := ⟨RX9, "requireRows", "(I)V"⟩
abbrev cX9_requireStateHeat : ByteArray := prog_1_method_58_code
def yX9_requireStateHeat : MethodName := ⟨RX9, "requireStateHeat", "(I)V"⟩
abbrev cX9_requireState : ByteArray := prog_1_method_59_code
def yX9_requireState : MethodName := ⟨RX9, "requireState", "(II)V"⟩
abbrev cX9_requireSolved : ByteArray := prog_1_method_60_code
def yX9_requireSolved : MethodName := ⟨RX9, "requireSolved", "()V"⟩
abbrev cX9_requireSolvedPart : ByteArray := prog_1_method_61_code
def yX9_requireSolvedPart : MethodName := ⟨RX9, "requireSolvedPart", "(I)V"⟩
abbrev cX9_requireApproach : ByteArray := prog_1_method_62_code
def yX9_requireApproach : MethodName := ⟨RX9, "requireApproach", "(I)V"⟩
abbrev cX9_requireClaim : ByteArray := prog_1_method_63_code
def yX9_requireClaim : MethodName := ⟨RX9, "requireClaim", "(III)V"⟩
abbrev cX9_dividedUp : ByteArray := prog_1_method_64_code
def yX9_dividedUp : MethodName := ⟨RX9, "dividedUp", "(II)I"⟩
abbrev cX9_dividedDown : ByteArray := prog_1_method_65_code
def yX9_dividedDown : MethodName := ⟨RX9, "dividedDown", "(II)I"⟩
abbrev cX9_disorderMade : ByteArray := prog_1_method_66_code
def yX9_disorderMade : MethodName := ⟨RX9, "disorderMade", "(IJIJ)I"⟩
def RX10 : String := "CycleworksModel"
def TX10 : u_T := fun k => match k with
  | 0 => ("CycleworksModel", "thrown", "I", false)
  | 1 => ("CycleworksModel", "bodies", "Ljava/util/List;", true)
  | 2 => ("CycleworksModel", "work", "I", false)
  | 3 => ("CycleworksModel", "made", "I", false)
  | 4 => ("CycleworksModel", "done", "I", false)
  | 5 => ("CycleworksModel", "makers", "I", false)
  | 6 => ("CycleworksModel", "rows", "Ljava/util/List;", true)
  | 7 => ("CycleworksModel", "parts", "Ljava/util/List;", true)
  | 8 => ("CycleworksModel", "solved", "Ljava/util/List;", false)
  | 9 => ("CycleworksModel", "amount", "I", false)
  | 10 => ("CycleworksModel", "volume", "I", false)
  | 11 => ("CycleworksModel", "energy", "I", false)
  | 12 => ("CycleworksModel", "strokes", "Ljava/util/List;", true)
  | 13 => ("CycleworksModel", "card", "Ljava/util/List;", true)
  | 14 => ("CycleworksModel", "ran", "Z", false)
  | 15 => ("CycleworksModel", "ended", "Z", false)
  | 16 => ("CycleworksModel", "made2", "I", false)
  | 17 => ("CycleworksModel", "streams", "Ljava/util/List;", true)
  | 18 => ("CycleworksModel", "speed", "I", false)
  | 19 => ("CycleworksModel", "valve", "I", false)
  | 20 => ("CycleworksModel", "load", "I", false)
  | 21 => ("CycleworksModel", "set", "I", false)
  | 22 => ("CycleworksModel", "gain", "I", false)
  | 23 => ("CycleworksModel", "stiction", "I", false)
  | 24 => ("CycleworksModel", "limit", "I", false)
  | 25 => ("CycleworksModel", "tripped", "Z", false)
  | 26 => ("CycleworksModel", "turns", "I", false)
  | _ => ("CycleworksModel", "lastWay", "I", false)
def tyX10 : Nat → FieldType := fun k => match k with
  | 0 => .int
  | 1 => .object "java/util/List"
  | 2 => .int
  | 3 => .int
  | 4 => .int
  | 5 => .int
  | 6 => .object "java/util/List"
  | 7 => .object "java/util/List"
  | 8 => .object "java/util/List"
  | 9 => .int
  | 10 => .int
  | 11 => .int
  | 12 => .object "java/util/List"
  | 13 => .object "java/util/List"
  | 14 => .boolean
  | 15 => .boolean
  | 16 => .int
  | 17 => .object "java/util/List"
  | 18 => .int
  | 19 => .int
  | 20 => .int
  | 21 => .int
  | 22 => .int
  | 23 => .int
  | 24 => .int
  | 25 => .boolean
  | 26 => .int
  | _ => .int
theorem nmX10 : ∀ a, a < 28 → ∀ b, b < 28 → a ≠ b → (TX10 a).2.1 ≠ (TX10 b).2.1 := by decide +kernel
theorem tyX10_ok : ∀ k, k < 28 → parseFieldDescriptor (TX10 k).2.2.1 = some (tyX10 k) := by decide +kernel
abbrev cX10_thrown : ByteArray := prog_12_method_1_code
def yX10_thrown : MethodName := ⟨RX10, "thrown", "()I"⟩
abbrev cX10_in : ByteArray := prog_12_method_2_code
def yX10_in : MethodName := ⟨RX10, "in", "(JJJ)Z"⟩
abbrev cX10_isOf : ByteArray := prog_12_method_3_code
def yX10_isOf : MethodName := ⟨RX10, "isOf", "(Ljava/util/List;I)Z"⟩
abbrev cX10_fails : ByteArray := prog_12_method_4_code
def yX10_fails : MethodName := ⟨RX10, "fails", "(ZI)Z"⟩
abbrev cX10_begins : ByteArray := prog_12_method_5_code
def yX10_begins : MethodName := ⟨RX10, "begins", "()V"⟩
abbrev cX10_init : ByteArray := prog_12_method_6_code
def yX10_init : MethodName := ⟨RX10, "<init>", "()V"⟩
abbrev cX10_warm : ByteArray := prog_12_method_7_code
def yX10_warm : MethodName := ⟨RX10, "warm", "([I)I"⟩
abbrev cX10_disorder : ByteArray := prog_12_method_8_code
def yX10_disorder : MethodName := ⟨RX10, "disorder", "(IIII)I"⟩
abbrev cX10_noBody : ByteArray := prog_12_method_9_code
def yX10_noBody : MethodName := ⟨RX10, "noBody", "(I)Z"⟩
abbrev cX10_addBody : ByteArray := prog_12_method_10_code
def yX10_addBody : MethodName := ⟨RX10, "addBody", "(II)I"⟩
abbrev cX10_getTemperature : ByteArray := prog_12_method_11_code
def yX10_getTemperature : MethodName := ⟨RX10, "getTemperature", "(I)I"⟩
abbrev cX10_getEnergy : ByteArray := prog_12_method_12_code
def yX10_getEnergy : MethodName := ⟨RX10, "getEnergy", "(I)I"⟩
abbrev cX10_isCold : ByteArray := prog_12_method_13_code
def yX10_isCold : MethodName := ⟨RX10, "isCold", "([II)Z"⟩
abbrev cX10_counts : ByteArray := prog_12_method_14_code
def yX10_counts : MethodName := ⟨RX10, "counts", "(I)I"⟩
abbrev cX10_conduct : ByteArray := prog_12_method_15_code
def yX10_conduct : MethodName := ⟨RX10, "conduct", "(III)I"⟩
abbrev cX10_moves : ByteArray := prog_12_method_16_code
def yX10_moves : MethodName := ⟨RX10, "moves", "(IIII)I"⟩
abbrev cX10_runEngine : ByteArray := prog_12_method_17_code
def yX10_runEngine : MethodName := ⟨RX10, "runEngine", "(IIII)I"⟩
abbrev cX10_runPump : ByteArray := prog_12_method_18_code
def yX10_runPump : MethodName := ⟨RX10, "runPump", "(IIII)I"⟩
abbrev cX10_getWork : ByteArray := prog_12_method_19_code
def yX10_getWork : MethodName := ⟨RX10, "getWork", "()I"⟩
abbrev cX10_getMade : ByteArray := prog_12_method_20_code
def yX10_getMade : MethodName := ⟨RX10, "getMade", "()I"⟩
abbrev cX10_addRow : ByteArray := prog_12_method_21_code
def yX10_addRow : MethodName := ⟨RX10, "addRow", "(IIII)I"⟩
abbrev cX10_isIn : ByteArray := prog_12_method_22_code
def yX10_isIn : MethodName := ⟨RX10, "isIn", "(I)Z"⟩
abbrev cX10_between : ByteArray := prog_12_method_23_code
def yX10_between : MethodName := ⟨RX10, "between", "(II)I"⟩
abbrev cX10_rowed : ByteArray := prog_12_method_24_code
def yX10_rowed : MethodName := ⟨RX10, "rowed", "(II)I"⟩
abbrev cX10_getBoiling : ByteArray := prog_12_method_25_code
def yX10_getBoiling : MethodName := ⟨RX10, "getBoiling", "(I)I"⟩
abbrev cX10_getLiquid : ByteArray := prog_12_method_26_code
def yX10_getLiquid : MethodName := ⟨RX10, "getLiquid", "(I)I"⟩
abbrev cX10_getVapour : ByteArray := prog_12_method_27_code
def yX10_getVapour : MethodName := ⟨RX10, "getVapour", "(I)I"⟩
abbrev cX10_noState : ByteArray := prog_12_method_28_code
def yX10_noState : MethodName := ⟨RX10, "noState", "(II)Z"⟩
abbrev cX10_phase : ByteArray := prog_12_method_29_code
def yX10_phase : MethodName := ⟨RX10, "phase", "(II)C"⟩
abbrev cX10_hot : ByteArray := prog_12_method_30_code
def yX10_hot : MethodName := ⟨RX10, "hot", "(II)I"⟩
abbrev cX10_getPhase : ByteArray := prog_12_method_31_code
def yX10_getPhase : MethodName := ⟨RX10, "getPhase", "(II)C"⟩
abbrev cX10_getDryness : ByteArray := prog_12_method_32_code
def yX10_getDryness : MethodName := ⟨RX10, "getDryness", "(II)I"⟩
abbrev cX10_stateTemperature : ByteArray := prog_12_method_33_code
def yX10_stateTemperature : MethodName := ⟨RX10, "stateTemperature", "(II)I"⟩
abbrev cX10_addPart : ByteArray := prog_12_method_34_code
def yX10_addPart : MethodName := ⟨RX10, "addPart", "(CII)I"⟩
abbrev cX10_clearParts : ByteArray := prog_12_method_35_code
def yX10_clearParts : MethodName := ⟨RX10, "clearParts", "()I"⟩
abbrev cX10_does : ByteArray := prog_12_method_36_code
def yX10_does : MethodName := ⟨RX10, "does", "([III)[I"⟩
abbrev cX10_solve : ByteArray := prog_12_method_37_code
def yX10_solve : MethodName := ⟨RX10, "solve", "(II)I"⟩
abbrev cX10_told : ByteArray := prog_12_method_38_code
def yX10_told : MethodName := ⟨RX10, "told", "(II)I"⟩
abbrev cX10_partWork : ByteArray := prog_12_method_39_code
def yX10_partWork : MethodName := ⟨RX10, "partWork", "(I)I"⟩
abbrev cX10_partHeat : ByteArray := prog_12_method_40_code
def yX10_partHeat : MethodName := ⟨RX10, "partHeat", "(I)I"⟩
abbrev cX10_partLost : ByteArray := prog_12_method_41_code
def yX10_partLost : MethodName := ⟨RX10, "partLost", "(I)I"⟩
abbrev cX10_pressureAhead : ByteArray := prog_12_method_42_code
def yX10_pressureAhead : MethodName := ⟨RX10, "pressureAhead", "(I)I"⟩
abbrev cX10_heatAhead : ByteArray := prog_12_method_43_code
def yX10_heatAhead : MethodName := ⟨RX10, "heatAhead", "(I)I"⟩
abbrev cX10_plantWork : ByteArray := prog_12_method_44_code
def yX10_plantWork : MethodName := ⟨RX10, "plantWork", "()I"⟩
abbrev cX10_setGas : ByteArray := prog_12_method_45_code
def yX10_setGas : MethodName := ⟨RX10, "setGas", "(III)I"⟩
abbrev cX10_addStroke : ByteArray := prog_12_method_46_code
def yX10_addStroke : MethodName := ⟨RX10, "addStroke", "(CII)I"⟩
abbrev cX10_clearStrokes : ByteArray := prog_12_method_47_code
def yX10_clearStrokes : MethodName := ⟨RX10, "clearStrokes", "()I"⟩
abbrev cX10_push : ByteArray := prog_12_method_48_code
def yX10_push : MethodName := ⟨RX10, "push", "()I"⟩
abbrev cX10_steps : ByteArray := prog_12_method_49_code
def yX10_steps : MethodName := ⟨RX10, "steps", "([I)Z"⟩
abbrev cX10_strokes : ByteArray := prog_12_method_50_code
def yX10_strokes : MethodName := ⟨RX10, "strokes", "()Z"⟩
abbrev cX10_runCycles : ByteArray := prog_12_method_51_code
def yX10_runCycles : MethodName := ⟨RX10, "runCycles", "(I)I"⟩
abbrev cX10_wasEnded : ByteArray := prog_12_method_52_code
def yX10_wasEnded : MethodName := ⟨RX10, "wasEnded", "()Z"⟩
abbrev cX10_gasEnergy : ByteArray := prog_12_method_53_code
def yX10_gasEnergy : MethodName := ⟨RX10, "gasEnergy", "()I"⟩
abbrev cX10_gasPressure : ByteArray := prog_12_method_54_code
def yX10_gasPressure : MethodName := ⟨RX10, "gasPressure", "()I"⟩
abbrev cX10_gasVolume : ByteArray := prog_12_method_55_code
def yX10_gasVolume : MethodName := ⟨RX10, "gasVolume", "()I"⟩
abbrev cX10_cardAt : ByteArray := prog_12_method_56_code
def yX10_cardAt : MethodName := ⟨RX10, "cardAt", "(I)I"⟩
abbrev cX10_addStream : ByteArray := prog_12_method_57_code
def yX10_addStream : MethodName := ⟨RX10, "addStream", "(III)I"⟩
abbrev cX10_clearStreams : ByteArray := prog_12_method_58_code
def yX10_clearStreams : MethodName := ⟨RX10, "clearStreams", "()I"⟩
abbrev cX10_gives : ByteArray := prog_12_method_59_code
def yX10_gives : MethodName := ⟨RX10, "gives", "(II)I"⟩
abbrev cX10_cascade : ByteArray := prog_12_method_60_code
def yX10_cascade : MethodName := ⟨RX10, "cascade", "(I)[I"⟩
abbrev cX10_noApproach : ByteArray := prog_12_method_61_code
def yX10_noApproach : MethodName := ⟨RX10, "noApproach", "(I)Z"⟩
abbrev cX10_heatNeeded : ByteArray := prog_12_method_62_code
def yX10_heatNeeded : MethodName := ⟨RX10, "heatNeeded", "(I)I"⟩
abbrev cX10_coldNeeded : ByteArray := prog_12_method_63_code
def yX10_coldNeeded : MethodName := ⟨RX10, "coldNeeded", "(I)I"⟩
abbrev cX10_pinch : ByteArray := prog_12_method_64_code
def yX10_pinch : MethodName := ⟨RX10, "pinch", "(I)I"⟩
abbrev cX10_setGovernor : ByteArray := prog_12_method_65_code
def yX10_setGovernor : MethodName := ⟨RX10, "setGovernor", "(IIII)I"⟩
abbrev cX10_setLoad : ByteArray := prog_12_method_66_code
def yX10_setLoad : MethodName := ⟨RX10, "setLoad", "(I)I"⟩
abbrev cX10_second : ByteArray := prog_12_method_67_code
def yX10_second : MethodName := ⟨RX10, "second", "()V"⟩
abbrev cX10_runSeconds : ByteArray := prog_12_method_68_code
def yX10_runSeconds : MethodName := ⟨RX10, "runSeconds", "(I)I"⟩
abbrev cX10_getValve : ByteArray := prog_12_method_69_code
def yX10_getValve : MethodName := ⟨RX10, "getValve", "()I"⟩
abbrev cX10_countTurns : ByteArray := prog_12_method_70_code
def yX10_countTurns : MethodName := ⟨RX10, "countTurns", "()I"⟩
abbrev cX10_isTripped : ByteArray := prog_12_method_71_code
def yX10_isTripped : MethodName := ⟨RX10, "isTripped", "()Z"⟩
abbrev cX10_resetTrip : ByteArray := prog_12_method_72_code
def yX10_resetTrip : MethodName := ⟨RX10, "resetTrip", "()Z"⟩
abbrev cX10_noClaim : ByteArray := prog_12_method_73_code
def yX10_noClaim : MethodName := ⟨RX10, "noClaim", "(III)Z"⟩
abbrev cX10_claim : ByteArray := prog_12_method_74_code
def yX10_claim : MethodName := ⟨RX10, "claim", "(IIII)C"⟩
abbrev cX10_bestWork : ByteArray := prog_12_method_75_code
def yX10_bestWork : MethodName := ⟨RX10, "bestWork", "(III)I"⟩
abbrev cX10_checksum : ByteArray := prog_12_method_76_code
def yX10_checksum : MethodName := ⟨RX10, "checksum", "()J"⟩
abbrev cX10_makingShare : ByteArray := prog_12_method_77_code
def yX10_makingShare : MethodName := ⟨RX10, "makingShare", "()F"⟩
abbrev cX10_meanTemperature : ByteArray := prog_12_method_78_code
def yX10_meanTemperature : MethodName := ⟨RX10, "meanTemperature", "()D"⟩
abbrev cX10_isSound : ByteArray := prog_12_method_79_code
def yX10_isSound : MethodName := ⟨RX10, "isSound", "()Z"⟩
def RJx145de : String := "java/io/Serializable"
def TJx145de : u_T := fun k => match k with
  | _ => ("", "", "", false)
def tyJx145de : Nat → FieldType := fun k => match k with
  | _ => .int
theorem nmJx145de : ∀ a, a < 0 → ∀ b, b < 0 → a ≠ b → (TJx145de a).2.1 ≠ (TJx145de b).2.1 := by decide +kernel
theorem tyJx145de_ok : ∀ k, k < 0 → parseFieldDescriptor (TJx145de k).2.2.1 = some (tyJx145de k) := by decide +kernel
def RJx00060 : String := "java/lang/ArrayIndexOutOfBoundsException"
def TJx00060 : u_T := fun k => match k with
  | 0 => ("java/lang/Throwable", "backtrace", "Ljava/lang/Object;", false)
  | 1 => ("java/lang/Throwable", "detailMessage", "Ljava/lang/String;", false)
  | 2 => ("java/lang/Throwable", "cause", "Ljava/lang/Throwable;", false)
  | 3 => ("java/lang/Throwable", "stackTrace", "[Ljava/lang/StackTraceElement;", false)
  | 4 => ("java/lang/Throwable", "depth", "I", false)
  | _ => ("java/lang/Throwable", "suppressedExceptions", "Ljava/util/List;", false)
def tyJx00060 : Nat → FieldType := fun k => match k with
  | 0 => .object "java/lang/Object"
  | 1 => .object "java/lang/String"
  | 2 => .object "java/lang/Throwable"
  | 3 => .array (.object "java/lang/StackTraceElement")
  | 4 => .int
  | _ => .object "java/util/List"
theorem nmJx00060 : ∀ a, a < 6 → ∀ b, b < 6 → a ≠ b → (TJx00060 a).2.1 ≠ (TJx00060 b).2.1 := by decide +kernel
theorem tyJx00060_ok : ∀ k, k < 6 → parseFieldDescriptor (TJx00060 k).2.2.1 = some (tyJx00060 k) := by decide +kernel
abbrev cJx00060_init_a7421 : ByteArray := prog_15_method_2_code
def yJx00060_init_a7421 : MethodName := ⟨RJx00060, "<init>", "(Ljava/lang/String;)V"⟩
def RJx9f9b0 : String := "java/lang/CharSequence"
def TJx9f9b0 : u_T := fun k => match k with
  | _ => ("", "", "", false)
def tyJx9f9b0 : Nat → FieldType := fun k => match k with
  | _ => .int
theorem nmJx9f9b0 : ∀ a, a < 0 → ∀ b, b < 0 → a ≠ b → (TJx9f9b0 a).2.1 ≠ (TJx9f9b0 b).2.1 := by decide +kernel
theorem tyJx9f9b0_ok : ∀ k, k < 0 → parseFieldDescriptor (TJx9f9b0 k).2.2.1 = some (tyJx9f9b0 k) := by decide +kernel
def RJ11 : String := "java/lang/Character"
def TJ11 : u_T := fun k => match k with
  | _ => ("", "", "", false)
def tyJ11 : Nat → FieldType := fun k => match k with
  | _ => .int
theorem nmJ11 : ∀ a, a < 0 → ∀ b, b < 0 → a ≠ b → (TJ11 a).2.1 ≠ (TJ11 b).2.1 := by decide +kernel
theorem tyJ11_ok : ∀ k, k < 0 → parseFieldDescriptor (TJ11 k).2.2.1 = some (tyJ11 k) := by decide +kernel
abbrev cJ11_isValidCodePoint_9a6ad : ByteArray := prog_17_method_11_code
def yJ11_isValidCodePoint_9a6ad : MethodName := ⟨RJ11, "isValidCodePoint", "(I)Z"⟩
abbrev cJ11_highSurrogate_5068e : ByteArray := prog_17_method_28_code
def yJ11_highSurrogate_5068e : MethodName := ⟨RJ11, "highSurrogate", "(I)C"⟩
abbrev cJ11_lowSurrogate_5068e : ByteArray := prog_17_method_29_code
def yJ11_lowSurrogate_5068e : MethodName := ⟨RJ11, "lowSurrogate", "(I)C"⟩
def RJx8e188 : String := "java/lang/Cloneable"
def TJx8e188 : u_T := fun k => match k with
  | _ => ("", "", "", false)
def tyJx8e188 : Nat → FieldType := fun k => match k with
  | _ => .int
theorem nmJx8e188 : ∀ a, a < 0 → ∀ b, b < 0 → a ≠ b → (TJx8e188 a).2.1 ≠ (TJx8e188 b).2.1 := by decide +kernel
theorem tyJx8e188_ok : ∀ k, k < 0 → parseFieldDescriptor (TJx8e188 k).2.2.1 = some (tyJx8e188 k) := by decide +kernel
def RJxb160c : String := "java/lang/Comparable"
def TJxb160c : u_T := fun k => match k with
  | _ => ("", "", "", false)
def tyJxb160c : Nat → FieldType := fun k => match k with
  | _ => .int
theorem nmJxb160c : ∀ a, a < 0 → ∀ b, b < 0 → a ≠ b → (TJxb160c a).2.1 ≠ (TJxb160c b).2.1 := by decide +kernel
theorem tyJxb160c_ok : ∀ k, k < 0 → parseFieldDescriptor (TJxb160c k).2.2.1 = some (tyJxb160c k) := by decide +kernel
def RJxabbfe : String := "java/lang/Integer$IntegerCache"
def TJxabbfe : u_T := fun k => match k with
  | _ => ("", "", "", false)
def tyJxabbfe : Nat → FieldType := fun k => match k with
  | _ => .int
theorem nmJxabbfe : ∀ a, a < 0 → ∀ b, b < 0 → a ≠ b → (TJxabbfe a).2.1 ≠ (TJxabbfe b).2.1 := by decide +kernel
theorem tyJxabbfe_ok : ∀ k, k < 0 → parseFieldDescriptor (TJxabbfe k).2.2.1 = some (tyJxabbfe k) := by decide +kernel
def RJ6 : String := "java/lang/Integer"
def TJ6 : u_T := fun k => match k with
  | _ => ("java/lang/Integer", "value", "I", true)
def tyJ6 : Nat → FieldType := fun k => match k with
  | _ => .int
theorem nmJ6 : ∀ a, a < 1 → ∀ b, b < 1 → a ≠ b → (TJ6 a).2.1 ≠ (TJ6 b).2.1 := by decide +kernel
theorem tyJ6_ok : ∀ k, k < 1 → parseFieldDescriptor (TJ6 k).2.2.1 = some (tyJ6 k) := by decide +kernel
abbrev cJ6_valueOf_2dffe : ByteArray := prog_24_method_22_code
def yJ6_valueOf_2dffe : MethodName := ⟨RJ6, "valueOf", "(I)Ljava/lang/Integer;"⟩
abbrev cJ6_init_d00df : ByteArray := prog_24_method_23_code
def yJ6_init_d00df : MethodName := ⟨RJ6, "<init>", "(I)V"⟩
abbrev cJ6_intValue_8abf5 : ByteArray := prog_24_method_27_code
def yJ6_intValue_8abf5 : MethodName := ⟨RJ6, "intValue", "()I"⟩
abbrev cJ6_numberOfLeadingZeros_0f7a4 : ByteArray := prog_24_method_47_code
def yJ6_numberOfLeadingZeros_0f7a4 : MethodName := ⟨RJ6, "numberOfLeadingZeros", "(I)I"⟩
def RJxab1ab : String := "java/lang/Iterable"
def TJxab1ab : u_T := fun k => match k with
  | _ => ("", "", "", false)
def tyJxab1ab : Nat → FieldType := fun k => match k with
  | _ => .int
theorem nmJxab1ab : ∀ a, a < 0 → ∀ b, b < 0 → a ≠ b → (TJxab1ab a).2.1 ≠ (TJxab1ab b).2.1 := by decide +kernel
theorem tyJxab1ab_ok : ∀ k, k < 0 → parseFieldDescriptor (TJxab1ab k).2.2.1 = some (tyJxab1ab k) := by decide +kernel
def RJ13 : String := "java/lang/Long"
def TJ13 : u_T := fun k => match k with
  | _ => ("", "", "", false)
def tyJ13 : Nat → FieldType := fun k => match k with
  | _ => .int
theorem nmJ13 : ∀ a, a < 0 → ∀ b, b < 0 → a ≠ b → (TJ13 a).2.1 ≠ (TJ13 b).2.1 := by decide +kernel
theorem tyJ13_ok : ∀ k, k < 0 → parseFieldDescriptor (TJ13 k).2.2.1 = some (tyJ13 k) := by decide +kernel
abbrev cJ13_numberOfLeadingZeros_95d88 : ByteArray := prog_27_method_48_code
def yJ13_numberOfLeadingZeros_95d88 : MethodName := ⟨RJ13, "numberOfLeadingZeros", "(J)I"⟩
def RJ9 : String := "java/lang/Math"
def TJ9 : u_T := fun k => match k with
  | _ => ("", "", "", false)
def tyJ9 : Nat → FieldType := fun k => match k with
  | _ => .int
theorem nmJ9 : ∀ a, a < 0 → ∀ b, b < 0 → a ≠ b → (TJ9 a).2.1 ≠ (TJ9 b).2.1 := by decide +kernel
theorem tyJ9_ok : ∀ k, k < 0 → parseFieldDescriptor (TJ9 k).2.2.1 = some (tyJ9 k) := by decide +kernel
abbrev cJ9_abs_0f7a4 : ByteArray := prog_28_method_59_code
def yJ9_abs_0f7a4 : MethodName := ⟨RJ9, "abs", "(I)I"⟩
abbrev cJ9_max_7cf53 : ByteArray := prog_28_method_65_code
def yJ9_max_7cf53 : MethodName := ⟨RJ9, "max", "(II)I"⟩
abbrev cJ9_min_7cf53 : ByteArray := prog_28_method_69_code
def yJ9_min_7cf53 : MethodName := ⟨RJ9, "min", "(II)I"⟩
abbrev cJ9_min_f86c9 : ByteArray := prog_28_method_70_code
def yJ9_min_f86c9 : MethodName := ⟨RJ9, "min", "(JJ)J"⟩
def RJxd2413 : String := "java/lang/Number"
def TJxd2413 : u_T := fun k => match k with
  | _ => ("", "", "", false)
def tyJxd2413 : Nat → FieldType := fun k => match k with
  | _ => .int
theorem nmJxd2413 : ∀ a, a < 0 → ∀ b, b < 0 → a ≠ b → (TJxd2413 a).2.1 ≠ (TJxd2413 b).2.1 := by decide +kernel
theorem tyJxd2413_ok : ∀ k, k < 0 → parseFieldDescriptor (TJxd2413 k).2.2.1 = some (tyJxd2413 k) := by decide +kernel
abbrev cJxd2413_init_da8c8 : ByteArray := prog_29_method_1_code
def yJxd2413_init_da8c8 : MethodName := ⟨RJxd2413, "<init>", "()V"⟩
def RJ0 : String := "java/lang/String"
def TJ0 : u_T := fun k => match k with
  | 0 => ("java/lang/String", "value", "[B", true)
  | _ => ("java/lang/String", "coder", "B", true)
def tyJ0 : Nat → FieldType := fun k => match k with
  | 0 => .array .byte
  | _ => .byte
theorem nmJ0 : ∀ a, a < 2 → ∀ b, b < 2 → a ≠ b → (TJ0 a).2.1 ≠ (TJ0 b).2.1 := by decide +kernel
theorem tyJ0_ok : ∀ k, k < 2 → parseFieldDescriptor (TJ0 k).2.2.1 = some (tyJ0 k) := by decide +kernel
abbrev cJ0_length_8abf5 : ByteArray := prog_31_method_54_code
def yJ0_length_8abf5 : MethodName := ⟨RJ0, "length", "()I"⟩
abbrev cJ0_indexOf_0f7a4 : ByteArray := prog_31_method_79_code
def yJ0_indexOf_0f7a4 : MethodName := ⟨RJ0, "indexOf", "(I)I"⟩
abbrev cJ0_indexOf_7cf53 : ByteArray := prog_31_method_80_code
def yJ0_indexOf_7cf53 : MethodName := ⟨RJ0, "indexOf", "(II)I"⟩
abbrev cJ0_coder_7d493 : ByteArray := prog_31_method_152_code
def yJ0_coder_7d493 : MethodName := ⟨RJ0, "coder", "()B"⟩
abbrev cJ0_isLatin1_aae02 : ByteArray := prog_31_method_154_code
def yJ0_isLatin1_aae02 : MethodName := ⟨RJ0, "isLatin1", "()Z"⟩
abbrev cJ0_checkBoundsBeginEnd_23922 : ByteArray := prog_31_method_158_code
def yJ0_checkBoundsBeginEnd_23922 : MethodName := ⟨RJ0, "checkBoundsBeginEnd", "(III)V"⟩
def RJ1 : String := "java/lang/StringLatin1"
def TJ1 : u_T := fun k => match k with
  | _ => ("", "", "", false)
def tyJ1 : Nat → FieldType := fun k => match k with
  | _ => .int
theorem nmJ1 : ∀ a, a < 0 → ∀ b, b < 0 → a ≠ b → (TJ1 a).2.1 ≠ (TJ1 b).2.1 := by decide +kernel
theorem tyJ1_ok : ∀ k, k < 0 → parseFieldDescriptor (TJ1 k).2.2.1 = some (tyJ1 k) := by decide +kernel
abbrev cJ1_canEncode_9a6ad : ByteArray := prog_32_method_4_code
def yJ1_canEncode_9a6ad : MethodName := ⟨RJ1, "canEncode", "(I)Z"⟩
abbrev cJ1_indexOf_4cfef : ByteArray := prog_32_method_22_code
def yJ1_indexOf_4cfef : MethodName := ⟨RJ1, "indexOf", "([BIII)I"⟩
abbrev cJ1_indexOfChar_4cfef : ByteArray := prog_32_method_23_code
def yJ1_indexOfChar_4cfef : MethodName := ⟨RJ1, "indexOfChar", "([BIII)I"⟩
def RJ2 : String := "java/lang/StringUTF16"
def TJ2 : u_T := fun k => match k with
  | _ => ("", "", "", false)
def tyJ2 : Nat → FieldType := fun k => match k with
  | _ => .int
theorem nmJ2 : ∀ a, a < 0 → ∀ b, b < 0 → a ≠ b → (TJ2 a).2.1 ≠ (TJ2 b).2.1 := by decide +kernel
theorem tyJ2_ok : ∀ k, k < 0 → parseFieldDescriptor (TJ2 k).2.2.1 = some (tyJ2 k) := by decide +kernel
abbrev cJ2_getChar_3b067 : ByteArray := prog_33_method_5_code
def yJ2_getChar_3b067 : MethodName := ⟨RJ2, "getChar", "([BI)C"⟩
abbrev cJ2_length_9d52b : ByteArray := prog_33_method_6_code
def yJ2_length_9d52b : MethodName := ⟨RJ2, "length", "([B)I"⟩
abbrev cJ2_indexOf_4cfef : ByteArray := prog_33_method_40_code
def yJ2_indexOf_4cfef : MethodName := ⟨RJ2, "indexOf", "([BIII)I"⟩
abbrev cJ2_indexOfChar_4cfef : ByteArray := prog_33_method_47_code
def yJ2_indexOfChar_4cfef : MethodName := ⟨RJ2, "indexOfChar", "([BIII)I"⟩
abbrev cJ2_indexOfCharUnsafe_4cfef : ByteArray := prog_33_method_48_code
def yJ2_indexOfCharUnsafe_4cfef : MethodName := ⟨RJ2, "indexOfCharUnsafe", "([BIII)I"⟩
abbrev cJ2_indexOfSupplementary_4cfef : ByteArray := prog_33_method_49_code
def yJ2_indexOfSupplementary_4cfef : MethodName := ⟨RJ2, "indexOfSupplementary", "([BIII)I"⟩
abbrev cJ2_checkBoundsBeginEnd_d044e : ByteArray := prog_33_method_93_code
def yJ2_checkBoundsBeginEnd_d044e : MethodName := ⟨RJ2, "checkBoundsBeginEnd", "(II[B)V"⟩
def RJ10 : String := "java/lang/System"
def TJ10 : u_T := fun k => match k with
  | _ => ("", "", "", false)
def tyJ10 : Nat → FieldType := fun k => match k with
  | _ => .int
theorem nmJ10 : ∀ a, a < 0 → ∀ b, b < 0 → a ≠ b → (TJ10 a).2.1 ≠ (TJ10 b).2.1 := by decide +kernel
theorem tyJ10_ok : ∀ k, k < 0 → parseFieldDescriptor (TJ10 k).2.2.1 = some (tyJ10 k) := by decide +kernel
def RJxfd54e : String := "java/lang/constant/Constable"
def TJxfd54e : u_T := fun k => match k with
  | _ => ("", "", "", false)
def tyJxfd54e : Nat → FieldType := fun k => match k with
  | _ => .int
theorem nmJxfd54e : ∀ a, a < 0 → ∀ b, b < 0 → a ≠ b → (TJxfd54e a).2.1 ≠ (TJxfd54e b).2.1 := by decide +kernel
theorem tyJxfd54e_ok : ∀ k, k < 0 → parseFieldDescriptor (TJxfd54e k).2.2.1 = some (tyJxfd54e k) := by decide +kernel
def RJx3cf43 : String := "java/lang/constant/ConstantDesc"
def TJx3cf43 : u_T := fun k => match k with
  | _ => ("", "", "", false)
def tyJx3cf43 : Nat → FieldType := fun k => match k with
  | _ => .int
theorem nmJx3cf43 : ∀ a, a < 0 → ∀ b, b < 0 → a ≠ b → (TJx3cf43 a).2.1 ≠ (TJx3cf43 b).2.1 := by decide +kernel
theorem tyJx3cf43_ok : ∀ k, k < 0 → parseFieldDescriptor (TJx3cf43 k).2.2.1 = some (tyJx3cf43 k) := by decide +kernel
def RJxa1e45 : String := "java/util/AbstractCollection"
def TJxa1e45 : u_T := fun k => match k with
  | _ => ("", "", "", false)
def tyJxa1e45 : Nat → FieldType := fun k => match k with
  | _ => .int
theorem nmJxa1e45 : ∀ a, a < 0 → ∀ b, b < 0 → a ≠ b → (TJxa1e45 a).2.1 ≠ (TJxa1e45 b).2.1 := by decide +kernel
theorem tyJxa1e45_ok : ∀ k, k < 0 → parseFieldDescriptor (TJxa1e45 k).2.2.1 = some (tyJxa1e45 k) := by decide +kernel
abbrev cJxa1e45_init_da8c8 : ByteArray := prog_39_method_1_code
def yJxa1e45_init_da8c8 : MethodName := ⟨RJxa1e45, "<init>", "()V"⟩
def RJxc12de : String := "java/util/AbstractList"
def TJxc12de : u_T := fun k => match k with
  | _ => ("", "", "", false)
def tyJxc12de : Nat → FieldType := fun k => match k with
  | _ => .int
theorem nmJxc12de : ∀ a, a < 0 → ∀ b, b < 0 → a ≠ b → (TJxc12de a).2.1 ≠ (TJxc12de b).2.1 := by decide +kernel
theorem tyJxc12de_ok : ∀ k, k < 0 → parseFieldDescriptor (TJxc12de k).2.2.1 = some (tyJxc12de k) := by decide +kernel
abbrev cJxc12de_init_da8c8 : ByteArray := prog_40_method_1_code
def yJxc12de_init_da8c8 : MethodName := ⟨RJxc12de, "<init>", "()V"⟩
def RJx35411 : String := "java/util/ArrayList$Itr"
def TJx35411 : u_T := fun k => match k with
  | 0 => ("java/util/ArrayList$Itr", "cursor", "I", false)
  | 1 => ("java/util/ArrayList$Itr", "lastRet", "I", false)
  | 2 => ("java/util/ArrayList$Itr", "expectedModCount", "I", false)
  | _ => ("java/util/ArrayList$Itr", "this$0", "Ljava/util/ArrayList;", true)
def tyJx35411 : Nat → FieldType := fun k => match k with
  | 0 => .int
  | 1 => .int
  | 2 => .int
  | _ => .object "java/util/ArrayList"
theorem nmJx35411 : ∀ a, a < 4 → ∀ b, b < 4 → a ≠ b → (TJx35411 a).2.1 ≠ (TJx35411 b).2.1 := by decide +kernel
theorem tyJx35411_ok : ∀ k, k < 4 → parseFieldDescriptor (TJx35411 k).2.2.1 = some (tyJx35411 k) := by decide +kernel
abbrev cJx35411_init_45d68 : ByteArray := prog_42_method_1_code
def yJx35411_init_45d68 : MethodName := ⟨RJx35411, "<init>", "(Ljava/util/ArrayList;)V"⟩
abbrev cJx35411_hasNext_aae02 : ByteArray := prog_42_method_2_code
def yJx35411_hasNext_aae02 : MethodName := ⟨RJx35411, "hasNext", "()Z"⟩
abbrev cJx35411_next_0502b : ByteArray := prog_42_method_3_code
def yJx35411_next_0502b : MethodName := ⟨RJx35411, "next", "()Ljava/lang/Object;"⟩
abbrev cJx35411_checkForComodification_da8c8 : ByteArray := prog_42_method_6_code
def yJx35411_checkForComodification_da8c8 : MethodName := ⟨RJx35411, "checkForComodification", "()V"⟩
def RJx4a65c : String := "java/util/ArrayList"
def TJx4a65c : u_T := fun k => match k with
  | 0 => ("java/util/AbstractList", "modCount", "I", false)
  | 1 => ("java/util/ArrayList", "elementData", "[Ljava/lang/Object;", false)
  | _ => ("java/util/ArrayList", "size", "I", false)
def tyJx4a65c : Nat → FieldType := fun k => match k with
  | 0 => .int
  | 1 => .array (.object "java/lang/Object")
  | _ => .int
theorem nmJx4a65c : ∀ a, a < 3 → ∀ b, b < 3 → a ≠ b → (TJx4a65c a).2.1 ≠ (TJx4a65c b).2.1 := by decide +kernel
theorem tyJx4a65c_ok : ∀ k, k < 3 → parseFieldDescriptor (TJx4a65c k).2.2.1 = some (tyJx4a65c k) := by decide +kernel
abbrev cJx4a65c_init_da8c8 : ByteArray := prog_41_method_2_code
def yJx4a65c_init_da8c8 : MethodName := ⟨RJx4a65c, "<init>", "()V"⟩
abbrev cJx4a65c_grow_92f84 : ByteArray := prog_41_method_6_code
def yJx4a65c_grow_92f84 : MethodName := ⟨RJx4a65c, "grow", "(I)[Ljava/lang/Object;"⟩
abbrev cJx4a65c_grow_d5877 : ByteArray := prog_41_method_7_code
def yJx4a65c_grow_d5877 : MethodName := ⟨RJx4a65c, "grow", "()[Ljava/lang/Object;"⟩
abbrev cJx4a65c_size_8abf5 : ByteArray := prog_41_method_8_code
def yJx4a65c_size_8abf5 : MethodName := ⟨RJx4a65c, "size", "()I"⟩
abbrev cJx4a65c_isEmpty_aae02 : ByteArray := prog_41_method_9_code
def yJx4a65c_isEmpty_aae02 : MethodName := ⟨RJx4a65c, "isEmpty", "()Z"⟩
abbrev cJx4a65c_elementData_915e3 : ByteArray := prog_41_method_18_code
def yJx4a65c_elementData_915e3 : MethodName := ⟨RJx4a65c, "elementData", "(I)Ljava/lang/Object;"⟩
abbrev cJx4a65c_get_915e3 : ByteArray := prog_41_method_20_code
def yJx4a65c_get_915e3 : MethodName := ⟨RJx4a65c, "get", "(I)Ljava/lang/Object;"⟩
abbrev cJx4a65c_add_72be8 : ByteArray := prog_41_method_24_code
def yJx4a65c_add_72be8 : MethodName := ⟨RJx4a65c, "add", "(Ljava/lang/Object;[Ljava/lang/Object;I)V"⟩
abbrev cJx4a65c_add_9ea2d : ByteArray := prog_41_method_25_code
def yJx4a65c_add_9ea2d : MethodName := ⟨RJx4a65c, "add", "(Ljava/lang/Object;)Z"⟩
abbrev cJx4a65c_clear_da8c8 : ByteArray := prog_41_method_40_code
def yJx4a65c_clear_da8c8 : MethodName := ⟨RJx4a65c, "clear", "()V"⟩
abbrev cJx4a65c_iterator_32c93 : ByteArray := prog_41_method_55_code
def yJx4a65c_iterator_32c93 : MethodName := ⟨RJx4a65c, "iterator", "()Ljava/util/Iterator;"⟩
def RJ7 : String := "java/util/Arrays"
def TJ7 : u_T := fun k => match k with
  | _ => ("", "", "", false)
def tyJ7 : Nat → FieldType := fun k => match k with
  | _ => .int
theorem nmJ7 : ∀ a, a < 0 → ∀ b, b < 0 → a ≠ b → (TJ7 a).2.1 ≠ (TJ7 b).2.1 := by decide +kernel
theorem tyJ7_ok : ∀ k, k < 0 → parseFieldDescriptor (TJ7 k).2.2.1 = some (tyJ7 k) := by decide +kernel
abbrev cJ7_copyOf_1904c : ByteArray := prog_43_method_119_code
def yJ7_copyOf_1904c : MethodName := ⟨RJ7, "copyOf", "([Ljava/lang/Object;I)[Ljava/lang/Object;"⟩
abbrev cJ7_copyOf_6403c : ByteArray := prog_43_method_120_code
def yJ7_copyOf_6403c : MethodName := ⟨RJ7, "copyOf", "([Ljava/lang/Object;ILjava/lang/Class;)[Ljava/lang/Object;"⟩
abbrev cJ7_copyOf_c38d5 : ByteArray := prog_43_method_124_code
def yJ7_copyOf_c38d5 : MethodName := ⟨RJ7, "copyOf", "([JI)[J"⟩
def RJx5ef63 : String := "java/util/Collection"
def TJx5ef63 : u_T := fun k => match k with
  | _ => ("", "", "", false)
def tyJx5ef63 : Nat → FieldType := fun k => match k with
  | _ => .int
theorem nmJx5ef63 : ∀ a, a < 0 → ∀ b, b < 0 → a ≠ b → (TJx5ef63 a).2.1 ≠ (TJx5ef63 b).2.1 := by decide +kernel
theorem tyJx5ef63_ok : ∀ k, k < 0 → parseFieldDescriptor (TJx5ef63 k).2.2.1 = some (tyJx5ef63 k) := by decide +kernel
def RJx4d0d8 : String := "java/util/Iterator"
def TJx4d0d8 : u_T := fun k => match k with
  | _ => ("", "", "", false)
def tyJx4d0d8 : Nat → FieldType := fun k => match k with
  | _ => .int
theorem nmJx4d0d8 : ∀ a, a < 0 → ∀ b, b < 0 → a ≠ b → (TJx4d0d8 a).2.1 ≠ (TJx4d0d8 b).2.1 := by decide +kernel
theorem tyJx4d0d8_ok : ∀ k, k < 0 → parseFieldDescriptor (TJx4d0d8 k).2.2.1 = some (tyJx4d0d8 k) := by decide +kernel
def RJxbd725 : String := "java/util/List"
def TJxbd725 : u_T := fun k => match k with
  | _ => ("", "", "", false)
def tyJxbd725 : Nat → FieldType := fun k => match k with
  | _ => .int
theorem nmJxbd725 : ∀ a, a < 0 → ∀ b, b < 0 → a ≠ b → (TJxbd725 a).2.1 ≠ (TJxbd725 b).2.1 := by decide +kernel
theorem tyJxbd725_ok : ∀ k, k < 0 → parseFieldDescriptor (TJxbd725 k).2.2.1 = some (tyJxbd725 k) := by decide +kernel
def RJ15 : String := "java/util/Objects"
def TJ15 : u_T := fun k => match k with
  | _ => ("", "", "", false)
def tyJ15 : Nat → FieldType := fun k => match k with
  | _ => .int
theorem nmJ15 : ∀ a, a < 0 → ∀ b, b < 0 → a ≠ b → (TJ15 a).2.1 ≠ (TJ15 b).2.1 := by decide +kernel
theorem tyJ15_ok : ∀ k, k < 0 → parseFieldDescriptor (TJ15 k).2.2.1 = some (tyJ15 k) := by decide +kernel
abbrev cJ15_checkIndex_7cf53 : ByteArray := prog_48_method_17_code
def yJ15_checkIndex_7cf53 : MethodName := ⟨RJ15, "checkIndex", "(II)I"⟩
def RJxf0a74 : String := "java/util/RandomAccess"
def TJxf0a74 : u_T := fun k => match k with
  | _ => ("", "", "", false)
def tyJxf0a74 : Nat → FieldType := fun k => match k with
  | _ => .int
theorem nmJxf0a74 : ∀ a, a < 0 → ∀ b, b < 0 → a ≠ b → (TJxf0a74 a).2.1 ≠ (TJxf0a74 b).2.1 := by decide +kernel
theorem tyJxf0a74_ok : ∀ k, k < 0 → parseFieldDescriptor (TJxf0a74 k).2.2.1 = some (tyJxf0a74 k) := by decide +kernel
def RJxa66e6 : String := "java/util/SequencedCollection"
def TJxa66e6 : u_T := fun k => match k with
  | _ => ("", "", "", false)
def tyJxa66e6 : Nat → FieldType := fun k => match k with
  | _ => .int
theorem nmJxa66e6 : ∀ a, a < 0 → ∀ b, b < 0 → a ≠ b → (TJxa66e6 a).2.1 ≠ (TJxa66e6 b).2.1 := by decide +kernel
theorem tyJxa66e6_ok : ∀ k, k < 0 → parseFieldDescriptor (TJxa66e6 k).2.2.1 = some (tyJxa66e6 k) := by decide +kernel
def RJ8 : String := "jdk/internal/util/ArraysSupport"
def TJ8 : u_T := fun k => match k with
  | _ => ("", "", "", false)
def tyJ8 : Nat → FieldType := fun k => match k with
  | _ => .int
theorem nmJ8 : ∀ a, a < 0 → ∀ b, b < 0 → a ≠ b → (TJ8 a).2.1 ≠ (TJ8 b).2.1 := by decide +kernel
theorem tyJ8_ok : ∀ k, k < 0 → parseFieldDescriptor (TJ8 k).2.2.1 = some (tyJ8 k) := by decide +kernel
abbrev cJ8_newLength_cabcc : ByteArray := prog_51_method_27_code
def yJ8_newLength_cabcc : MethodName := ⟨RJ8, "newLength", "(III)I"⟩
abbrev cJ8_hugeLength_7cf53 : ByteArray := prog_51_method_28_code
def yJ8_hugeLength_7cf53 : MethodName := ⟨RJ8, "hugeLength", "(II)I"⟩
def RJ3 : String := "jdk/internal/util/Preconditions"
def TJ3 : u_T := fun k => match k with
  | _ => ("", "", "", false)
def tyJ3 : Nat → FieldType := fun k => match k with
  | _ => .int
theorem nmJ3 : ∀ a, a < 0 → ∀ b, b < 0 → a ≠ b → (TJ3 a).2.1 ≠ (TJ3 b).2.1 := by decide +kernel
theorem tyJ3_ok : ∀ k, k < 0 → parseFieldDescriptor (TJ3 k).2.2.1 = some (tyJ3 k) := by decide +kernel
abbrev cJ3_checkIndex_8e157 : ByteArray := prog_52_method_11_code
def yJ3_checkIndex_8e157 : MethodName := ⟨RJ3, "checkIndex", "(IILjava/util/function/BiFunction;)I"⟩
abbrev cJ3_checkFromToIndex_8c36e : ByteArray := prog_52_method_12_code
def yJ3_checkFromToIndex_8c36e : MethodName := ⟨RJ3, "checkFromToIndex", "(IIILjava/util/function/BiFunction;)I"⟩
def RL : String := "CycleworksLaw"
abbrev cL_addBody : ByteArray := method_3_code
def yL_addBody : MethodName := ⟨RL, "addBody", "(LCycleworks;II[J)I"⟩
abbrev cL_getTemperature : ByteArray := method_4_code
def yL_getTemperature : MethodName := ⟨RL, "getTemperature", "(LCycleworks;I[J)I"⟩
abbrev cL_getEnergy : ByteArray := method_5_code
def yL_getEnergy : MethodName := ⟨RL, "getEnergy", "(LCycleworks;I[J)I"⟩
abbrev cL_conduct : ByteArray := method_6_code
def yL_conduct : MethodName := ⟨RL, "conduct", "(LCycleworks;III[J)I"⟩
abbrev cL_runEngine : ByteArray := method_7_code
def yL_runEngine : MethodName := ⟨RL, "runEngine", "(LCycleworks;IIII[J)I"⟩
abbrev cL_runPump : ByteArray := method_8_code
def yL_runPump : MethodName := ⟨RL, "runPump", "(LCycleworks;IIII[J)I"⟩
abbrev cL_addRow : ByteArray := method_9_code
def yL_addRow : MethodName := ⟨RL, "addRow", "(LCycleworks;IIII[J)I"⟩
abbrev cL_getBoiling : ByteArray := method_10_code
def yL_getBoiling : MethodName := ⟨RL, "getBoiling", "(LCycleworks;I[J)I"⟩
abbrev cL_getLiquid : ByteArray := method_11_code
def yL_getLiquid : MethodName := ⟨RL, "getLiquid", "(LCycleworks;I[J)I"⟩
abbrev cL_getVapour : ByteArray := method_12_code
def yL_getVapour : MethodName := ⟨RL, "getVapour", "(LCycleworks;I[J)I"⟩
abbrev cL_getPhase : ByteArray := method_13_code
def yL_getPhase : MethodName := ⟨RL, "getPhase", "(LCycleworks;II[J)I"⟩
abbrev cL_getDryness : ByteArray := method_14_code
def yL_getDryness : MethodName := ⟨RL, "getDryness", "(LCycleworks;II[J)I"⟩
abbrev cL_stateTemperature : ByteArray := method_15_code
def yL_stateTemperature : MethodName := ⟨RL, "stateTemperature", "(LCycleworks;II[J)I"⟩
abbrev cL_addPart : ByteArray := method_16_code
def yL_addPart : MethodName := ⟨RL, "addPart", "(LCycleworks;CII[J)I"⟩
abbrev cL_solve : ByteArray := method_17_code
def yL_solve : MethodName := ⟨RL, "solve", "(LCycleworks;II[J)I"⟩
abbrev cL_partWork : ByteArray := method_18_code
def yL_partWork : MethodName := ⟨RL, "partWork", "(LCycleworks;I[J)I"⟩
abbrev cL_partHeat : ByteArray := method_19_code
def yL_partHeat : MethodName := ⟨RL, "partHeat", "(LCycleworks;I[J)I"⟩
abbrev cL_partLost : ByteArray := method_20_code
def yL_partLost : MethodName := ⟨RL, "partLost", "(LCycleworks;I[J)I"⟩
abbrev cL_pressureAhead : ByteArray := method_21_code
def yL_pressureAhead : MethodName := ⟨RL, "pressureAhead", "(LCycleworks;I[J)I"⟩
abbrev cL_heatAhead : ByteArray := method_22_code
def yL_heatAhead : MethodName := ⟨RL, "heatAhead", "(LCycleworks;I[J)I"⟩
abbrev cL_plantWork : ByteArray := method_23_code
def yL_plantWork : MethodName := ⟨RL, "plantWork", "(LCycleworks;[J)I"⟩
abbrev cL_setGas : ByteArray := method_24_code
def yL_setGas : MethodName := ⟨RL, "setGas", "(LCycleworks;III[J)I"⟩
abbrev cL_addStroke : ByteArray := method_25_code
def yL_addStroke : MethodName := ⟨RL, "addStroke", "(LCycleworks;CII[J)I"⟩
abbrev cL_runCycles : ByteArray := method_26_code
def yL_runCycles : MethodName := ⟨RL, "runCycles", "(LCycleworks;I[J)I"⟩
abbrev cL_wasEnded : ByteArray := method_27_code
def yL_wasEnded : MethodName := ⟨RL, "wasEnded", "(LCycleworks;[J)I"⟩
abbrev cL_cardAt : ByteArray := method_28_code
def yL_cardAt : MethodName := ⟨RL, "cardAt", "(LCycleworks;I[J)I"⟩
abbrev cL_addStream : ByteArray := method_29_code
def yL_addStream : MethodName := ⟨RL, "addStream", "(LCycleworks;III[J)I"⟩
abbrev cL_heatNeeded : ByteArray := method_30_code
def yL_heatNeeded : MethodName := ⟨RL, "heatNeeded", "(LCycleworks;I[J)I"⟩
abbrev cL_coldNeeded : ByteArray := method_31_code
def yL_coldNeeded : MethodName := ⟨RL, "coldNeeded", "(LCycleworks;I[J)I"⟩
abbrev cL_pinch : ByteArray := method_32_code
def yL_pinch : MethodName := ⟨RL, "pinch", "(LCycleworks;I[J)I"⟩
abbrev cL_setGovernor : ByteArray := method_33_code
def yL_setGovernor : MethodName := ⟨RL, "setGovernor", "(LCycleworks;IIII[J)I"⟩
abbrev cL_setLoad : ByteArray := method_34_code
def yL_setLoad : MethodName := ⟨RL, "setLoad", "(LCycleworks;I[J)I"⟩
abbrev cL_runSeconds : ByteArray := method_35_code
def yL_runSeconds : MethodName := ⟨RL, "runSeconds", "(LCycleworks;I[J)I"⟩
abbrev cL_resetTrip : ByteArray := method_36_code
def yL_resetTrip : MethodName := ⟨RL, "resetTrip", "(LCycleworks;[J)I"⟩
abbrev cL_claim : ByteArray := method_37_code
def yL_claim : MethodName := ⟨RL, "claim", "(LCycleworks;IIII[J)I"⟩
abbrev cL_bestWork : ByteArray := method_38_code
def yL_bestWork : MethodName := ⟨RL, "bestWork", "(LCycleworks;III[J)I"⟩
abbrev cL_makingShare : ByteArray := method_39_code
def yL_makingShare : MethodName := ⟨RL, "makingShare", "(LCycleworks;[D)I"⟩
abbrev cL_meanTemperature : ByteArray := method_40_code
def yL_meanTemperature : MethodName := ⟨RL, "meanTemperature", "(LCycleworks;[D)I"⟩
abbrev cL_law : ByteArray := code
def yL_law : MethodName := ⟨RL, "law", "([I)Z"⟩
abbrev vwCl : List vw_C := [(RJ0, TJ0, 2), (RJ6, TJ6, 1), (RJx00060, TJx00060, 6), (RJx35411, TJx35411, 4), (RJx4a65c, TJx4a65c, 3), (RX0, TX0, 8), (RX1, TX1, 13), (RX2, TX2, 10), (RX3, TX3, 9), (RX4, TX4, 6), (RX5, TX5, 4), (RX6, TX6, 5), (RX7, TX7, 5), (RX8, TX8, 3), (RX9, TX9, 7), (RX10, TX10, 28)]
theorem dX0_init_0 : decode cX0_init 0 = .ok (.aload_n 0, 1) := by decide +kernel
theorem dX0_init_1 : decode cX0_init 1 = .ok (.invokespecial 3, 3) := by decide +kernel
theorem dX0_init_4 : decode cX0_init 4 = .ok (.aload_n 0, 1) := by decide +kernel
theorem dX0_init_5 : decode cX0_init 5 = .ok (.bipush 8, 2) := by decide +kernel
theorem dX0_init_7 : decode cX0_init 7 = .ok (.newarray .int, 2) := by decide +kernel
theorem dX0_init_9 : decode cX0_init 9 = .ok (.putfield 11, 3) := by decide +kernel
theorem dX0_init_12 : decode cX0_init 12 = .ok (.aload_n 0, 1) := by decide +kernel
theorem dX0_init_13 : decode cX0_init 13 = .ok (.bipush 8, 2) := by decide +kernel
theorem dX0_init_15 : decode cX0_init 15 = .ok (.anewarray 15, 3) := by decide +kernel
theorem dX0_init_18 : decode cX0_init 18 = .ok (.putfield 17, 3) := by decide +kernel
theorem dX0_init_21 : decode cX0_init 21 = .ok (.aload_n 0, 1) := by decide +kernel
theorem dX0_init_22 : decode cX0_init 22 = .ok (.iconst 0, 1) := by decide +kernel
theorem dX0_init_23 : decode cX0_init 23 = .ok (.putfield 21, 3) := by decide +kernel
theorem dX0_init_26 : decode cX0_init 26 = .ok (.aload_n 0, 1) := by decide +kernel
theorem dX0_init_27 : decode cX0_init 27 = .ok (.new 15, 3) := by decide +kernel
theorem dX0_init_30 : decode cX0_init 30 = .ok (.dup, 1) := by decide +kernel
theorem dX0_init_31 : decode cX0_init 31 = .ok (.invokespecial 25, 3) := by decide +kernel
theorem dX0_init_34 : decode cX0_init 34 = .ok (.putfield 26, 3) := by decide +kernel
theorem dX0_init_37 : decode cX0_init 37 = .ok (.aload_n 0, 1) := by decide +kernel
theorem dX0_init_38 : decode cX0_init 38 = .ok (.new 15, 3) := by decide +kernel
theorem dX0_init_41 : decode cX0_init 41 = .ok (.dup, 1) := by decide +kernel
theorem dX0_init_42 : decode cX0_init 42 = .ok (.invokespecial 25, 3) := by decide +kernel
theorem dX0_init_45 : decode cX0_init 45 = .ok (.putfield 30, 3) := by decide +kernel
theorem dX0_init_48 : decode cX0_init 48 = .ok (.aload_n 0, 1) := by decide +kernel
theorem dX0_init_49 : decode cX0_init 49 = .ok (.new 15, 3) := by decide +kernel
theorem dX0_init_52 : decode cX0_init 52 = .ok (.dup, 1) := by decide +kernel
theorem dX0_init_53 : decode cX0_init 53 = .ok (.invokespecial 25, 3) := by decide +kernel
theorem dX0_init_56 : decode cX0_init 56 = .ok (.putfield 33, 3) := by decide +kernel
theorem dX0_init_59 : decode cX0_init 59 = .ok (.aload_n 0, 1) := by decide +kernel
theorem dX0_init_60 : decode cX0_init 60 = .ok (.new 15, 3) := by decide +kernel
theorem dX0_init_63 : decode cX0_init 63 = .ok (.dup, 1) := by decide +kernel
theorem dX0_init_64 : decode cX0_init 64 = .ok (.invokespecial 25, 3) := by decide +kernel
theorem dX0_init_67 : decode cX0_init 67 = .ok (.putfield 36, 3) := by decide +kernel
theorem dX0_init_70 : decode cX0_init 70 = .ok (.aload_n 0, 1) := by decide +kernel
theorem dX0_init_71 : decode cX0_init 71 = .ok (.new 15, 3) := by decide +kernel
theorem dX0_init_74 : decode cX0_init 74 = .ok (.dup, 1) := by decide +kernel
theorem dX0_init_75 : decode cX0_init 75 = .ok (.invokespecial 25, 3) := by decide +kernel
theorem dX0_init_78 : decode cX0_init 78 = .ok (.putfield 39, 3) := by decide +kernel
theorem dX0_init_81 : decode cX0_init 81 = .ok (.return_, 1) := by decide +kernel
theorem dX1_init_0 : decode cX1_init 0 = .ok (.aload_n 0, 1) := by decide +kernel
theorem dX1_init_1 : decode cX1_init 1 = .ok (.invokespecial 1, 3) := by decide +kernel
theorem dX1_init_4 : decode cX1_init 4 = .ok (.aload_n 0, 1) := by decide +kernel
theorem dX1_init_5 : decode cX1_init 5 = .ok (.bipush 8, 2) := by decide +kernel
theorem dX1_init_7 : decode cX1_init 7 = .ok (.newarray .char, 2) := by decide +kernel
theorem dX1_init_9 : decode cX1_init 9 = .ok (.putfield 9, 3) := by decide +kernel
theorem dX1_init_12 : decode cX1_init 12 = .ok (.aload_n 0, 1) := by decide +kernel
theorem dX1_init_13 : decode cX1_init 13 = .ok (.bipush 8, 2) := by decide +kernel
theorem dX1_init_15 : decode cX1_init 15 = .ok (.newarray .int, 2) := by decide +kernel
theorem dX1_init_17 : decode cX1_init 17 = .ok (.putfield 13, 3) := by decide +kernel
theorem dX1_init_20 : decode cX1_init 20 = .ok (.aload_n 0, 1) := by decide +kernel
theorem dX1_init_21 : decode cX1_init 21 = .ok (.bipush 8, 2) := by decide +kernel
theorem dX1_init_23 : decode cX1_init 23 = .ok (.newarray .int, 2) := by decide +kernel
theorem dX1_init_25 : decode cX1_init 25 = .ok (.putfield 17, 3) := by decide +kernel
theorem dX1_init_28 : decode cX1_init 28 = .ok (.aload_n 0, 1) := by decide +kernel
theorem dX1_init_29 : decode cX1_init 29 = .ok (.iconst 0, 1) := by decide +kernel
theorem dX1_init_30 : decode cX1_init 30 = .ok (.putfield 20, 3) := by decide +kernel
theorem dX1_init_33 : decode cX1_init 33 = .ok (.aload_n 0, 1) := by decide +kernel
theorem dX1_init_34 : decode cX1_init 34 = .ok (.new 24, 3) := by decide +kernel
theorem dX1_init_37 : decode cX1_init 37 = .ok (.dup, 1) := by decide +kernel
theorem dX1_init_38 : decode cX1_init 38 = .ok (.invokespecial 26, 3) := by decide +kernel
theorem dX1_init_41 : decode cX1_init 41 = .ok (.putfield 27, 3) := by decide +kernel
theorem dX1_init_44 : decode cX1_init 44 = .ok (.aload_n 0, 1) := by decide +kernel
theorem dX1_init_45 : decode cX1_init 45 = .ok (.new 24, 3) := by decide +kernel
theorem dX1_init_48 : decode cX1_init 48 = .ok (.dup, 1) := by decide +kernel
theorem dX1_init_49 : decode cX1_init 49 = .ok (.invokespecial 26, 3) := by decide +kernel
theorem dX1_init_52 : decode cX1_init 52 = .ok (.putfield 31, 3) := by decide +kernel
theorem dX1_init_55 : decode cX1_init 55 = .ok (.aload_n 0, 1) := by decide +kernel
theorem dX1_init_56 : decode cX1_init 56 = .ok (.new 24, 3) := by decide +kernel
theorem dX1_init_59 : decode cX1_init 59 = .ok (.dup, 1) := by decide +kernel
theorem dX1_init_60 : decode cX1_init 60 = .ok (.invokespecial 26, 3) := by decide +kernel
theorem dX1_init_63 : decode cX1_init 63 = .ok (.putfield 34, 3) := by decide +kernel
theorem dX1_init_66 : decode cX1_init 66 = .ok (.aload_n 0, 1) := by decide +kernel
theorem dX1_init_67 : decode cX1_init 67 = .ok (.sipush 300, 3) := by decide +kernel
theorem dX1_init_70 : decode cX1_init 70 = .ok (.newarray .int, 2) := by decide +kernel
theorem dX1_init_72 : decode cX1_init 72 = .ok (.putfield 37, 3) := by decide +kernel
theorem dX1_init_75 : decode cX1_init 75 = .ok (.aload_n 0, 1) := by decide +kernel
theorem dX1_init_76 : decode cX1_init 76 = .ok (.iconst 0, 1) := by decide +kernel
theorem dX1_init_77 : decode cX1_init 77 = .ok (.putfield 40, 3) := by decide +kernel
theorem dX1_init_80 : decode cX1_init 80 = .ok (.aload_n 0, 1) := by decide +kernel
theorem dX1_init_81 : decode cX1_init 81 = .ok (.iconst 0, 1) := by decide +kernel
theorem dX1_init_82 : decode cX1_init 82 = .ok (.putfield 43, 3) := by decide +kernel
theorem dX1_init_85 : decode cX1_init 85 = .ok (.aload_n 0, 1) := by decide +kernel
theorem dX1_init_86 : decode cX1_init 86 = .ok (.iconst 0, 1) := by decide +kernel
theorem dX1_init_87 : decode cX1_init 87 = .ok (.putfield 47, 3) := by decide +kernel
theorem dX1_init_90 : decode cX1_init 90 = .ok (.aload_n 0, 1) := by decide +kernel
theorem dX1_init_91 : decode cX1_init 91 = .ok (.iconst 1, 1) := by decide +kernel
theorem dX1_init_92 : decode cX1_init 92 = .ok (.bipush 10, 2) := by decide +kernel
theorem dX1_init_94 : decode cX1_init 94 = .ok (.sipush 300, 3) := by decide +kernel
theorem dX1_init_97 : decode cX1_init 97 = .ok (.invokevirtual 50, 3) := by decide +kernel
theorem dX1_init_100 : decode cX1_init 100 = .ok (.return_, 1) := by decide +kernel
theorem dX1_fill_0 : decode cX1_fill 0 = .ok (.aload_n 0, 1) := by decide +kernel
theorem dX1_fill_1 : decode cX1_fill 1 = .ok (.iload_n 1, 1) := by decide +kernel
theorem dX1_fill_2 : decode cX1_fill 2 = .ok (.putfield 60, 3) := by decide +kernel
theorem dX1_fill_5 : decode cX1_fill 5 = .ok (.aload_n 0, 1) := by decide +kernel
theorem dX1_fill_6 : decode cX1_fill 6 = .ok (.iload_n 2, 1) := by decide +kernel
theorem dX1_fill_7 : decode cX1_fill 7 = .ok (.putfield 63, 3) := by decide +kernel
theorem dX1_fill_10 : decode cX1_fill 10 = .ok (.aload_n 0, 1) := by decide +kernel
theorem dX1_fill_11 : decode cX1_fill 11 = .ok (.getfield 27, 3) := by decide +kernel
theorem dX1_fill_14 : decode cX1_fill 14 = .ok (.iconst 3, 1) := by decide +kernel
theorem dX1_fill_15 : decode cX1_fill 15 = .ok (.iload_n 1, 1) := by decide +kernel
theorem dX1_fill_16 : decode cX1_fill 16 = .ok (.imul, 1) := by decide +kernel
theorem dX1_fill_17 : decode cX1_fill 17 = .ok (.iload_n 3, 1) := by decide +kernel
theorem dX1_fill_18 : decode cX1_fill 18 = .ok (.imul, 1) := by decide +kernel
theorem dX1_fill_19 : decode cX1_fill 19 = .ok (.i2l, 1) := by decide +kernel
theorem dX1_fill_20 : decode cX1_fill 20 = .ok (.invokevirtual 66, 3) := by decide +kernel
theorem dX1_fill_23 : decode cX1_fill 23 = .ok (.return_, 1) := by decide +kernel
theorem dX2_init_0 : decode cX2_init 0 = .ok (.aload_n 0, 1) := by decide +kernel
theorem dX2_init_1 : decode cX2_init 1 = .ok (.invokespecial 1, 3) := by decide +kernel
theorem dX2_init_4 : decode cX2_init 4 = .ok (.aload_n 0, 1) := by decide +kernel
theorem dX2_init_5 : decode cX2_init 5 = .ok (.sipush 1000, 3) := by decide +kernel
theorem dX2_init_8 : decode cX2_init 8 = .ok (.putfield 7, 3) := by decide +kernel
theorem dX2_init_11 : decode cX2_init 11 = .ok (.aload_n 0, 1) := by decide +kernel
theorem dX2_init_12 : decode cX2_init 12 = .ok (.bipush 10, 2) := by decide +kernel
theorem dX2_init_14 : decode cX2_init 14 = .ok (.putfield 13, 3) := by decide +kernel
theorem dX2_init_17 : decode cX2_init 17 = .ok (.aload_n 0, 1) := by decide +kernel
theorem dX2_init_18 : decode cX2_init 18 = .ok (.iconst 0, 1) := by decide +kernel
theorem dX2_init_19 : decode cX2_init 19 = .ok (.putfield 16, 3) := by decide +kernel
theorem dX2_init_22 : decode cX2_init 22 = .ok (.aload_n 0, 1) := by decide +kernel
theorem dX2_init_23 : decode cX2_init 23 = .ok (.sipush 3000, 3) := by decide +kernel
theorem dX2_init_26 : decode cX2_init 26 = .ok (.putfield 19, 3) := by decide +kernel
theorem dX2_init_29 : decode cX2_init 29 = .ok (.aload_n 0, 1) := by decide +kernel
theorem dX2_init_30 : decode cX2_init 30 = .ok (.bipush 50, 2) := by decide +kernel
theorem dX2_init_32 : decode cX2_init 32 = .ok (.putfield 22, 3) := by decide +kernel
theorem dX2_init_35 : decode cX2_init 35 = .ok (.aload_n 0, 1) := by decide +kernel
theorem dX2_init_36 : decode cX2_init 36 = .ok (.sipush 1000, 3) := by decide +kernel
theorem dX2_init_39 : decode cX2_init 39 = .ok (.putfield 25, 3) := by decide +kernel
theorem dX2_init_42 : decode cX2_init 42 = .ok (.aload_n 0, 1) := by decide +kernel
theorem dX2_init_43 : decode cX2_init 43 = .ok (.bipush 50, 2) := by decide +kernel
theorem dX2_init_45 : decode cX2_init 45 = .ok (.putfield 28, 3) := by decide +kernel
theorem dX2_init_48 : decode cX2_init 48 = .ok (.aload_n 0, 1) := by decide +kernel
theorem dX2_init_49 : decode cX2_init 49 = .ok (.iconst 0, 1) := by decide +kernel
theorem dX2_init_50 : decode cX2_init 50 = .ok (.putfield 31, 3) := by decide +kernel
theorem dX2_init_53 : decode cX2_init 53 = .ok (.aload_n 0, 1) := by decide +kernel
theorem dX2_init_54 : decode cX2_init 54 = .ok (.iconst 0, 1) := by decide +kernel
theorem dX2_init_55 : decode cX2_init 55 = .ok (.putfield 34, 3) := by decide +kernel
theorem dX2_init_58 : decode cX2_init 58 = .ok (.aload_n 0, 1) := by decide +kernel
theorem dX2_init_59 : decode cX2_init 59 = .ok (.iconst 0, 1) := by decide +kernel
theorem dX2_init_60 : decode cX2_init 60 = .ok (.putfield 37, 3) := by decide +kernel
theorem dX2_init_63 : decode cX2_init 63 = .ok (.return_, 1) := by decide +kernel
theorem dX3_init_0 : decode cX3_init 0 = .ok (.aload_n 0, 1) := by decide +kernel
theorem dX3_init_1 : decode cX3_init 1 = .ok (.invokespecial 3, 3) := by decide +kernel
theorem dX3_init_4 : decode cX3_init 4 = .ok (.aload_n 0, 1) := by decide +kernel
theorem dX3_init_5 : decode cX3_init 5 = .ok (.bipush 8, 2) := by decide +kernel
theorem dX3_init_7 : decode cX3_init 7 = .ok (.newarray .char, 2) := by decide +kernel
theorem dX3_init_9 : decode cX3_init 9 = .ok (.putfield 11, 3) := by decide +kernel
theorem dX3_init_12 : decode cX3_init 12 = .ok (.aload_n 0, 1) := by decide +kernel
theorem dX3_init_13 : decode cX3_init 13 = .ok (.bipush 8, 2) := by decide +kernel
theorem dX3_init_15 : decode cX3_init 15 = .ok (.newarray .int, 2) := by decide +kernel
theorem dX3_init_17 : decode cX3_init 17 = .ok (.putfield 15, 3) := by decide +kernel
theorem dX3_init_20 : decode cX3_init 20 = .ok (.aload_n 0, 1) := by decide +kernel
theorem dX3_init_21 : decode cX3_init 21 = .ok (.bipush 8, 2) := by decide +kernel
theorem dX3_init_23 : decode cX3_init 23 = .ok (.newarray .int, 2) := by decide +kernel
theorem dX3_init_25 : decode cX3_init 25 = .ok (.putfield 19, 3) := by decide +kernel
theorem dX3_init_28 : decode cX3_init 28 = .ok (.aload_n 0, 1) := by decide +kernel
theorem dX3_init_29 : decode cX3_init 29 = .ok (.iconst 0, 1) := by decide +kernel
theorem dX3_init_30 : decode cX3_init 30 = .ok (.putfield 22, 3) := by decide +kernel
theorem dX3_init_33 : decode cX3_init 33 = .ok (.aload_n 0, 1) := by decide +kernel
theorem dX3_init_34 : decode cX3_init 34 = .ok (.iconst 0, 1) := by decide +kernel
theorem dX3_init_35 : decode cX3_init 35 = .ok (.putfield 26, 3) := by decide +kernel
theorem dX3_init_38 : decode cX3_init 38 = .ok (.aload_n 0, 1) := by decide +kernel
theorem dX3_init_39 : decode cX3_init 39 = .ok (.new 30, 3) := by decide +kernel
theorem dX3_init_42 : decode cX3_init 42 = .ok (.dup, 1) := by decide +kernel
theorem dX3_init_43 : decode cX3_init 43 = .ok (.invokespecial 32, 3) := by decide +kernel
theorem dX3_init_46 : decode cX3_init 46 = .ok (.putfield 33, 3) := by decide +kernel
theorem dX3_init_49 : decode cX3_init 49 = .ok (.aload_n 0, 1) := by decide +kernel
theorem dX3_init_50 : decode cX3_init 50 = .ok (.new 30, 3) := by decide +kernel
theorem dX3_init_53 : decode cX3_init 53 = .ok (.dup, 1) := by decide +kernel
theorem dX3_init_54 : decode cX3_init 54 = .ok (.invokespecial 32, 3) := by decide +kernel
theorem dX3_init_57 : decode cX3_init 57 = .ok (.putfield 37, 3) := by decide +kernel
theorem dX3_init_60 : decode cX3_init 60 = .ok (.aload_n 0, 1) := by decide +kernel
theorem dX3_init_61 : decode cX3_init 61 = .ok (.iconst 0, 1) := by decide +kernel
theorem dX3_init_62 : decode cX3_init 62 = .ok (.putfield 40, 3) := by decide +kernel
theorem dX3_init_65 : decode cX3_init 65 = .ok (.aload_n 0, 1) := by decide +kernel
theorem dX3_init_66 : decode cX3_init 66 = .ok (.iconst 0, 1) := by decide +kernel
theorem dX3_init_67 : decode cX3_init 67 = .ok (.putfield 43, 3) := by decide +kernel
theorem dX3_init_70 : decode cX3_init 70 = .ok (.return_, 1) := by decide +kernel
theorem dX4_init_0 : decode cX4_init 0 = .ok (.aload_n 0, 1) := by decide +kernel
theorem dX4_init_1 : decode cX4_init 1 = .ok (.invokespecial 1, 3) := by decide +kernel
theorem dX4_init_4 : decode cX4_init 4 = .ok (.aload_n 0, 1) := by decide +kernel
theorem dX4_init_5 : decode cX4_init 5 = .ok (.bipush 8, 2) := by decide +kernel
theorem dX4_init_7 : decode cX4_init 7 = .ok (.newarray .int, 2) := by decide +kernel
theorem dX4_init_9 : decode cX4_init 9 = .ok (.putfield 9, 3) := by decide +kernel
theorem dX4_init_12 : decode cX4_init 12 = .ok (.aload_n 0, 1) := by decide +kernel
theorem dX4_init_13 : decode cX4_init 13 = .ok (.bipush 8, 2) := by decide +kernel
theorem dX4_init_15 : decode cX4_init 15 = .ok (.newarray .int, 2) := by decide +kernel
theorem dX4_init_17 : decode cX4_init 17 = .ok (.putfield 15, 3) := by decide +kernel
theorem dX4_init_20 : decode cX4_init 20 = .ok (.aload_n 0, 1) := by decide +kernel
theorem dX4_init_21 : decode cX4_init 21 = .ok (.bipush 8, 2) := by decide +kernel
theorem dX4_init_23 : decode cX4_init 23 = .ok (.newarray .int, 2) := by decide +kernel
theorem dX4_init_25 : decode cX4_init 25 = .ok (.putfield 18, 3) := by decide +kernel
theorem dX4_init_28 : decode cX4_init 28 = .ok (.aload_n 0, 1) := by decide +kernel
theorem dX4_init_29 : decode cX4_init 29 = .ok (.bipush 8, 2) := by decide +kernel
theorem dX4_init_31 : decode cX4_init 31 = .ok (.newarray .int, 2) := by decide +kernel
theorem dX4_init_33 : decode cX4_init 33 = .ok (.putfield 21, 3) := by decide +kernel
theorem dX4_init_36 : decode cX4_init 36 = .ok (.aload_n 0, 1) := by decide +kernel
theorem dX4_init_37 : decode cX4_init 37 = .ok (.bipush 8, 2) := by decide +kernel
theorem dX4_init_39 : decode cX4_init 39 = .ok (.newarray .int, 2) := by decide +kernel
theorem dX4_init_41 : decode cX4_init 41 = .ok (.putfield 24, 3) := by decide +kernel
theorem dX4_init_44 : decode cX4_init 44 = .ok (.aload_n 0, 1) := by decide +kernel
theorem dX4_init_45 : decode cX4_init 45 = .ok (.iconst 0, 1) := by decide +kernel
theorem dX4_init_46 : decode cX4_init 46 = .ok (.putfield 27, 3) := by decide +kernel
theorem dX4_init_49 : decode cX4_init 49 = .ok (.return_, 1) := by decide +kernel
theorem dX5_init_0 : decode cX5_init 0 = .ok (.aload_n 0, 1) := by decide +kernel
theorem dX5_init_1 : decode cX5_init 1 = .ok (.invokespecial 3, 3) := by decide +kernel
theorem dX5_init_4 : decode cX5_init 4 = .ok (.aload_n 0, 1) := by decide +kernel
theorem dX5_init_5 : decode cX5_init 5 = .ok (.bipush 10, 2) := by decide +kernel
theorem dX5_init_7 : decode cX5_init 7 = .ok (.newarray .int, 2) := by decide +kernel
theorem dX5_init_9 : decode cX5_init 9 = .ok (.putfield 11, 3) := by decide +kernel
theorem dX5_init_12 : decode cX5_init 12 = .ok (.aload_n 0, 1) := by decide +kernel
theorem dX5_init_13 : decode cX5_init 13 = .ok (.bipush 10, 2) := by decide +kernel
theorem dX5_init_15 : decode cX5_init 15 = .ok (.newarray .int, 2) := by decide +kernel
theorem dX5_init_17 : decode cX5_init 17 = .ok (.putfield 15, 3) := by decide +kernel
theorem dX5_init_20 : decode cX5_init 20 = .ok (.aload_n 0, 1) := by decide +kernel
theorem dX5_init_21 : decode cX5_init 21 = .ok (.bipush 10, 2) := by decide +kernel
theorem dX5_init_23 : decode cX5_init 23 = .ok (.newarray .int, 2) := by decide +kernel
theorem dX5_init_25 : decode cX5_init 25 = .ok (.putfield 18, 3) := by decide +kernel
theorem dX5_init_28 : decode cX5_init 28 = .ok (.aload_n 0, 1) := by decide +kernel
theorem dX5_init_29 : decode cX5_init 29 = .ok (.iconst 0, 1) := by decide +kernel
theorem dX5_init_30 : decode cX5_init 30 = .ok (.putfield 21, 3) := by decide +kernel
theorem dX5_init_33 : decode cX5_init 33 = .ok (.return_, 1) := by decide +kernel
theorem dX6_init_0 : decode cX6_init 0 = .ok (.aload_n 0, 1) := by decide +kernel
theorem dX6_init_1 : decode cX6_init 1 = .ok (.invokespecial 1, 3) := by decide +kernel
theorem dX6_init_4 : decode cX6_init 4 = .ok (.aload_n 0, 1) := by decide +kernel
theorem dX6_init_5 : decode cX6_init 5 = .ok (.lconst 0, 1) := by decide +kernel
theorem dX6_init_6 : decode cX6_init 6 = .ok (.putfield 7, 3) := by decide +kernel
theorem dX6_init_9 : decode cX6_init 9 = .ok (.aload_n 0, 1) := by decide +kernel
theorem dX6_init_10 : decode cX6_init 10 = .ok (.iconst 0, 1) := by decide +kernel
theorem dX6_init_11 : decode cX6_init 11 = .ok (.putfield 13, 3) := by decide +kernel
theorem dX6_init_14 : decode cX6_init 14 = .ok (.aload_n 0, 1) := by decide +kernel
theorem dX6_init_15 : decode cX6_init 15 = .ok (.iconst 0, 1) := by decide +kernel
theorem dX6_init_16 : decode cX6_init 16 = .ok (.putfield 17, 3) := by decide +kernel
theorem dX6_init_19 : decode cX6_init 19 = .ok (.aload_n 0, 1) := by decide +kernel
theorem dX6_init_20 : decode cX6_init 20 = .ok (.iconst 0, 1) := by decide +kernel
theorem dX6_init_21 : decode cX6_init 21 = .ok (.putfield 20, 3) := by decide +kernel
theorem dX6_init_24 : decode cX6_init 24 = .ok (.aload_n 0, 1) := by decide +kernel
theorem dX6_init_25 : decode cX6_init 25 = .ok (.lconst 0, 1) := by decide +kernel
theorem dX6_init_26 : decode cX6_init 26 = .ok (.putfield 23, 3) := by decide +kernel
theorem dX6_init_29 : decode cX6_init 29 = .ok (.return_, 1) := by decide +kernel
theorem dX7_init_0 : decode cX7_init 0 = .ok (.aload_n 0, 1) := by decide +kernel
theorem dX7_init_1 : decode cX7_init 1 = .ok (.invokespecial 1, 3) := by decide +kernel
theorem dX7_init_4 : decode cX7_init 4 = .ok (.aload_n 0, 1) := by decide +kernel
theorem dX7_init_5 : decode cX7_init 5 = .ok (.bipush 8, 2) := by decide +kernel
theorem dX7_init_7 : decode cX7_init 7 = .ok (.newarray .int, 2) := by decide +kernel
theorem dX7_init_9 : decode cX7_init 9 = .ok (.putfield 9, 3) := by decide +kernel
theorem dX7_init_12 : decode cX7_init 12 = .ok (.aload_n 0, 1) := by decide +kernel
theorem dX7_init_13 : decode cX7_init 13 = .ok (.bipush 8, 2) := by decide +kernel
theorem dX7_init_15 : decode cX7_init 15 = .ok (.newarray .int, 2) := by decide +kernel
theorem dX7_init_17 : decode cX7_init 17 = .ok (.putfield 13, 3) := by decide +kernel
theorem dX7_init_20 : decode cX7_init 20 = .ok (.aload_n 0, 1) := by decide +kernel
theorem dX7_init_21 : decode cX7_init 21 = .ok (.bipush 8, 2) := by decide +kernel
theorem dX7_init_23 : decode cX7_init 23 = .ok (.newarray .int, 2) := by decide +kernel
theorem dX7_init_25 : decode cX7_init 25 = .ok (.putfield 16, 3) := by decide +kernel
theorem dX7_init_28 : decode cX7_init 28 = .ok (.aload_n 0, 1) := by decide +kernel
theorem dX7_init_29 : decode cX7_init 29 = .ok (.bipush 8, 2) := by decide +kernel
theorem dX7_init_31 : decode cX7_init 31 = .ok (.newarray .int, 2) := by decide +kernel
theorem dX7_init_33 : decode cX7_init 33 = .ok (.putfield 19, 3) := by decide +kernel
theorem dX7_init_36 : decode cX7_init 36 = .ok (.aload_n 0, 1) := by decide +kernel
theorem dX7_init_37 : decode cX7_init 37 = .ok (.iconst 0, 1) := by decide +kernel
theorem dX7_init_38 : decode cX7_init 38 = .ok (.putfield 22, 3) := by decide +kernel
theorem dX7_init_41 : decode cX7_init 41 = .ok (.return_, 1) := by decide +kernel
theorem dX8_init_0 : decode cX8_init 0 = .ok (.aload_n 0, 1) := by decide +kernel
theorem dX8_init_1 : decode cX8_init 1 = .ok (.invokespecial 3, 3) := by decide +kernel
theorem dX8_init_4 : decode cX8_init 4 = .ok (.aload_n 0, 1) := by decide +kernel
theorem dX8_init_5 : decode cX8_init 5 = .ok (.lconst 0, 1) := by decide +kernel
theorem dX8_init_6 : decode cX8_init 6 = .ok (.putfield 9, 3) := by decide +kernel
theorem dX8_init_9 : decode cX8_init 9 = .ok (.aload_n 0, 1) := by decide +kernel
theorem dX8_init_10 : decode cX8_init 10 = .ok (.iconst 1, 1) := by decide +kernel
theorem dX8_init_11 : decode cX8_init 11 = .ok (.newarray .long, 2) := by decide +kernel
theorem dX8_init_13 : decode cX8_init 13 = .ok (.putfield 13, 3) := by decide +kernel
theorem dX8_init_16 : decode cX8_init 16 = .ok (.aload_n 0, 1) := by decide +kernel
theorem dX8_init_17 : decode cX8_init 17 = .ok (.iconst 0, 1) := by decide +kernel
theorem dX8_init_18 : decode cX8_init 18 = .ok (.putfield 17, 3) := by decide +kernel
theorem dX8_init_21 : decode cX8_init 21 = .ok (.return_, 1) := by decide +kernel
theorem dX8_set_0 : decode cX8_set 0 = .ok (.aload_n 0, 1) := by decide +kernel
theorem dX8_set_1 : decode cX8_set 1 = .ok (.lload_n 1, 1) := by decide +kernel
theorem dX8_set_2 : decode cX8_set 2 = .ok (.ldc2_w 33, 3) := by decide +kernel
theorem dX8_set_5 : decode cX8_set 5 = .ok (.land, 1) := by decide +kernel
theorem dX8_set_6 : decode cX8_set 6 = .ok (.putfield 9, 3) := by decide +kernel
theorem dX8_set_9 : decode cX8_set 9 = .ok (.aload_n 0, 1) := by decide +kernel
theorem dX8_set_10 : decode cX8_set 10 = .ok (.aload_n 0, 1) := by decide +kernel
theorem dX8_set_11 : decode cX8_set 11 = .ok (.getfield 9, 3) := by decide +kernel
theorem dX8_set_14 : decode cX8_set 14 = .ok (.lconst 0, 1) := by decide +kernel
theorem dX8_set_15 : decode cX8_set 15 = .ok (.lcmp, 1) := by decide +kernel
theorem dX8_set_16 : decode cX8_set 16 = .ok (.ifCond .ne 7, 3) := by decide +kernel
theorem dX8_set_23 : decode cX8_set 23 = .ok (.iconst 1, 1) := by decide +kernel
theorem dX8_set_24 : decode cX8_set 24 = .ok (.putfield 17, 3) := by decide +kernel
theorem dX8_set_27 : decode cX8_set 27 = .ok (.lload_n 1, 1) := by decide +kernel
theorem dX8_set_28 : decode cX8_set 28 = .ok (.ldc2_w 35, 3) := by decide +kernel
theorem dX8_set_31 : decode cX8_set 31 = .ok (.lcmp, 1) := by decide +kernel
theorem dX8_set_32 : decode cX8_set 32 = .ok (.ifCond .lt 17, 3) := by decide +kernel
theorem dX8_set_49 : decode cX8_set 49 = .ok (.return_, 1) := by decide +kernel
theorem dX8_low_0 : decode cX8_low 0 = .ok (.aload_n 0, 1) := by decide +kernel
theorem dX8_low_1 : decode cX8_low 1 = .ok (.getfield 17, 3) := by decide +kernel
theorem dX8_low_4 : decode cX8_low 4 = .ok (.iconst 1, 1) := by decide +kernel
theorem dX8_low_5 : decode cX8_low 5 = .ok (.if_icmp .le 19, 3) := by decide +kernel
theorem dX8_low_24 : decode cX8_low 24 = .ok (.aload_n 0, 1) := by decide +kernel
theorem dX8_low_25 : decode cX8_low 25 = .ok (.getfield 9, 3) := by decide +kernel
theorem dX8_low_28 : decode cX8_low 28 = .ok (.lreturn, 1) := by decide +kernel
theorem dX9_init_0 : decode cX9_init 0 = .ok (.aload_n 0, 1) := by decide +kernel
theorem dX9_init_1 : decode cX9_init 1 = .ok (.invokespecial 1, 3) := by decide +kernel
theorem dX9_init_4 : decode cX9_init 4 = .ok (.aload_n 0, 1) := by decide +kernel
theorem dX9_init_5 : decode cX9_init 5 = .ok (.new 7, 3) := by decide +kernel
theorem dX9_init_8 : decode cX9_init 8 = .ok (.dup, 1) := by decide +kernel
theorem dX9_init_9 : decode cX9_init 9 = .ok (.invokespecial 9, 3) := by decide +kernel
theorem dX9_init_12 : decode cX9_init 12 = .ok (.putfield 10, 3) := by decide +kernel
theorem dX9_init_15 : decode cX9_init 15 = .ok (.aload_n 0, 1) := by decide +kernel
theorem dX9_init_16 : decode cX9_init 16 = .ok (.new 16, 3) := by decide +kernel
theorem dX9_init_19 : decode cX9_init 19 = .ok (.dup, 1) := by decide +kernel
theorem dX9_init_20 : decode cX9_init 20 = .ok (.invokespecial 18, 3) := by decide +kernel
theorem dX9_init_23 : decode cX9_init 23 = .ok (.putfield 19, 3) := by decide +kernel
theorem dX9_init_26 : decode cX9_init 26 = .ok (.aload_n 0, 1) := by decide +kernel
theorem dX9_init_27 : decode cX9_init 27 = .ok (.new 23, 3) := by decide +kernel
theorem dX9_init_30 : decode cX9_init 30 = .ok (.dup, 1) := by decide +kernel
theorem dX9_init_31 : decode cX9_init 31 = .ok (.invokespecial 25, 3) := by decide +kernel
theorem dX9_init_34 : decode cX9_init 34 = .ok (.putfield 26, 3) := by decide +kernel
theorem dX9_init_37 : decode cX9_init 37 = .ok (.aload_n 0, 1) := by decide +kernel
theorem dX9_init_38 : decode cX9_init 38 = .ok (.new 30, 3) := by decide +kernel
theorem dX9_init_41 : decode cX9_init 41 = .ok (.dup, 1) := by decide +kernel
theorem dX9_init_42 : decode cX9_init 42 = .ok (.invokespecial 32, 3) := by decide +kernel
theorem dX9_init_45 : decode cX9_init 45 = .ok (.putfield 33, 3) := by decide +kernel
theorem dX9_init_48 : decode cX9_init 48 = .ok (.aload_n 0, 1) := by decide +kernel
theorem dX9_init_49 : decode cX9_init 49 = .ok (.new 37, 3) := by decide +kernel
theorem dX9_init_52 : decode cX9_init 52 = .ok (.dup, 1) := by decide +kernel
theorem dX9_init_53 : decode cX9_init 53 = .ok (.invokespecial 39, 3) := by decide +kernel
theorem dX9_init_56 : decode cX9_init 56 = .ok (.putfield 40, 3) := by decide +kernel
theorem dX9_init_59 : decode cX9_init 59 = .ok (.aload_n 0, 1) := by decide +kernel
theorem dX9_init_60 : decode cX9_init 60 = .ok (.new 44, 3) := by decide +kernel
theorem dX9_init_63 : decode cX9_init 63 = .ok (.dup, 1) := by decide +kernel
theorem dX9_init_64 : decode cX9_init 64 = .ok (.invokespecial 46, 3) := by decide +kernel
theorem dX9_init_67 : decode cX9_init 67 = .ok (.putfield 47, 3) := by decide +kernel
theorem dX9_init_70 : decode cX9_init 70 = .ok (.aload_n 0, 1) := by decide +kernel
theorem dX9_init_71 : decode cX9_init 71 = .ok (.new 51, 3) := by decide +kernel
theorem dX9_init_74 : decode cX9_init 74 = .ok (.dup, 1) := by decide +kernel
theorem dX9_init_75 : decode cX9_init 75 = .ok (.invokespecial 53, 3) := by decide +kernel
theorem dX9_init_78 : decode cX9_init 78 = .ok (.putfield 54, 3) := by decide +kernel
theorem dX9_init_81 : decode cX9_init 81 = .ok (.aload_n 0, 1) := by decide +kernel
theorem dX9_init_82 : decode cX9_init 82 = .ok (.getfield 54, 3) := by decide +kernel
theorem dX9_init_85 : decode cX9_init 85 = .ok (.aload_n 0, 1) := by decide +kernel
theorem dX9_init_86 : decode cX9_init 86 = .ok (.getfield 33, 3) := by decide +kernel
theorem dX9_init_89 : decode cX9_init 89 = .ok (.getfield 58, 3) := by decide +kernel
theorem dX9_init_92 : decode cX9_init 92 = .ok (.invokevirtual 62, 3) := by decide +kernel
theorem dX9_init_95 : decode cX9_init 95 = .ok (.putfield 68, 3) := by decide +kernel
theorem dX9_init_98 : decode cX9_init 98 = .ok (.return_, 1) := by decide +kernel
