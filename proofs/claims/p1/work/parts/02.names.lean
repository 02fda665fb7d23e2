def RX0 : String := "Cycleworks$Bodies"
def TX0 : u_T := fun k => match k with
  | 0 => ("Cycleworks$Bodies", "capacities", "[I", true)
  | 1 => ("Cycleworks$Bodies", "energies", "[LCycleworks$Whole;", true)
  | 2 => ("Cycleworks$Bodies", "count", "I", false)
  | 3 => ("Cycleworks$Bodies", "nothing", "LCycleworks$Whole;", true)
  | 4 => ("Cycleworks$Bodies", "degrees", "LCycleworks$Whole;", true)
  | 5 => ("Cycleworks$Bodies", "otherDegrees", "LCycleworks$Whole;", true)
  | 6 => ("Cycleworks$Bodies", "share", "LCycleworks$Whole;", true)
  | _ => ("Cycleworks$Bodies", "rest", "LCycleworks$Whole;", true)
def tyX0 : Nat → FieldType := fun k => match k with
  | 0 => .array .int
  | 1 => .array (.object "Cycleworks$Whole")
  | 2 => .int
  | 3 => .object "Cycleworks$Whole"
  | 4 => .object "Cycleworks$Whole"
  | 5 => .object "Cycleworks$Whole"
  | 6 => .object "Cycleworks$Whole"
  | _ => .object "Cycleworks$Whole"
theorem nmX0 : ∀ a, a < 8 → ∀ b, b < 8 → a ≠ b → (TX0 a).2.1 ≠ (TX0 b).2.1 := by decide +kernel
theorem tyX0_ok : ∀ k, k < 8 → parseFieldDescriptor (TX0 k).2.2.1 = some (tyX0 k) := by decide +kernel
abbrev cX0_init : ByteArray := prog_2_method_1_code
def yX0_init : MethodName := ⟨RX0, "<init>", "()V"⟩
abbrev cX0_isFull : ByteArray := prog_2_method_2_code
def yX0_isFull : MethodName := ⟨RX0, "isFull", "()Z"⟩
abbrev cX0_has : ByteArray := prog_2_method_3_code
def yX0_has : MethodName := ⟨RX0, "has", "(I)Z"⟩
abbrev cX0_append : ByteArray := prog_2_method_4_code
def yX0_append : MethodName := ⟨RX0, "append", "(II)I"⟩
abbrev cX0_energyOf : ByteArray := prog_2_method_5_code
def yX0_energyOf : MethodName := ⟨RX0, "energyOf", "(I)LCycleworks$Whole;"⟩
abbrev cX0_capacityOf : ByteArray := prog_2_method_6_code
def yX0_capacityOf : MethodName := ⟨RX0, "capacityOf", "(I)I"⟩
abbrev cX0_temperatureOf : ByteArray := prog_2_method_7_code
def yX0_temperatureOf : MethodName := ⟨RX0, "temperatureOf", "(I)LCycleworks$Whole;"⟩
abbrev cX0_isWarm : ByteArray := prog_2_method_8_code
def yX0_isWarm : MethodName := ⟨RX0, "isWarm", "(ILCycleworks$Whole;I)Z"⟩
abbrev cX0_bears : ByteArray := prog_2_method_9_code
def yX0_bears : MethodName := ⟨RX0, "bears", "(II)Z"⟩
abbrev cX0_flowsByItself : ByteArray := prog_2_method_10_code
def yX0_flowsByItself : MethodName := ⟨RX0, "flowsByItself", "(III)Z"⟩
abbrev cX0_isAsWarm : ByteArray := prog_2_method_11_code
def yX0_isAsWarm : MethodName := ⟨RX0, "isAsWarm", "(III)Z"⟩
abbrev cX0_disorderOfMove : ByteArray := prog_2_method_12_code
def yX0_disorderOfMove : MethodName := ⟨RX0, "disorderOfMove", "(IIII)I"⟩
abbrev cX0_take : ByteArray := prog_2_method_13_code
def yX0_take : MethodName := ⟨RX0, "take", "(II)V"⟩
abbrev cX0_exchange : ByteArray := prog_2_method_14_code
def yX0_exchange : MethodName := ⟨RX0, "exchange", "(IILCycleworks$Whole;)Z"⟩
abbrev cX0_lowOfEnergies : ByteArray := prog_2_method_15_code
def yX0_lowOfEnergies : MethodName := ⟨RX0, "lowOfEnergies", "()J"⟩
abbrev cX0_sumOfTemperatures : ByteArray := prog_2_method_16_code
def yX0_sumOfTemperatures : MethodName := ⟨RX0, "sumOfTemperatures", "()LCycleworks$Whole;"⟩
abbrev cX0_areWarm : ByteArray := prog_2_method_17_code
def yX0_areWarm : MethodName := ⟨RX0, "areWarm", "()Z"⟩
def RX1 : String := "Cycleworks$Cylinder"
def TX1 : u_T := fun k => match k with
  | 0 => ("Cycleworks$Cylinder", "kinds", "[C", true)
  | 1 => ("Cycleworks$Cylinder", "goals", "[I", true)
  | 2 => ("Cycleworks$Cylinder", "partners", "[I", true)
  | 3 => ("Cycleworks$Cylinder", "count", "I", false)
  | 4 => ("Cycleworks$Cylinder", "amount", "I", false)
  | 5 => ("Cycleworks$Cylinder", "volume", "I", false)
  | 6 => ("Cycleworks$Cylinder", "energy", "LCycleworks$Whole;", false)
  | 7 => ("Cycleworks$Cylinder", "energyBehind", "LCycleworks$Whole;", false)
  | 8 => ("Cycleworks$Cylinder", "pressure", "LCycleworks$Whole;", true)
  | 9 => ("Cycleworks$Cylinder", "card", "[I", true)
  | 10 => ("Cycleworks$Cylinder", "marks", "I", false)
  | 11 => ("Cycleworks$Cylinder", "ran", "Z", false)
  | _ => ("Cycleworks$Cylinder", "ended", "Z", false)
def tyX1 : Nat → FieldType := fun k => match k with
  | 0 => .array .char
  | 1 => .array .int
  | 2 => .array .int
  | 3 => .int
  | 4 => .int
  | 5 => .int
  | 6 => .object "Cycleworks$Whole"
  | 7 => .object "Cycleworks$Whole"
  | 8 => .object "Cycleworks$Whole"
  | 9 => .array .int
  | 10 => .int
  | 11 => .boolean
  | _ => .boolean
theorem nmX1 : ∀ a, a < 13 → ∀ b, b < 13 → a ≠ b → (TX1 a).2.1 ≠ (TX1 b).2.1 := by decide +kernel
theorem tyX1_ok : ∀ k, k < 13 → parseFieldDescriptor (TX1 k).2.2.1 = some (tyX1 k) := by decide +kernel
abbrev cX1_init : ByteArray := prog_3_method_1_code
def yX1_init : MethodName := ⟨RX1, "<init>", "()V"⟩
abbrev cX1_isStroke : ByteArray := prog_3_method_2_code
def yX1_isStroke : MethodName := ⟨RX1, "isStroke", "(CI)Z"⟩
abbrev cX1_needsBody : ByteArray := prog_3_method_3_code
def yX1_needsBody : MethodName := ⟨RX1, "needsBody", "(C)Z"⟩
abbrev cX1_fill : ByteArray := prog_3_method_4_code
def yX1_fill : MethodName := ⟨RX1, "fill", "(III)V"⟩
abbrev cX1_isFull : ByteArray := prog_3_method_5_code
def yX1_isFull : MethodName := ⟨RX1, "isFull", "()Z"⟩
abbrev cX1_isEmpty : ByteArray := prog_3_method_6_code
def yX1_isEmpty : MethodName := ⟨RX1, "isEmpty", "()Z"⟩
abbrev cX1_append : ByteArray := prog_3_method_7_code
def yX1_append : MethodName := ⟨RX1, "append", "(CII)I"⟩
abbrev cX1_removeAll : ByteArray := prog_3_method_8_code
def yX1_removeAll : MethodName := ⟨RX1, "removeAll", "()I"⟩
abbrev cX1_pressureNow : ByteArray := prog_3_method_9_code
def yX1_pressureNow : MethodName := ⟨RX1, "pressureNow", "()LCycleworks$Whole;"⟩
abbrev cX1_hasMark : ByteArray := prog_3_method_10_code
def yX1_hasMark : MethodName := ⟨RX1, "hasMark", "(I)Z"⟩
abbrev cX1_markAt : ByteArray := prog_3_method_11_code
def yX1_markAt : MethodName := ⟨RX1, "markAt", "(I)I"⟩
abbrev cX1_beginRun : ByteArray := prog_3_method_12_code
def yX1_beginRun : MethodName := ⟨RX1, "beginRun", "()V"⟩
abbrev cX1_runStroke : ByteArray := prog_3_method_13_code
def yX1_runStroke : MethodName := ⟨RX1, "runStroke", "(ILCycleworks$Bodies;LCycleworks$Sums;)V"⟩
abbrev cX1_step : ByteArray := prog_3_method_14_code
def yX1_step : MethodName := ⟨RX1, "step", "(IILCycleworks$Bodies;LCycleworks$Sums;)Z"⟩
abbrev cX1_mark : ByteArray := prog_3_method_15_code
def yX1_mark : MethodName := ⟨RX1, "mark", "(I)V"⟩
def RX2 : String := "Cycleworks$Governor"
def TX2 : u_T := fun k => match k with
  | 0 => ("Cycleworks$Governor", "set", "I", false)
  | 1 => ("Cycleworks$Governor", "gain", "I", false)
  | 2 => ("Cycleworks$Governor", "stiction", "I", false)
  | 3 => ("Cycleworks$Governor", "limit", "I", false)
  | 4 => ("Cycleworks$Governor", "load", "I", false)
  | 5 => ("Cycleworks$Governor", "speed", "I", false)
  | 6 => ("Cycleworks$Governor", "valve", "I", false)
  | 7 => ("Cycleworks$Governor", "lastWay", "I", false)
  | 8 => ("Cycleworks$Governor", "turns", "I", false)
  | _ => ("Cycleworks$Governor", "tripped", "Z", false)
def tyX2 : Nat → FieldType := fun k => match k with
  | 0 => .int
  | 1 => .int
  | 2 => .int
  | 3 => .int
  | 4 => .int
  | 5 => .int
  | 6 => .int
  | 7 => .int
  | 8 => .int
  | _ => .boolean
theorem nmX2 : ∀ a, a < 10 → ∀ b, b < 10 → a ≠ b → (TX2 a).2.1 ≠ (TX2 b).2.1 := by decide +kernel
theorem tyX2_ok : ∀ k, k < 10 → parseFieldDescriptor (TX2 k).2.2.1 = some (tyX2 k) := by decide +kernel
abbrev cX2_init : ByteArray := prog_4_method_1_code
def yX2_init : MethodName := ⟨RX2, "<init>", "()V"⟩
abbrev cX2_adjust : ByteArray := prog_4_method_2_code
def yX2_adjust : MethodName := ⟨RX2, "adjust", "(IIII)V"⟩
abbrev cX2_passSecond : ByteArray := prog_4_method_3_code
def yX2_passSecond : MethodName := ⟨RX2, "passSecond", "()V"⟩
abbrev cX2_moveValve : ByteArray := prog_4_method_4_code
def yX2_moveValve : MethodName := ⟨RX2, "moveValve", "(I)V"⟩
def RX3 : String := "Cycleworks$Ring"
def TX3 : u_T := fun k => match k with
  | 0 => ("Cycleworks$Ring", "kinds", "[C", true)
  | 1 => ("Cycleworks$Ring", "goals", "[I", true)
  | 2 => ("Cycleworks$Ring", "qualities", "[I", true)
  | 3 => ("Cycleworks$Ring", "count", "I", false)
  | 4 => ("Cycleworks$Ring", "isSolved", "Z", false)
  | 5 => ("Cycleworks$Ring", "solved", "LCycleworks$Round;", false)
  | 6 => ("Cycleworks$Ring", "trial", "LCycleworks$Round;", false)
  | 7 => ("Cycleworks$Ring", "pressure", "I", false)
  | _ => ("Cycleworks$Ring", "heat", "I", false)
def tyX3 : Nat → FieldType := fun k => match k with
  | 0 => .array .char
  | 1 => .array .int
  | 2 => .array .int
  | 3 => .int
  | 4 => .boolean
  | 5 => .object "Cycleworks$Round"
  | 6 => .object "Cycleworks$Round"
  | 7 => .int
  | _ => .int
theorem nmX3 : ∀ a, a < 9 → ∀ b, b < 9 → a ≠ b → (TX3 a).2.1 ≠ (TX3 b).2.1 := by decide +kernel
theorem tyX3_ok : ∀ k, k < 9 → parseFieldDescriptor (TX3 k).2.2.1 = some (tyX3 k) := by decide +kernel
abbrev cX3_init : ByteArray := prog_5_method_1_code
def yX3_init : MethodName := ⟨RX3, "<init>", "()V"⟩
abbrev cX3_isPart : ByteArray := prog_5_method_2_code
def yX3_isPart : MethodName := ⟨RX3, "isPart", "(CII)Z"⟩
abbrev cX3_isFull : ByteArray := prog_5_method_3_code
def yX3_isFull : MethodName := ⟨RX3, "isFull", "()Z"⟩
abbrev cX3_isEmpty : ByteArray := prog_5_method_4_code
def yX3_isEmpty : MethodName := ⟨RX3, "isEmpty", "()Z"⟩
abbrev cX3_append : ByteArray := prog_5_method_5_code
def yX3_append : MethodName := ⟨RX3, "append", "(CII)I"⟩
abbrev cX3_removeAll : ByteArray := prog_5_method_6_code
def yX3_removeAll : MethodName := ⟨RX3, "removeAll", "()I"⟩
abbrev cX3_close : ByteArray := prog_5_method_7_code
def yX3_close : MethodName := ⟨RX3, "close", "(LCycleworks$Table;II)I"⟩
abbrev cX3_keepTrial : ByteArray := prog_5_method_8_code
def yX3_keepTrial : MethodName := ⟨RX3, "keepTrial", "()V"⟩
abbrev cX3_goRound : ByteArray := prog_5_method_9_code
def yX3_goRound : MethodName := ⟨RX3, "goRound", "(LCycleworks$Table;)Z"⟩
abbrev cX3_goThrough : ByteArray := prog_5_method_10_code
def yX3_goThrough : MethodName := ⟨RX3, "goThrough", "(CIILCycleworks$Table;)Z"⟩
abbrev cX3_warm : ByteArray := prog_5_method_11_code
def yX3_warm : MethodName := ⟨RX3, "warm", "(I)Z"⟩
abbrev cX3_cool : ByteArray := prog_5_method_12_code
def yX3_cool : MethodName := ⟨RX3, "cool", "(I)Z"⟩
abbrev cX3_goUp : ByteArray := prog_5_method_13_code
def yX3_goUp : MethodName := ⟨RX3, "goUp", "(I)Z"⟩
abbrev cX3_goDown : ByteArray := prog_5_method_14_code
def yX3_goDown : MethodName := ⟨RX3, "goDown", "(III)Z"⟩
abbrev cX3_possibleWork : ByteArray := prog_5_method_15_code
def yX3_possibleWork : MethodName := ⟨RX3, "possibleWork", "(ILCycleworks$Table;)I"⟩
def RX4 : String := "Cycleworks$Round"
def TX4 : u_T := fun k => match k with
  | 0 => ("Cycleworks$Round", "works", "[I", true)
  | 1 => ("Cycleworks$Round", "heats", "[I", true)
  | 2 => ("Cycleworks$Round", "losses", "[I", true)
  | 3 => ("Cycleworks$Round", "pressuresAhead", "[I", true)
  | 4 => ("Cycleworks$Round", "heatsAhead", "[I", true)
  | _ => ("Cycleworks$Round", "count", "I", false)
def tyX4 : Nat → FieldType := fun k => match k with
  | 0 => .array .int
  | 1 => .array .int
  | 2 => .array .int
  | 3 => .array .int
  | 4 => .array .int
  | _ => .int
theorem nmX4 : ∀ a, a < 6 → ∀ b, b < 6 → a ≠ b → (TX4 a).2.1 ≠ (TX4 b).2.1 := by decide +kernel
theorem tyX4_ok : ∀ k, k < 6 → parseFieldDescriptor (TX4 k).2.2.1 = some (tyX4 k) := by decide +kernel
abbrev cX4_init : ByteArray := prog_6_method_1_code
def yX4_init : MethodName := ⟨RX4, "<init>", "()V"⟩
abbrev cX4_has : ByteArray := prog_6_method_2_code
def yX4_has : MethodName := ⟨RX4, "has", "(I)Z"⟩
abbrev cX4_begin : ByteArray := prog_6_method_3_code
def yX4_begin : MethodName := ⟨RX4, "begin", "()V"⟩
abbrev cX4_open : ByteArray := prog_6_method_4_code
def yX4_open : MethodName := ⟨RX4, "open", "(II)V"⟩
abbrev cX4_writeWork : ByteArray := prog_6_method_5_code
def yX4_writeWork : MethodName := ⟨RX4, "writeWork", "(II)V"⟩
abbrev cX4_writeHeat : ByteArray := prog_6_method_6_code
def yX4_writeHeat : MethodName := ⟨RX4, "writeHeat", "(I)V"⟩
abbrev cX4_workOf : ByteArray := prog_6_method_7_code
def yX4_workOf : MethodName := ⟨RX4, "workOf", "(I)I"⟩
abbrev cX4_heatOf : ByteArray := prog_6_method_8_code
def yX4_heatOf : MethodName := ⟨RX4, "heatOf", "(I)I"⟩
abbrev cX4_lostOf : ByteArray := prog_6_method_9_code
def yX4_lostOf : MethodName := ⟨RX4, "lostOf", "(I)I"⟩
abbrev cX4_pressureAheadOf : ByteArray := prog_6_method_10_code
def yX4_pressureAheadOf : MethodName := ⟨RX4, "pressureAheadOf", "(I)I"⟩
abbrev cX4_heatAheadOf : ByteArray := prog_6_method_11_code
def yX4_heatAheadOf : MethodName := ⟨RX4, "heatAheadOf", "(I)I"⟩
abbrev cX4_sumOfWork : ByteArray := prog_6_method_12_code
def yX4_sumOfWork : MethodName := ⟨RX4, "sumOfWork", "()I"⟩
abbrev cX4_sumOfHeat : ByteArray := prog_6_method_13_code
def yX4_sumOfHeat : MethodName := ⟨RX4, "sumOfHeat", "()I"⟩
def RX5 : String := "Cycleworks$Streams"
def TX5 : u_T := fun k => match k with
  | 0 => ("Cycleworks$Streams", "starts", "[I", true)
  | 1 => ("Cycleworks$Streams", "ends", "[I", true)
  | 2 => ("Cycleworks$Streams", "flows", "[I", true)
  | _ => ("Cycleworks$Streams", "count", "I", false)
def tyX5 : Nat → FieldType := fun k => match k with
  | 0 => .array .int
  | 1 => .array .int
  | 2 => .array .int
  | _ => .int
theorem nmX5 : ∀ a, a < 4 → ∀ b, b < 4 → a ≠ b → (TX5 a).2.1 ≠ (TX5 b).2.1 := by decide +kernel
theorem tyX5_ok : ∀ k, k < 4 → parseFieldDescriptor (TX5 k).2.2.1 = some (tyX5 k) := by decide +kernel
abbrev cX5_init : ByteArray := prog_7_method_1_code
def yX5_init : MethodName := ⟨RX5, "<init>", "()V"⟩
abbrev cX5_isFull : ByteArray := prog_7_method_2_code
def yX5_isFull : MethodName := ⟨RX5, "isFull", "()Z"⟩
abbrev cX5_append : ByteArray := prog_7_method_3_code
def yX5_append : MethodName := ⟨RX5, "append", "(III)I"⟩
abbrev cX5_removeAll : ByteArray := prog_7_method_4_code
def yX5_removeAll : MethodName := ⟨RX5, "removeAll", "()I"⟩
abbrev cX5_leastHeat : ByteArray := prog_7_method_5_code
def yX5_leastHeat : MethodName := ⟨RX5, "leastHeat", "(I)I"⟩
abbrev cX5_leastCold : ByteArray := prog_7_method_6_code
def yX5_leastCold : MethodName := ⟨RX5, "leastCold", "(I)I"⟩
abbrev cX5_narrowest : ByteArray := prog_7_method_7_code
def yX5_narrowest : MethodName := ⟨RX5, "narrowest", "(I)I"⟩
abbrev cX5_isHot : ByteArray := prog_7_method_8_code
def yX5_isHot : MethodName := ⟨RX5, "isHot", "(I)Z"⟩
abbrev cX5_shiftOf : ByteArray := prog_7_method_9_code
def yX5_shiftOf : MethodName := ⟨RX5, "shiftOf", "(II)I"⟩
abbrev cX5_sumAt : ByteArray := prog_7_method_10_code
def yX5_sumAt : MethodName := ⟨RX5, "sumAt", "(II)I"⟩
def RX6 : String := "Cycleworks$Sums"
def TX6 : u_T := fun k => match k with
  | 0 => ("Cycleworks$Sums", "work", "J", false)
  | 1 => ("Cycleworks$Sums", "made", "I", false)
  | 2 => ("Cycleworks$Sums", "moves", "I", false)
  | 3 => ("Cycleworks$Sums", "makingMoves", "I", false)
  | _ => ("Cycleworks$Sums", "putIn", "J", false)
def tyX6 : Nat → FieldType := fun k => match k with
  | 0 => .long
  | 1 => .int
  | 2 => .int
  | 3 => .int
  | _ => .long
theorem nmX6 : ∀ a, a < 5 → ∀ b, b < 5 → a ≠ b → (TX6 a).2.1 ≠ (TX6 b).2.1 := by decide +kernel
theorem tyX6_ok : ∀ k, k < 5 → parseFieldDescriptor (TX6 k).2.2.1 = some (tyX6 k) := by decide +kernel
abbrev cX6_init : ByteArray := prog_8_method_1_code
def yX6_init : MethodName := ⟨RX6, "<init>", "()V"⟩
abbrev cX6_addWork : ByteArray := prog_8_method_2_code
def yX6_addWork : MethodName := ⟨RX6, "addWork", "(J)V"⟩
abbrev cX6_addMove : ByteArray := prog_8_method_3_code
def yX6_addMove : MethodName := ⟨RX6, "addMove", "(I)V"⟩
def RX7 : String := "Cycleworks$Table"
def TX7 : u_T := fun k => match k with
  | 0 => ("Cycleworks$Table", "pressures", "[I", true)
  | 1 => ("Cycleworks$Table", "boilings", "[I", true)
  | 2 => ("Cycleworks$Table", "liquids", "[I", true)
  | 3 => ("Cycleworks$Table", "vapours", "[I", true)
  | _ => ("Cycleworks$Table", "count", "I", false)
def tyX7 : Nat → FieldType := fun k => match k with
  | 0 => .array .int
  | 1 => .array .int
  | 2 => .array .int
  | 3 => .array .int
  | _ => .int
theorem nmX7 : ∀ a, a < 5 → ∀ b, b < 5 → a ≠ b → (TX7 a).2.1 ≠ (TX7 b).2.1 := by decide +kernel
theorem tyX7_ok : ∀ k, k < 5 → parseFieldDescriptor (TX7 k).2.2.1 = some (tyX7 k) := by decide +kernel
abbrev cX7_init : ByteArray := prog_9_method_1_code
def yX7_init : MethodName := ⟨RX7, "<init>", "()V"⟩
abbrev cX7_isFull : ByteArray := prog_9_method_2_code
def yX7_isFull : MethodName := ⟨RX7, "isFull", "()Z"⟩
abbrev cX7_isBelow : ByteArray := prog_9_method_3_code
def yX7_isBelow : MethodName := ⟨RX7, "isBelow", "(III)Z"⟩
abbrev cX7_append : ByteArray := prog_9_method_4_code
def yX7_append : MethodName := ⟨RX7, "append", "(IIII)I"⟩
abbrev cX7_reaches : ByteArray := prog_9_method_5_code
def yX7_reaches : MethodName := ⟨RX7, "reaches", "(I)Z"⟩
abbrev cX7_boilingAt : ByteArray := prog_9_method_6_code
def yX7_boilingAt : MethodName := ⟨RX7, "boilingAt", "(I)I"⟩
abbrev cX7_liquidAt : ByteArray := prog_9_method_7_code
def yX7_liquidAt : MethodName := ⟨RX7, "liquidAt", "(I)I"⟩
abbrev cX7_vapourAt : ByteArray := prog_9_method_8_code
def yX7_vapourAt : MethodName := ⟨RX7, "vapourAt", "(I)I"⟩
abbrev cX7_valueAt : ByteArray := prog_9_method_9_code
def yX7_valueAt : MethodName := ⟨RX7, "valueAt", "([II)I"⟩
abbrev cX7_phaseOf : ByteArray := prog_9_method_10_code
def yX7_phaseOf : MethodName := ⟨RX7, "phaseOf", "(II)C"⟩
abbrev cX7_drynessOf : ByteArray := prog_9_method_11_code
def yX7_drynessOf : MethodName := ⟨RX7, "drynessOf", "(II)I"⟩
abbrev cX7_temperatureOf : ByteArray := prog_9_method_12_code
def yX7_temperatureOf : MethodName := ⟨RX7, "temperatureOf", "(II)I"⟩
def RX8 : String := "Cycleworks$Whole"
def TX8 : u_T := fun k => match k with
  | 0 => ("Cycleworks$Whole", "first", "J", false)
  | 1 => ("Cycleworks$Whole", "others", "[J", false)
  | _ => ("Cycleworks$Whole", "count", "I", false)
def tyX8 : Nat → FieldType := fun k => match k with
  | 0 => .long
  | 1 => .array .long
  | _ => .int
theorem nmX8 : ∀ a, a < 3 → ∀ b, b < 3 → a ≠ b → (TX8 a).2.1 ≠ (TX8 b).2.1 := by decide +kernel
theorem tyX8_ok : ∀ k, k < 3 → parseFieldDescriptor (TX8 k).2.2.1 = some (tyX8 k) := by decide +kernel
abbrev cX8_init : ByteArray := prog_10_method_1_code
def yX8_init : MethodName := ⟨RX8, "<init>", "()V"⟩
abbrev cX8_digitAt : ByteArray := prog_10_method_2_code
def yX8_digitAt : MethodName := ⟨RX8, "digitAt", "(I)J"⟩
abbrev cX8_write : ByteArray := prog_10_method_3_code
def yX8_write : MethodName := ⟨RX8, "write", "(IJ)V"⟩
abbrev cX8_makeRoom : ByteArray := prog_10_method_4_code
def yX8_makeRoom : MethodName := ⟨RX8, "makeRoom", "(I)V"⟩
abbrev cX8_endAt : ByteArray := prog_10_method_5_code
def yX8_endAt : MethodName := ⟨RX8, "endAt", "(I)V"⟩
abbrev cX8_set : ByteArray := prog_10_method_6_code
def yX8_set : MethodName := ⟨RX8, "set", "(J)V"⟩
abbrev cX8_add : ByteArray := prog_10_method_7_code
def yX8_add : MethodName := ⟨RX8, "add", "(J)V"⟩
abbrev cX8_copy : ByteArray := prog_10_method_8_code
def yX8_copy : MethodName := ⟨RX8, "copy", "(LCycleworks$Whole;)V"⟩
abbrev cX8_setTimes : ByteArray := prog_10_method_9_code
def yX8_setTimes : MethodName := ⟨RX8, "setTimes", "(LCycleworks$Whole;I)V"⟩
abbrev cX8_setSum : ByteArray := prog_10_method_10_code
def yX8_setSum : MethodName := ⟨RX8, "setSum", "(LCycleworks$Whole;LCycleworks$Whole;I)V"⟩
abbrev cX8_setQuotient : ByteArray := prog_10_method_11_code
def yX8_setQuotient : MethodName := ⟨RX8, "setQuotient", "(LCycleworks$Whole;I)V"⟩
abbrev cX8_isZero : ByteArray := prog_10_method_12_code
def yX8_isZero : MethodName := ⟨RX8, "isZero", "()Z"⟩
abbrev cX8_isBelow : ByteArray := prog_10_method_13_code
def yX8_isBelow : MethodName := ⟨RX8, "isBelow", "(LCycleworks$Whole;)Z"⟩
abbrev cX8_capped : ByteArray := prog_10_method_14_code
def yX8_capped : MethodName := ⟨RX8, "capped", "()J"⟩
abbrev cX8_low : ByteArray := prog_10_method_15_code
def yX8_low : MethodName := ⟨RX8, "low", "()J"⟩
abbrev cX8_countBits : ByteArray := prog_10_method_16_code
def yX8_countBits : MethodName := ⟨RX8, "countBits", "()I"⟩
abbrev cX8_toDouble : ByteArray := prog_10_method_17_code
def yX8_toDouble : MethodName := ⟨RX8, "toDouble", "()D"⟩
def RX9 : String := "Cycleworks"
def TX9 : u_T := fun k => match k with
  | 0 => ("Cycleworks", "bodies", "LCycleworks$Bodies;", true)
  | 1 => ("Cycleworks", "table", "LCycleworks$Table;", true)
  | 2 => ("Cycleworks", "ring", "LCycleworks$Ring;", true)
  | 3 => ("Cycleworks", "cylinder", "LCycleworks$Cylinder;", true)
  | 4 => ("Cycleworks", "streams", "LCycleworks$Streams;", true)
  | 5 => ("Cycleworks", "governor", "LCycleworks$Governor;", true)
  | _ => ("Cycleworks", "sums", "LCycleworks$Sums;", true)
def tyX9 : Nat → FieldType := fun k => match k with
  | 0 => .object "Cycleworks$Bodies"
  | 1 => .object "Cycleworks$Table"
  | 2 => .object "Cycleworks$Ring"
  | 3 => .object "Cycleworks$Cylinder"
  | 4 => .object "Cycleworks$Streams"
  | 5 => .object "Cycleworks$Governor"
  | _ => .object "Cycleworks$Sums"
theorem nmX9 : ∀ a, a < 7 → ∀ b, b < 7 → a ≠ b → (TX9 a).2.1 ≠ (TX9 b).2.1 := by decide +kernel
theorem tyX9_ok : ∀ k, k < 7 → parseFieldDescriptor (TX9 k).2.2.1 = some (tyX9 k) := by decide +kernel
abbrev cX9_init : ByteArray := prog_1_method_1_code
def yX9_init : MethodName := ⟨RX9, "<init>", "()V"⟩
abbrev cX9_addBody : ByteArray := prog_1_method_2_code
def yX9_addBody : MethodName := ⟨RX9, "addBody", "(II)I"⟩
abbrev cX9_getTemperature : ByteArray := prog_1_method_3_code
def yX9_getTemperature : MethodName := ⟨RX9, "getTemperature", "(I)I"⟩
abbrev cX9_getEnergy : ByteArray := prog_1_method_4_code
def yX9_getEnergy : MethodName := ⟨RX9, "getEnergy", "(I)I"⟩
abbrev cX9_conduct : ByteArray := prog_1_method_5_code
def yX9_conduct : MethodName := ⟨RX9, "conduct", "(III)I"⟩
abbrev cX9_runEngine : ByteArray := prog_1_method_6_code
def yX9_runEngine : MethodName := ⟨RX9, "runEngine", "(IIII)I"⟩
abbrev cX9_runPump : ByteArray := prog_1_method_7_code
def yX9_runPump : MethodName := ⟨RX9, "runPump", "(IIII)I"⟩
abbrev cX9_getWork : ByteArray := prog_1_method_8_code
def yX9_getWork : MethodName := ⟨RX9, "getWork", "()I"⟩
abbrev cX9_getMade : ByteArray := prog_1_method_9_code
def yX9_getMade : MethodName := ⟨RX9, "getMade", "()I"⟩
abbrev cX9_addRow : ByteArray := prog_1_method_10_code
def yX9_addRow : MethodName := ⟨RX9, "addRow", "(IIII)I"⟩
abbrev cX9_getBoiling : ByteArray := prog_1_method_11_code
def yX9_getBoiling : MethodName := ⟨RX9, "getBoiling", "(I)I"⟩
abbrev cX9_getLiquid : ByteArray := prog_1_method_12_code
def yX9_getLiquid : MethodName := ⟨RX9, "getLiquid", "(I)I"⟩
abbrev cX9_getVapour : ByteArray := prog_1_method_13_code
def yX9_getVapour : MethodName := ⟨RX9, "getVapour", "(I)I"⟩
abbrev cX9_getPhase : ByteArray := prog_1_method_14_code
def yX9_getPhase : MethodName := ⟨RX9, "getPhase", "(II)C"⟩
abbrev cX9_getDryness : ByteArray := prog_1_method_15_code
def yX9_getDryness : MethodName := ⟨RX9, "getDryness", "(II)I"⟩
abbrev cX9_stateTemperature : ByteArray := prog_1_method_16_code
def yX9_stateTemperature : MethodName := ⟨RX9, "stateTemperature", "(II)I"⟩
abbrev cX9_addPart : ByteArray := prog_1_method_17_code
def yX9_addPart : MethodName := ⟨RX9, "addPart", "(CII)I"⟩
abbrev cX9_clearParts : ByteArray := prog_1_method_18_code
def yX9_clearParts : MethodName := ⟨RX9, "clearParts", "()I"⟩
abbrev cX9_solve : ByteArray := prog_1_method_19_code
def yX9_solve : MethodName := ⟨RX9, "solve", "(II)I"⟩
abbrev cX9_partWork : ByteArray := prog_1_method_20_code
def yX9_partWork : MethodName := ⟨RX9, "partWork", "(I)I"⟩
abbrev cX9_partHeat : ByteArray := prog_1_method_21_code
def yX9_partHeat : MethodName := ⟨RX9, "partHeat", "(I)I"⟩
abbrev cX9_partLost : ByteArray := prog_1_method_22_code
def yX9_partLost : MethodName := ⟨RX9, "partLost", "(I)I"⟩
abbrev cX9_pressureAhead : ByteArray := prog_1_method_23_code
def yX9_pressureAhead : MethodName := ⟨RX9, "pressureAhead", "(I)I"⟩
abbrev cX9_heatAhead : ByteArray := prog_1_method_24_code
def yX9_heatAhead : MethodName := ⟨RX9, "heatAhead", "(I)I"⟩
abbrev cX9_plantWork : ByteArray := prog_1_method_25_code
def yX9_plantWork : MethodName := ⟨RX9, "plantWork", "()I"⟩
abbrev cX9_setGas : ByteArray := prog_1_method_26_code
def yX9_setGas : MethodName := ⟨RX9, "setGas", "(III)I"⟩
abbrev cX9_addStroke : ByteArray := prog_1_method_27_code
def yX9_addStroke : MethodName := ⟨RX9, "addStroke", "(CII)I"⟩
abbrev cX9_clearStrokes : ByteArray := prog_1_method_28_code
def yX9_clearStrokes : MethodName := ⟨RX9, "clearStrokes", "()I"⟩
abbrev cX9_runCycles : ByteArray := prog_1_method_29_code
def yX9_runCycles : MethodName := ⟨RX9, "runCycles", "(I)I"⟩
abbrev cX9_wasEnded : ByteArray := prog_1_method_30_code
def yX9_wasEnded : MethodName := ⟨RX9, "wasEnded", "()Z"⟩
abbrev cX9_gasEnergy : ByteArray := prog_1_method_31_code
def yX9_gasEnergy : MethodName := ⟨RX9, "gasEnergy", "()I"⟩
abbrev cX9_gasPressure : ByteArray := prog_1_method_32_code
def yX9_gasPressure : MethodName := ⟨RX9, "gasPressure", "()I"⟩
abbrev cX9_gasVolume : ByteArray := prog_1_method_33_code
def yX9_gasVolume : MethodName := ⟨RX9, "gasVolume", "()I"⟩
abbrev cX9_cardAt : ByteArray := prog_1_method_34_code
def yX9_cardAt : MethodName := ⟨RX9, "cardAt", "(I)I"⟩
abbrev cX9_addStream : ByteArray := prog_1_method_35_code
def yX9_addStream : MethodName := ⟨RX9, "addStream", "(III)I"⟩
abbrev cX9_clearStreams : ByteArray := prog_1_method_36_code
def yX9_clearStreams : MethodName := ⟨RX9, "clearStreams", "()I"⟩
abbrev cX9_heatNeeded : ByteArray := prog_1_method_37_code
def yX9_heatNeeded : MethodName := ⟨RX9, "heatNeeded", "(I)I"⟩
abbrev cX9_coldNeeded : ByteArray := prog_1_method_38_code
def yX9_coldNeeded : MethodName := ⟨RX9, "coldNeeded", "(I)I"⟩
abbrev cX9_pinch : ByteArray := prog_1_method_39_code
def yX9_pinch : MethodName := ⟨RX9, "pinch", "(I)I"⟩
abbrev cX9_setGovernor : ByteArray := prog_1_method_40_code
def yX9_setGovernor : MethodName := ⟨RX9, "setGovernor", "(IIII)I"⟩
abbrev cX9_setLoad : ByteArray := prog_1_method_41_code
def yX9_setLoad : MethodName := ⟨RX9, "setLoad", "(I)I"⟩
abbrev cX9_runSeconds : ByteArray := prog_1_method_42_code
def yX9_runSeconds : MethodName := ⟨RX9, "runSeconds", "(I)I"⟩
abbrev cX9_getValve : ByteArray := prog_1_method_43_code
def yX9_getValve : MethodName := ⟨RX9, "getValve", "()I"⟩
abbrev cX9_countTurns : ByteArray := prog_1_method_44_code
def yX9_countTurns : MethodName := ⟨RX9, "countTurns", "()I"⟩
abbrev cX9_isTripped : ByteArray := prog_1_method_45_code
def yX9_isTripped : MethodName := ⟨RX9, "isTripped", "()Z"⟩
abbrev cX9_resetTrip : ByteArray := prog_1_method_46_code
def yX9_resetTrip : MethodName := ⟨RX9, "resetTrip", "()Z"⟩
abbrev cX9_claim : ByteArray := prog_1_method_47_code
def yX9_claim : MethodName := ⟨RX9, "claim", "(IIII)C"⟩
abbrev cX9_bestWork : ByteArray := prog_1_method_48_code
def yX9_bestWork : MethodName := ⟨RX9, "bestWork", "(III)I"⟩
abbrev cX9_checksum : ByteArray := prog_1_method_49_code
def yX9_checksum : MethodName := ⟨RX9, "checksum", "()J"⟩
abbrev cX9_makingShare : ByteArray := prog_1_method_50_code
def yX9_makingShare : MethodName := ⟨RX9, "makingShare", "()F"⟩
abbrev cX9_meanTemperature : ByteArray := prog_1_method_51_code
def yX9_meanTemperature : MethodName := ⟨RX9, "meanTemperature", "()D"⟩
abbrev cX9_isSound : ByteArray := prog_1_method_52_code
def yX9_isSound : MethodName := ⟨RX9, "isSound", "()Z"⟩
abbrev cX9_isOutside : ByteArray := prog_1_method_53_code
def yX9_isOutside : MethodName := ⟨RX9, "isOutside", "(III)Z"⟩
abbrev cX9_requireBody : ByteArray := prog_1_method_54_code
def yX9_requireBody : MethodName := ⟨RX9, "requireBody", "(I)V"⟩
abbrev cX9_requireTwoBodies : ByteArray := prog_1_method_55_code
def yX9_requireTwoBodies : MethodName := ⟨RX9, "requireTwoBodies", "(III)V"⟩
abbrev cX9_move : ByteArray := prog_1_method_56_code
def yX9_move : MethodName := ⟨RX9, "move", "(IIIII)I"⟩
abbrev cX9_requireRows : ByteArray := prog_1_method_57_code
def yX9_requireRows : MethodName := ⟨RX9, "requireRows", "(I)V"⟩
abbrev cX9_requireStateHeat : ByteArray := prog_1_method_58_code
def yX9_requireStateHeat : MethodName := ⟨RX9, "requireStateHeat", "(I)V"⟩
abbrev cX9_requireState : ByteArray := prog_1_method_59_code
def yX9_requireState : MethodName := ⟨RX9, "requireState", "(II)V"⟩
abbrev cX9_requireSolved : ByteArray := prog_1_method_60_code
def yX9_requireSolved : MethodName := ⟨RX9, "requireSolved", "()V"⟩
abbrev cX9_requireSolvedPart : ByteArray := prog_1_method_61_code
def yX9_requireSolvedPart : MethodName := ⟨RX9, "requireSolvedPart", "(I)V"⟩
abbrev cX9_requireApproach : ByteArray := prog_1_method_62_code
def yX9_requireApproach : MethodName := ⟨RX9, "requireApproach", "(I)V"⟩
abbrev cX9_requireClaim : ByteArray := prog_1_method_63_code
def yX9_requireClaim : MethodName := ⟨RX9, "requireClaim", "(III)V"⟩
abbrev cX9_dividedUp : ByteArray := prog_1_method_64_code
def yX9_dividedUp : MethodName := ⟨RX9, "dividedUp", "(II)I"⟩
abbrev cX9_dividedDown : ByteArray := prog_1_method_65_code
def yX9_dividedDown : MethodName := ⟨RX9, "dividedDown", "(II)I"⟩
abbrev cX9_disorderMade : ByteArray := prog_1_method_66_code
def yX9_disorderMade : MethodName := ⟨RX9, "disorderMade", "(IJIJ)I"⟩
def RX10 : String := "CycleworksModel"
def TX10 : u_T := fun k => match k with
  | 0 => ("CycleworksModel", "thrown", "I", false)
  | 1 => ("CycleworksModel", "bodies", "Ljava/util/List;", true)
  | 2 => ("CycleworksModel", "work", "I", false)
  | 3 => ("CycleworksModel", "made", "I", false)
  | 4 => ("CycleworksModel", "done", "I", false)
  | 5 => ("CycleworksModel", "makers", "I", false)
  | 6 => ("CycleworksModel", "rows", "Ljava/util/List;", true)
  | 7 => ("CycleworksModel", "parts", "Ljava/util/List;", true)
  | 8 => ("CycleworksModel", "solved", "Ljava/util/List;", false)
  | 9 => ("CycleworksModel", "amount", "I", false)
  | 10 => ("CycleworksModel", "volume", "I", false)
  | 11 => ("CycleworksModel", "energy", "I", false)
  | 12 => ("CycleworksModel", "strokes", "Ljava/util/List;", true)
  | 13 => ("CycleworksModel", "card", "Ljava/util/List;", true)
  | 14 => ("CycleworksModel", "ran", "Z", false)
  | 15 => ("CycleworksModel", "ended", "Z", false)
  | 16 => ("CycleworksModel", "made2", "I", false)
  | 17 => ("CycleworksModel", "streams", "Ljava/util/List;", true)
  | 18 => ("CycleworksModel", "speed", "I", false)
  | 19 => ("CycleworksModel", "valve", "I", false)
  | 20 => ("CycleworksModel", "load", "I", false)
  | 21 => ("CycleworksModel", "set", "I", false)
  | 22 => ("CycleworksModel", "gain", "I", false)
  | 23 => ("CycleworksModel", "stiction", "I", false)
  | 24 => ("CycleworksModel", "limit", "I", false)
  | 25 => ("CycleworksModel", "tripped", "Z", false)
  | 26 => ("CycleworksModel", "turns", "I", false)
  | _ => ("CycleworksModel", "lastWay", "I", false)
def tyX10 : Nat → FieldType := fun k => match k with
  | 0 => .int
  | 1 => .object "java/util/List"
  | 2 => .int
  | 3 => .int
  | 4 => .int
  | 5 => .int
  | 6 => .object "java/util/List"
  | 7 => .object "java/util/List"
  | 8 => .object "java/util/List"
  | 9 => .int
  | 10 => .int
  | 11 => .int
  | 12 => .object "java/util/List"
  | 13 => .object "java/util/List"
  | 14 => .boolean
  | 15 => .boolean
  | 16 => .int
  | 17 => .object "java/util/List"
  | 18 => .int
  | 19 => .int
  | 20 => .int
  | 21 => .int
  | 22 => .int
  | 23 => .int
  | 24 => .int
  | 25 => .boolean
  | 26 => .int
  | _ => .int
theorem nmX10 : ∀ a, a < 28 → ∀ b, b < 28 → a ≠ b → (TX10 a).2.1 ≠ (TX10 b).2.1 := by decide +kernel
theorem tyX10_ok : ∀ k, k < 28 → parseFieldDescriptor (TX10 k).2.2.1 = some (tyX10 k) := by decide +kernel
abbrev cX10_thrown : ByteArray := prog_12_method_1_code
def yX10_thrown : MethodName := ⟨RX10, "thrown", "()I"⟩
abbrev cX10_in : ByteArray := prog_12_method_2_code
def yX10_in : MethodName := ⟨RX10, "in", "(JJJ)Z"⟩
abbrev cX10_isOf : ByteArray := prog_12_method_3_code
def yX10_isOf : MethodName := ⟨RX10, "isOf", "(Ljava/util/List;I)Z"⟩
abbrev cX10_fails : ByteArray := prog_12_method_4_code
def yX10_fails : MethodName := ⟨RX10, "fails", "(ZI)Z"⟩
abbrev cX10_begins : ByteArray := prog_12_method_5_code
def yX10_begins : MethodName := ⟨RX10, "begins", "()V"⟩
abbrev cX10_init : ByteArray := prog_12_method_6_code
def yX10_init : MethodName := ⟨RX10, "<init>", "()V"⟩
abbrev cX10_warm : ByteArray := prog_12_method_7_code
def yX10_warm : MethodName := ⟨RX10, "warm", "([I)I"⟩
abbrev cX10_disorder : ByteArray := prog_12_method_8_code
def yX10_disorder : MethodName := ⟨RX10, "disorder", "(IIII)I"⟩
abbrev cX10_noBody : ByteArray := prog_12_method_9_code
def yX10_noBody : MethodName := ⟨RX10, "noBody", "(I)Z"⟩
abbrev cX10_addBody : ByteArray := prog_12_method_10_code
def yX10_addBody : MethodName := ⟨RX10, "addBody", "(II)I"⟩
abbrev cX10_getTemperature : ByteArray := prog_12_method_11_code
def yX10_getTemperature : MethodName := ⟨RX10, "getTemperature", "(I)I"⟩
abbrev cX10_getEnergy : ByteArray := prog_12_method_12_code
def yX10_getEnergy : MethodName := ⟨RX10, "getEnergy", "(I)I"⟩
abbrev cX10_isCold : ByteArray := prog_12_method_13_code
def yX10_isCold : MethodName := ⟨RX10, "isCold", "([II)Z"⟩
abbrev cX10_counts : ByteArray := prog_12_method_14_code
def yX10_counts : MethodName := ⟨RX10, "counts", "(I)I"⟩
abbrev cX10_conduct : ByteArray := prog_12_method_15_code
def yX10_conduct : MethodName := ⟨RX10, "conduct", "(III)I"⟩
abbrev cX10_moves : ByteArray := prog_12_method_16_code
def yX10_moves : MethodName := ⟨RX10, "moves", "(IIII)I"⟩
abbrev cX10_runEngine : ByteArray := prog_12_method_17_code
def yX10_runEngine : MethodName := ⟨RX10, "runEngine", "(IIII)I"⟩
abbrev cX10_runPump : ByteArray := prog_12_method_18_code
def yX10_runPump : MethodName := ⟨RX10, "runPump", "(IIII)I"⟩
abbrev cX10_getWork : ByteArray := prog_12_method_19_code
def yX10_getWork : MethodName := ⟨RX10, "getWork", "()I"⟩
abbrev cX10_getMade : ByteArray := prog_12_method_20_code
def yX10_getMade : MethodName := ⟨RX10, "getMade", "()I"⟩
abbrev cX10_addRow : ByteArray := prog_12_method_21_code
def yX10_addRow : MethodName := ⟨RX10, "addRow", "(IIII)I"⟩
abbrev cX10_isIn : ByteArray := prog_12_method_22_code
def yX10_isIn : MethodName := ⟨RX10, "isIn", "(I)Z"⟩
abbrev cX10_between : ByteArray := prog_12_method_23_code
def yX10_between : MethodName := ⟨RX10, "between", "(II)I"⟩
abbrev cX10_rowed : ByteArray := prog_12_method_24_code
def yX10_rowed : MethodName := ⟨RX10, "rowed", "(II)I"⟩
abbrev cX10_getBoiling : ByteArray := prog_12_method_25_code
def yX10_getBoiling : MethodName := ⟨RX10, "getBoiling", "(I)I"⟩
abbrev cX10_getLiquid : ByteArray := prog_12_method_26_code
def yX10_getLiquid : MethodName := ⟨RX10, "getLiquid", "(I)I"⟩
abbrev cX10_getVapour : ByteArray := prog_12_method_27_code
def yX10_getVapour : MethodName := ⟨RX10, "getVapour", "(I)I"⟩
abbrev cX10_noState : ByteArray := prog_12_method_28_code
def yX10_noState : MethodName := ⟨RX10, "noState", "(II)Z"⟩
abbrev cX10_phase : ByteArray := prog_12_method_29_code
def yX10_phase : MethodName := ⟨RX10, "phase", "(II)C"⟩
abbrev cX10_hot : ByteArray := prog_12_method_30_code
def yX10_hot : MethodName := ⟨RX10, "hot", "(II)I"⟩
abbrev cX10_getPhase : ByteArray := prog_12_method_31_code
def yX10_getPhase : MethodName := ⟨RX10, "getPhase", "(II)C"⟩
abbrev cX10_getDryness : ByteArray := prog_12_method_32_code
def yX10_getDryness : MethodName := ⟨RX10, "getDryness", "(II)I"⟩
abbrev cX10_stateTemperature : ByteArray := prog_12_method_33_code
def yX10_stateTemperature : MethodName := ⟨RX10, "stateTemperature", "(II)I"⟩
abbrev cX10_addPart : ByteArray := prog_12_method_34_code
def yX10_addPart : MethodName := ⟨RX10, "addPart", "(CII)I"⟩
abbrev cX10_clearParts : ByteArray := prog_12_method_35_code
def yX10_clearParts : MethodName := ⟨RX10, "clearParts", "()I"⟩
abbrev cX10_does : ByteArray := prog_12_method_36_code
def yX10_does : MethodName := ⟨RX10, "does", "([III)[I"⟩
abbrev cX10_solve : ByteArray := prog_12_method_37_code
def yX10_solve : MethodName := ⟨RX10, "solve", "(II)I"⟩
abbrev cX10_told : ByteArray := prog_12_method_38_code
def yX10_told : MethodName := ⟨RX10, "told", "(II)I"⟩
abbrev cX10_partWork : ByteArray := prog_12_method_39_code
def yX10_partWork : MethodName := ⟨RX10, "partWork", "(I)I"⟩
abbrev cX10_partHeat : ByteArray := prog_12_method_40_code
def yX10_partHeat : MethodName := ⟨RX10, "partHeat", "(I)I"⟩
abbrev cX10_partLost : ByteArray := prog_12_method_41_code
def yX10_partLost : MethodName := ⟨RX10, "partLost", "(I)I"⟩
abbrev cX10_pressureAhead : ByteArray := prog_12_method_42_code
def yX10_pressureAhead : MethodName := ⟨RX10, "pressureAhead", "(I)I"⟩
abbrev cX10_heatAhead : ByteArray := prog_12_method_43_code
def yX10_heatAhead : MethodName := ⟨RX10, "heatAhead", "(I)I"⟩
abbrev cX10_plantWork : ByteArray := prog_12_method_44_code
def yX10_plantWork : MethodName := ⟨RX10, "plantWork", "()I"⟩
abbrev cX10_setGas : ByteArray := prog_12_method_45_code
def yX10_setGas : MethodName := ⟨RX10, "setGas", "(III)I"⟩
abbrev cX10_addStroke : ByteArray := prog_12_method_46_code
def yX10_addStroke : MethodName := ⟨RX10, "addStroke", "(CII)I"⟩
abbrev cX10_clearStrokes : ByteArray := prog_12_method_47_code
def yX10_clearStrokes : MethodName := ⟨RX10, "clearStrokes", "()I"⟩
abbrev cX10_push : ByteArray := prog_12_method_48_code
def yX10_push : MethodName := ⟨RX10, "push", "()I"⟩
abbrev cX10_steps : ByteArray := prog_12_method_49_code
def yX10_steps : MethodName := ⟨RX10, "steps", "([I)Z"⟩
abbrev cX10_strokes : ByteArray := prog_12_method_50_code
def yX10_strokes : MethodName := ⟨RX10, "strokes", "()Z"⟩
abbrev cX10_runCycles : ByteArray := prog_12_method_51_code
def yX10_runCycles : MethodName := ⟨RX10, "runCycles", "(I)I"⟩
abbrev cX10_wasEnded : ByteArray := prog_12_method_52_code
def yX10_wasEnded : MethodName := ⟨RX10, "wasEnded", "()Z"⟩
abbrev cX10_gasEnergy : ByteArray := prog_12_method_53_code
def yX10_gasEnergy : MethodName := ⟨RX10, "gasEnergy", "()I"⟩
abbrev cX10_gasPressure : ByteArray := prog_12_method_54_code
def yX10_gasPressure : MethodName := ⟨RX10, "gasPressure", "()I"⟩
abbrev cX10_gasVolume : ByteArray := prog_12_method_55_code
def yX10_gasVolume : MethodName := ⟨RX10, "gasVolume", "()I"⟩
abbrev cX10_cardAt : ByteArray := prog_12_method_56_code
def yX10_cardAt : MethodName := ⟨RX10, "cardAt", "(I)I"⟩
abbrev cX10_addStream : ByteArray := prog_12_method_57_code
def yX10_addStream : MethodName := ⟨RX10, "addStream", "(III)I"⟩
abbrev cX10_clearStreams : ByteArray := prog_12_method_58_code
def yX10_clearStreams : MethodName := ⟨RX10, "clearStreams", "()I"⟩
abbrev cX10_gives : ByteArray := prog_12_method_59_code
def yX10_gives : MethodName := ⟨RX10, "gives", "(II)I"⟩
abbrev cX10_cascade : ByteArray := prog_12_method_60_code
def yX10_cascade : MethodName := ⟨RX10, "cascade", "(I)[I"⟩
abbrev cX10_noApproach : ByteArray := prog_12_method_61_code
def yX10_noApproach : MethodName := ⟨RX10, "noApproach", "(I)Z"⟩
abbrev cX10_heatNeeded : ByteArray := prog_12_method_62_code
def yX10_heatNeeded : MethodName := ⟨RX10, "heatNeeded", "(I)I"⟩
abbrev cX10_coldNeeded : ByteArray := prog_12_method_63_code
def yX10_coldNeeded : MethodName := ⟨RX10, "coldNeeded", "(I)I"⟩
abbrev cX10_pinch : ByteArray := prog_12_method_64_code
def yX10_pinch : MethodName := ⟨RX10, "pinch", "(I)I"⟩
abbrev cX10_setGovernor : ByteArray := prog_12_method_65_code
def yX10_setGovernor : MethodName := ⟨RX10, "setGovernor", "(IIII)I"⟩
abbrev cX10_setLoad : ByteArray := prog_12_method_66_code
def yX10_setLoad : MethodName := ⟨RX10, "setLoad", "(I)I"⟩
abbrev cX10_second : ByteArray := prog_12_method_67_code
def yX10_second : MethodName := ⟨RX10, "second", "()V"⟩
abbrev cX10_runSeconds : ByteArray := prog_12_method_68_code
def yX10_runSeconds : MethodName := ⟨RX10, "runSeconds", "(I)I"⟩
abbrev cX10_getValve : ByteArray := prog_12_method_69_code
def yX10_getValve : MethodName := ⟨RX10, "getValve", "()I"⟩
abbrev cX10_countTurns : ByteArray := prog_12_method_70_code
def yX10_countTurns : MethodName := ⟨RX10, "countTurns", "()I"⟩
abbrev cX10_isTripped : ByteArray := prog_12_method_71_code
def yX10_isTripped : MethodName := ⟨RX10, "isTripped", "()Z"⟩
abbrev cX10_resetTrip : ByteArray := prog_12_method_72_code
def yX10_resetTrip : MethodName := ⟨RX10, "resetTrip", "()Z"⟩
abbrev cX10_noClaim : ByteArray := prog_12_method_73_code
def yX10_noClaim : MethodName := ⟨RX10, "noClaim", "(III)Z"⟩
abbrev cX10_claim : ByteArray := prog_12_method_74_code
def yX10_claim : MethodName := ⟨RX10, "claim", "(IIII)C"⟩
abbrev cX10_bestWork : ByteArray := prog_12_method_75_code
def yX10_bestWork : MethodName := ⟨RX10, "bestWork", "(III)I"⟩
abbrev cX10_checksum : ByteArray := prog_12_method_76_code
def yX10_checksum : MethodName := ⟨RX10, "checksum", "()J"⟩
abbrev cX10_makingShare : ByteArray := prog_12_method_77_code
def yX10_makingShare : MethodName := ⟨RX10, "makingShare", "()F"⟩
abbrev cX10_meanTemperature : ByteArray := prog_12_method_78_code
def yX10_meanTemperature : MethodName := ⟨RX10, "meanTemperature", "()D"⟩
abbrev cX10_isSound : ByteArray := prog_12_method_79_code
def yX10_isSound : MethodName := ⟨RX10, "isSound", "()Z"⟩
def RJx145de : String := "java/io/Serializable"
def TJx145de : u_T := fun k => match k with
  | _ => ("", "", "", false)
def tyJx145de : Nat → FieldType := fun k => match k with
  | _ => .int
theorem nmJx145de : ∀ a, a < 0 → ∀ b, b < 0 → a ≠ b → (TJx145de a).2.1 ≠ (TJx145de b).2.1 := by decide +kernel
theorem tyJx145de_ok : ∀ k, k < 0 → parseFieldDescriptor (TJx145de k).2.2.1 = some (tyJx145de k) := by decide +kernel
def RJx00060 : String := "java/lang/ArrayIndexOutOfBoundsException"
def TJx00060 : u_T := fun k => match k with
  | 0 => ("java/lang/Throwable", "backtrace", "Ljava/lang/Object;", false)
  | 1 => ("java/lang/Throwable", "detailMessage", "Ljava/lang/String;", false)
  | 2 => ("java/lang/Throwable", "cause", "Ljava/lang/Throwable;", false)
  | 3 => ("java/lang/Throwable", "stackTrace", "[Ljava/lang/StackTraceElement;", false)
  | 4 => ("java/lang/Throwable", "depth", "I", false)
  | _ => ("java/lang/Throwable", "suppressedExceptions", "Ljava/util/List;", false)
def tyJx00060 : Nat → FieldType := fun k => match k with
  | 0 => .object "java/lang/Object"
  | 1 => .object "java/lang/String"
  | 2 => .object "java/lang/Throwable"
  | 3 => .array (.object "java/lang/StackTraceElement")
  | 4 => .int
  | _ => .object "java/util/List"
theorem nmJx00060 : ∀ a, a < 6 → ∀ b, b < 6 → a ≠ b → (TJx00060 a).2.1 ≠ (TJx00060 b).2.1 := by decide +kernel
theorem tyJx00060_ok : ∀ k, k < 6 → parseFieldDescriptor (TJx00060 k).2.2.1 = some (tyJx00060 k) := by decide +kernel
abbrev cJx00060_init_a7421 : ByteArray := prog_15_method_2_code
def yJx00060_init_a7421 : MethodName := ⟨RJx00060, "<init>", "(Ljava/lang/String;)V"⟩
def RJx9f9b0 : String := "java/lang/CharSequence"
def TJx9f9b0 : u_T := fun k => match k with
  | _ => ("", "", "", false)
def tyJx9f9b0 : Nat → FieldType := fun k => match k with
  | _ => .int
theorem nmJx9f9b0 : ∀ a, a < 0 → ∀ b, b < 0 → a ≠ b → (TJx9f9b0 a).2.1 ≠ (TJx9f9b0 b).2.1 := by decide +kernel
theorem tyJx9f9b0_ok : ∀ k, k < 0 → parseFieldDescriptor (TJx9f9b0 k).2.2.1 = some (tyJx9f9b0 k) := by decide +kernel
def RJ11 : String := "java/lang/Character"
def TJ11 : u_T := fun k => match k with
  | _ => ("", "", "", false)
def tyJ11 : Nat → FieldType := fun k => match k with
  | _ => .int
theorem nmJ11 : ∀ a, a < 0 → ∀ b, b < 0 → a ≠ b → (TJ11 a).2.1 ≠ (TJ11 b).2.1 := by decide +kernel
theorem tyJ11_ok : ∀ k, k < 0 → parseFieldDescriptor (TJ11 k).2.2.1 = some (tyJ11 k) := by decide +kernel
abbrev cJ11_isValidCodePoint_9a6ad : ByteArray := prog_17_method_11_code
def yJ11_isValidCodePoint_9a6ad : MethodName := ⟨RJ11, "isValidCodePoint", "(I)Z"⟩
abbrev cJ11_highSurrogate_5068e : ByteArray := prog_17_method_28_code
def yJ11_highSurrogate_5068e : MethodName := ⟨RJ11, "highSurrogate", "(I)C"⟩
abbrev cJ11_lowSurrogate_5068e : ByteArray := prog_17_method_29_code
def yJ11_lowSurrogate_5068e : MethodName := ⟨RJ11, "lowSurrogate", "(I)C"⟩
def RJx8e188 : String := "java/lang/Cloneable"
def TJx8e188 : u_T := fun k => match k with
  | _ => ("", "", "", false)
def tyJx8e188 : Nat → FieldType := fun k => match k with
  | _ => .int
theorem nmJx8e188 : ∀ a, a < 0 → ∀ b, b < 0 → a ≠ b → (TJx8e188 a).2.1 ≠ (TJx8e188 b).2.1 := by decide +kernel
theorem tyJx8e188_ok : ∀ k, k < 0 → parseFieldDescriptor (TJx8e188 k).2.2.1 = some (tyJx8e188 k) := by decide +kernel
def RJxb160c : String := "java/lang/Comparable"
def TJxb160c : u_T := fun k => match k with
  | _ => ("", "", "", false)
def tyJxb160c : Nat → FieldType := fun k => match k with
  | _ => .int
theorem nmJxb160c : ∀ a, a < 0 → ∀ b, b < 0 → a ≠ b → (TJxb160c a).2.1 ≠ (TJxb160c b).2.1 := by decide +kernel
theorem tyJxb160c_ok : ∀ k, k < 0 → parseFieldDescriptor (TJxb160c k).2.2.1 = some (tyJxb160c k) := by decide +kernel
def RJxabbfe : String := "java/lang/Integer$IntegerCache"
def TJxabbfe : u_T := fun k => match k with
  | _ => ("", "", "", false)
def tyJxabbfe : Nat → FieldType := fun k => match k with
  | _ => .int
theorem nmJxabbfe : ∀ a, a < 0 → ∀ b, b < 0 → a ≠ b → (TJxabbfe a).2.1 ≠ (TJxabbfe b).2.1 := by decide +kernel
theorem tyJxabbfe_ok : ∀ k, k < 0 → parseFieldDescriptor (TJxabbfe k).2.2.1 = some (tyJxabbfe k) := by decide +kernel
def RJ6 : String := "java/lang/Integer"
def TJ6 : u_T := fun k => match k with
  | _ => ("java/lang/Integer", "value", "I", true)
def tyJ6 : Nat → FieldType := fun k => match k with
  | _ => .int
theorem nmJ6 : ∀ a, a < 1 → ∀ b, b < 1 → a ≠ b → (TJ6 a).2.1 ≠ (TJ6 b).2.1 := by decide +kernel
theorem tyJ6_ok : ∀ k, k < 1 → parseFieldDescriptor (TJ6 k).2.2.1 = some (tyJ6 k) := by decide +kernel
abbrev cJ6_valueOf_2dffe : ByteArray := prog_24_method_22_code
def yJ6_valueOf_2dffe : MethodName := ⟨RJ6, "valueOf", "(I)Ljava/lang/Integer;"⟩
abbrev cJ6_init_d00df : ByteArray := prog_24_method_23_code
def yJ6_init_d00df : MethodName := ⟨RJ6, "<init>", "(I)V"⟩
abbrev cJ6_intValue_8abf5 : ByteArray := prog_24_method_27_code
def yJ6_intValue_8abf5 : MethodName := ⟨RJ6, "intValue", "()I"⟩
abbrev cJ6_numberOfLeadingZeros_0f7a4 : ByteArray := prog_24_method_47_code
def yJ6_numberOfLeadingZeros_0f7a4 : MethodName := ⟨RJ6, "numberOfLeadingZeros", "(I)I"⟩
def RJxab1ab : String := "java/lang/Iterable"
def TJxab1ab : u_T := fun k => match k with
  | _ => ("", "", "", false)
def tyJxab1ab : Nat → FieldType := fun k => match k with
  | _ => .int
theorem nmJxab1ab : ∀ a, a < 0 → ∀ b, b < 0 → a ≠ b → (TJxab1ab a).2.1 ≠ (TJxab1ab b).2.1 := by decide +kernel
theorem tyJxab1ab_ok : ∀ k, k < 0 → parseFieldDescriptor (TJxab1ab k).2.2.1 = some (tyJxab1ab k) := by decide +kernel
def RJ13 : String := "java/lang/Long"
def TJ13 : u_T := fun k => match k with
  | _ => ("", "", "", false)
def tyJ13 : Nat → FieldType := fun k => match k with
  | _ => .int
theorem nmJ13 : ∀ a, a < 0 → ∀ b, b < 0 → a ≠ b → (TJ13 a).2.1 ≠ (TJ13 b).2.1 := by decide +kernel
theorem tyJ13_ok : ∀ k, k < 0 → parseFieldDescriptor (TJ13 k).2.2.1 = some (tyJ13 k) := by decide +kernel
abbrev cJ13_numberOfLeadingZeros_95d88 : ByteArray := prog_27_method_48_code
def yJ13_numberOfLeadingZeros_95d88 : MethodName := ⟨RJ13, "numberOfLeadingZeros", "(J)I"⟩
def RJ9 : String := "java/lang/Math"
def TJ9 : u_T := fun k => match k with
  | _ => ("", "", "", false)
def tyJ9 : Nat → FieldType := fun k => match k with
  | _ => .int
theorem nmJ9 : ∀ a, a < 0 → ∀ b, b < 0 → a ≠ b → (TJ9 a).2.1 ≠ (TJ9 b).2.1 := by decide +kernel
theorem tyJ9_ok : ∀ k, k < 0 → parseFieldDescriptor (TJ9 k).2.2.1 = some (tyJ9 k) := by decide +kernel
abbrev cJ9_abs_0f7a4 : ByteArray := prog_28_method_59_code
def yJ9_abs_0f7a4 : MethodName := ⟨RJ9, "abs", "(I)I"⟩
abbrev cJ9_max_7cf53 : ByteArray := prog_28_method_65_code
def yJ9_max_7cf53 : MethodName := ⟨RJ9, "max", "(II)I"⟩
abbrev cJ9_min_7cf53 : ByteArray := prog_28_method_69_code
def yJ9_min_7cf53 : MethodName := ⟨RJ9, "min", "(II)I"⟩
abbrev cJ9_min_f86c9 : ByteArray := prog_28_method_70_code
def yJ9_min_f86c9 : MethodName := ⟨RJ9, "min", "(JJ)J"⟩
def RJxd2413 : String := "java/lang/Number"
def TJxd2413 : u_T := fun k => match k with
  | _ => ("", "", "", false)
def tyJxd2413 : Nat → FieldType := fun k => match k with
  | _ => .int
theorem nmJxd2413 : ∀ a, a < 0 → ∀ b, b < 0 → a ≠ b → (TJxd2413 a).2.1 ≠ (TJxd2413 b).2.1 := by decide +kernel
theorem tyJxd2413_ok : ∀ k, k < 0 → parseFieldDescriptor (TJxd2413 k).2.2.1 = some (tyJxd2413 k) := by decide +kernel
abbrev cJxd2413_init_da8c8 : ByteArray := prog_29_method_1_code
def yJxd2413_init_da8c8 : MethodName := ⟨RJxd2413, "<init>", "()V"⟩
def RJ0 : String := "java/lang/String"
def TJ0 : u_T := fun k => match k with
  | 0 => ("java/lang/String", "value", "[B", true)
  | _ => ("java/lang/String", "coder", "B", true)
def tyJ0 : Nat → FieldType := fun k => match k with
  | 0 => .array .byte
  | _ => .byte
theorem nmJ0 : ∀ a, a < 2 → ∀ b, b < 2 → a ≠ b → (TJ0 a).2.1 ≠ (TJ0 b).2.1 := by decide +kernel
theorem tyJ0_ok : ∀ k, k < 2 → parseFieldDescriptor (TJ0 k).2.2.1 = some (tyJ0 k) := by decide +kernel
abbrev cJ0_length_8abf5 : ByteArray := prog_31_method_54_code
def yJ0_length_8abf5 : MethodName := ⟨RJ0, "length", "()I"⟩
abbrev cJ0_indexOf_0f7a4 : ByteArray := prog_31_method_79_code
def yJ0_indexOf_0f7a4 : MethodName := ⟨RJ0, "indexOf", "(I)I"⟩
abbrev cJ0_indexOf_7cf53 : ByteArray := prog_31_method_80_code
def yJ0_indexOf_7cf53 : MethodName := ⟨RJ0, "indexOf", "(II)I"⟩
abbrev cJ0_coder_7d493 : ByteArray := prog_31_method_152_code
def yJ0_coder_7d493 : MethodName := ⟨RJ0, "coder", "()B"⟩
abbrev cJ0_isLatin1_aae02 : ByteArray := prog_31_method_154_code
def yJ0_isLatin1_aae02 : MethodName := ⟨RJ0, "isLatin1", "()Z"⟩
abbrev cJ0_checkBoundsBeginEnd_23922 : ByteArray := prog_31_method_158_code
def yJ0_checkBoundsBeginEnd_23922 : MethodName := ⟨RJ0, "checkBoundsBeginEnd", "(III)V"⟩
def RJ1 : String := "java/lang/StringLatin1"
def TJ1 : u_T := fun k => match k with
  | _ => ("", "", "", false)
def tyJ1 : Nat → FieldType := fun k => match k with
  | _ => .int
theorem nmJ1 : ∀ a, a < 0 → ∀ b, b < 0 → a ≠ b → (TJ1 a).2.1 ≠ (TJ1 b).2.1 := by decide +kernel
theorem tyJ1_ok : ∀ k, k < 0 → parseFieldDescriptor (TJ1 k).2.2.1 = some (tyJ1 k) := by decide +kernel
abbrev cJ1_canEncode_9a6ad : ByteArray := prog_32_method_4_code
def yJ1_canEncode_9a6ad : MethodName := ⟨RJ1, "canEncode", "(I)Z"⟩
abbrev cJ1_indexOf_4cfef : ByteArray := prog_32_method_22_code
def yJ1_indexOf_4cfef : MethodName := ⟨RJ1, "indexOf", "([BIII)I"⟩
abbrev cJ1_indexOfChar_4cfef : ByteArray := prog_32_method_23_code
def yJ1_indexOfChar_4cfef : MethodName := ⟨RJ1, "indexOfChar", "([BIII)I"⟩
def RJ2 : String := "java/lang/StringUTF16"
def TJ2 : u_T := fun k => match k with
  | _ => ("", "", "", false)
def tyJ2 : Nat → FieldType := fun k => match k with
  | _ => .int
theorem nmJ2 : ∀ a, a < 0 → ∀ b, b < 0 → a ≠ b → (TJ2 a).2.1 ≠ (TJ2 b).2.1 := by decide +kernel
theorem tyJ2_ok : ∀ k, k < 0 → parseFieldDescriptor (TJ2 k).2.2.1 = some (tyJ2 k) := by decide +kernel
abbrev cJ2_getChar_3b067 : ByteArray := prog_33_method_5_code
def yJ2_getChar_3b067 : MethodName := ⟨RJ2, "getChar", "([BI)C"⟩
abbrev cJ2_length_9d52b : ByteArray := prog_33_method_6_code
def yJ2_length_9d52b : MethodName := ⟨RJ2, "length", "([B)I"⟩
abbrev cJ2_indexOf_4cfef : ByteArray := prog_33_method_40_code
def yJ2_indexOf_4cfef : MethodName := ⟨RJ2, "indexOf", "([BIII)I"⟩
abbrev cJ2_indexOfChar_4cfef : ByteArray := prog_33_method_47_code
def yJ2_indexOfChar_4cfef : MethodName := ⟨RJ2, "indexOfChar", "([BIII)I"⟩
abbrev cJ2_indexOfCharUnsafe_4cfef : ByteArray := prog_33_method_48_code
def yJ2_indexOfCharUnsafe_4cfef : MethodName := ⟨RJ2, "indexOfCharUnsafe", "([BIII)I"⟩
abbrev cJ2_indexOfSupplementary_4cfef : ByteArray := prog_33_method_49_code
def yJ2_indexOfSupplementary_4cfef : MethodName := ⟨RJ2, "indexOfSupplementary", "([BIII)I"⟩
abbrev cJ2_checkBoundsBeginEnd_d044e : ByteArray := prog_33_method_93_code
def yJ2_checkBoundsBeginEnd_d044e : MethodName := ⟨RJ2, "checkBoundsBeginEnd", "(II[B)V"⟩
def RJ10 : String := "java/lang/System"
def TJ10 : u_T := fun k => match k with
  | _ => ("", "", "", false)
def tyJ10 : Nat → FieldType := fun k => match k with
  | _ => .int
theorem nmJ10 : ∀ a, a < 0 → ∀ b, b < 0 → a ≠ b → (TJ10 a).2.1 ≠ (TJ10 b).2.1 := by decide +kernel
theorem tyJ10_ok : ∀ k, k < 0 → parseFieldDescriptor (TJ10 k).2.2.1 = some (tyJ10 k) := by decide +kernel
def RJxfd54e : String := "java/lang/constant/Constable"
def TJxfd54e : u_T := fun k => match k with
  | _ => ("", "", "", false)
def tyJxfd54e : Nat → FieldType := fun k => match k with
  | _ => .int
theorem nmJxfd54e : ∀ a, a < 0 → ∀ b, b < 0 → a ≠ b → (TJxfd54e a).2.1 ≠ (TJxfd54e b).2.1 := by decide +kernel
theorem tyJxfd54e_ok : ∀ k, k < 0 → parseFieldDescriptor (TJxfd54e k).2.2.1 = some (tyJxfd54e k) := by decide +kernel
def RJx3cf43 : String := "java/lang/constant/ConstantDesc"
def TJx3cf43 : u_T := fun k => match k with
  | _ => ("", "", "", false)
def tyJx3cf43 : Nat → FieldType := fun k => match k with
  | _ => .int
theorem nmJx3cf43 : ∀ a, a < 0 → ∀ b, b < 0 → a ≠ b → (TJx3cf43 a).2.1 ≠ (TJx3cf43 b).2.1 := by decide +kernel
theorem tyJx3cf43_ok : ∀ k, k < 0 → parseFieldDescriptor (TJx3cf43 k).2.2.1 = some (tyJx3cf43 k) := by decide +kernel
def RJxa1e45 : String := "java/util/AbstractCollection"
def TJxa1e45 : u_T := fun k => match k with
  | _ => ("", "", "", false)
def tyJxa1e45 : Nat → FieldType := fun k => match k with
  | _ => .int
theorem nmJxa1e45 : ∀ a, a < 0 → ∀ b, b < 0 → a ≠ b → (TJxa1e45 a).2.1 ≠ (TJxa1e45 b).2.1 := by decide +kernel
theorem tyJxa1e45_ok : ∀ k, k < 0 → parseFieldDescriptor (TJxa1e45 k).2.2.1 = some (tyJxa1e45 k) := by decide +kernel
abbrev cJxa1e45_init_da8c8 : ByteArray := prog_39_method_1_code
def yJxa1e45_init_da8c8 : MethodName := ⟨RJxa1e45, "<init>", "()V"⟩
def RJxc12de : String := "java/util/AbstractList"
def TJxc12de : u_T := fun k => match k with
  | _ => ("", "", "", false)
def tyJxc12de : Nat → FieldType := fun k => match k with
  | _ => .int
theorem nmJxc12de : ∀ a, a < 0 → ∀ b, b < 0 → a ≠ b → (TJxc12de a).2.1 ≠ (TJxc12de b).2.1 := by decide +kernel
theorem tyJxc12de_ok : ∀ k, k < 0 → parseFieldDescriptor (TJxc12de k).2.2.1 = some (tyJxc12de k) := by decide +kernel
abbrev cJxc12de_init_da8c8 : ByteArray := prog_40_method_1_code
def yJxc12de_init_da8c8 : MethodName := ⟨RJxc12de, "<init>", "()V"⟩
def RJx35411 : String := "java/util/ArrayList$Itr"
def TJx35411 : u_T := fun k => match k with
  | 0 => ("java/util/ArrayList$Itr", "cursor", "I", false)
  | 1 => ("java/util/ArrayList$Itr", "lastRet", "I", false)
  | 2 => ("java/util/ArrayList$Itr", "expectedModCount", "I", false)
  | _ => ("java/util/ArrayList$Itr", "this$0", "Ljava/util/ArrayList;", true)
def tyJx35411 : Nat → FieldType := fun k => match k with
  | 0 => .int
  | 1 => .int
  | 2 => .int
  | _ => .object "java/util/ArrayList"
theorem nmJx35411 : ∀ a, a < 4 → ∀ b, b < 4 → a ≠ b → (TJx35411 a).2.1 ≠ (TJx35411 b).2.1 := by decide +kernel
theorem tyJx35411_ok : ∀ k, k < 4 → parseFieldDescriptor (TJx35411 k).2.2.1 = some (tyJx35411 k) := by decide +kernel
abbrev cJx35411_init_45d68 : ByteArray := prog_42_method_1_code
def yJx35411_init_45d68 : MethodName := ⟨RJx35411, "<init>", "(Ljava/util/ArrayList;)V"⟩
abbrev cJx35411_hasNext_aae02 : ByteArray := prog_42_method_2_code
def yJx35411_hasNext_aae02 : MethodName := ⟨RJx35411, "hasNext", "()Z"⟩
abbrev cJx35411_next_0502b : ByteArray := prog_42_method_3_code
def yJx35411_next_0502b : MethodName := ⟨RJx35411, "next", "()Ljava/lang/Object;"⟩
abbrev cJx35411_checkForComodification_da8c8 : ByteArray := prog_42_method_6_code
def yJx35411_checkForComodification_da8c8 : MethodName := ⟨RJx35411, "checkForComodification", "()V"⟩
def RJx4a65c : String := "java/util/ArrayList"
def TJx4a65c : u_T := fun k => match k with
  | 0 => ("java/util/AbstractList", "modCount", "I", false)
  | 1 => ("java/util/ArrayList", "elementData", "[Ljava/lang/Object;", false)
  | _ => ("java/util/ArrayList", "size", "I", false)
def tyJx4a65c : Nat → FieldType := fun k => match k with
  | 0 => .int
  | 1 => .array (.object "java/lang/Object")
  | _ => .int
theorem nmJx4a65c : ∀ a, a < 3 → ∀ b, b < 3 → a ≠ b → (TJx4a65c a).2.1 ≠ (TJx4a65c b).2.1 := by decide +kernel
theorem tyJx4a65c_ok : ∀ k, k < 3 → parseFieldDescriptor (TJx4a65c k).2.2.1 = some (tyJx4a65c k) := by decide +kernel
abbrev cJx4a65c_init_da8c8 : ByteArray := prog_41_method_2_code
def yJx4a65c_init_da8c8 : MethodName := ⟨RJx4a65c, "<init>", "()V"⟩
abbrev cJx4a65c_grow_92f84 : ByteArray := prog_41_method_6_code
def yJx4a65c_grow_92f84 : MethodName := ⟨RJx4a65c, "grow", "(I)[Ljava/lang/Object;"⟩
abbrev cJx4a65c_grow_d5877 : ByteArray := prog_41_method_7_code
def yJx4a65c_grow_d5877 : MethodName := ⟨RJx4a65c, "grow", "()[Ljava/lang/Object;"⟩
abbrev cJx4a65c_size_8abf5 : ByteArray := prog_41_method_8_code
def yJx4a65c_size_8abf5 : MethodName := ⟨RJx4a65c, "size", "()I"⟩
abbrev cJx4a65c_isEmpty_aae02 : ByteArray := prog_41_method_9_code
def yJx4a65c_isEmpty_aae02 : MethodName := ⟨RJx4a65c, "isEmpty", "()Z"⟩
abbrev cJx4a65c_elementData_915e3 : ByteArray := prog_41_method_18_code
def yJx4a65c_elementData_915e3 : MethodName := ⟨RJx4a65c, "elementData", "(I)Ljava/lang/Object;"⟩
abbrev cJx4a65c_get_915e3 : ByteArray := prog_41_method_20_code
def yJx4a65c_get_915e3 : MethodName := ⟨RJx4a65c, "get", "(I)Ljava/lang/Object;"⟩
abbrev cJx4a65c_add_72be8 : ByteArray := prog_41_method_24_code
def yJx4a65c_add_72be8 : MethodName := ⟨RJx4a65c, "add", "(Ljava/lang/Object;[Ljava/lang/Object;I)V"⟩
abbrev cJx4a65c_add_9ea2d : ByteArray := prog_41_method_25_code
def yJx4a65c_add_9ea2d : MethodName := ⟨RJx4a65c, "add", "(Ljava/lang/Object;)Z"⟩
abbrev cJx4a65c_clear_da8c8 : ByteArray := prog_41_method_40_code
def yJx4a65c_clear_da8c8 : MethodName := ⟨RJx4a65c, "clear", "()V"⟩
abbrev cJx4a65c_iterator_32c93 : ByteArray := prog_41_method_55_code
def yJx4a65c_iterator_32c93 : MethodName := ⟨RJx4a65c, "iterator", "()Ljava/util/Iterator;"⟩
def RJ7 : String := "java/util/Arrays"
def TJ7 : u_T := fun k => match k with
  | _ => ("", "", "", false)
def tyJ7 : Nat → FieldType := fun k => match k with
  | _ => .int
theorem nmJ7 : ∀ a, a < 0 → ∀ b, b < 0 → a ≠ b → (TJ7 a).2.1 ≠ (TJ7 b).2.1 := by decide +kernel
theorem tyJ7_ok : ∀ k, k < 0 → parseFieldDescriptor (TJ7 k).2.2.1 = some (tyJ7 k) := by decide +kernel
abbrev cJ7_copyOf_1904c : ByteArray := prog_43_method_119_code
def yJ7_copyOf_1904c : MethodName := ⟨RJ7, "copyOf", "([Ljava/lang/Object;I)[Ljava/lang/Object;"⟩
abbrev cJ7_copyOf_6403c : ByteArray := prog_43_method_120_code
def yJ7_copyOf_6403c : MethodName := ⟨RJ7, "copyOf", "([Ljava/lang/Object;ILjava/lang/Class;)[Ljava/lang/Object;"⟩
abbrev cJ7_copyOf_c38d5 : ByteArray := prog_43_method_124_code
def yJ7_copyOf_c38d5 : MethodName := ⟨RJ7, "copyOf", "([JI)[J"⟩
def RJx5ef63 : String := "java/util/Collection"
def TJx5ef63 : u_T := fun k => match k with
  | _ => ("", "", "", false)
def tyJx5ef63 : Nat → FieldType := fun k => match k with
  | _ => .int
theorem nmJx5ef63 : ∀ a, a < 0 → ∀ b, b < 0 → a ≠ b → (TJx5ef63 a).2.1 ≠ (TJx5ef63 b).2.1 := by decide +kernel
theorem tyJx5ef63_ok : ∀ k, k < 0 → parseFieldDescriptor (TJx5ef63 k).2.2.1 = some (tyJx5ef63 k) := by decide +kernel
def RJx4d0d8 : String := "java/util/Iterator"
def TJx4d0d8 : u_T := fun k => match k with
  | _ => ("", "", "", false)
def tyJx4d0d8 : Nat → FieldType := fun k => match k with
  | _ => .int
theorem nmJx4d0d8 : ∀ a, a < 0 → ∀ b, b < 0 → a ≠ b → (TJx4d0d8 a).2.1 ≠ (TJx4d0d8 b).2.1 := by decide +kernel
theorem tyJx4d0d8_ok : ∀ k, k < 0 → parseFieldDescriptor (TJx4d0d8 k).2.2.1 = some (tyJx4d0d8 k) := by decide +kernel
def RJxbd725 : String := "java/util/List"
def TJxbd725 : u_T := fun k => match k with
  | _ => ("", "", "", false)
def tyJxbd725 : Nat → FieldType := fun k => match k with
  | _ => .int
theorem nmJxbd725 : ∀ a, a < 0 → ∀ b, b < 0 → a ≠ b → (TJxbd725 a).2.1 ≠ (TJxbd725 b).2.1 := by decide +kernel
theorem tyJxbd725_ok : ∀ k, k < 0 → parseFieldDescriptor (TJxbd725 k).2.2.1 = some (tyJxbd725 k) := by decide +kernel
def RJ15 : String := "java/util/Objects"
def TJ15 : u_T := fun k => match k with
  | _ => ("", "", "", false)
def tyJ15 : Nat → FieldType := fun k => match k with
  | _ => .int
theorem nmJ15 : ∀ a, a < 0 → ∀ b, b < 0 → a ≠ b → (TJ15 a).2.1 ≠ (TJ15 b).2.1 := by decide +kernel
theorem tyJ15_ok : ∀ k, k < 0 → parseFieldDescriptor (TJ15 k).2.2.1 = some (tyJ15 k) := by decide +kernel
abbrev cJ15_checkIndex_7cf53 : ByteArray := prog_48_method_17_code
def yJ15_checkIndex_7cf53 : MethodName := ⟨RJ15, "checkIndex", "(II)I"⟩
def RJxf0a74 : String := "java/util/RandomAccess"
def TJxf0a74 : u_T := fun k => match k with
  | _ => ("", "", "", false)
def tyJxf0a74 : Nat → FieldType := fun k => match k with
  | _ => .int
theorem nmJxf0a74 : ∀ a, a < 0 → ∀ b, b < 0 → a ≠ b → (TJxf0a74 a).2.1 ≠ (TJxf0a74 b).2.1 := by decide +kernel
theorem tyJxf0a74_ok : ∀ k, k < 0 → parseFieldDescriptor (TJxf0a74 k).2.2.1 = some (tyJxf0a74 k) := by decide +kernel
def RJxa66e6 : String := "java/util/SequencedCollection"
def TJxa66e6 : u_T := fun k => match k with
  | _ => ("", "", "", false)
def tyJxa66e6 : Nat → FieldType := fun k => match k with
  | _ => .int
theorem nmJxa66e6 : ∀ a, a < 0 → ∀ b, b < 0 → a ≠ b → (TJxa66e6 a).2.1 ≠ (TJxa66e6 b).2.1 := by decide +kernel
theorem tyJxa66e6_ok : ∀ k, k < 0 → parseFieldDescriptor (TJxa66e6 k).2.2.1 = some (tyJxa66e6 k) := by decide +kernel
def RJ8 : String := "jdk/internal/util/ArraysSupport"
def TJ8 : u_T := fun k => match k with
  | _ => ("", "", "", false)
def tyJ8 : Nat → FieldType := fun k => match k with
  | _ => .int
theorem nmJ8 : ∀ a, a < 0 → ∀ b, b < 0 → a ≠ b → (TJ8 a).2.1 ≠ (TJ8 b).2.1 := by decide +kernel
theorem tyJ8_ok : ∀ k, k < 0 → parseFieldDescriptor (TJ8 k).2.2.1 = some (tyJ8 k) := by decide +kernel
abbrev cJ8_newLength_cabcc : ByteArray := prog_51_method_27_code
def yJ8_newLength_cabcc : MethodName := ⟨RJ8, "newLength", "(III)I"⟩
abbrev cJ8_hugeLength_7cf53 : ByteArray := prog_51_method_28_code
def yJ8_hugeLength_7cf53 : MethodName := ⟨RJ8, "hugeLength", "(II)I"⟩
def RJ3 : String := "jdk/internal/util/Preconditions"
def TJ3 : u_T := fun k => match k with
  | _ => ("", "", "", false)
def tyJ3 : Nat → FieldType := fun k => match k with
  | _ => .int
theorem nmJ3 : ∀ a, a < 0 → ∀ b, b < 0 → a ≠ b → (TJ3 a).2.1 ≠ (TJ3 b).2.1 := by decide +kernel
theorem tyJ3_ok : ∀ k, k < 0 → parseFieldDescriptor (TJ3 k).2.2.1 = some (tyJ3 k) := by decide +kernel
abbrev cJ3_checkIndex_8e157 : ByteArray := prog_52_method_11_code
def yJ3_checkIndex_8e157 : MethodName := ⟨RJ3, "checkIndex", "(IILjava/util/function/BiFunction;)I"⟩
abbrev cJ3_checkFromToIndex_8c36e : ByteArray := prog_52_method_12_code
def yJ3_checkFromToIndex_8c36e : MethodName := ⟨RJ3, "checkFromToIndex", "(IIILjava/util/function/BiFunction;)I"⟩
def RL : String := "CycleworksLaw"
abbrev cL_addBody : ByteArray := method_3_code
def yL_addBody : MethodName := ⟨RL, "addBody", "(LCycleworks;II[J)I"⟩
abbrev cL_getTemperature : ByteArray := method_4_code
def yL_getTemperature : MethodName := ⟨RL, "getTemperature", "(LCycleworks;I[J)I"⟩
abbrev cL_getEnergy : ByteArray := method_5_code
def yL_getEnergy : MethodName := ⟨RL, "getEnergy", "(LCycleworks;I[J)I"⟩
abbrev cL_conduct : ByteArray := method_6_code
def yL_conduct : MethodName := ⟨RL, "conduct", "(LCycleworks;III[J)I"⟩
abbrev cL_runEngine : ByteArray := method_7_code
def yL_runEngine : MethodName := ⟨RL, "runEngine", "(LCycleworks;IIII[J)I"⟩
abbrev cL_runPump : ByteArray := method_8_code
def yL_runPump : MethodName := ⟨RL, "runPump", "(LCycleworks;IIII[J)I"⟩
abbrev cL_addRow : ByteArray := method_9_code
def yL_addRow : MethodName := ⟨RL, "addRow", "(LCycleworks;IIII[J)I"⟩
abbrev cL_getBoiling : ByteArray := method_10_code
def yL_getBoiling : MethodName := ⟨RL, "getBoiling", "(LCycleworks;I[J)I"⟩
abbrev cL_getLiquid : ByteArray := method_11_code
def yL_getLiquid : MethodName := ⟨RL, "getLiquid", "(LCycleworks;I[J)I"⟩
abbrev cL_getVapour : ByteArray := method_12_code
def yL_getVapour : MethodName := ⟨RL, "getVapour", "(LCycleworks;I[J)I"⟩
abbrev cL_getPhase : ByteArray := method_13_code
def yL_getPhase : MethodName := ⟨RL, "getPhase", "(LCycleworks;II[J)I"⟩
abbrev cL_getDryness : ByteArray := method_14_code
def yL_getDryness : MethodName := ⟨RL, "getDryness", "(LCycleworks;II[J)I"⟩
abbrev cL_stateTemperature : ByteArray := method_15_code
def yL_stateTemperature : MethodName := ⟨RL, "stateTemperature", "(LCycleworks;II[J)I"⟩
abbrev cL_addPart : ByteArray := method_16_code
def yL_addPart : MethodName := ⟨RL, "addPart", "(LCycleworks;CII[J)I"⟩
abbrev cL_solve : ByteArray := method_17_code
def yL_solve : MethodName := ⟨RL, "solve", "(LCycleworks;II[J)I"⟩
abbrev cL_partWork : ByteArray := method_18_code
def yL_partWork : MethodName := ⟨RL, "partWork", "(LCycleworks;I[J)I"⟩
abbrev cL_partHeat : ByteArray := method_19_code
def yL_partHeat : MethodName := ⟨RL, "partHeat", "(LCycleworks;I[J)I"⟩
abbrev cL_partLost : ByteArray := method_20_code
def yL_partLost : MethodName := ⟨RL, "partLost", "(LCycleworks;I[J)I"⟩
abbrev cL_pressureAhead : ByteArray := method_21_code
def yL_pressureAhead : MethodName := ⟨RL, "pressureAhead", "(LCycleworks;I[J)I"⟩
abbrev cL_heatAhead : ByteArray := method_22_code
def yL_heatAhead : MethodName := ⟨RL, "heatAhead", "(LCycleworks;I[J)I"⟩
abbrev cL_plantWork : ByteArray := method_23_code
def yL_plantWork : MethodName := ⟨RL, "plantWork", "(LCycleworks;[J)I"⟩
abbrev cL_setGas : ByteArray := method_24_code
def yL_setGas : MethodName := ⟨RL, "setGas", "(LCycleworks;III[J)I"⟩
abbrev cL_addStroke : ByteArray := method_25_code
def yL_addStroke : MethodName := ⟨RL, "addStroke", "(LCycleworks;CII[J)I"⟩
abbrev cL_runCycles : ByteArray := method_26_code
def yL_runCycles : MethodName := ⟨RL, "runCycles", "(LCycleworks;I[J)I"⟩
abbrev cL_wasEnded : ByteArray := method_27_code
def yL_wasEnded : MethodName := ⟨RL, "wasEnded", "(LCycleworks;[J)I"⟩
abbrev cL_cardAt : ByteArray := method_28_code
def yL_cardAt : MethodName := ⟨RL, "cardAt", "(LCycleworks;I[J)I"⟩
abbrev cL_addStream : ByteArray := method_29_code
def yL_addStream : MethodName := ⟨RL, "addStream", "(LCycleworks;III[J)I"⟩
abbrev cL_heatNeeded : ByteArray := method_30_code
def yL_heatNeeded : MethodName := ⟨RL, "heatNeeded", "(LCycleworks;I[J)I"⟩
abbrev cL_coldNeeded : ByteArray := method_31_code
def yL_coldNeeded : MethodName := ⟨RL, "coldNeeded", "(LCycleworks;I[J)I"⟩
abbrev cL_pinch : ByteArray := method_32_code
def yL_pinch : MethodName := ⟨RL, "pinch", "(LCycleworks;I[J)I"⟩
abbrev cL_setGovernor : ByteArray := method_33_code
def yL_setGovernor : MethodName := ⟨RL, "setGovernor", "(LCycleworks;IIII[J)I"⟩
abbrev cL_setLoad : ByteArray := method_34_code
def yL_setLoad : MethodName := ⟨RL, "setLoad", "(LCycleworks;I[J)I"⟩
abbrev cL_runSeconds : ByteArray := method_35_code
def yL_runSeconds : MethodName := ⟨RL, "runSeconds", "(LCycleworks;I[J)I"⟩
abbrev cL_resetTrip : ByteArray := method_36_code
def yL_resetTrip : MethodName := ⟨RL, "resetTrip", "(LCycleworks;[J)I"⟩
abbrev cL_claim : ByteArray := method_37_code
def yL_claim : MethodName := ⟨RL, "claim", "(LCycleworks;IIII[J)I"⟩
abbrev cL_bestWork : ByteArray := method_38_code
def yL_bestWork : MethodName := ⟨RL, "bestWork", "(LCycleworks;III[J)I"⟩
abbrev cL_makingShare : ByteArray := method_39_code
def yL_makingShare : MethodName := ⟨RL, "makingShare", "(LCycleworks;[D)I"⟩
abbrev cL_meanTemperature : ByteArray := method_40_code
def yL_meanTemperature : MethodName := ⟨RL, "meanTemperature", "(LCycleworks;[D)I"⟩
abbrev cL_law : ByteArray := code
def yL_law : MethodName := ⟨RL, "law", "([I)Z"⟩
abbrev vwCl : List vw_C := [(RJ0, TJ0, 2), (RJ6, TJ6, 1), (RJx00060, TJx00060, 6), (RJx35411, TJx35411, 4), (RJx4a65c, TJx4a65c, 3), (RX0, TX0, 8), (RX1, TX1, 13), (RX2, TX2, 10), (RX3, TX3, 9), (RX4, TX4, 6), (RX5, TX5, 4), (RX6, TX6, 5), (RX7, TX7, 5), (RX8, TX8, 3), (RX9, TX9, 7), (RX10, TX10, 28)]
theorem dX0_init_0 : decode cX0_init 0 = .ok (.aload_n 0, 1) := by decide +kernel
theorem dX0_init_1 : decode cX0_init 1 = .ok (.invokespecial 3, 3) := by decide +kernel
theorem dX0_init_4 : decode cX0_init 4 = .ok (.aload_n 0, 1) := by decide +kernel
theorem dX0_init_5 : decode cX0_init 5 = .ok (.bipush 8, 2) := by decide +kernel
theorem dX0_init_7 : decode cX0_init 7 = .ok (.newarray .int, 2) := by decide +kernel
theorem dX0_init_9 : decode cX0_init 9 = .ok (.putfield 11, 3) := by decide +kernel
theorem dX0_init_12 : decode cX0_init 12 = .ok (.aload_n 0, 1) := by decide +kernel
theorem dX0_init_13 : decode cX0_init 13 = .ok (.bipush 8, 2) := by decide +kernel
theorem dX0_init_15 : decode cX0_init 15 = .ok (.anewarray 15, 3) := by decide +kernel
theorem dX0_init_18 : decode cX0_init 18 = .ok (.putfield 17, 3) := by decide +kernel
theorem dX0_init_21 : decode cX0_init 21 = .ok (.aload_n 0, 1) := by decide +kernel
theorem dX0_init_22 : decode cX0_init 22 = .ok (.iconst 0, 1) := by decide +kernel
theorem dX0_init_23 : decode cX0_init 23 = .ok (.putfield 21, 3) := by decide +kernel
theorem dX0_init_26 : decode cX0_init 26 = .ok (.aload_n 0, 1) := by decide +kernel
theorem dX0_init_27 : decode cX0_init 27 = .ok (.new 15, 3) := by decide +kernel
theorem dX0_init_30 : decode cX0_init 30 = .ok (.dup, 1) := by decide +kernel
theorem dX0_init_31 : decode cX0_init 31 = .ok (.invokespecial 25, 3) := by decide +kernel
theorem dX0_init_34 : decode cX0_init 34 = .ok (.putfield 26, 3) := by decide +kernel
theorem dX0_init_37 : decode cX0_init 37 = .ok (.aload_n 0, 1) := by decide +kernel
theorem dX0_init_38 : decode cX0_init 38 = .ok (.new 15, 3) := by decide +kernel
theorem dX0_init_41 : decode cX0_init 41 = .ok (.dup, 1) := by decide +kernel
theorem dX0_init_42 : decode cX0_init 42 = .ok (.invokespecial 25, 3) := by decide +kernel
theorem dX0_init_45 : decode cX0_init 45 = .ok (.putfield 30, 3) := by decide +kernel
theorem dX0_init_48 : decode cX0_init 48 = .ok (.aload_n 0, 1) := by decide +kernel
theorem dX0_init_49 : decode cX0_init 49 = .ok (.new 15, 3) := by decide +kernel
theorem dX0_init_52 : decode cX0_init 52 = .ok (.dup, 1) := by decide +kernel
theorem dX0_init_53 : decode cX0_init 53 = .ok (.invokespecial 25, 3) := by decide +kernel
theorem dX0_init_56 : decode cX0_init 56 = .ok (.putfield 33, 3) := by decide +kernel
theorem dX0_init_59 : decode cX0_init 59 = .ok (.aload_n 0, 1) := by decide +kernel
theorem dX0_init_60 : decode cX0_init 60 = .ok (.new 15, 3) := by decide +kernel
theorem dX0_init_63 : decode cX0_init 63 = .ok (.dup, 1) := by decide +kernel
theorem dX0_init_64 : decode cX0_init 64 = .ok (.invokespecial 25, 3) := by decide +kernel
theorem dX0_init_67 : decode cX0_init 67 = .ok (.putfield 36, 3) := by decide +kernel
theorem dX0_init_70 : decode cX0_init 70 = .ok (.aload_n 0, 1) := by decide +kernel
theorem dX0_init_71 : decode cX0_init 71 = .ok (.new 15, 3) := by decide +kernel
theorem dX0_init_74 : decode cX0_init 74 = .ok (.dup, 1) := by decide +kernel
theorem dX0_init_75 : decode cX0_init 75 = .ok (.invokespecial 25, 3) := by decide +kernel
theorem dX0_init_78 : decode cX0_init 78 = .ok (.putfield 39, 3) := by decide +kernel
theorem dX0_init_81 : decode cX0_init 81 = .ok (.return_, 1) := by decide +kernel
theorem dX0_isFull_0 : decode cX0_isFull 0 = .ok (.aload_n 0, 1) := by decide +kernel
theorem dX0_isFull_1 : decode cX0_isFull 1 = .ok (.getfield 21, 3) := by decide +kernel
theorem dX0_isFull_4 : decode cX0_isFull 4 = .ok (.bipush 8, 2) := by decide +kernel
theorem dX0_isFull_6 : decode cX0_isFull 6 = .ok (.if_icmp .lt 7, 3) := by decide +kernel
theorem dX0_isFull_13 : decode cX0_isFull 13 = .ok (.iconst 0, 1) := by decide +kernel
theorem dX0_isFull_14 : decode cX0_isFull 14 = .ok (.ireturn, 1) := by decide +kernel
theorem dX0_has_0 : decode cX0_has 0 = .ok (.iload_n 1, 1) := by decide +kernel
theorem dX0_has_1 : decode cX0_has 1 = .ok (.ifCond .lt 21, 3) := by decide +kernel
theorem dX0_has_4 : decode cX0_has 4 = .ok (.iload_n 1, 1) := by decide +kernel
theorem dX0_has_5 : decode cX0_has 5 = .ok (.aload_n 0, 1) := by decide +kernel
theorem dX0_has_6 : decode cX0_has 6 = .ok (.getfield 21, 3) := by decide +kernel
theorem dX0_has_9 : decode cX0_has 9 = .ok (.if_icmp .ge 13, 3) := by decide +kernel
theorem dX0_has_22 : decode cX0_has 22 = .ok (.iconst 0, 1) := by decide +kernel
theorem dX0_has_23 : decode cX0_has 23 = .ok (.ireturn, 1) := by decide +kernel
theorem dX0_append_0 : decode cX0_append 0 = .ok (.aload_n 0, 1) := by decide +kernel
theorem dX0_append_1 : decode cX0_append 1 = .ok (.invokevirtual 42, 3) := by decide +kernel
theorem dX0_append_4 : decode cX0_append 4 = .ok (.ifCond .eq 5, 3) := by decide +kernel
theorem dX0_append_9 : decode cX0_append 9 = .ok (.aload_n 0, 1) := by decide +kernel
theorem dX0_append_10 : decode cX0_append 10 = .ok (.getfield 11, 3) := by decide +kernel
theorem dX0_append_13 : decode cX0_append 13 = .ok (.aload_n 0, 1) := by decide +kernel
theorem dX0_append_14 : decode cX0_append 14 = .ok (.getfield 21, 3) := by decide +kernel
theorem dX0_append_17 : decode cX0_append 17 = .ok (.iload_n 2, 1) := by decide +kernel
theorem dX0_append_18 : decode cX0_append 18 = .ok (.iastore, 1) := by decide +kernel
theorem dX0_append_19 : decode cX0_append 19 = .ok (.aload_n 0, 1) := by decide +kernel
theorem dX0_append_20 : decode cX0_append 20 = .ok (.getfield 17, 3) := by decide +kernel
theorem dX0_append_23 : decode cX0_append 23 = .ok (.aload_n 0, 1) := by decide +kernel
theorem dX0_append_24 : decode cX0_append 24 = .ok (.getfield 21, 3) := by decide +kernel
theorem dX0_append_27 : decode cX0_append 27 = .ok (.new 15, 3) := by decide +kernel
theorem dX0_append_30 : decode cX0_append 30 = .ok (.dup, 1) := by decide +kernel
theorem dX0_append_31 : decode cX0_append 31 = .ok (.invokespecial 25, 3) := by decide +kernel
theorem dX0_append_34 : decode cX0_append 34 = .ok (.aastore, 1) := by decide +kernel
theorem dX0_append_35 : decode cX0_append 35 = .ok (.aload_n 0, 1) := by decide +kernel
theorem dX0_append_36 : decode cX0_append 36 = .ok (.getfield 17, 3) := by decide +kernel
theorem dX0_append_39 : decode cX0_append 39 = .ok (.aload_n 0, 1) := by decide +kernel
theorem dX0_append_40 : decode cX0_append 40 = .ok (.getfield 21, 3) := by decide +kernel
theorem dX0_append_43 : decode cX0_append 43 = .ok (.aaload, 1) := by decide +kernel
theorem dX0_append_44 : decode cX0_append 44 = .ok (.iload_n 1, 1) := by decide +kernel
theorem dX0_append_45 : decode cX0_append 45 = .ok (.iload_n 2, 1) := by decide +kernel
theorem dX0_append_46 : decode cX0_append 46 = .ok (.imul, 1) := by decide +kernel
theorem dX0_append_47 : decode cX0_append 47 = .ok (.i2l, 1) := by decide +kernel
theorem dX0_append_48 : decode cX0_append 48 = .ok (.invokevirtual 46, 3) := by decide +kernel
theorem dX0_append_51 : decode cX0_append 51 = .ok (.aload_n 0, 1) := by decide +kernel
theorem dX0_append_52 : decode cX0_append 52 = .ok (.dup, 1) := by decide +kernel
theorem dX0_append_53 : decode cX0_append 53 = .ok (.getfield 21, 3) := by decide +kernel
theorem dX0_append_56 : decode cX0_append 56 = .ok (.dup_x1, 1) := by decide +kernel
theorem dX0_append_57 : decode cX0_append 57 = .ok (.iconst 1, 1) := by decide +kernel
theorem dX0_append_58 : decode cX0_append 58 = .ok (.iadd, 1) := by decide +kernel
theorem dX0_append_59 : decode cX0_append 59 = .ok (.putfield 21, 3) := by decide +kernel
theorem dX0_append_62 : decode cX0_append 62 = .ok (.ireturn, 1) := by decide +kernel
theorem dX0_lowOfEnergies_0 : decode cX0_lowOfEnergies 0 = .ok (.lconst 0, 1) := by decide +kernel
theorem dX0_lowOfEnergies_1 : decode cX0_lowOfEnergies 1 = .ok (.lstore_n 1, 1) := by decide +kernel
theorem dX0_lowOfEnergies_2 : decode cX0_lowOfEnergies 2 = .ok (.iconst 0, 1) := by decide +kernel
theorem dX0_lowOfEnergies_3 : decode cX0_lowOfEnergies 3 = .ok (.istore_n 3, 1) := by decide +kernel
theorem dX0_lowOfEnergies_4 : decode cX0_lowOfEnergies 4 = .ok (.iload_n 3, 1) := by decide +kernel
theorem dX0_lowOfEnergies_5 : decode cX0_lowOfEnergies 5 = .ok (.aload_n 0, 1) := by decide +kernel
theorem dX0_lowOfEnergies_6 : decode cX0_lowOfEnergies 6 = .ok (.getfield 21, 3) := by decide +kernel
theorem dX0_lowOfEnergies_9 : decode cX0_lowOfEnergies 9 = .ok (.if_icmp .ge 20, 3) := by decide +kernel
theorem dX0_lowOfEnergies_29 : decode cX0_lowOfEnergies 29 = .ok (.lload_n 1, 1) := by decide +kernel
theorem dX0_lowOfEnergies_30 : decode cX0_lowOfEnergies 30 = .ok (.lreturn, 1) := by decide +kernel
theorem dX0_areWarm_0 : decode cX0_areWarm 0 = .ok (.iconst 1, 1) := by decide +kernel
theorem dX0_areWarm_1 : decode cX0_areWarm 1 = .ok (.istore_n 1, 1) := by decide +kernel
theorem dX0_areWarm_2 : decode cX0_areWarm 2 = .ok (.iconst 0, 1) := by decide +kernel
theorem dX0_areWarm_3 : decode cX0_areWarm 3 = .ok (.istore_n 2, 1) := by decide +kernel
theorem dX0_areWarm_4 : decode cX0_areWarm 4 = .ok (.iload_n 2, 1) := by decide +kernel
theorem dX0_areWarm_5 : decode cX0_areWarm 5 = .ok (.aload_n 0, 1) := by decide +kernel
theorem dX0_areWarm_6 : decode cX0_areWarm 6 = .ok (.getfield 21, 3) := by decide +kernel
theorem dX0_areWarm_9 : decode cX0_areWarm 9 = .ok (.if_icmp .ge 33, 3) := by decide +kernel
theorem dX0_areWarm_42 : decode cX0_areWarm 42 = .ok (.iload_n 1, 1) := by decide +kernel
theorem dX0_areWarm_43 : decode cX0_areWarm 43 = .ok (.ireturn, 1) := by decide +kernel
theorem dX1_init_0 : decode cX1_init 0 = .ok (.aload_n 0, 1) := by decide +kernel
theorem dX1_init_1 : decode cX1_init 1 = .ok (.invokespecial 1, 3) := by decide +kernel
theorem dX1_init_4 : decode cX1_init 4 = .ok (.aload_n 0, 1) := by decide +kernel
theorem dX1_init_5 : decode cX1_init 5 = .ok (.bipush 8, 2) := by decide +kernel
theorem dX1_init_7 : decode cX1_init 7 = .ok (.newarray .char, 2) := by decide +kernel
theorem dX1_init_9 : decode cX1_init 9 = .ok (.putfield 9, 3) := by decide +kernel
theorem dX1_init_12 : decode cX1_init 12 = .ok (.aload_n 0, 1) := by decide +kernel
theorem dX1_init_13 : decode cX1_init 13 = .ok (.bipush 8, 2) := by decide +kernel
theorem dX1_init_15 : decode cX1_init 15 = .ok (.newarray .int, 2) := by decide +kernel
theorem dX1_init_17 : decode cX1_init 17 = .ok (.putfield 13, 3) := by decide +kernel
theorem dX1_init_20 : decode cX1_init 20 = .ok (.aload_n 0, 1) := by decide +kernel
theorem dX1_init_21 : decode cX1_init 21 = .ok (.bipush 8, 2) := by decide +kernel
theorem dX1_init_23 : decode cX1_init 23 = .ok (.newarray .int, 2) := by decide +kernel
theorem dX1_init_25 : decode cX1_init 25 = .ok (.putfield 17, 3) := by decide +kernel
theorem dX1_init_28 : decode cX1_init 28 = .ok (.aload_n 0, 1) := by decide +kernel
theorem dX1_init_29 : decode cX1_init 29 = .ok (.iconst 0, 1) := by decide +kernel
theorem dX1_init_30 : decode cX1_init 30 = .ok (.putfield 20, 3) := by decide +kernel
theorem dX1_init_33 : decode cX1_init 33 = .ok (.aload_n 0, 1) := by decide +kernel
theorem dX1_init_34 : decode cX1_init 34 = .ok (.new 24, 3) := by decide +kernel
theorem dX1_init_37 : decode cX1_init 37 = .ok (.dup, 1) := by decide +kernel
theorem dX1_init_38 : decode cX1_init 38 = .ok (.invokespecial 26, 3) := by decide +kernel
theorem dX1_init_41 : decode cX1_init 41 = .ok (.putfield 27, 3) := by decide +kernel
theorem dX1_init_44 : decode cX1_init 44 = .ok (.aload_n 0, 1) := by decide +kernel
theorem dX1_init_45 : decode cX1_init 45 = .ok (.new 24, 3) := by decide +kernel
theorem dX1_init_48 : decode cX1_init 48 = .ok (.dup, 1) := by decide +kernel
theorem dX1_init_49 : decode cX1_init 49 = .ok (.invokespecial 26, 3) := by decide +kernel
theorem dX1_init_52 : decode cX1_init 52 = .ok (.putfield 31, 3) := by decide +kernel
theorem dX1_init_55 : decode cX1_init 55 = .ok (.aload_n 0, 1) := by decide +kernel
theorem dX1_init_56 : decode cX1_init 56 = .ok (.new 24, 3) := by decide +kernel
theorem dX1_init_59 : decode cX1_init 59 = .ok (.dup, 1) := by decide +kernel
theorem dX1_init_60 : decode cX1_init 60 = .ok (.invokespecial 26, 3) := by decide +kernel
theorem dX1_init_63 : decode cX1_init 63 = .ok (.putfield 34, 3) := by decide +kernel
theorem dX1_init_66 : decode cX1_init 66 = .ok (.aload_n 0, 1) := by decide +kernel
theorem dX1_init_67 : decode cX1_init 67 = .ok (.sipush 300, 3) := by decide +kernel
theorem dX1_init_70 : decode cX1_init 70 = .ok (.newarray .int, 2) := by decide +kernel
theorem dX1_init_72 : decode cX1_init 72 = .ok (.putfield 37, 3) := by decide +kernel
theorem dX1_init_75 : decode cX1_init 75 = .ok (.aload_n 0, 1) := by decide +kernel
theorem dX1_init_76 : decode cX1_init 76 = .ok (.iconst 0, 1) := by decide +kernel
theorem dX1_init_77 : decode cX1_init 77 = .ok (.putfield 40, 3) := by decide +kernel
theorem dX1_init_80 : decode cX1_init 80 = .ok (.aload_n 0, 1) := by decide +kernel
theorem dX1_init_81 : decode cX1_init 81 = .ok (.iconst 0, 1) := by decide +kernel
theorem dX1_init_82 : decode cX1_init 82 = .ok (.putfield 43, 3) := by decide +kernel
theorem dX1_init_85 : decode cX1_init 85 = .ok (.aload_n 0, 1) := by decide +kernel
theorem dX1_init_86 : decode cX1_init 86 = .ok (.iconst 0, 1) := by decide +kernel
theorem dX1_init_87 : decode cX1_init 87 = .ok (.putfield 47, 3) := by decide +kernel
theorem dX1_init_90 : decode cX1_init 90 = .ok (.aload_n 0, 1) := by decide +kernel
theorem dX1_init_91 : decode cX1_init 91 = .ok (.iconst 1, 1) := by decide +kernel
theorem dX1_init_92 : decode cX1_init 92 = .ok (.bipush 10, 2) := by decide +kernel
theorem dX1_init_94 : decode cX1_init 94 = .ok (.sipush 300, 3) := by decide +kernel
theorem dX1_init_97 : decode cX1_init 97 = .ok (.invokevirtual 50, 3) := by decide +kernel
theorem dX1_init_100 : decode cX1_init 100 = .ok (.return_, 1) := by decide +kernel
theorem dX1_isStroke_0 : decode cX1_isStroke 0 = .ok (.iload_n 0, 1) := by decide +kernel
theorem dX1_isStroke_1 : decode cX1_isStroke 1 = .ok (.bipush 118, 2) := by decide +kernel
theorem dX1_isStroke_3 : decode cX1_isStroke 3 = .ok (.if_icmp .eq 25, 3) := by decide +kernel
theorem dX1_isStroke_6 : decode cX1_isStroke 6 = .ok (.iload_n 0, 1) := by decide +kernel
theorem dX1_isStroke_7 : decode cX1_isStroke 7 = .ok (.bipush 97, 2) := by decide +kernel
theorem dX1_isStroke_9 : decode cX1_isStroke 9 = .ok (.if_icmp .eq 9, 3) := by decide +kernel
theorem dX1_isStroke_12 : decode cX1_isStroke 12 = .ok (.iload_n 0, 1) := by decide +kernel
theorem dX1_isStroke_13 : decode cX1_isStroke 13 = .ok (.bipush 105, 2) := by decide +kernel
theorem dX1_isStroke_15 : decode cX1_isStroke 15 = .ok (.if_icmp .ne 17, 3) := by decide +kernel
theorem dX1_isStroke_18 : decode cX1_isStroke 18 = .ok (.iload_n 1, 1) := by decide +kernel
theorem dX1_isStroke_19 : decode cX1_isStroke 19 = .ok (.iconst 1, 1) := by decide +kernel
theorem dX1_isStroke_20 : decode cX1_isStroke 20 = .ok (.bipush 100, 2) := by decide +kernel
theorem dX1_isStroke_22 : decode cX1_isStroke 22 = .ok (.invokestatic 54, 3) := by decide +kernel
theorem dX1_isStroke_25 : decode cX1_isStroke 25 = .ok (.ifCond .ne 7, 3) := by decide +kernel
theorem dX1_isStroke_28 : decode cX1_isStroke 28 = .ok (.iconst 1, 1) := by decide +kernel
theorem dX1_isStroke_29 : decode cX1_isStroke 29 = .ok (.goto 4, 3) := by decide +kernel
theorem dX1_isStroke_32 : decode cX1_isStroke 32 = .ok (.iconst 0, 1) := by decide +kernel
theorem dX1_isStroke_33 : decode cX1_isStroke 33 = .ok (.ireturn, 1) := by decide +kernel
theorem dX1_needsBody_0 : decode cX1_needsBody 0 = .ok (.iload_n 0, 1) := by decide +kernel
theorem dX1_needsBody_1 : decode cX1_needsBody 1 = .ok (.bipush 97, 2) := by decide +kernel
theorem dX1_needsBody_3 : decode cX1_needsBody 3 = .ok (.if_icmp .eq 7, 3) := by decide +kernel
theorem dX1_needsBody_6 : decode cX1_needsBody 6 = .ok (.iconst 1, 1) := by decide +kernel
theorem dX1_needsBody_7 : decode cX1_needsBody 7 = .ok (.goto 4, 3) := by decide +kernel
theorem dX1_needsBody_10 : decode cX1_needsBody 10 = .ok (.iconst 0, 1) := by decide +kernel
theorem dX1_needsBody_11 : decode cX1_needsBody 11 = .ok (.ireturn, 1) := by decide +kernel
theorem dX1_fill_0 : decode cX1_fill 0 = .ok (.aload_n 0, 1) := by decide +kernel
theorem dX1_fill_1 : decode cX1_fill 1 = .ok (.iload_n 1, 1) := by decide +kernel
theorem dX1_fill_2 : decode cX1_fill 2 = .ok (.putfield 60, 3) := by decide +kernel
theorem dX1_fill_5 : decode cX1_fill 5 = .ok (.aload_n 0, 1) := by decide +kernel
theorem dX1_fill_6 : decode cX1_fill 6 = .ok (.iload_n 2, 1) := by decide +kernel
theorem dX1_fill_7 : decode cX1_fill 7 = .ok (.putfield 63, 3) := by decide +kernel
theorem dX1_fill_10 : decode cX1_fill 10 = .ok (.aload_n 0, 1) := by decide +kernel
theorem dX1_fill_11 : decode cX1_fill 11 = .ok (.getfield 27, 3) := by decide +kernel
theorem dX1_fill_14 : decode cX1_fill 14 = .ok (.iconst 3, 1) := by decide +kernel
theorem dX1_fill_15 : decode cX1_fill 15 = .ok (.iload_n 1, 1) := by decide +kernel
theorem dX1_fill_16 : decode cX1_fill 16 = .ok (.imul, 1) := by decide +kernel
theorem dX1_fill_17 : decode cX1_fill 17 = .ok (.iload_n 3, 1) := by decide +kernel
theorem dX1_fill_18 : decode cX1_fill 18 = .ok (.imul, 1) := by decide +kernel
theorem dX1_fill_19 : decode cX1_fill 19 = .ok (.i2l, 1) := by decide +kernel
theorem dX1_fill_20 : decode cX1_fill 20 = .ok (.invokevirtual 66, 3) := by decide +kernel
theorem dX1_fill_23 : decode cX1_fill 23 = .ok (.return_, 1) := by decide +kernel
theorem dX1_isFull_0 : decode cX1_isFull 0 = .ok (.aload_n 0, 1) := by decide +kernel
theorem dX1_isFull_1 : decode cX1_isFull 1 = .ok (.getfield 20, 3) := by decide +kernel
theorem dX1_isFull_4 : decode cX1_isFull 4 = .ok (.bipush 8, 2) := by decide +kernel
theorem dX1_isFull_6 : decode cX1_isFull 6 = .ok (.if_icmp .lt 7, 3) := by decide +kernel
theorem dX1_isFull_13 : decode cX1_isFull 13 = .ok (.iconst 0, 1) := by decide +kernel
theorem dX1_isFull_14 : decode cX1_isFull 14 = .ok (.ireturn, 1) := by decide +kernel
theorem dX1_isEmpty_0 : decode cX1_isEmpty 0 = .ok (.aload_n 0, 1) := by decide +kernel
theorem dX1_isEmpty_1 : decode cX1_isEmpty 1 = .ok (.getfield 20, 3) := by decide +kernel
theorem dX1_isEmpty_4 : decode cX1_isEmpty 4 = .ok (.ifCond .ne 7, 3) := by decide +kernel
theorem dX1_isEmpty_7 : decode cX1_isEmpty 7 = .ok (.iconst 1, 1) := by decide +kernel
theorem dX1_isEmpty_8 : decode cX1_isEmpty 8 = .ok (.goto 4, 3) := by decide +kernel
theorem dX1_isEmpty_12 : decode cX1_isEmpty 12 = .ok (.ireturn, 1) := by decide +kernel
theorem dX1_append_0 : decode cX1_append 0 = .ok (.aload_n 0, 1) := by decide +kernel
theorem dX1_append_1 : decode cX1_append 1 = .ok (.invokevirtual 70, 3) := by decide +kernel
theorem dX1_append_4 : decode cX1_append 4 = .ok (.ifCond .ne 54, 3) := by decide +kernel
theorem dX1_append_7 : decode cX1_append 7 = .ok (.aload_n 0, 1) := by decide +kernel
theorem dX1_append_8 : decode cX1_append 8 = .ok (.getfield 9, 3) := by decide +kernel
theorem dX1_append_11 : decode cX1_append 11 = .ok (.aload_n 0, 1) := by decide +kernel
theorem dX1_append_12 : decode cX1_append 12 = .ok (.getfield 20, 3) := by decide +kernel
theorem dX1_append_15 : decode cX1_append 15 = .ok (.iload_n 1, 1) := by decide +kernel
theorem dX1_append_16 : decode cX1_append 16 = .ok (.castore, 1) := by decide +kernel
theorem dX1_append_17 : decode cX1_append 17 = .ok (.aload_n 0, 1) := by decide +kernel
theorem dX1_append_18 : decode cX1_append 18 = .ok (.getfield 13, 3) := by decide +kernel
theorem dX1_append_21 : decode cX1_append 21 = .ok (.aload_n 0, 1) := by decide +kernel
theorem dX1_append_22 : decode cX1_append 22 = .ok (.getfield 20, 3) := by decide +kernel
theorem dX1_append_25 : decode cX1_append 25 = .ok (.iload_n 2, 1) := by decide +kernel
theorem dX1_append_26 : decode cX1_append 26 = .ok (.iastore, 1) := by decide +kernel
theorem dX1_append_27 : decode cX1_append 27 = .ok (.aload_n 0, 1) := by decide +kernel
theorem dX1_append_28 : decode cX1_append 28 = .ok (.getfield 17, 3) := by decide +kernel
theorem dX1_append_31 : decode cX1_append 31 = .ok (.aload_n 0, 1) := by decide +kernel
theorem dX1_append_32 : decode cX1_append 32 = .ok (.getfield 20, 3) := by decide +kernel
theorem dX1_append_35 : decode cX1_append 35 = .ok (.iload_n 1, 1) := by decide +kernel
theorem dX1_append_36 : decode cX1_append 36 = .ok (.invokestatic 74, 3) := by decide +kernel
theorem dX1_append_39 : decode cX1_append 39 = .ok (.ifCond .eq 7, 3) := by decide +kernel
theorem dX1_append_46 : decode cX1_append 46 = .ok (.iconst (-1), 1) := by decide +kernel
theorem dX1_append_47 : decode cX1_append 47 = .ok (.iastore, 1) := by decide +kernel
theorem dX1_append_48 : decode cX1_append 48 = .ok (.aload_n 0, 1) := by decide +kernel
theorem dX1_append_49 : decode cX1_append 49 = .ok (.dup, 1) := by decide +kernel
theorem dX1_append_50 : decode cX1_append 50 = .ok (.getfield 20, 3) := by decide +kernel
theorem dX1_append_53 : decode cX1_append 53 = .ok (.iconst 1, 1) := by decide +kernel
theorem dX1_append_54 : decode cX1_append 54 = .ok (.iadd, 1) := by decide +kernel
theorem dX1_append_55 : decode cX1_append 55 = .ok (.putfield 20, 3) := by decide +kernel
theorem dX1_append_58 : decode cX1_append 58 = .ok (.aload_n 0, 1) := by decide +kernel
theorem dX1_append_59 : decode cX1_append 59 = .ok (.getfield 20, 3) := by decide +kernel
theorem dX1_append_62 : decode cX1_append 62 = .ok (.ireturn, 1) := by decide +kernel
theorem dX1_removeAll_0 : decode cX1_removeAll 0 = .ok (.aload_n 0, 1) := by decide +kernel
theorem dX1_removeAll_1 : decode cX1_removeAll 1 = .ok (.getfield 20, 3) := by decide +kernel
theorem dX1_removeAll_4 : decode cX1_removeAll 4 = .ok (.istore_n 1, 1) := by decide +kernel
theorem dX1_removeAll_5 : decode cX1_removeAll 5 = .ok (.aload_n 0, 1) := by decide +kernel
theorem dX1_removeAll_6 : decode cX1_removeAll 6 = .ok (.iconst 0, 1) := by decide +kernel
theorem dX1_removeAll_7 : decode cX1_removeAll 7 = .ok (.putfield 20, 3) := by decide +kernel
theorem dX1_removeAll_10 : decode cX1_removeAll 10 = .ok (.iload_n 1, 1) := by decide +kernel
theorem dX1_removeAll_11 : decode cX1_removeAll 11 = .ok (.ireturn, 1) := by decide +kernel
theorem dX1_pressureNow_0 : decode cX1_pressureNow 0 = .ok (.aload_n 0, 1) := by decide +kernel
theorem dX1_pressureNow_1 : decode cX1_pressureNow 1 = .ok (.getfield 34, 3) := by decide +kernel
theorem dX1_pressureNow_4 : decode cX1_pressureNow 4 = .ok (.aload_n 0, 1) := by decide +kernel
theorem dX1_pressureNow_5 : decode cX1_pressureNow 5 = .ok (.getfield 27, 3) := by decide +kernel
theorem dX1_pressureNow_8 : decode cX1_pressureNow 8 = .ok (.iconst 2, 1) := by decide +kernel
theorem dX1_pressureNow_9 : decode cX1_pressureNow 9 = .ok (.invokevirtual 78, 3) := by decide +kernel
theorem dX1_pressureNow_12 : decode cX1_pressureNow 12 = .ok (.aload_n 0, 1) := by decide +kernel
theorem dX1_pressureNow_13 : decode cX1_pressureNow 13 = .ok (.getfield 34, 3) := by decide +kernel
theorem dX1_pressureNow_16 : decode cX1_pressureNow 16 = .ok (.aload_n 0, 1) := by decide +kernel
theorem dX1_pressureNow_17 : decode cX1_pressureNow 17 = .ok (.getfield 34, 3) := by decide +kernel
theorem dX1_pressureNow_20 : decode cX1_pressureNow 20 = .ok (.iconst 3, 1) := by decide +kernel
theorem dX1_pressureNow_21 : decode cX1_pressureNow 21 = .ok (.aload_n 0, 1) := by decide +kernel
theorem dX1_pressureNow_22 : decode cX1_pressureNow 22 = .ok (.getfield 63, 3) := by decide +kernel
theorem dX1_pressureNow_25 : decode cX1_pressureNow 25 = .ok (.imul, 1) := by decide +kernel
theorem dX1_pressureNow_26 : decode cX1_pressureNow 26 = .ok (.invokevirtual 82, 3) := by decide +kernel
theorem dX1_pressureNow_29 : decode cX1_pressureNow 29 = .ok (.aload_n 0, 1) := by decide +kernel
theorem dX1_pressureNow_30 : decode cX1_pressureNow 30 = .ok (.getfield 34, 3) := by decide +kernel
theorem dX1_pressureNow_33 : decode cX1_pressureNow 33 = .ok (.areturn, 1) := by decide +kernel
theorem dX1_hasMark_0 : decode cX1_hasMark 0 = .ok (.iload_n 1, 1) := by decide +kernel
theorem dX1_hasMark_1 : decode cX1_hasMark 1 = .ok (.ifCond .lt 22, 3) := by decide +kernel
theorem dX1_hasMark_4 : decode cX1_hasMark 4 = .ok (.iload_n 1, 1) := by decide +kernel
theorem dX1_hasMark_5 : decode cX1_hasMark 5 = .ok (.aload_n 0, 1) := by decide +kernel
theorem dX1_hasMark_6 : decode cX1_hasMark 6 = .ok (.getfield 40, 3) := by decide +kernel
theorem dX1_hasMark_9 : decode cX1_hasMark 9 = .ok (.if_icmp .ge 14, 3) := by decide +kernel
theorem dX1_hasMark_23 : decode cX1_hasMark 23 = .ok (.iconst 0, 1) := by decide +kernel
theorem dX1_hasMark_24 : decode cX1_hasMark 24 = .ok (.ireturn, 1) := by decide +kernel
theorem dX2_init_0 : decode cX2_init 0 = .ok (.aload_n 0, 1) := by decide +kernel
theorem dX2_init_1 : decode cX2_init 1 = .ok (.invokespecial 1, 3) := by decide +kernel
theorem dX2_init_4 : decode cX2_init 4 = .ok (.aload_n 0, 1) := by decide +kernel
theorem dX2_init_5 : decode cX2_init 5 = .ok (.sipush 1000, 3) := by decide +kernel
theorem dX2_init_8 : decode cX2_init 8 = .ok (.putfield 7, 3) := by decide +kernel
theorem dX2_init_11 : decode cX2_init 11 = .ok (.aload_n 0, 1) := by decide +kernel
theorem dX2_init_12 : decode cX2_init 12 = .ok (.bipush 10, 2) := by decide +kernel
theorem dX2_init_14 : decode cX2_init 14 = .ok (.putfield 13, 3) := by decide +kernel
theorem dX2_init_17 : decode cX2_init 17 = .ok (.aload_n 0, 1) := by decide +kernel
theorem dX2_init_18 : decode cX2_init 18 = .ok (.iconst 0, 1) := by decide +kernel
theorem dX2_init_19 : decode cX2_init 19 = .ok (.putfield 16, 3) := by decide +kernel
theorem dX2_init_22 : decode cX2_init 22 = .ok (.aload_n 0, 1) := by decide +kernel
theorem dX2_init_23 : decode cX2_init 23 = .ok (.sipush 3000, 3) := by decide +kernel
theorem dX2_init_26 : decode cX2_init 26 = .ok (.putfield 19, 3) := by decide +kernel
theorem dX2_init_29 : decode cX2_init 29 = .ok (.aload_n 0, 1) := by decide +kernel
theorem dX2_init_30 : decode cX2_init 30 = .ok (.bipush 50, 2) := by decide +kernel
theorem dX2_init_32 : decode cX2_init 32 = .ok (.putfield 22, 3) := by decide +kernel
theorem dX2_init_35 : decode cX2_init 35 = .ok (.aload_n 0, 1) := by decide +kernel
theorem dX2_init_36 : decode cX2_init 36 = .ok (.sipush 1000, 3) := by decide +kernel
theorem dX2_init_39 : decode cX2_init 39 = .ok (.putfield 25, 3) := by decide +kernel
theorem dX2_init_42 : decode cX2_init 42 = .ok (.aload_n 0, 1) := by decide +kernel
theorem dX2_init_43 : decode cX2_init 43 = .ok (.bipush 50, 2) := by decide +kernel
theorem dX2_init_45 : decode cX2_init 45 = .ok (.putfield 28, 3) := by decide +kernel
theorem dX2_init_48 : decode cX2_init 48 = .ok (.aload_n 0, 1) := by decide +kernel
theorem dX2_init_49 : decode cX2_init 49 = .ok (.iconst 0, 1) := by decide +kernel
theorem dX2_init_50 : decode cX2_init 50 = .ok (.putfield 31, 3) := by decide +kernel
theorem dX2_init_53 : decode cX2_init 53 = .ok (.aload_n 0, 1) := by decide +kernel
theorem dX2_init_54 : decode cX2_init 54 = .ok (.iconst 0, 1) := by decide +kernel
theorem dX2_init_55 : decode cX2_init 55 = .ok (.putfield 34, 3) := by decide +kernel
theorem dX2_init_58 : decode cX2_init 58 = .ok (.aload_n 0, 1) := by decide +kernel
theorem dX2_init_59 : decode cX2_init 59 = .ok (.iconst 0, 1) := by decide +kernel
theorem dX2_init_60 : decode cX2_init 60 = .ok (.putfield 37, 3) := by decide +kernel
theorem dX2_init_63 : decode cX2_init 63 = .ok (.return_, 1) := by decide +kernel
theorem dX2_adjust_0 : decode cX2_adjust 0 = .ok (.aload_n 0, 1) := by decide +kernel
theorem dX2_adjust_1 : decode cX2_adjust 1 = .ok (.iload_n 1, 1) := by decide +kernel
theorem dX2_adjust_2 : decode cX2_adjust 2 = .ok (.putfield 7, 3) := by decide +kernel
theorem dX2_adjust_5 : decode cX2_adjust 5 = .ok (.aload_n 0, 1) := by decide +kernel
theorem dX2_adjust_6 : decode cX2_adjust 6 = .ok (.iload_n 2, 1) := by decide +kernel
theorem dX2_adjust_7 : decode cX2_adjust 7 = .ok (.putfield 13, 3) := by decide +kernel
theorem dX2_adjust_10 : decode cX2_adjust 10 = .ok (.aload_n 0, 1) := by decide +kernel
theorem dX2_adjust_11 : decode cX2_adjust 11 = .ok (.iload_n 3, 1) := by decide +kernel
theorem dX2_adjust_12 : decode cX2_adjust 12 = .ok (.putfield 16, 3) := by decide +kernel
theorem dX2_adjust_15 : decode cX2_adjust 15 = .ok (.aload_n 0, 1) := by decide +kernel
theorem dX2_adjust_16 : decode cX2_adjust 16 = .ok (.iload 4, 2) := by decide +kernel
theorem dX2_adjust_18 : decode cX2_adjust 18 = .ok (.putfield 19, 3) := by decide +kernel
theorem dX2_adjust_21 : decode cX2_adjust 21 = .ok (.return_, 1) := by decide +kernel
theorem dX2_passSecond_0 : decode cX2_passSecond 0 = .ok (.iconst 0, 1) := by decide +kernel
theorem dX2_passSecond_1 : decode cX2_passSecond 1 = .ok (.bipush 100, 2) := by decide +kernel
theorem dX2_passSecond_3 : decode cX2_passSecond 3 = .ok (.aload_n 0, 1) := by decide +kernel
theorem dX2_passSecond_4 : decode cX2_passSecond 4 = .ok (.getfield 28, 3) := by decide +kernel
theorem dX2_passSecond_7 : decode cX2_passSecond 7 = .ok (.aload_n 0, 1) := by decide +kernel
theorem dX2_passSecond_8 : decode cX2_passSecond 8 = .ok (.getfield 7, 3) := by decide +kernel
theorem dX2_passSecond_11 : decode cX2_passSecond 11 = .ok (.aload_n 0, 1) := by decide +kernel
theorem dX2_passSecond_12 : decode cX2_passSecond 12 = .ok (.getfield 25, 3) := by decide +kernel
theorem dX2_passSecond_15 : decode cX2_passSecond 15 = .ok (.isub, 1) := by decide +kernel
theorem dX2_passSecond_16 : decode cX2_passSecond 16 = .ok (.aload_n 0, 1) := by decide +kernel
theorem dX2_passSecond_17 : decode cX2_passSecond 17 = .ok (.getfield 13, 3) := by decide +kernel
theorem dX2_passSecond_20 : decode cX2_passSecond 20 = .ok (.imul, 1) := by decide +kernel
theorem dX2_passSecond_21 : decode cX2_passSecond 21 = .ok (.bipush 100, 2) := by decide +kernel
theorem dX2_passSecond_23 : decode cX2_passSecond 23 = .ok (.idiv, 1) := by decide +kernel
theorem dX2_passSecond_24 : decode cX2_passSecond 24 = .ok (.iadd, 1) := by decide +kernel
theorem dX2_passSecond_25 : decode cX2_passSecond 25 = .ok (.invokestatic 41, 3) := by decide +kernel
theorem dX2_passSecond_28 : decode cX2_passSecond 28 = .ok (.invokestatic 47, 3) := by decide +kernel
theorem dX2_passSecond_31 : decode cX2_passSecond 31 = .ok (.istore_n 1, 1) := by decide +kernel
theorem dX2_passSecond_32 : decode cX2_passSecond 32 = .ok (.iload_n 1, 1) := by decide +kernel
theorem dX2_passSecond_33 : decode cX2_passSecond 33 = .ok (.aload_n 0, 1) := by decide +kernel
theorem dX2_passSecond_34 : decode cX2_passSecond 34 = .ok (.getfield 28, 3) := by decide +kernel
theorem dX2_passSecond_37 : decode cX2_passSecond 37 = .ok (.isub, 1) := by decide +kernel
theorem dX2_passSecond_38 : decode cX2_passSecond 38 = .ok (.invokestatic 50, 3) := by decide +kernel
theorem dX2_passSecond_41 : decode cX2_passSecond 41 = .ok (.aload_n 0, 1) := by decide +kernel
theorem dX2_passSecond_42 : decode cX2_passSecond 42 = .ok (.getfield 16, 3) := by decide +kernel
theorem dX2_passSecond_45 : decode cX2_passSecond 45 = .ok (.if_icmp .le 8, 3) := by decide +kernel
theorem dX2_passSecond_53 : decode cX2_passSecond 53 = .ok (.aload_n 0, 1) := by decide +kernel
theorem dX2_passSecond_54 : decode cX2_passSecond 54 = .ok (.getfield 37, 3) := by decide +kernel
theorem dX2_passSecond_57 : decode cX2_passSecond 57 = .ok (.ifCond .eq 7, 3) := by decide +kernel
theorem dX2_passSecond_64 : decode cX2_passSecond 64 = .ok (.aload_n 0, 1) := by decide +kernel
theorem dX2_passSecond_65 : decode cX2_passSecond 65 = .ok (.getfield 28, 3) := by decide +kernel
theorem dX2_passSecond_68 : decode cX2_passSecond 68 = .ok (.istore_n 2, 1) := by decide +kernel
theorem dX2_passSecond_69 : decode cX2_passSecond 69 = .ok (.aload_n 0, 1) := by decide +kernel
theorem dX2_passSecond_70 : decode cX2_passSecond 70 = .ok (.iconst 0, 1) := by decide +kernel
theorem dX2_passSecond_71 : decode cX2_passSecond 71 = .ok (.aload_n 0, 1) := by decide +kernel
theorem dX2_passSecond_72 : decode cX2_passSecond 72 = .ok (.getfield 25, 3) := by decide +kernel
theorem dX2_passSecond_75 : decode cX2_passSecond 75 = .ok (.iconst 4, 1) := by decide +kernel
theorem dX2_passSecond_76 : decode cX2_passSecond 76 = .ok (.iload_n 2, 1) := by decide +kernel
theorem dX2_passSecond_77 : decode cX2_passSecond 77 = .ok (.aload_n 0, 1) := by decide +kernel
theorem dX2_passSecond_78 : decode cX2_passSecond 78 = .ok (.getfield 22, 3) := by decide +kernel
theorem dX2_passSecond_81 : decode cX2_passSecond 81 = .ok (.isub, 1) := by decide +kernel
theorem dX2_passSecond_82 : decode cX2_passSecond 82 = .ok (.imul, 1) := by decide +kernel
theorem dX2_passSecond_83 : decode cX2_passSecond 83 = .ok (.iadd, 1) := by decide +kernel
theorem dX2_passSecond_84 : decode cX2_passSecond 84 = .ok (.invokestatic 47, 3) := by decide +kernel
theorem dX2_passSecond_87 : decode cX2_passSecond 87 = .ok (.putfield 25, 3) := by decide +kernel
theorem dX2_passSecond_90 : decode cX2_passSecond 90 = .ok (.aload_n 0, 1) := by decide +kernel
theorem dX2_passSecond_91 : decode cX2_passSecond 91 = .ok (.getfield 25, 3) := by decide +kernel
theorem dX2_passSecond_94 : decode cX2_passSecond 94 = .ok (.aload_n 0, 1) := by decide +kernel
theorem dX2_passSecond_95 : decode cX2_passSecond 95 = .ok (.getfield 19, 3) := by decide +kernel
theorem dX2_passSecond_98 : decode cX2_passSecond 98 = .ok (.if_icmp .le 8, 3) := by decide +kernel
theorem dX2_passSecond_106 : decode cX2_passSecond 106 = .ok (.return_, 1) := by decide +kernel
theorem dX3_init_0 : decode cX3_init 0 = .ok (.aload_n 0, 1) := by decide +kernel
theorem dX3_init_1 : decode cX3_init 1 = .ok (.invokespecial 3, 3) := by decide +kernel
theorem dX3_init_4 : decode cX3_init 4 = .ok (.aload_n 0, 1) := by decide +kernel
theorem dX3_init_5 : decode cX3_init 5 = .ok (.bipush 8, 2) := by decide +kernel
theorem dX3_init_7 : decode cX3_init 7 = .ok (.newarray .char, 2) := by decide +kernel
theorem dX3_init_9 : decode cX3_init 9 = .ok (.putfield 11, 3) := by decide +kernel
theorem dX3_init_12 : decode cX3_init 12 = .ok (.aload_n 0, 1) := by decide +kernel
theorem dX3_init_13 : decode cX3_init 13 = .ok (.bipush 8, 2) := by decide +kernel
theorem dX3_init_15 : decode cX3_init 15 = .ok (.newarray .int, 2) := by decide +kernel
theorem dX3_init_17 : decode cX3_init 17 = .ok (.putfield 15, 3) := by decide +kernel
theorem dX3_init_20 : decode cX3_init 20 = .ok (.aload_n 0, 1) := by decide +kernel
theorem dX3_init_21 : decode cX3_init 21 = .ok (.bipush 8, 2) := by decide +kernel
theorem dX3_init_23 : decode cX3_init 23 = .ok (.newarray .int, 2) := by decide +kernel
theorem dX3_init_25 : decode cX3_init 25 = .ok (.putfield 19, 3) := by decide +kernel
theorem dX3_init_28 : decode cX3_init 28 = .ok (.aload_n 0, 1) := by decide +kernel
theorem dX3_init_29 : decode cX3_init 29 = .ok (.iconst 0, 1) := by decide +kernel
theorem dX3_init_30 : decode cX3_init 30 = .ok (.putfield 22, 3) := by decide +kernel
theorem dX3_init_33 : decode cX3_init 33 = .ok (.aload_n 0, 1) := by decide +kernel
theorem dX3_init_34 : decode cX3_init 34 = .ok (.iconst 0, 1) := by decide +kernel
theorem dX3_init_35 : decode cX3_init 35 = .ok (.putfield 26, 3) := by decide +kernel
theorem dX3_init_38 : decode cX3_init 38 = .ok (.aload_n 0, 1) := by decide +kernel
theorem dX3_init_39 : decode cX3_init 39 = .ok (.new 30, 3) := by decide +kernel
theorem dX3_init_42 : decode cX3_init 42 = .ok (.dup, 1) := by decide +kernel
theorem dX3_init_43 : decode cX3_init 43 = .ok (.invokespecial 32, 3) := by decide +kernel
theorem dX3_init_46 : decode cX3_init 46 = .ok (.putfield 33, 3) := by decide +kernel
theorem dX3_init_49 : decode cX3_init 49 = .ok (.aload_n 0, 1) := by decide +kernel
theorem dX3_init_50 : decode cX3_init 50 = .ok (.new 30, 3) := by decide +kernel
theorem dX3_init_53 : decode cX3_init 53 = .ok (.dup, 1) := by decide +kernel
theorem dX3_init_54 : decode cX3_init 54 = .ok (.invokespecial 32, 3) := by decide +kernel
theorem dX3_init_57 : decode cX3_init 57 = .ok (.putfield 37, 3) := by decide +kernel
theorem dX3_init_60 : decode cX3_init 60 = .ok (.aload_n 0, 1) := by decide +kernel
theorem dX3_init_61 : decode cX3_init 61 = .ok (.iconst 0, 1) := by decide +kernel
theorem dX3_init_62 : decode cX3_init 62 = .ok (.putfield 40, 3) := by decide +kernel
theorem dX3_init_65 : decode cX3_init 65 = .ok (.aload_n 0, 1) := by decide +kernel
theorem dX3_init_66 : decode cX3_init 66 = .ok (.iconst 0, 1) := by decide +kernel
theorem dX3_init_67 : decode cX3_init 67 = .ok (.putfield 43, 3) := by decide +kernel
theorem dX3_init_70 : decode cX3_init 70 = .ok (.return_, 1) := by decide +kernel
theorem dX3_isPart_0 : decode cX3_isPart 0 = .ok (.iload_n 0, 1) := by decide +kernel
theorem dX3_isPart_1 : decode cX3_isPart 1 = .ok (.bipush 104, 2) := by decide +kernel
theorem dX3_isPart_3 : decode cX3_isPart 3 = .ok (.if_icmp .ne 20, 3) := by decide +kernel
theorem dX3_isPart_6 : decode cX3_isPart 6 = .ok (.iload_n 1, 1) := by decide +kernel
theorem dX3_isPart_7 : decode cX3_isPart 7 = .ok (.iconst 1, 1) := by decide +kernel
theorem dX3_isPart_8 : decode cX3_isPart 8 = .ok (.sipush 9999, 3) := by decide +kernel
theorem dX3_isPart_11 : decode cX3_isPart 11 = .ok (.invokestatic 46, 3) := by decide +kernel
theorem dX3_isPart_14 : decode cX3_isPart 14 = .ok (.ifCond .ne 7, 3) := by decide +kernel
theorem dX3_isPart_17 : decode cX3_isPart 17 = .ok (.iconst 1, 1) := by decide +kernel
theorem dX3_isPart_18 : decode cX3_isPart 18 = .ok (.goto 4, 3) := by decide +kernel
theorem dX3_isPart_21 : decode cX3_isPart 21 = .ok (.iconst 0, 1) := by decide +kernel
theorem dX3_isPart_22 : decode cX3_isPart 22 = .ok (.ireturn, 1) := by decide +kernel
theorem dX3_isPart_23 : decode cX3_isPart 23 = .ok (.iload_n 0, 1) := by decide +kernel
theorem dX3_isPart_24 : decode cX3_isPart 24 = .ok (.bipush 116, 2) := by decide +kernel
theorem dX3_isPart_26 : decode cX3_isPart 26 = .ok (.if_icmp .ne 30, 3) := by decide +kernel
theorem dX3_isPart_29 : decode cX3_isPart 29 = .ok (.iload_n 1, 1) := by decide +kernel
theorem dX3_isPart_30 : decode cX3_isPart 30 = .ok (.iconst 1, 1) := by decide +kernel
theorem dX3_isPart_31 : decode cX3_isPart 31 = .ok (.sipush 1000, 3) := by decide +kernel
theorem dX3_isPart_34 : decode cX3_isPart 34 = .ok (.invokestatic 46, 3) := by decide +kernel
theorem dX3_isPart_37 : decode cX3_isPart 37 = .ok (.ifCond .ne 17, 3) := by decide +kernel
theorem dX3_isPart_40 : decode cX3_isPart 40 = .ok (.iload_n 2, 1) := by decide +kernel
theorem dX3_isPart_41 : decode cX3_isPart 41 = .ok (.iconst 0, 1) := by decide +kernel
theorem dX3_isPart_42 : decode cX3_isPart 42 = .ok (.bipush 100, 2) := by decide +kernel
theorem dX3_isPart_44 : decode cX3_isPart 44 = .ok (.invokestatic 46, 3) := by decide +kernel
theorem dX3_isPart_47 : decode cX3_isPart 47 = .ok (.ifCond .ne 7, 3) := by decide +kernel
theorem dX3_isPart_50 : decode cX3_isPart 50 = .ok (.iconst 1, 1) := by decide +kernel
theorem dX3_isPart_51 : decode cX3_isPart 51 = .ok (.goto 4, 3) := by decide +kernel
theorem dX3_isPart_54 : decode cX3_isPart 54 = .ok (.iconst 0, 1) := by decide +kernel
theorem dX3_isPart_55 : decode cX3_isPart 55 = .ok (.ireturn, 1) := by decide +kernel
theorem dX3_isPart_56 : decode cX3_isPart 56 = .ok (.iload_n 0, 1) := by decide +kernel
theorem dX3_isPart_57 : decode cX3_isPart 57 = .ok (.bipush 99, 2) := by decide +kernel
theorem dX3_isPart_59 : decode cX3_isPart 59 = .ok (.if_icmp .eq 26, 3) := by decide +kernel
theorem dX3_isPart_62 : decode cX3_isPart 62 = .ok (.iload_n 0, 1) := by decide +kernel
theorem dX3_isPart_63 : decode cX3_isPart 63 = .ok (.bipush 112, 2) := by decide +kernel
theorem dX3_isPart_65 : decode cX3_isPart 65 = .ok (.if_icmp .eq 9, 3) := by decide +kernel
theorem dX3_isPart_68 : decode cX3_isPart 68 = .ok (.iload_n 0, 1) := by decide +kernel
theorem dX3_isPart_69 : decode cX3_isPart 69 = .ok (.bipush 118, 2) := by decide +kernel
theorem dX3_isPart_71 : decode cX3_isPart 71 = .ok (.if_icmp .ne 18, 3) := by decide +kernel
theorem dX3_isPart_74 : decode cX3_isPart 74 = .ok (.iload_n 1, 1) := by decide +kernel
theorem dX3_isPart_75 : decode cX3_isPart 75 = .ok (.iconst 1, 1) := by decide +kernel
theorem dX3_isPart_76 : decode cX3_isPart 76 = .ok (.sipush 1000, 3) := by decide +kernel
theorem dX3_isPart_79 : decode cX3_isPart 79 = .ok (.invokestatic 46, 3) := by decide +kernel
theorem dX3_isPart_82 : decode cX3_isPart 82 = .ok (.ifCond .ne 7, 3) := by decide +kernel
theorem dX3_isPart_85 : decode cX3_isPart 85 = .ok (.iconst 1, 1) := by decide +kernel
theorem dX3_isPart_86 : decode cX3_isPart 86 = .ok (.goto 4, 3) := by decide +kernel
theorem dX3_isPart_89 : decode cX3_isPart 89 = .ok (.iconst 0, 1) := by decide +kernel
theorem dX3_isPart_90 : decode cX3_isPart 90 = .ok (.ireturn, 1) := by decide +kernel
theorem dX3_isFull_0 : decode cX3_isFull 0 = .ok (.aload_n 0, 1) := by decide +kernel
theorem dX3_isFull_1 : decode cX3_isFull 1 = .ok (.getfield 22, 3) := by decide +kernel
theorem dX3_isFull_4 : decode cX3_isFull 4 = .ok (.bipush 8, 2) := by decide +kernel
theorem dX3_isFull_6 : decode cX3_isFull 6 = .ok (.if_icmp .lt 7, 3) := by decide +kernel
theorem dX3_isFull_13 : decode cX3_isFull 13 = .ok (.iconst 0, 1) := by decide +kernel
theorem dX3_isFull_14 : decode cX3_isFull 14 = .ok (.ireturn, 1) := by decide +kernel
theorem dX3_isEmpty_0 : decode cX3_isEmpty 0 = .ok (.aload_n 0, 1) := by decide +kernel
theorem dX3_isEmpty_1 : decode cX3_isEmpty 1 = .ok (.getfield 22, 3) := by decide +kernel
theorem dX3_isEmpty_4 : decode cX3_isEmpty 4 = .ok (.ifCond .ne 7, 3) := by decide +kernel
theorem dX3_isEmpty_7 : decode cX3_isEmpty 7 = .ok (.iconst 1, 1) := by decide +kernel
theorem dX3_isEmpty_8 : decode cX3_isEmpty 8 = .ok (.goto 4, 3) := by decide +kernel
theorem dX3_isEmpty_12 : decode cX3_isEmpty 12 = .ok (.ireturn, 1) := by decide +kernel
theorem dX3_append_0 : decode cX3_append 0 = .ok (.aload_n 0, 1) := by decide +kernel
theorem dX3_append_1 : decode cX3_append 1 = .ok (.invokevirtual 50, 3) := by decide +kernel
theorem dX3_append_4 : decode cX3_append 4 = .ok (.ifCond .ne 53, 3) := by decide +kernel
theorem dX3_append_7 : decode cX3_append 7 = .ok (.aload_n 0, 1) := by decide +kernel
theorem dX3_append_8 : decode cX3_append 8 = .ok (.getfield 11, 3) := by decide +kernel
theorem dX3_append_11 : decode cX3_append 11 = .ok (.aload_n 0, 1) := by decide +kernel
theorem dX3_append_12 : decode cX3_append 12 = .ok (.getfield 22, 3) := by decide +kernel
theorem dX3_append_15 : decode cX3_append 15 = .ok (.iload_n 1, 1) := by decide +kernel
theorem dX3_append_16 : decode cX3_append 16 = .ok (.castore, 1) := by decide +kernel
theorem dX3_append_17 : decode cX3_append 17 = .ok (.aload_n 0, 1) := by decide +kernel
theorem dX3_append_18 : decode cX3_append 18 = .ok (.getfield 15, 3) := by decide +kernel
theorem dX3_append_21 : decode cX3_append 21 = .ok (.aload_n 0, 1) := by decide +kernel
theorem dX3_append_22 : decode cX3_append 22 = .ok (.getfield 22, 3) := by decide +kernel
theorem dX3_append_25 : decode cX3_append 25 = .ok (.iload_n 2, 1) := by decide +kernel
theorem dX3_append_26 : decode cX3_append 26 = .ok (.iastore, 1) := by decide +kernel
theorem dX3_append_27 : decode cX3_append 27 = .ok (.aload_n 0, 1) := by decide +kernel
theorem dX3_append_28 : decode cX3_append 28 = .ok (.getfield 19, 3) := by decide +kernel
theorem dX3_append_31 : decode cX3_append 31 = .ok (.aload_n 0, 1) := by decide +kernel
theorem dX3_append_32 : decode cX3_append 32 = .ok (.getfield 22, 3) := by decide +kernel
theorem dX3_append_35 : decode cX3_append 35 = .ok (.iload_n 1, 1) := by decide +kernel
theorem dX3_append_36 : decode cX3_append 36 = .ok (.bipush 116, 2) := by decide +kernel
theorem dX3_append_38 : decode cX3_append 38 = .ok (.if_icmp .ne 7, 3) := by decide +kernel
theorem dX3_append_41 : decode cX3_append 41 = .ok (.iload_n 3, 1) := by decide +kernel
theorem dX3_append_42 : decode cX3_append 42 = .ok (.goto 4, 3) := by decide +kernel
theorem dX3_append_45 : decode cX3_append 45 = .ok (.iconst 0, 1) := by decide +kernel
theorem dX3_append_46 : decode cX3_append 46 = .ok (.iastore, 1) := by decide +kernel
theorem dX3_append_47 : decode cX3_append 47 = .ok (.aload_n 0, 1) := by decide +kernel
theorem dX3_append_48 : decode cX3_append 48 = .ok (.dup, 1) := by decide +kernel
theorem dX3_append_49 : decode cX3_append 49 = .ok (.getfield 22, 3) := by decide +kernel
theorem dX3_append_52 : decode cX3_append 52 = .ok (.iconst 1, 1) := by decide +kernel
theorem dX3_append_53 : decode cX3_append 53 = .ok (.iadd, 1) := by decide +kernel
theorem dX3_append_54 : decode cX3_append 54 = .ok (.putfield 22, 3) := by decide +kernel
theorem dX3_append_57 : decode cX3_append 57 = .ok (.aload_n 0, 1) := by decide +kernel
theorem dX3_append_58 : decode cX3_append 58 = .ok (.getfield 22, 3) := by decide +kernel
theorem dX3_append_61 : decode cX3_append 61 = .ok (.ireturn, 1) := by decide +kernel
theorem dX3_removeAll_0 : decode cX3_removeAll 0 = .ok (.aload_n 0, 1) := by decide +kernel
theorem dX3_removeAll_1 : decode cX3_removeAll 1 = .ok (.getfield 22, 3) := by decide +kernel
theorem dX3_removeAll_4 : decode cX3_removeAll 4 = .ok (.istore_n 1, 1) := by decide +kernel
theorem dX3_removeAll_5 : decode cX3_removeAll 5 = .ok (.aload_n 0, 1) := by decide +kernel
theorem dX3_removeAll_6 : decode cX3_removeAll 6 = .ok (.iconst 0, 1) := by decide +kernel
theorem dX3_removeAll_7 : decode cX3_removeAll 7 = .ok (.putfield 22, 3) := by decide +kernel
theorem dX3_removeAll_10 : decode cX3_removeAll 10 = .ok (.aload_n 0, 1) := by decide +kernel
theorem dX3_removeAll_11 : decode cX3_removeAll 11 = .ok (.iconst 0, 1) := by decide +kernel
theorem dX3_removeAll_12 : decode cX3_removeAll 12 = .ok (.putfield 26, 3) := by decide +kernel
theorem dX3_removeAll_15 : decode cX3_removeAll 15 = .ok (.iload_n 1, 1) := by decide +kernel
theorem dX3_removeAll_16 : decode cX3_removeAll 16 = .ok (.ireturn, 1) := by decide +kernel
theorem dX4_init_0 : decode cX4_init 0 = .ok (.aload_n 0, 1) := by decide +kernel
theorem dX4_init_1 : decode cX4_init 1 = .ok (.invokespecial 1, 3) := by decide +kernel
theorem dX4_init_4 : decode cX4_init 4 = .ok (.aload_n 0, 1) := by decide +kernel
theorem dX4_init_5 : decode cX4_init 5 = .ok (.bipush 8, 2) := by decide +kernel
theorem dX4_init_7 : decode cX4_init 7 = .ok (.newarray .int, 2) := by decide +kernel
theorem dX4_init_9 : decode cX4_init 9 = .ok (.putfield 9, 3) := by decide +kernel
theorem dX4_init_12 : decode cX4_init 12 = .ok (.aload_n 0, 1) := by decide +kernel
theorem dX4_init_13 : decode cX4_init 13 = .ok (.bipush 8, 2) := by decide +kernel
theorem dX4_init_15 : decode cX4_init 15 = .ok (.newarray .int, 2) := by decide +kernel
theorem dX4_init_17 : decode cX4_init 17 = .ok (.putfield 15, 3) := by decide +kernel
theorem dX4_init_20 : decode cX4_init 20 = .ok (.aload_n 0, 1) := by decide +kernel
theorem dX4_init_21 : decode cX4_init 21 = .ok (.bipush 8, 2) := by decide +kernel
theorem dX4_init_23 : decode cX4_init 23 = .ok (.newarray .int, 2) := by decide +kernel
theorem dX4_init_25 : decode cX4_init 25 = .ok (.putfield 18, 3) := by decide +kernel
theorem dX4_init_28 : decode cX4_init 28 = .ok (.aload_n 0, 1) := by decide +kernel
theorem dX4_init_29 : decode cX4_init 29 = .ok (.bipush 8, 2) := by decide +kernel
theorem dX4_init_31 : decode cX4_init 31 = .ok (.newarray .int, 2) := by decide +kernel
theorem dX4_init_33 : decode cX4_init 33 = .ok (.putfield 21, 3) := by decide +kernel
theorem dX4_init_36 : decode cX4_init 36 = .ok (.aload_n 0, 1) := by decide +kernel
theorem dX4_init_37 : decode cX4_init 37 = .ok (.bipush 8, 2) := by decide +kernel
theorem dX4_init_39 : decode cX4_init 39 = .ok (.newarray .int, 2) := by decide +kernel
theorem dX4_init_41 : decode cX4_init 41 = .ok (.putfield 24, 3) := by decide +kernel
theorem dX4_init_44 : decode cX4_init 44 = .ok (.aload_n 0, 1) := by decide +kernel
theorem dX4_init_45 : decode cX4_init 45 = .ok (.iconst 0, 1) := by decide +kernel
theorem dX4_init_46 : decode cX4_init 46 = .ok (.putfield 27, 3) := by decide +kernel
theorem dX4_init_49 : decode cX4_init 49 = .ok (.return_, 1) := by decide +kernel
theorem dX5_init_0 : decode cX5_init 0 = .ok (.aload_n 0, 1) := by decide +kernel
theorem dX5_init_1 : decode cX5_init 1 = .ok (.invokespecial 3, 3) := by decide +kernel
theorem dX5_init_4 : decode cX5_init 4 = .ok (.aload_n 0, 1) := by decide +kernel
theorem dX5_init_5 : decode cX5_init 5 = .ok (.bipush 10, 2) := by decide +kernel
theorem dX5_init_7 : decode cX5_init 7 = .ok (.newarray .int, 2) := by decide +kernel
theorem dX5_init_9 : decode cX5_init 9 = .ok (.putfield 11, 3) := by decide +kernel
theorem dX5_init_12 : decode cX5_init 12 = .ok (.aload_n 0, 1) := by decide +kernel
theorem dX5_init_13 : decode cX5_init 13 = .ok (.bipush 10, 2) := by decide +kernel
theorem dX5_init_15 : decode cX5_init 15 = .ok (.newarray .int, 2) := by decide +kernel
theorem dX5_init_17 : decode cX5_init 17 = .ok (.putfield 15, 3) := by decide +kernel
theorem dX5_init_20 : decode cX5_init 20 = .ok (.aload_n 0, 1) := by decide +kernel
theorem dX5_init_21 : decode cX5_init 21 = .ok (.bipush 10, 2) := by decide +kernel
theorem dX5_init_23 : decode cX5_init 23 = .ok (.newarray .int, 2) := by decide +kernel
theorem dX5_init_25 : decode cX5_init 25 = .ok (.putfield 18, 3) := by decide +kernel
theorem dX5_init_28 : decode cX5_init 28 = .ok (.aload_n 0, 1) := by decide +kernel
theorem dX5_init_29 : decode cX5_init 29 = .ok (.iconst 0, 1) := by decide +kernel
theorem dX5_init_30 : decode cX5_init 30 = .ok (.putfield 21, 3) := by decide +kernel
theorem dX5_init_33 : decode cX5_init 33 = .ok (.return_, 1) := by decide +kernel
theorem dX5_isFull_0 : decode cX5_isFull 0 = .ok (.aload_n 0, 1) := by decide +kernel
theorem dX5_isFull_1 : decode cX5_isFull 1 = .ok (.getfield 21, 3) := by decide +kernel
theorem dX5_isFull_4 : decode cX5_isFull 4 = .ok (.bipush 10, 2) := by decide +kernel
theorem dX5_isFull_6 : decode cX5_isFull 6 = .ok (.if_icmp .lt 7, 3) := by decide +kernel
theorem dX5_isFull_13 : decode cX5_isFull 13 = .ok (.iconst 0, 1) := by decide +kernel
theorem dX5_isFull_14 : decode cX5_isFull 14 = .ok (.ireturn, 1) := by decide +kernel
theorem dX5_append_0 : decode cX5_append 0 = .ok (.aload_n 0, 1) := by decide +kernel
theorem dX5_append_1 : decode cX5_append 1 = .ok (.invokevirtual 25, 3) := by decide +kernel
theorem dX5_append_4 : decode cX5_append 4 = .ok (.ifCond .ne 43, 3) := by decide +kernel
theorem dX5_append_7 : decode cX5_append 7 = .ok (.aload_n 0, 1) := by decide +kernel
theorem dX5_append_8 : decode cX5_append 8 = .ok (.getfield 11, 3) := by decide +kernel
theorem dX5_append_11 : decode cX5_append 11 = .ok (.aload_n 0, 1) := by decide +kernel
theorem dX5_append_12 : decode cX5_append 12 = .ok (.getfield 21, 3) := by decide +kernel
theorem dX5_append_15 : decode cX5_append 15 = .ok (.iload_n 1, 1) := by decide +kernel
theorem dX5_append_16 : decode cX5_append 16 = .ok (.iastore, 1) := by decide +kernel
theorem dX5_append_17 : decode cX5_append 17 = .ok (.aload_n 0, 1) := by decide +kernel
theorem dX5_append_18 : decode cX5_append 18 = .ok (.getfield 15, 3) := by decide +kernel
theorem dX5_append_21 : decode cX5_append 21 = .ok (.aload_n 0, 1) := by decide +kernel
theorem dX5_append_22 : decode cX5_append 22 = .ok (.getfield 21, 3) := by decide +kernel
theorem dX5_append_25 : decode cX5_append 25 = .ok (.iload_n 2, 1) := by decide +kernel
theorem dX5_append_26 : decode cX5_append 26 = .ok (.iastore, 1) := by decide +kernel
theorem dX5_append_27 : decode cX5_append 27 = .ok (.aload_n 0, 1) := by decide +kernel
theorem dX5_append_28 : decode cX5_append 28 = .ok (.getfield 18, 3) := by decide +kernel
theorem dX5_append_31 : decode cX5_append 31 = .ok (.aload_n 0, 1) := by decide +kernel
theorem dX5_append_32 : decode cX5_append 32 = .ok (.getfield 21, 3) := by decide +kernel
theorem dX5_append_35 : decode cX5_append 35 = .ok (.iload_n 3, 1) := by decide +kernel
theorem dX5_append_36 : decode cX5_append 36 = .ok (.iastore, 1) := by decide +kernel
theorem dX5_append_37 : decode cX5_append 37 = .ok (.aload_n 0, 1) := by decide +kernel
theorem dX5_append_38 : decode cX5_append 38 = .ok (.dup, 1) := by decide +kernel
theorem dX5_append_39 : decode cX5_append 39 = .ok (.getfield 21, 3) := by decide +kernel
theorem dX5_append_42 : decode cX5_append 42 = .ok (.iconst 1, 1) := by decide +kernel
theorem dX5_append_43 : decode cX5_append 43 = .ok (.iadd, 1) := by decide +kernel
theorem dX5_append_44 : decode cX5_append 44 = .ok (.putfield 21, 3) := by decide +kernel
theorem dX5_append_47 : decode cX5_append 47 = .ok (.aload_n 0, 1) := by decide +kernel
theorem dX5_append_48 : decode cX5_append 48 = .ok (.getfield 21, 3) := by decide +kernel
theorem dX5_append_51 : decode cX5_append 51 = .ok (.ireturn, 1) := by decide +kernel
theorem dX5_removeAll_0 : decode cX5_removeAll 0 = .ok (.aload_n 0, 1) := by decide +kernel
theorem dX5_removeAll_1 : decode cX5_removeAll 1 = .ok (.getfield 21, 3) := by decide +kernel
theorem dX5_removeAll_4 : decode cX5_removeAll 4 = .ok (.istore_n 1, 1) := by decide +kernel
theorem dX5_removeAll_5 : decode cX5_removeAll 5 = .ok (.aload_n 0, 1) := by decide +kernel
theorem dX5_removeAll_6 : decode cX5_removeAll 6 = .ok (.iconst 0, 1) := by decide +kernel
theorem dX5_removeAll_7 : decode cX5_removeAll 7 = .ok (.putfield 21, 3) := by decide +kernel
theorem dX5_removeAll_10 : decode cX5_removeAll 10 = .ok (.iload_n 1, 1) := by decide +kernel
theorem dX5_removeAll_11 : decode cX5_removeAll 11 = .ok (.ireturn, 1) := by decide +kernel
theorem dX5_leastHeat_0 : decode cX5_leastHeat 0 = .ok (.aload_n 0, 1) := by decide +kernel
theorem dX5_leastHeat_1 : decode cX5_leastHeat 1 = .ok (.aload_n 0, 1) := by decide +kernel
theorem dX5_leastHeat_2 : decode cX5_leastHeat 2 = .ok (.iload_n 1, 1) := by decide +kernel
theorem dX5_leastHeat_3 : decode cX5_leastHeat 3 = .ok (.invokevirtual 29, 3) := by decide +kernel
theorem dX5_leastHeat_6 : decode cX5_leastHeat 6 = .ok (.iload_n 1, 1) := by decide +kernel
theorem dX5_leastHeat_7 : decode cX5_leastHeat 7 = .ok (.invokevirtual 33, 3) := by decide +kernel
theorem dX5_leastHeat_10 : decode cX5_leastHeat 10 = .ok (.ineg, 1) := by decide +kernel
theorem dX5_leastHeat_11 : decode cX5_leastHeat 11 = .ok (.ireturn, 1) := by decide +kernel
theorem dX5_leastCold_0 : decode cX5_leastCold 0 = .ok (.aload_n 0, 1) := by decide +kernel
theorem dX5_leastCold_1 : decode cX5_leastCold 1 = .ok (.iload_n 1, 1) := by decide +kernel
theorem dX5_leastCold_2 : decode cX5_leastCold 2 = .ok (.ineg, 1) := by decide +kernel
theorem dX5_leastCold_3 : decode cX5_leastCold 3 = .ok (.iload_n 1, 1) := by decide +kernel
theorem dX5_leastCold_4 : decode cX5_leastCold 4 = .ok (.invokevirtual 33, 3) := by decide +kernel
theorem dX5_leastCold_7 : decode cX5_leastCold 7 = .ok (.aload_n 0, 1) := by decide +kernel
theorem dX5_leastCold_8 : decode cX5_leastCold 8 = .ok (.iload_n 1, 1) := by decide +kernel
theorem dX5_leastCold_9 : decode cX5_leastCold 9 = .ok (.invokevirtual 37, 3) := by decide +kernel
theorem dX5_leastCold_12 : decode cX5_leastCold 12 = .ok (.iadd, 1) := by decide +kernel
theorem dX5_leastCold_13 : decode cX5_leastCold 13 = .ok (.ireturn, 1) := by decide +kernel
theorem dX5_narrowest_0 : decode cX5_narrowest 0 = .ok (.sipush 1000, 3) := by decide +kernel
theorem dX5_narrowest_3 : decode cX5_narrowest 3 = .ok (.istore_n 2, 1) := by decide +kernel
theorem dX5_narrowest_4 : decode cX5_narrowest 4 = .ok (.iconst 0, 1) := by decide +kernel
theorem dX5_narrowest_5 : decode cX5_narrowest 5 = .ok (.istore_n 3, 1) := by decide +kernel
theorem dX5_narrowest_6 : decode cX5_narrowest 6 = .ok (.iconst 0, 1) := by decide +kernel
theorem dX5_narrowest_7 : decode cX5_narrowest 7 = .ok (.istore 4, 2) := by decide +kernel
theorem dX5_narrowest_9 : decode cX5_narrowest 9 = .ok (.iload 4, 2) := by decide +kernel
theorem dX5_narrowest_11 : decode cX5_narrowest 11 = .ok (.bipush 20, 2) := by decide +kernel
theorem dX5_narrowest_13 : decode cX5_narrowest 13 = .ok (.if_icmp .ge 91, 3) := by decide +kernel
theorem dX5_narrowest_16 : decode cX5_narrowest 16 = .ok (.iload 4, 2) := by decide +kernel
theorem dX5_narrowest_18 : decode cX5_narrowest 18 = .ok (.iconst 2, 1) := by decide +kernel
theorem dX5_narrowest_19 : decode cX5_narrowest 19 = .ok (.idiv, 1) := by decide +kernel
theorem dX5_narrowest_20 : decode cX5_narrowest 20 = .ok (.istore 5, 2) := by decide +kernel
theorem dX5_narrowest_22 : decode cX5_narrowest 22 = .ok (.iload 5, 2) := by decide +kernel
theorem dX5_narrowest_24 : decode cX5_narrowest 24 = .ok (.aload_n 0, 1) := by decide +kernel
theorem dX5_narrowest_25 : decode cX5_narrowest 25 = .ok (.getfield 21, 3) := by decide +kernel
theorem dX5_narrowest_28 : decode cX5_narrowest 28 = .ok (.if_icmp .ge 70, 3) := by decide +kernel
theorem dX5_narrowest_98 : decode cX5_narrowest 98 = .ok (.iinc 4 1, 3) := by decide +kernel
theorem dX5_narrowest_101 : decode cX5_narrowest 101 = .ok (.goto (-92), 3) := by decide +kernel
theorem dX5_narrowest_104 : decode cX5_narrowest 104 = .ok (.iload_n 2, 1) := by decide +kernel
theorem dX5_narrowest_105 : decode cX5_narrowest 105 = .ok (.ireturn, 1) := by decide +kernel
theorem dX5_sumAt_0 : decode cX5_sumAt 0 = .ok (.iconst 0, 1) := by decide +kernel
theorem dX5_sumAt_1 : decode cX5_sumAt 1 = .ok (.istore_n 3, 1) := by decide +kernel
theorem dX5_sumAt_2 : decode cX5_sumAt 2 = .ok (.iconst 0, 1) := by decide +kernel
theorem dX5_sumAt_3 : decode cX5_sumAt 3 = .ok (.istore 4, 2) := by decide +kernel
theorem dX5_sumAt_5 : decode cX5_sumAt 5 = .ok (.iload 4, 2) := by decide +kernel
theorem dX5_sumAt_7 : decode cX5_sumAt 7 = .ok (.aload_n 0, 1) := by decide +kernel
theorem dX5_sumAt_8 : decode cX5_sumAt 8 = .ok (.getfield 21, 3) := by decide +kernel
theorem dX5_sumAt_11 : decode cX5_sumAt 11 = .ok (.if_icmp .ge 112, 3) := by decide +kernel
theorem dX5_sumAt_123 : decode cX5_sumAt 123 = .ok (.iload_n 3, 1) := by decide +kernel
theorem dX5_sumAt_124 : decode cX5_sumAt 124 = .ok (.ireturn, 1) := by decide +kernel
theorem dX6_init_0 : decode cX6_init 0 = .ok (.aload_n 0, 1) := by decide +kernel
theorem dX6_init_1 : decode cX6_init 1 = .ok (.invokespecial 1, 3) := by decide +kernel
theorem dX6_init_4 : decode cX6_init 4 = .ok (.aload_n 0, 1) := by decide +kernel
theorem dX6_init_5 : decode cX6_init 5 = .ok (.lconst 0, 1) := by decide +kernel
theorem dX6_init_6 : decode cX6_init 6 = .ok (.putfield 7, 3) := by decide +kernel
theorem dX6_init_9 : decode cX6_init 9 = .ok (.aload_n 0, 1) := by decide +kernel
theorem dX6_init_10 : decode cX6_init 10 = .ok (.iconst 0, 1) := by decide +kernel
theorem dX6_init_11 : decode cX6_init 11 = .ok (.putfield 13, 3) := by decide +kernel
theorem dX6_init_14 : decode cX6_init 14 = .ok (.aload_n 0, 1) := by decide +kernel
theorem dX6_init_15 : decode cX6_init 15 = .ok (.iconst 0, 1) := by decide +kernel
theorem dX6_init_16 : decode cX6_init 16 = .ok (.putfield 17, 3) := by decide +kernel
theorem dX6_init_19 : decode cX6_init 19 = .ok (.aload_n 0, 1) := by decide +kernel
theorem dX6_init_20 : decode cX6_init 20 = .ok (.iconst 0, 1) := by decide +kernel
theorem dX6_init_21 : decode cX6_init 21 = .ok (.putfield 20, 3) := by decide +kernel
theorem dX6_init_24 : decode cX6_init 24 = .ok (.aload_n 0, 1) := by decide +kernel
theorem dX6_init_25 : decode cX6_init 25 = .ok (.lconst 0, 1) := by decide +kernel
theorem dX6_init_26 : decode cX6_init 26 = .ok (.putfield 23, 3) := by decide +kernel
theorem dX6_init_29 : decode cX6_init 29 = .ok (.return_, 1) := by decide +kernel
theorem dX7_init_0 : decode cX7_init 0 = .ok (.aload_n 0, 1) := by decide +kernel
theorem dX7_init_1 : decode cX7_init 1 = .ok (.invokespecial 1, 3) := by decide +kernel
theorem dX7_init_4 : decode cX7_init 4 = .ok (.aload_n 0, 1) := by decide +kernel
theorem dX7_init_5 : decode cX7_init 5 = .ok (.bipush 8, 2) := by decide +kernel
theorem dX7_init_7 : decode cX7_init 7 = .ok (.newarray .int, 2) := by decide +kernel
theorem dX7_init_9 : decode cX7_init 9 = .ok (.putfield 9, 3) := by decide +kernel
theorem dX7_init_12 : decode cX7_init 12 = .ok (.aload_n 0, 1) := by decide +kernel
theorem dX7_init_13 : decode cX7_init 13 = .ok (.bipush 8, 2) := by decide +kernel
theorem dX7_init_15 : decode cX7_init 15 = .ok (.newarray .int, 2) := by decide +kernel
theorem dX7_init_17 : decode cX7_init 17 = .ok (.putfield 13, 3) := by decide +kernel
theorem dX7_init_20 : decode cX7_init 20 = .ok (.aload_n 0, 1) := by decide +kernel
theorem dX7_init_21 : decode cX7_init 21 = .ok (.bipush 8, 2) := by decide +kernel
theorem dX7_init_23 : decode cX7_init 23 = .ok (.newarray .int, 2) := by decide +kernel
theorem dX7_init_25 : decode cX7_init 25 = .ok (.putfield 16, 3) := by decide +kernel
theorem dX7_init_28 : decode cX7_init 28 = .ok (.aload_n 0, 1) := by decide +kernel
theorem dX7_init_29 : decode cX7_init 29 = .ok (.bipush 8, 2) := by decide +kernel
theorem dX7_init_31 : decode cX7_init 31 = .ok (.newarray .int, 2) := by decide +kernel
theorem dX7_init_33 : decode cX7_init 33 = .ok (.putfield 19, 3) := by decide +kernel
theorem dX7_init_36 : decode cX7_init 36 = .ok (.aload_n 0, 1) := by decide +kernel
theorem dX7_init_37 : decode cX7_init 37 = .ok (.iconst 0, 1) := by decide +kernel
theorem dX7_init_38 : decode cX7_init 38 = .ok (.putfield 22, 3) := by decide +kernel
theorem dX7_init_41 : decode cX7_init 41 = .ok (.return_, 1) := by decide +kernel
theorem dX7_isFull_0 : decode cX7_isFull 0 = .ok (.aload_n 0, 1) := by decide +kernel
theorem dX7_isFull_1 : decode cX7_isFull 1 = .ok (.getfield 22, 3) := by decide +kernel
theorem dX7_isFull_4 : decode cX7_isFull 4 = .ok (.bipush 8, 2) := by decide +kernel
theorem dX7_isFull_6 : decode cX7_isFull 6 = .ok (.if_icmp .lt 7, 3) := by decide +kernel
theorem dX7_isFull_13 : decode cX7_isFull 13 = .ok (.iconst 0, 1) := by decide +kernel
theorem dX7_isFull_14 : decode cX7_isFull 14 = .ok (.ireturn, 1) := by decide +kernel
theorem dX7_isBelow_0 : decode cX7_isBelow 0 = .ok (.aload_n 0, 1) := by decide +kernel
theorem dX7_isBelow_1 : decode cX7_isBelow 1 = .ok (.getfield 22, 3) := by decide +kernel
theorem dX7_isBelow_4 : decode cX7_isBelow 4 = .ok (.iconst 1, 1) := by decide +kernel
theorem dX7_isBelow_5 : decode cX7_isBelow 5 = .ok (.isub, 1) := by decide +kernel
theorem dX7_isBelow_6 : decode cX7_isBelow 6 = .ok (.istore 4, 2) := by decide +kernel
theorem dX7_isBelow_8 : decode cX7_isBelow 8 = .ok (.iload 4, 2) := by decide +kernel
theorem dX7_isBelow_10 : decode cX7_isBelow 10 = .ok (.ifCond .lt 43, 3) := by decide +kernel
theorem dX7_isBelow_53 : decode cX7_isBelow 53 = .ok (.iconst 1, 1) := by decide +kernel
theorem dX7_isBelow_54 : decode cX7_isBelow 54 = .ok (.goto 4, 3) := by decide +kernel
theorem dX7_isBelow_58 : decode cX7_isBelow 58 = .ok (.ireturn, 1) := by decide +kernel
theorem dX7_append_0 : decode cX7_append 0 = .ok (.aload_n 0, 1) := by decide +kernel
theorem dX7_append_1 : decode cX7_append 1 = .ok (.invokevirtual 26, 3) := by decide +kernel
theorem dX7_append_4 : decode cX7_append 4 = .ok (.ifCond .ne 54, 3) := by decide +kernel
theorem dX7_append_7 : decode cX7_append 7 = .ok (.aload_n 0, 1) := by decide +kernel
theorem dX7_append_8 : decode cX7_append 8 = .ok (.getfield 9, 3) := by decide +kernel
theorem dX7_append_11 : decode cX7_append 11 = .ok (.aload_n 0, 1) := by decide +kernel
theorem dX7_append_12 : decode cX7_append 12 = .ok (.getfield 22, 3) := by decide +kernel
theorem dX7_append_15 : decode cX7_append 15 = .ok (.iload_n 1, 1) := by decide +kernel
theorem dX7_append_16 : decode cX7_append 16 = .ok (.iastore, 1) := by decide +kernel
theorem dX7_append_17 : decode cX7_append 17 = .ok (.aload_n 0, 1) := by decide +kernel
theorem dX7_append_18 : decode cX7_append 18 = .ok (.getfield 13, 3) := by decide +kernel
theorem dX7_append_21 : decode cX7_append 21 = .ok (.aload_n 0, 1) := by decide +kernel
theorem dX7_append_22 : decode cX7_append 22 = .ok (.getfield 22, 3) := by decide +kernel
theorem dX7_append_25 : decode cX7_append 25 = .ok (.iload_n 2, 1) := by decide +kernel
theorem dX7_append_26 : decode cX7_append 26 = .ok (.iastore, 1) := by decide +kernel
theorem dX7_append_27 : decode cX7_append 27 = .ok (.aload_n 0, 1) := by decide +kernel
theorem dX7_append_28 : decode cX7_append 28 = .ok (.getfield 16, 3) := by decide +kernel
theorem dX7_append_31 : decode cX7_append 31 = .ok (.aload_n 0, 1) := by decide +kernel
theorem dX7_append_32 : decode cX7_append 32 = .ok (.getfield 22, 3) := by decide +kernel
theorem dX7_append_35 : decode cX7_append 35 = .ok (.iload_n 3, 1) := by decide +kernel
theorem dX7_append_36 : decode cX7_append 36 = .ok (.iastore, 1) := by decide +kernel
theorem dX7_append_37 : decode cX7_append 37 = .ok (.aload_n 0, 1) := by decide +kernel
theorem dX7_append_38 : decode cX7_append 38 = .ok (.getfield 19, 3) := by decide +kernel
theorem dX7_append_41 : decode cX7_append 41 = .ok (.aload_n 0, 1) := by decide +kernel
theorem dX7_append_42 : decode cX7_append 42 = .ok (.getfield 22, 3) := by decide +kernel
theorem dX7_append_45 : decode cX7_append 45 = .ok (.iload 4, 2) := by decide +kernel
theorem dX7_append_47 : decode cX7_append 47 = .ok (.iastore, 1) := by decide +kernel
theorem dX7_append_48 : decode cX7_append 48 = .ok (.aload_n 0, 1) := by decide +kernel
theorem dX7_append_49 : decode cX7_append 49 = .ok (.dup, 1) := by decide +kernel
theorem dX7_append_50 : decode cX7_append 50 = .ok (.getfield 22, 3) := by decide +kernel
theorem dX7_append_53 : decode cX7_append 53 = .ok (.iconst 1, 1) := by decide +kernel
theorem dX7_append_54 : decode cX7_append 54 = .ok (.iadd, 1) := by decide +kernel
theorem dX7_append_55 : decode cX7_append 55 = .ok (.putfield 22, 3) := by decide +kernel
theorem dX7_append_58 : decode cX7_append 58 = .ok (.aload_n 0, 1) := by decide +kernel
theorem dX7_append_59 : decode cX7_append 59 = .ok (.getfield 22, 3) := by decide +kernel
theorem dX7_append_62 : decode cX7_append 62 = .ok (.ireturn, 1) := by decide +kernel
theorem dX7_reaches_0 : decode cX7_reaches 0 = .ok (.aload_n 0, 1) := by decide +kernel
theorem dX7_reaches_1 : decode cX7_reaches 1 = .ok (.getfield 22, 3) := by decide +kernel
theorem dX7_reaches_4 : decode cX7_reaches 4 = .ok (.ifCond .le 41, 3) := by decide +kernel
theorem dX7_reaches_45 : decode cX7_reaches 45 = .ok (.iconst 0, 1) := by decide +kernel
theorem dX7_reaches_46 : decode cX7_reaches 46 = .ok (.ireturn, 1) := by decide +kernel
theorem dX8_init_0 : decode cX8_init 0 = .ok (.aload_n 0, 1) := by decide +kernel
theorem dX8_init_1 : decode cX8_init 1 = .ok (.invokespecial 3, 3) := by decide +kernel
theorem dX8_init_4 : decode cX8_init 4 = .ok (.aload_n 0, 1) := by decide +kernel
theorem dX8_init_5 : decode cX8_init 5 = .ok (.lconst 0, 1) := by decide +kernel
theorem dX8_init_6 : decode cX8_init 6 = .ok (.putfield 9, 3) := by decide +kernel
theorem dX8_init_9 : decode cX8_init 9 = .ok (.aload_n 0, 1) := by decide +kernel
theorem dX8_init_10 : decode cX8_init 10 = .ok (.iconst 1, 1) := by decide +kernel
theorem dX8_init_11 : decode cX8_init 11 = .ok (.newarray .long, 2) := by decide +kernel
theorem dX8_init_13 : decode cX8_init 13 = .ok (.putfield 13, 3) := by decide +kernel
theorem dX8_init_16 : decode cX8_init 16 = .ok (.aload_n 0, 1) := by decide +kernel
theorem dX8_init_17 : decode cX8_init 17 = .ok (.iconst 0, 1) := by decide +kernel
theorem dX8_init_18 : decode cX8_init 18 = .ok (.putfield 17, 3) := by decide +kernel
theorem dX8_init_21 : decode cX8_init 21 = .ok (.return_, 1) := by decide +kernel
theorem dX8_digitAt_0 : decode cX8_digitAt 0 = .ok (.iload_n 1, 1) := by decide +kernel
theorem dX8_digitAt_1 : decode cX8_digitAt 1 = .ok (.ifCond .le 20, 3) := by decide +kernel
theorem dX8_digitAt_4 : decode cX8_digitAt 4 = .ok (.iload_n 1, 1) := by decide +kernel
theorem dX8_digitAt_5 : decode cX8_digitAt 5 = .ok (.aload_n 0, 1) := by decide +kernel
theorem dX8_digitAt_6 : decode cX8_digitAt 6 = .ok (.getfield 17, 3) := by decide +kernel
theorem dX8_digitAt_9 : decode cX8_digitAt 9 = .ok (.if_icmp .ge 12, 3) := by decide +kernel
theorem dX8_digitAt_12 : decode cX8_digitAt 12 = .ok (.iload_n 1, 1) := by decide +kernel
theorem dX8_digitAt_13 : decode cX8_digitAt 13 = .ok (.aload_n 0, 1) := by decide +kernel
theorem dX8_digitAt_14 : decode cX8_digitAt 14 = .ok (.getfield 13, 3) := by decide +kernel
theorem dX8_digitAt_17 : decode cX8_digitAt 17 = .ok (.arraylength, 1) := by decide +kernel
theorem dX8_digitAt_18 : decode cX8_digitAt 18 = .ok (.if_icmp .le 16, 3) := by decide +kernel
theorem dX8_digitAt_34 : decode cX8_digitAt 34 = .ok (.aload_n 0, 1) := by decide +kernel
theorem dX8_digitAt_35 : decode cX8_digitAt 35 = .ok (.getfield 13, 3) := by decide +kernel
theorem dX8_digitAt_38 : decode cX8_digitAt 38 = .ok (.iload_n 1, 1) := by decide +kernel
theorem dX8_digitAt_39 : decode cX8_digitAt 39 = .ok (.iconst 1, 1) := by decide +kernel
theorem dX8_digitAt_40 : decode cX8_digitAt 40 = .ok (.isub, 1) := by decide +kernel
theorem dX8_digitAt_41 : decode cX8_digitAt 41 = .ok (.laload, 1) := by decide +kernel
theorem dX8_digitAt_42 : decode cX8_digitAt 42 = .ok (.lreturn, 1) := by decide +kernel
theorem dX8_write_0 : decode cX8_write 0 = .ok (.iload_n 1, 1) := by decide +kernel
theorem dX8_write_1 : decode cX8_write 1 = .ok (.ifCond .ne 11, 3) := by decide +kernel
theorem dX8_write_12 : decode cX8_write 12 = .ok (.iload_n 1, 1) := by decide +kernel
theorem dX8_write_13 : decode cX8_write 13 = .ok (.ifCond .le 21, 3) := by decide +kernel
theorem dX8_write_16 : decode cX8_write 16 = .ok (.iload_n 1, 1) := by decide +kernel
theorem dX8_write_17 : decode cX8_write 17 = .ok (.aload_n 0, 1) := by decide +kernel
theorem dX8_write_18 : decode cX8_write 18 = .ok (.getfield 13, 3) := by decide +kernel
theorem dX8_write_21 : decode cX8_write 21 = .ok (.arraylength, 1) := by decide +kernel
theorem dX8_write_22 : decode cX8_write 22 = .ok (.if_icmp .gt 12, 3) := by decide +kernel
theorem dX8_write_25 : decode cX8_write 25 = .ok (.aload_n 0, 1) := by decide +kernel
theorem dX8_write_26 : decode cX8_write 26 = .ok (.getfield 13, 3) := by decide +kernel
theorem dX8_write_29 : decode cX8_write 29 = .ok (.iload_n 1, 1) := by decide +kernel
theorem dX8_write_30 : decode cX8_write 30 = .ok (.iconst 1, 1) := by decide +kernel
theorem dX8_write_31 : decode cX8_write 31 = .ok (.isub, 1) := by decide +kernel
theorem dX8_write_32 : decode cX8_write 32 = .ok (.lload_n 2, 1) := by decide +kernel
theorem dX8_write_33 : decode cX8_write 33 = .ok (.lastore, 1) := by decide +kernel
theorem dX8_write_34 : decode cX8_write 34 = .ok (.return_, 1) := by decide +kernel
theorem dX8_set_0 : decode cX8_set 0 = .ok (.aload_n 0, 1) := by decide +kernel
theorem dX8_set_1 : decode cX8_set 1 = .ok (.lload_n 1, 1) := by decide +kernel
theorem dX8_set_2 : decode cX8_set 2 = .ok (.ldc2_w 33, 3) := by decide +kernel
theorem dX8_set_5 : decode cX8_set 5 = .ok (.land, 1) := by decide +kernel
theorem dX8_set_6 : decode cX8_set 6 = .ok (.putfield 9, 3) := by decide +kernel
theorem dX8_set_9 : decode cX8_set 9 = .ok (.aload_n 0, 1) := by decide +kernel
theorem dX8_set_10 : decode cX8_set 10 = .ok (.aload_n 0, 1) := by decide +kernel
theorem dX8_set_11 : decode cX8_set 11 = .ok (.getfield 9, 3) := by decide +kernel
theorem dX8_set_14 : decode cX8_set 14 = .ok (.lconst 0, 1) := by decide +kernel
theorem dX8_set_15 : decode cX8_set 15 = .ok (.lcmp, 1) := by decide +kernel
theorem dX8_set_16 : decode cX8_set 16 = .ok (.ifCond .ne 7, 3) := by decide +kernel
theorem dX8_set_19 : decode cX8_set 19 = .ok (.iconst 0, 1) := by decide +kernel
theorem dX8_set_20 : decode cX8_set 20 = .ok (.goto 4, 3) := by decide +kernel
theorem dX8_set_23 : decode cX8_set 23 = .ok (.iconst 1, 1) := by decide +kernel
theorem dX8_set_24 : decode cX8_set 24 = .ok (.putfield 17, 3) := by decide +kernel
theorem dX8_set_27 : decode cX8_set 27 = .ok (.lload_n 1, 1) := by decide +kernel
theorem dX8_set_28 : decode cX8_set 28 = .ok (.ldc2_w 35, 3) := by decide +kernel
theorem dX8_set_31 : decode cX8_set 31 = .ok (.lcmp, 1) := by decide +kernel
theorem dX8_set_32 : decode cX8_set 32 = .ok (.ifCond .lt 17, 3) := by decide +kernel
theorem dX8_set_35 : decode cX8_set 35 = .ok (.aload_n 0, 1) := by decide +kernel
theorem dX8_set_36 : decode cX8_set 36 = .ok (.iconst 1, 1) := by decide +kernel
theorem dX8_set_37 : decode cX8_set 37 = .ok (.lload_n 1, 1) := by decide +kernel
theorem dX8_set_38 : decode cX8_set 38 = .ok (.bipush 50, 2) := by decide +kernel
theorem dX8_set_40 : decode cX8_set 40 = .ok (.lshr, 1) := by decide +kernel
theorem dX8_set_41 : decode cX8_set 41 = .ok (.invokevirtual 37, 3) := by decide +kernel
theorem dX8_set_44 : decode cX8_set 44 = .ok (.aload_n 0, 1) := by decide +kernel
theorem dX8_set_45 : decode cX8_set 45 = .ok (.iconst 2, 1) := by decide +kernel
theorem dX8_set_46 : decode cX8_set 46 = .ok (.putfield 17, 3) := by decide +kernel
theorem dX8_set_49 : decode cX8_set 49 = .ok (.return_, 1) := by decide +kernel
theorem dX8_setTimes_0 : decode cX8_setTimes 0 = .ok (.aload_n 0, 1) := by decide +kernel
theorem dX8_setTimes_1 : decode cX8_setTimes 1 = .ok (.lconst 0, 1) := by decide +kernel
theorem dX8_setTimes_2 : decode cX8_setTimes 2 = .ok (.invokevirtual 41, 3) := by decide +kernel
theorem dX8_setTimes_5 : decode cX8_setTimes 5 = .ok (.aload_n 0, 1) := by decide +kernel
theorem dX8_setTimes_6 : decode cX8_setTimes 6 = .ok (.aload_n 0, 1) := by decide +kernel
theorem dX8_setTimes_7 : decode cX8_setTimes 7 = .ok (.aload_n 1, 1) := by decide +kernel
theorem dX8_setTimes_8 : decode cX8_setTimes 8 = .ok (.iload_n 2, 1) := by decide +kernel
theorem dX8_setTimes_9 : decode cX8_setTimes 9 = .ok (.invokevirtual 56, 3) := by decide +kernel
theorem dX8_setTimes_12 : decode cX8_setTimes 12 = .ok (.return_, 1) := by decide +kernel
theorem dX8_setSum_0 : decode cX8_setSum 0 = .ok (.aload_n 1, 1) := by decide +kernel
theorem dX8_setSum_1 : decode cX8_setSum 1 = .ok (.getfield 17, 3) := by decide +kernel
theorem dX8_setSum_4 : decode cX8_setSum 4 = .ok (.iconst 1, 1) := by decide +kernel
theorem dX8_setSum_5 : decode cX8_setSum 5 = .ok (.if_icmp .gt 28, 3) := by decide +kernel
theorem dX8_setSum_8 : decode cX8_setSum 8 = .ok (.aload_n 2, 1) := by decide +kernel
theorem dX8_setSum_9 : decode cX8_setSum 9 = .ok (.getfield 17, 3) := by decide +kernel
theorem dX8_setSum_12 : decode cX8_setSum 12 = .ok (.iconst 1, 1) := by decide +kernel
theorem dX8_setSum_13 : decode cX8_setSum 13 = .ok (.if_icmp .gt 20, 3) := by decide +kernel
theorem dX8_setSum_16 : decode cX8_setSum 16 = .ok (.aload_n 0, 1) := by decide +kernel
theorem dX8_setSum_17 : decode cX8_setSum 17 = .ok (.aload_n 1, 1) := by decide +kernel
theorem dX8_setSum_18 : decode cX8_setSum 18 = .ok (.getfield 9, 3) := by decide +kernel
theorem dX8_setSum_21 : decode cX8_setSum 21 = .ok (.iload_n 3, 1) := by decide +kernel
theorem dX8_setSum_22 : decode cX8_setSum 22 = .ok (.i2l, 1) := by decide +kernel
theorem dX8_setSum_23 : decode cX8_setSum 23 = .ok (.aload_n 2, 1) := by decide +kernel
theorem dX8_setSum_24 : decode cX8_setSum 24 = .ok (.getfield 9, 3) := by decide +kernel
theorem dX8_setSum_27 : decode cX8_setSum 27 = .ok (.lmul, 1) := by decide +kernel
theorem dX8_setSum_28 : decode cX8_setSum 28 = .ok (.ladd, 1) := by decide +kernel
theorem dX8_setSum_29 : decode cX8_setSum 29 = .ok (.invokevirtual 41, 3) := by decide +kernel
theorem dX8_setSum_32 : decode cX8_setSum 32 = .ok (.return_, 1) := by decide +kernel
theorem dX8_setQuotient_0 : decode cX8_setQuotient 0 = .ok (.iload_n 2, 1) := by decide +kernel
theorem dX8_setQuotient_1 : decode cX8_setQuotient 1 = .ok (.iconst 1, 1) := by decide +kernel
theorem dX8_setQuotient_2 : decode cX8_setQuotient 2 = .ok (.if_icmp .lt 11, 3) := by decide +kernel
theorem dX8_setQuotient_5 : decode cX8_setQuotient 5 = .ok (.aload_n 1, 1) := by decide +kernel
theorem dX8_setQuotient_6 : decode cX8_setQuotient 6 = .ok (.getfield 17, 3) := by decide +kernel
theorem dX8_setQuotient_9 : decode cX8_setQuotient 9 = .ok (.iconst 1, 1) := by decide +kernel
theorem dX8_setQuotient_10 : decode cX8_setQuotient 10 = .ok (.if_icmp .gt 24, 3) := by decide +kernel
theorem dX8_setQuotient_13 : decode cX8_setQuotient 13 = .ok (.aload_n 0, 1) := by decide +kernel
theorem dX8_setQuotient_14 : decode cX8_setQuotient 14 = .ok (.iload_n 2, 1) := by decide +kernel
theorem dX8_setQuotient_15 : decode cX8_setQuotient 15 = .ok (.iconst 1, 1) := by decide +kernel
theorem dX8_setQuotient_16 : decode cX8_setQuotient 16 = .ok (.if_icmp .ge 7, 3) := by decide +kernel
theorem dX8_setQuotient_23 : decode cX8_setQuotient 23 = .ok (.aload_n 1, 1) := by decide +kernel
theorem dX8_setQuotient_24 : decode cX8_setQuotient 24 = .ok (.getfield 9, 3) := by decide +kernel
theorem dX8_setQuotient_27 : decode cX8_setQuotient 27 = .ok (.iload_n 2, 1) := by decide +kernel
theorem dX8_setQuotient_28 : decode cX8_setQuotient 28 = .ok (.i2l, 1) := by decide +kernel
theorem dX8_setQuotient_29 : decode cX8_setQuotient 29 = .ok (.ldiv, 1) := by decide +kernel
theorem dX8_setQuotient_30 : decode cX8_setQuotient 30 = .ok (.invokevirtual 41, 3) := by decide +kernel
theorem dX8_setQuotient_33 : decode cX8_setQuotient 33 = .ok (.return_, 1) := by decide +kernel
theorem dX8_low_0 : decode cX8_low 0 = .ok (.aload_n 0, 1) := by decide +kernel
theorem dX8_low_1 : decode cX8_low 1 = .ok (.getfield 17, 3) := by decide +kernel
theorem dX8_low_4 : decode cX8_low 4 = .ok (.iconst 1, 1) := by decide +kernel
theorem dX8_low_5 : decode cX8_low 5 = .ok (.if_icmp .le 19, 3) := by decide +kernel
theorem dX8_low_8 : decode cX8_low 8 = .ok (.aload_n 0, 1) := by decide +kernel
theorem dX8_low_9 : decode cX8_low 9 = .ok (.getfield 9, 3) := by decide +kernel
theorem dX8_low_12 : decode cX8_low 12 = .ok (.aload_n 0, 1) := by decide +kernel
theorem dX8_low_13 : decode cX8_low 13 = .ok (.iconst 1, 1) := by decide +kernel
theorem dX8_low_14 : decode cX8_low 14 = .ok (.invokevirtual 49, 3) := by decide +kernel
theorem dX8_low_17 : decode cX8_low 17 = .ok (.bipush 50, 2) := by decide +kernel
theorem dX8_low_19 : decode cX8_low 19 = .ok (.lshl, 1) := by decide +kernel
theorem dX8_low_20 : decode cX8_low 20 = .ok (.ladd, 1) := by decide +kernel
theorem dX8_low_21 : decode cX8_low 21 = .ok (.goto 7, 3) := by decide +kernel
theorem dX8_low_24 : decode cX8_low 24 = .ok (.aload_n 0, 1) := by decide +kernel
theorem dX8_low_25 : decode cX8_low 25 = .ok (.getfield 9, 3) := by decide +kernel
theorem dX8_low_28 : decode cX8_low 28 = .ok (.lreturn, 1) := by decide +kernel
theorem dX9_init_0 : decode cX9_init 0 = .ok (.aload_n 0, 1) := by decide +kernel
theorem dX9_init_1 : decode cX9_init 1 = .ok (.invokespecial 1, 3) := by decide +kernel
theorem dX9_init_4 : decode cX9_init 4 = .ok (.aload_n 0, 1) := by decide +kernel
theorem dX9_init_5 : decode cX9_init 5 = .ok (.new 7, 3) := by decide +kernel
theorem dX9_init_8 : decode cX9_init 8 = .ok (.dup, 1) := by decide +kernel
theorem dX9_init_9 : decode cX9_init 9 = .ok (.invokespecial 9, 3) := by decide +kernel
theorem dX9_init_12 : decode cX9_init 12 = .ok (.putfield 10, 3) := by decide +kernel
theorem dX9_init_15 : decode cX9_init 15 = .ok (.aload_n 0, 1) := by decide +kernel
theorem dX9_init_16 : decode cX9_init 16 = .ok (.new 16, 3) := by decide +kernel
theorem dX9_init_19 : decode cX9_init 19 = .ok (.dup, 1) := by decide +kernel
theorem dX9_init_20 : decode cX9_init 20 = .ok (.invokespecial 18, 3) := by decide +kernel
theorem dX9_init_23 : decode cX9_init 23 = .ok (.putfield 19, 3) := by decide +kernel
theorem dX9_init_26 : decode cX9_init 26 = .ok (.aload_n 0, 1) := by decide +kernel
theorem dX9_init_27 : decode cX9_init 27 = .ok (.new 23, 3) := by decide +kernel
theorem dX9_init_30 : decode cX9_init 30 = .ok (.dup, 1) := by decide +kernel
theorem dX9_init_31 : decode cX9_init 31 = .ok (.invokespecial 25, 3) := by decide +kernel
theorem dX9_init_34 : decode cX9_init 34 = .ok (.putfield 26, 3) := by decide +kernel
theorem dX9_init_37 : decode cX9_init 37 = .ok (.aload_n 0, 1) := by decide +kernel
theorem dX9_init_38 : decode cX9_init 38 = .ok (.new 30, 3) := by decide +kernel
theorem dX9_init_41 : decode cX9_init 41 = .ok (.dup, 1) := by decide +kernel
theorem dX9_init_42 : decode cX9_init 42 = .ok (.invokespecial 32, 3) := by decide +kernel
theorem dX9_init_45 : decode cX9_init 45 = .ok (.putfield 33, 3) := by decide +kernel
theorem dX9_init_48 : decode cX9_init 48 = .ok (.aload_n 0, 1) := by decide +kernel
theorem dX9_init_49 : decode cX9_init 49 = .ok (.new 37, 3) := by decide +kernel
theorem dX9_init_52 : decode cX9_init 52 = .ok (.dup, 1) := by decide +kernel
theorem dX9_init_53 : decode cX9_init 53 = .ok (.invokespecial 39, 3) := by decide +kernel
theorem dX9_init_56 : decode cX9_init 56 = .ok (.putfield 40, 3) := by decide +kernel
theorem dX9_init_59 : decode cX9_init 59 = .ok (.aload_n 0, 1) := by decide +kernel
theorem dX9_init_60 : decode cX9_init 60 = .ok (.new 44, 3) := by decide +kernel
theorem dX9_init_63 : decode cX9_init 63 = .ok (.dup, 1) := by decide +kernel
theorem dX9_init_64 : decode cX9_init 64 = .ok (.invokespecial 46, 3) := by decide +kernel
theorem dX9_init_67 : decode cX9_init 67 = .ok (.putfield 47, 3) := by decide +kernel
theorem dX9_init_70 : decode cX9_init 70 = .ok (.aload_n 0, 1) := by decide +kernel
theorem dX9_init_71 : decode cX9_init 71 = .ok (.new 51, 3) := by decide +kernel
theorem dX9_init_74 : decode cX9_init 74 = .ok (.dup, 1) := by decide +kernel
theorem dX9_init_75 : decode cX9_init 75 = .ok (.invokespecial 53, 3) := by decide +kernel
theorem dX9_init_78 : decode cX9_init 78 = .ok (.putfield 54, 3) := by decide +kernel
theorem dX9_init_81 : decode cX9_init 81 = .ok (.aload_n 0, 1) := by decide +kernel
theorem dX9_init_82 : decode cX9_init 82 = .ok (.getfield 54, 3) := by decide +kernel
theorem dX9_init_85 : decode cX9_init 85 = .ok (.aload_n 0, 1) := by decide +kernel
theorem dX9_init_86 : decode cX9_init 86 = .ok (.getfield 33, 3) := by decide +kernel
theorem dX9_init_89 : decode cX9_init 89 = .ok (.getfield 58, 3) := by decide +kernel
theorem dX9_init_92 : decode cX9_init 92 = .ok (.invokevirtual 62, 3) := by decide +kernel
theorem dX9_init_95 : decode cX9_init 95 = .ok (.putfield 68, 3) := by decide +kernel
theorem dX9_init_98 : decode cX9_init 98 = .ok (.return_, 1) := by decide +kernel
theorem dX9_addBody_0 : decode cX9_addBody 0 = .ok (.iload_n 1, 1) := by decide +kernel
theorem dX9_addBody_1 : decode cX9_addBody 1 = .ok (.bipush 50, 2) := by decide +kernel
theorem dX9_addBody_3 : decode cX9_addBody 3 = .ok (.sipush 2000, 3) := by decide +kernel
theorem dX9_addBody_6 : decode cX9_addBody 6 = .ok (.invokestatic 72, 3) := by decide +kernel
theorem dX9_addBody_9 : decode cX9_addBody 9 = .ok (.ifCond .ne 14, 3) := by decide +kernel
theorem dX9_addBody_12 : decode cX9_addBody 12 = .ok (.iload_n 2, 1) := by decide +kernel
theorem dX9_addBody_13 : decode cX9_addBody 13 = .ok (.iconst 1, 1) := by decide +kernel
theorem dX9_addBody_14 : decode cX9_addBody 14 = .ok (.sipush 1000, 3) := by decide +kernel
theorem dX9_addBody_17 : decode cX9_addBody 17 = .ok (.invokestatic 72, 3) := by decide +kernel
theorem dX9_addBody_20 : decode cX9_addBody 20 = .ok (.ifCond .eq 13, 3) := by decide +kernel
theorem dX9_addBody_23 : decode cX9_addBody 23 = .ok (.new 76, 3) := by decide +kernel
theorem dX9_addBody_26 : decode cX9_addBody 26 = .ok (.dup, 1) := by decide +kernel
theorem dX9_addBody_27 : decode cX9_addBody 27 = .ok (.ldc 78, 2) := by decide +kernel
theorem dX9_addBody_29 : decode cX9_addBody 29 = .ok (.invokespecial 80, 3) := by decide +kernel
theorem dX9_addBody_32 : decode cX9_addBody 32 = .ok (.athrow, 1) := by decide +kernel
theorem dX9_addBody_33 : decode cX9_addBody 33 = .ok (.aload_n 0, 1) := by decide +kernel
theorem dX9_addBody_34 : decode cX9_addBody 34 = .ok (.getfield 10, 3) := by decide +kernel
theorem dX9_addBody_37 : decode cX9_addBody 37 = .ok (.invokevirtual 83, 3) := by decide +kernel
theorem dX9_addBody_40 : decode cX9_addBody 40 = .ok (.ifCond .eq 13, 3) := by decide +kernel
theorem dX9_addBody_53 : decode cX9_addBody 53 = .ok (.aload_n 0, 1) := by decide +kernel
theorem dX9_addBody_54 : decode cX9_addBody 54 = .ok (.getfield 54, 3) := by decide +kernel
theorem dX9_addBody_57 : decode cX9_addBody 57 = .ok (.dup, 1) := by decide +kernel
theorem dX9_addBody_58 : decode cX9_addBody 58 = .ok (.getfield 68, 3) := by decide +kernel
theorem dX9_addBody_61 : decode cX9_addBody 61 = .ok (.iload_n 1, 1) := by decide +kernel
theorem dX9_addBody_62 : decode cX9_addBody 62 = .ok (.iload_n 2, 1) := by decide +kernel
theorem dX9_addBody_63 : decode cX9_addBody 63 = .ok (.imul, 1) := by decide +kernel
theorem dX9_addBody_64 : decode cX9_addBody 64 = .ok (.i2l, 1) := by decide +kernel
theorem dX9_addBody_65 : decode cX9_addBody 65 = .ok (.ladd, 1) := by decide +kernel
theorem dX9_addBody_66 : decode cX9_addBody 66 = .ok (.putfield 68, 3) := by decide +kernel
theorem dX9_addBody_69 : decode cX9_addBody 69 = .ok (.aload_n 0, 1) := by decide +kernel
theorem dX9_addBody_70 : decode cX9_addBody 70 = .ok (.getfield 10, 3) := by decide +kernel
theorem dX9_addBody_73 : decode cX9_addBody 73 = .ok (.iload_n 1, 1) := by decide +kernel
theorem dX9_addBody_74 : decode cX9_addBody 74 = .ok (.iload_n 2, 1) := by decide +kernel
theorem dX9_addBody_75 : decode cX9_addBody 75 = .ok (.invokevirtual 92, 3) := by decide +kernel
theorem dX9_addBody_78 : decode cX9_addBody 78 = .ok (.ireturn, 1) := by decide +kernel
theorem dX9_getTemperature_0 : decode cX9_getTemperature 0 = .ok (.aload_n 0, 1) := by decide +kernel
theorem dX9_getTemperature_1 : decode cX9_getTemperature 1 = .ok (.iload_n 1, 1) := by decide +kernel
theorem dX9_getTemperature_2 : decode cX9_getTemperature 2 = .ok (.invokevirtual 96, 3) := by decide +kernel
theorem dX9_getEnergy_0 : decode cX9_getEnergy 0 = .ok (.aload_n 0, 1) := by decide +kernel
theorem dX9_getEnergy_1 : decode cX9_getEnergy 1 = .ok (.iload_n 1, 1) := by decide +kernel
theorem dX9_getEnergy_2 : decode cX9_getEnergy 2 = .ok (.invokevirtual 96, 3) := by decide +kernel
theorem dX9_conduct_0 : decode cX9_conduct 0 = .ok (.aload_n 0, 1) := by decide +kernel
theorem dX9_conduct_1 : decode cX9_conduct 1 = .ok (.iload_n 1, 1) := by decide +kernel
theorem dX9_conduct_2 : decode cX9_conduct 2 = .ok (.iload_n 2, 1) := by decide +kernel
theorem dX9_conduct_3 : decode cX9_conduct 3 = .ok (.iload_n 3, 1) := by decide +kernel
theorem dX9_conduct_4 : decode cX9_conduct 4 = .ok (.invokevirtual 107, 3) := by decide +kernel
theorem dX9_runEngine_0 : decode cX9_runEngine 0 = .ok (.aload_n 0, 1) := by decide +kernel
theorem dX9_runEngine_1 : decode cX9_runEngine 1 = .ok (.iload_n 1, 1) := by decide +kernel
theorem dX9_runEngine_2 : decode cX9_runEngine 2 = .ok (.iload_n 2, 1) := by decide +kernel
theorem dX9_runEngine_3 : decode cX9_runEngine 3 = .ok (.iload_n 3, 1) := by decide +kernel
theorem dX9_runEngine_4 : decode cX9_runEngine 4 = .ok (.invokevirtual 107, 3) := by decide +kernel
theorem dX9_runPump_0 : decode cX9_runPump 0 = .ok (.aload_n 0, 1) := by decide +kernel
theorem dX9_runPump_1 : decode cX9_runPump 1 = .ok (.iload_n 1, 1) := by decide +kernel
theorem dX9_runPump_2 : decode cX9_runPump 2 = .ok (.iload_n 2, 1) := by decide +kernel
theorem dX9_runPump_3 : decode cX9_runPump 3 = .ok (.iload_n 3, 1) := by decide +kernel
theorem dX9_runPump_4 : decode cX9_runPump 4 = .ok (.invokevirtual 107, 3) := by decide +kernel
theorem dX9_getWork_0 : decode cX9_getWork 0 = .ok (.aload_n 0, 1) := by decide +kernel
theorem dX9_getWork_1 : decode cX9_getWork 1 = .ok (.getfield 54, 3) := by decide +kernel
theorem dX9_getWork_4 : decode cX9_getWork 4 = .ok (.getfield 139, 3) := by decide +kernel
theorem dX9_getWork_7 : decode cX9_getWork 7 = .ok (.l2i, 1) := by decide +kernel
theorem dX9_getWork_8 : decode cX9_getWork 8 = .ok (.ireturn, 1) := by decide +kernel
theorem dX9_getMade_0 : decode cX9_getMade 0 = .ok (.aload_n 0, 1) := by decide +kernel
theorem dX9_getMade_1 : decode cX9_getMade 1 = .ok (.getfield 54, 3) := by decide +kernel
theorem dX9_getMade_4 : decode cX9_getMade 4 = .ok (.getfield 142, 3) := by decide +kernel
theorem dX9_getMade_7 : decode cX9_getMade 7 = .ok (.ireturn, 1) := by decide +kernel
theorem dX9_addRow_0 : decode cX9_addRow 0 = .ok (.iload_n 1, 1) := by decide +kernel
theorem dX9_addRow_1 : decode cX9_addRow 1 = .ok (.iconst 1, 1) := by decide +kernel
theorem dX9_addRow_2 : decode cX9_addRow 2 = .ok (.sipush 1000, 3) := by decide +kernel
theorem dX9_addRow_5 : decode cX9_addRow 5 = .ok (.invokestatic 72, 3) := by decide +kernel
theorem dX9_addRow_8 : decode cX9_addRow 8 = .ok (.ifCond .ne 38, 3) := by decide +kernel
theorem dX9_addRow_11 : decode cX9_addRow 11 = .ok (.iload_n 2, 1) := by decide +kernel
theorem dX9_addRow_12 : decode cX9_addRow 12 = .ok (.bipush 50, 2) := by decide +kernel
theorem dX9_addRow_14 : decode cX9_addRow 14 = .ok (.sipush 999, 3) := by decide +kernel
theorem dX9_addRow_17 : decode cX9_addRow 17 = .ok (.invokestatic 72, 3) := by decide +kernel
theorem dX9_addRow_20 : decode cX9_addRow 20 = .ok (.ifCond .ne 26, 3) := by decide +kernel
theorem dX9_addRow_23 : decode cX9_addRow 23 = .ok (.iload_n 3, 1) := by decide +kernel
theorem dX9_addRow_24 : decode cX9_addRow 24 = .ok (.iconst 0, 1) := by decide +kernel
theorem dX9_addRow_25 : decode cX9_addRow 25 = .ok (.sipush 9999, 3) := by decide +kernel
theorem dX9_addRow_28 : decode cX9_addRow 28 = .ok (.invokestatic 72, 3) := by decide +kernel
theorem dX9_addRow_31 : decode cX9_addRow 31 = .ok (.ifCond .ne 15, 3) := by decide +kernel
theorem dX9_addRow_34 : decode cX9_addRow 34 = .ok (.iload 4, 2) := by decide +kernel
theorem dX9_addRow_36 : decode cX9_addRow 36 = .ok (.iconst 0, 1) := by decide +kernel
theorem dX9_addRow_37 : decode cX9_addRow 37 = .ok (.sipush 9999, 3) := by decide +kernel
theorem dX9_addRow_40 : decode cX9_addRow 40 = .ok (.invokestatic 72, 3) := by decide +kernel
theorem dX9_addRow_43 : decode cX9_addRow 43 = .ok (.ifCond .eq 13, 3) := by decide +kernel
theorem dX9_addRow_46 : decode cX9_addRow 46 = .ok (.new 76, 3) := by decide +kernel
theorem dX9_addRow_49 : decode cX9_addRow 49 = .ok (.dup, 1) := by decide +kernel
theorem dX9_addRow_50 : decode cX9_addRow 50 = .ok (.ldc 78, 2) := by decide +kernel
theorem dX9_addRow_52 : decode cX9_addRow 52 = .ok (.invokespecial 80, 3) := by decide +kernel
theorem dX9_addRow_55 : decode cX9_addRow 55 = .ok (.athrow, 1) := by decide +kernel
theorem dX9_addRow_56 : decode cX9_addRow 56 = .ok (.iload 4, 2) := by decide +kernel
theorem dX9_addRow_58 : decode cX9_addRow 58 = .ok (.iload_n 3, 1) := by decide +kernel
theorem dX9_addRow_59 : decode cX9_addRow 59 = .ok (.if_icmp .le 16, 3) := by decide +kernel
theorem dX9_addRow_62 : decode cX9_addRow 62 = .ok (.aload_n 0, 1) := by decide +kernel
theorem dX9_addRow_63 : decode cX9_addRow 63 = .ok (.getfield 19, 3) := by decide +kernel
theorem dX9_addRow_66 : decode cX9_addRow 66 = .ok (.iload_n 1, 1) := by decide +kernel
theorem dX9_addRow_67 : decode cX9_addRow 67 = .ok (.iload_n 2, 1) := by decide +kernel
theorem dX9_addRow_68 : decode cX9_addRow 68 = .ok (.iload_n 3, 1) := by decide +kernel
theorem dX9_addRow_69 : decode cX9_addRow 69 = .ok (.invokevirtual 146, 3) := by decide +kernel
theorem dX9_addRow_72 : decode cX9_addRow 72 = .ok (.ifCond .ne 13, 3) := by decide +kernel
theorem dX9_addRow_75 : decode cX9_addRow 75 = .ok (.new 118, 3) := by decide +kernel
theorem dX9_addRow_78 : decode cX9_addRow 78 = .ok (.dup, 1) := by decide +kernel
theorem dX9_addRow_79 : decode cX9_addRow 79 = .ok (.ldc 149, 2) := by decide +kernel
theorem dX9_addRow_81 : decode cX9_addRow 81 = .ok (.invokespecial 122, 3) := by decide +kernel
theorem dX9_addRow_84 : decode cX9_addRow 84 = .ok (.athrow, 1) := by decide +kernel
theorem dX9_addRow_85 : decode cX9_addRow 85 = .ok (.aload_n 0, 1) := by decide +kernel
theorem dX9_addRow_86 : decode cX9_addRow 86 = .ok (.getfield 19, 3) := by decide +kernel
theorem dX9_addRow_89 : decode cX9_addRow 89 = .ok (.invokevirtual 151, 3) := by decide +kernel
theorem dX9_addRow_92 : decode cX9_addRow 92 = .ok (.ifCond .eq 13, 3) := by decide +kernel
theorem dX9_addRow_105 : decode cX9_addRow 105 = .ok (.aload_n 0, 1) := by decide +kernel
theorem dX9_addRow_106 : decode cX9_addRow 106 = .ok (.getfield 19, 3) := by decide +kernel
theorem dX9_addRow_109 : decode cX9_addRow 109 = .ok (.iload_n 1, 1) := by decide +kernel
theorem dX9_addRow_110 : decode cX9_addRow 110 = .ok (.iload_n 2, 1) := by decide +kernel
theorem dX9_addRow_111 : decode cX9_addRow 111 = .ok (.iload_n 3, 1) := by decide +kernel
theorem dX9_addRow_112 : decode cX9_addRow 112 = .ok (.iload 4, 2) := by decide +kernel
theorem dX9_addRow_114 : decode cX9_addRow 114 = .ok (.invokevirtual 154, 3) := by decide +kernel
theorem dX9_addRow_117 : decode cX9_addRow 117 = .ok (.ireturn, 1) := by decide +kernel
theorem dX9_getBoiling_0 : decode cX9_getBoiling 0 = .ok (.aload_n 0, 1) := by decide +kernel
theorem dX9_getBoiling_1 : decode cX9_getBoiling 1 = .ok (.iload_n 1, 1) := by decide +kernel
theorem dX9_getBoiling_2 : decode cX9_getBoiling 2 = .ok (.invokevirtual 156, 3) := by decide +kernel
theorem dX9_getLiquid_0 : decode cX9_getLiquid 0 = .ok (.aload_n 0, 1) := by decide +kernel
theorem dX9_getLiquid_1 : decode cX9_getLiquid 1 = .ok (.iload_n 1, 1) := by decide +kernel
theorem dX9_getLiquid_2 : decode cX9_getLiquid 2 = .ok (.invokevirtual 156, 3) := by decide +kernel
theorem dX9_getVapour_0 : decode cX9_getVapour 0 = .ok (.aload_n 0, 1) := by decide +kernel
theorem dX9_getVapour_1 : decode cX9_getVapour 1 = .ok (.iload_n 1, 1) := by decide +kernel
theorem dX9_getVapour_2 : decode cX9_getVapour 2 = .ok (.invokevirtual 156, 3) := by decide +kernel
theorem dX9_getPhase_0 : decode cX9_getPhase 0 = .ok (.aload_n 0, 1) := by decide +kernel
theorem dX9_getPhase_1 : decode cX9_getPhase 1 = .ok (.iload_n 1, 1) := by decide +kernel
theorem dX9_getPhase_2 : decode cX9_getPhase 2 = .ok (.iload_n 2, 1) := by decide +kernel
theorem dX9_getPhase_3 : decode cX9_getPhase 3 = .ok (.invokevirtual 169, 3) := by decide +kernel
theorem dX9_getDryness_0 : decode cX9_getDryness 0 = .ok (.aload_n 0, 1) := by decide +kernel
theorem dX9_getDryness_1 : decode cX9_getDryness 1 = .ok (.iload_n 1, 1) := by decide +kernel
theorem dX9_getDryness_2 : decode cX9_getDryness 2 = .ok (.iload_n 2, 1) := by decide +kernel
theorem dX9_getDryness_3 : decode cX9_getDryness 3 = .ok (.invokevirtual 169, 3) := by decide +kernel
theorem dX9_stateTemperature_0 : decode cX9_stateTemperature 0 = .ok (.aload_n 0, 1) := by decide +kernel
theorem dX9_stateTemperature_1 : decode cX9_stateTemperature 1 = .ok (.iload_n 1, 1) := by decide +kernel
theorem dX9_stateTemperature_2 : decode cX9_stateTemperature 2 = .ok (.iload_n 2, 1) := by decide +kernel
theorem dX9_stateTemperature_3 : decode cX9_stateTemperature 3 = .ok (.invokevirtual 169, 3) := by decide +kernel
theorem dX9_addPart_0 : decode cX9_addPart 0 = .ok (.iload_n 1, 1) := by decide +kernel
theorem dX9_addPart_1 : decode cX9_addPart 1 = .ok (.iload_n 2, 1) := by decide +kernel
theorem dX9_addPart_2 : decode cX9_addPart 2 = .ok (.iload_n 3, 1) := by decide +kernel
theorem dX9_addPart_3 : decode cX9_addPart 3 = .ok (.invokestatic 182, 3) := by decide +kernel
theorem dX9_addPart_6 : decode cX9_addPart 6 = .ok (.ifCond .ne 13, 3) := by decide +kernel
theorem dX9_addPart_9 : decode cX9_addPart 9 = .ok (.new 76, 3) := by decide +kernel
theorem dX9_addPart_12 : decode cX9_addPart 12 = .ok (.dup, 1) := by decide +kernel
theorem dX9_addPart_13 : decode cX9_addPart 13 = .ok (.ldc 186, 2) := by decide +kernel
theorem dX9_addPart_15 : decode cX9_addPart 15 = .ok (.invokespecial 80, 3) := by decide +kernel
theorem dX9_addPart_18 : decode cX9_addPart 18 = .ok (.athrow, 1) := by decide +kernel
theorem dX9_addPart_19 : decode cX9_addPart 19 = .ok (.aload_n 0, 1) := by decide +kernel
theorem dX9_addPart_20 : decode cX9_addPart 20 = .ok (.getfield 26, 3) := by decide +kernel
theorem dX9_addPart_23 : decode cX9_addPart 23 = .ok (.invokevirtual 188, 3) := by decide +kernel
theorem dX9_addPart_26 : decode cX9_addPart 26 = .ok (.ifCond .eq 13, 3) := by decide +kernel
theorem dX9_addPart_39 : decode cX9_addPart 39 = .ok (.aload_n 0, 1) := by decide +kernel
theorem dX9_addPart_40 : decode cX9_addPart 40 = .ok (.getfield 26, 3) := by decide +kernel
theorem dX9_addPart_43 : decode cX9_addPart 43 = .ok (.iload_n 1, 1) := by decide +kernel
theorem dX9_addPart_44 : decode cX9_addPart 44 = .ok (.iload_n 2, 1) := by decide +kernel
theorem dX9_addPart_45 : decode cX9_addPart 45 = .ok (.iload_n 3, 1) := by decide +kernel
theorem dX9_addPart_46 : decode cX9_addPart 46 = .ok (.invokevirtual 191, 3) := by decide +kernel
theorem dX9_addPart_49 : decode cX9_addPart 49 = .ok (.ireturn, 1) := by decide +kernel
theorem dX9_clearParts_0 : decode cX9_clearParts 0 = .ok (.aload_n 0, 1) := by decide +kernel
theorem dX9_clearParts_1 : decode cX9_clearParts 1 = .ok (.getfield 26, 3) := by decide +kernel
theorem dX9_clearParts_4 : decode cX9_clearParts 4 = .ok (.invokevirtual 194, 3) := by decide +kernel
theorem dX9_clearParts_7 : decode cX9_clearParts 7 = .ok (.ireturn, 1) := by decide +kernel
theorem dX9_solve_0 : decode cX9_solve 0 = .ok (.aload_n 0, 1) := by decide +kernel
theorem dX9_solve_1 : decode cX9_solve 1 = .ok (.iload_n 2, 1) := by decide +kernel
theorem dX9_solve_2 : decode cX9_solve 2 = .ok (.invokevirtual 198, 3) := by decide +kernel
theorem dX9_solve_5 : decode cX9_solve 5 = .ok (.aload_n 0, 1) := by decide +kernel
theorem dX9_solve_6 : decode cX9_solve 6 = .ok (.getfield 26, 3) := by decide +kernel
theorem dX9_solve_9 : decode cX9_solve 9 = .ok (.invokevirtual 201, 3) := by decide +kernel
theorem dX9_solve_12 : decode cX9_solve 12 = .ok (.ifCond .eq 13, 3) := by decide +kernel
theorem dX9_solve_15 : decode cX9_solve 15 = .ok (.new 87, 3) := by decide +kernel
theorem dX9_solve_18 : decode cX9_solve 18 = .ok (.dup, 1) := by decide +kernel
theorem dX9_solve_19 : decode cX9_solve 19 = .ok (.ldc 204, 2) := by decide +kernel
theorem dX9_solve_21 : decode cX9_solve 21 = .ok (.invokespecial 91, 3) := by decide +kernel
theorem dX9_solve_24 : decode cX9_solve 24 = .ok (.athrow, 1) := by decide +kernel
theorem dX9_partWork_0 : decode cX9_partWork 0 = .ok (.aload_n 0, 1) := by decide +kernel
theorem dX9_partWork_1 : decode cX9_partWork 1 = .ok (.iload_n 1, 1) := by decide +kernel
theorem dX9_partWork_2 : decode cX9_partWork 2 = .ok (.invokevirtual 217, 3) := by decide +kernel
theorem dX9_partHeat_0 : decode cX9_partHeat 0 = .ok (.aload_n 0, 1) := by decide +kernel
theorem dX9_partHeat_1 : decode cX9_partHeat 1 = .ok (.iload_n 1, 1) := by decide +kernel
theorem dX9_partHeat_2 : decode cX9_partHeat 2 = .ok (.invokevirtual 217, 3) := by decide +kernel
theorem dX9_partLost_0 : decode cX9_partLost 0 = .ok (.aload_n 0, 1) := by decide +kernel
theorem dX9_partLost_1 : decode cX9_partLost 1 = .ok (.iload_n 1, 1) := by decide +kernel
theorem dX9_partLost_2 : decode cX9_partLost 2 = .ok (.invokevirtual 217, 3) := by decide +kernel
theorem dX9_pressureAhead_0 : decode cX9_pressureAhead 0 = .ok (.aload_n 0, 1) := by decide +kernel
theorem dX9_pressureAhead_1 : decode cX9_pressureAhead 1 = .ok (.iload_n 1, 1) := by decide +kernel
theorem dX9_pressureAhead_2 : decode cX9_pressureAhead 2 = .ok (.invokevirtual 217, 3) := by decide +kernel
theorem dX9_heatAhead_0 : decode cX9_heatAhead 0 = .ok (.aload_n 0, 1) := by decide +kernel
theorem dX9_heatAhead_1 : decode cX9_heatAhead 1 = .ok (.iload_n 1, 1) := by decide +kernel
theorem dX9_heatAhead_2 : decode cX9_heatAhead 2 = .ok (.invokevirtual 217, 3) := by decide +kernel
theorem dX9_plantWork_0 : decode cX9_plantWork 0 = .ok (.aload_n 0, 1) := by decide +kernel
theorem dX9_plantWork_1 : decode cX9_plantWork 1 = .ok (.invokevirtual 241, 3) := by decide +kernel
theorem dX9_setGas_0 : decode cX9_setGas 0 = .ok (.iload_n 1, 1) := by decide +kernel
theorem dX9_setGas_1 : decode cX9_setGas 1 = .ok (.iconst 1, 1) := by decide +kernel
theorem dX9_setGas_2 : decode cX9_setGas 2 = .ok (.bipush 20, 2) := by decide +kernel
theorem dX9_setGas_4 : decode cX9_setGas 4 = .ok (.invokestatic 72, 3) := by decide +kernel
theorem dX9_setGas_7 : decode cX9_setGas 7 = .ok (.ifCond .ne 25, 3) := by decide +kernel
theorem dX9_setGas_10 : decode cX9_setGas 10 = .ok (.iload_n 2, 1) := by decide +kernel
theorem dX9_setGas_11 : decode cX9_setGas 11 = .ok (.iconst 1, 1) := by decide +kernel
theorem dX9_setGas_12 : decode cX9_setGas 12 = .ok (.bipush 100, 2) := by decide +kernel
theorem dX9_setGas_14 : decode cX9_setGas 14 = .ok (.invokestatic 72, 3) := by decide +kernel
theorem dX9_setGas_17 : decode cX9_setGas 17 = .ok (.ifCond .ne 15, 3) := by decide +kernel
theorem dX9_setGas_20 : decode cX9_setGas 20 = .ok (.iload_n 3, 1) := by decide +kernel
theorem dX9_setGas_21 : decode cX9_setGas 21 = .ok (.bipush 50, 2) := by decide +kernel
theorem dX9_setGas_23 : decode cX9_setGas 23 = .ok (.sipush 2000, 3) := by decide +kernel
theorem dX9_setGas_26 : decode cX9_setGas 26 = .ok (.invokestatic 72, 3) := by decide +kernel
theorem dX9_setGas_29 : decode cX9_setGas 29 = .ok (.ifCond .eq 13, 3) := by decide +kernel
theorem dX9_setGas_32 : decode cX9_setGas 32 = .ok (.new 76, 3) := by decide +kernel
theorem dX9_setGas_35 : decode cX9_setGas 35 = .ok (.dup, 1) := by decide +kernel
theorem dX9_setGas_36 : decode cX9_setGas 36 = .ok (.ldc 78, 2) := by decide +kernel
theorem dX9_setGas_38 : decode cX9_setGas 38 = .ok (.invokespecial 80, 3) := by decide +kernel
theorem dX9_setGas_41 : decode cX9_setGas 41 = .ok (.athrow, 1) := by decide +kernel
theorem dX9_setGas_42 : decode cX9_setGas 42 = .ok (.aload_n 0, 1) := by decide +kernel
theorem dX9_setGas_43 : decode cX9_setGas 43 = .ok (.getfield 33, 3) := by decide +kernel
theorem dX9_setGas_46 : decode cX9_setGas 46 = .ok (.getfield 58, 3) := by decide +kernel
theorem dX9_setGas_49 : decode cX9_setGas 49 = .ok (.invokevirtual 62, 3) := by decide +kernel
theorem dX9_setGas_52 : decode cX9_setGas 52 = .ok (.lstore 4, 2) := by decide +kernel
theorem dX9_setGas_54 : decode cX9_setGas 54 = .ok (.aload_n 0, 1) := by decide +kernel
theorem dX9_setGas_55 : decode cX9_setGas 55 = .ok (.getfield 33, 3) := by decide +kernel
theorem dX9_setGas_58 : decode cX9_setGas 58 = .ok (.iload_n 1, 1) := by decide +kernel
theorem dX9_setGas_59 : decode cX9_setGas 59 = .ok (.iload_n 2, 1) := by decide +kernel
theorem dX9_setGas_60 : decode cX9_setGas 60 = .ok (.iload_n 3, 1) := by decide +kernel
theorem dX9_setGas_61 : decode cX9_setGas 61 = .ok (.invokevirtual 247, 3) := by decide +kernel
theorem dX9_setGas_64 : decode cX9_setGas 64 = .ok (.aload_n 0, 1) := by decide +kernel
theorem dX9_setGas_65 : decode cX9_setGas 65 = .ok (.getfield 54, 3) := by decide +kernel
theorem dX9_setGas_68 : decode cX9_setGas 68 = .ok (.dup, 1) := by decide +kernel
theorem dX9_setGas_69 : decode cX9_setGas 69 = .ok (.getfield 68, 3) := by decide +kernel
theorem dX9_setGas_72 : decode cX9_setGas 72 = .ok (.aload_n 0, 1) := by decide +kernel
theorem dX9_setGas_73 : decode cX9_setGas 73 = .ok (.getfield 33, 3) := by decide +kernel
theorem dX9_setGas_76 : decode cX9_setGas 76 = .ok (.getfield 58, 3) := by decide +kernel
theorem dX9_setGas_79 : decode cX9_setGas 79 = .ok (.invokevirtual 62, 3) := by decide +kernel
theorem dX9_setGas_82 : decode cX9_setGas 82 = .ok (.lload 4, 2) := by decide +kernel
theorem dX9_setGas_84 : decode cX9_setGas 84 = .ok (.lsub, 1) := by decide +kernel
theorem dX9_setGas_85 : decode cX9_setGas 85 = .ok (.ladd, 1) := by decide +kernel
theorem dX9_setGas_86 : decode cX9_setGas 86 = .ok (.putfield 68, 3) := by decide +kernel
theorem dX9_setGas_89 : decode cX9_setGas 89 = .ok (.lload 4, 2) := by decide +kernel
theorem dX9_setGas_91 : decode cX9_setGas 91 = .ok (.l2i, 1) := by decide +kernel
theorem dX9_setGas_92 : decode cX9_setGas 92 = .ok (.ireturn, 1) := by decide +kernel
theorem dX9_addStroke_0 : decode cX9_addStroke 0 = .ok (.iload_n 1, 1) := by decide +kernel
theorem dX9_addStroke_1 : decode cX9_addStroke 1 = .ok (.iload_n 2, 1) := by decide +kernel
theorem dX9_addStroke_2 : decode cX9_addStroke 2 = .ok (.invokestatic 250, 3) := by decide +kernel
theorem dX9_addStroke_5 : decode cX9_addStroke 5 = .ok (.ifCond .ne 13, 3) := by decide +kernel
theorem dX9_addStroke_8 : decode cX9_addStroke 8 = .ok (.new 76, 3) := by decide +kernel
theorem dX9_addStroke_11 : decode cX9_addStroke 11 = .ok (.dup, 1) := by decide +kernel
theorem dX9_addStroke_12 : decode cX9_addStroke 12 = .ok (.ldc 254, 2) := by decide +kernel
theorem dX9_addStroke_14 : decode cX9_addStroke 14 = .ok (.invokespecial 80, 3) := by decide +kernel
theorem dX9_addStroke_17 : decode cX9_addStroke 17 = .ok (.athrow, 1) := by decide +kernel
theorem dX9_addStroke_18 : decode cX9_addStroke 18 = .ok (.iload_n 1, 1) := by decide +kernel
theorem dX9_addStroke_19 : decode cX9_addStroke 19 = .ok (.invokestatic 256, 3) := by decide +kernel
theorem dX9_addStroke_22 : decode cX9_addStroke 22 = .ok (.ifCond .eq 8, 3) := by decide +kernel
theorem dX9_addStroke_25 : decode cX9_addStroke 25 = .ok (.aload_n 0, 1) := by decide +kernel
theorem dX9_addStroke_26 : decode cX9_addStroke 26 = .ok (.iload_n 3, 1) := by decide +kernel
theorem dX9_addStroke_27 : decode cX9_addStroke 27 = .ok (.invokevirtual 96, 3) := by decide +kernel
theorem dX9_addStroke_30 : decode cX9_addStroke 30 = .ok (.aload_n 0, 1) := by decide +kernel
theorem dX9_addStroke_31 : decode cX9_addStroke 31 = .ok (.getfield 33, 3) := by decide +kernel
theorem dX9_addStroke_34 : decode cX9_addStroke 34 = .ok (.invokevirtual 260, 3) := by decide +kernel
theorem dX9_addStroke_37 : decode cX9_addStroke 37 = .ok (.ifCond .eq 14, 3) := by decide +kernel
theorem dX9_addStroke_51 : decode cX9_addStroke 51 = .ok (.aload_n 0, 1) := by decide +kernel
theorem dX9_addStroke_52 : decode cX9_addStroke 52 = .ok (.getfield 33, 3) := by decide +kernel
theorem dX9_addStroke_55 : decode cX9_addStroke 55 = .ok (.iload_n 1, 1) := by decide +kernel
theorem dX9_addStroke_56 : decode cX9_addStroke 56 = .ok (.iload_n 2, 1) := by decide +kernel
theorem dX9_addStroke_57 : decode cX9_addStroke 57 = .ok (.iload_n 3, 1) := by decide +kernel
theorem dX9_addStroke_58 : decode cX9_addStroke 58 = .ok (.invokevirtual 263, 3) := by decide +kernel
theorem dX9_addStroke_61 : decode cX9_addStroke 61 = .ok (.ireturn, 1) := by decide +kernel
theorem dX9_clearStrokes_0 : decode cX9_clearStrokes 0 = .ok (.aload_n 0, 1) := by decide +kernel
theorem dX9_clearStrokes_1 : decode cX9_clearStrokes 1 = .ok (.getfield 33, 3) := by decide +kernel
theorem dX9_clearStrokes_4 : decode cX9_clearStrokes 4 = .ok (.invokevirtual 264, 3) := by decide +kernel
theorem dX9_clearStrokes_7 : decode cX9_clearStrokes 7 = .ok (.ireturn, 1) := by decide +kernel
theorem dX9_runCycles_0 : decode cX9_runCycles 0 = .ok (.iload_n 1, 1) := by decide +kernel
theorem dX9_runCycles_1 : decode cX9_runCycles 1 = .ok (.iconst 1, 1) := by decide +kernel
theorem dX9_runCycles_2 : decode cX9_runCycles 2 = .ok (.bipush 10, 2) := by decide +kernel
theorem dX9_runCycles_4 : decode cX9_runCycles 4 = .ok (.invokestatic 72, 3) := by decide +kernel
theorem dX9_runCycles_7 : decode cX9_runCycles 7 = .ok (.ifCond .eq 13, 3) := by decide +kernel
theorem dX9_runCycles_10 : decode cX9_runCycles 10 = .ok (.new 76, 3) := by decide +kernel
theorem dX9_runCycles_13 : decode cX9_runCycles 13 = .ok (.dup, 1) := by decide +kernel
theorem dX9_runCycles_14 : decode cX9_runCycles 14 = .ok (.ldc 78, 2) := by decide +kernel
theorem dX9_runCycles_16 : decode cX9_runCycles 16 = .ok (.invokespecial 80, 3) := by decide +kernel
theorem dX9_runCycles_19 : decode cX9_runCycles 19 = .ok (.athrow, 1) := by decide +kernel
theorem dX9_runCycles_20 : decode cX9_runCycles 20 = .ok (.aload_n 0, 1) := by decide +kernel
theorem dX9_runCycles_21 : decode cX9_runCycles 21 = .ok (.getfield 33, 3) := by decide +kernel
theorem dX9_runCycles_24 : decode cX9_runCycles 24 = .ok (.invokevirtual 265, 3) := by decide +kernel
theorem dX9_runCycles_27 : decode cX9_runCycles 27 = .ok (.ifCond .eq 14, 3) := by decide +kernel
theorem dX9_runCycles_30 : decode cX9_runCycles 30 = .ok (.new 87, 3) := by decide +kernel
theorem dX9_runCycles_33 : decode cX9_runCycles 33 = .ok (.dup, 1) := by decide +kernel
theorem dX9_runCycles_34 : decode cX9_runCycles 34 = .ok (.ldc_w 266, 3) := by decide +kernel
theorem dX9_runCycles_37 : decode cX9_runCycles 37 = .ok (.invokespecial 91, 3) := by decide +kernel
theorem dX9_runCycles_40 : decode cX9_runCycles 40 = .ok (.athrow, 1) := by decide +kernel
theorem dX9_wasEnded_0 : decode cX9_wasEnded 0 = .ok (.aload_n 0, 1) := by decide +kernel
theorem dX9_wasEnded_1 : decode cX9_wasEnded 1 = .ok (.getfield 33, 3) := by decide +kernel
theorem dX9_wasEnded_4 : decode cX9_wasEnded 4 = .ok (.getfield 278, 3) := by decide +kernel
theorem dX9_wasEnded_7 : decode cX9_wasEnded 7 = .ok (.ifCond .ne 14, 3) := by decide +kernel
theorem dX9_wasEnded_10 : decode cX9_wasEnded 10 = .ok (.new 87, 3) := by decide +kernel
theorem dX9_wasEnded_13 : decode cX9_wasEnded 13 = .ok (.dup, 1) := by decide +kernel
theorem dX9_wasEnded_14 : decode cX9_wasEnded 14 = .ok (.ldc_w 282, 3) := by decide +kernel
theorem dX9_wasEnded_17 : decode cX9_wasEnded 17 = .ok (.invokespecial 91, 3) := by decide +kernel
theorem dX9_wasEnded_20 : decode cX9_wasEnded 20 = .ok (.athrow, 1) := by decide +kernel
theorem dX9_gasEnergy_0 : decode cX9_gasEnergy 0 = .ok (.aload_n 0, 1) := by decide +kernel
theorem dX9_gasEnergy_1 : decode cX9_gasEnergy 1 = .ok (.getfield 33, 3) := by decide +kernel
theorem dX9_gasEnergy_4 : decode cX9_gasEnergy 4 = .ok (.getfield 58, 3) := by decide +kernel
theorem dX9_gasEnergy_7 : decode cX9_gasEnergy 7 = .ok (.invokevirtual 62, 3) := by decide +kernel
theorem dX9_gasEnergy_10 : decode cX9_gasEnergy 10 = .ok (.l2i, 1) := by decide +kernel
theorem dX9_gasEnergy_11 : decode cX9_gasEnergy 11 = .ok (.ireturn, 1) := by decide +kernel
theorem dX9_gasPressure_0 : decode cX9_gasPressure 0 = .ok (.aload_n 0, 1) := by decide +kernel
theorem dX9_gasPressure_1 : decode cX9_gasPressure 1 = .ok (.getfield 33, 3) := by decide +kernel
theorem dX9_gasPressure_4 : decode cX9_gasPressure 4 = .ok (.invokevirtual 287, 3) := by decide +kernel
theorem dX9_gasPressure_7 : decode cX9_gasPressure 7 = .ok (.invokevirtual 62, 3) := by decide +kernel
theorem dX9_gasPressure_10 : decode cX9_gasPressure 10 = .ok (.l2i, 1) := by decide +kernel
theorem dX9_gasPressure_11 : decode cX9_gasPressure 11 = .ok (.ireturn, 1) := by decide +kernel
theorem dX9_gasVolume_0 : decode cX9_gasVolume 0 = .ok (.aload_n 0, 1) := by decide +kernel
theorem dX9_gasVolume_1 : decode cX9_gasVolume 1 = .ok (.getfield 33, 3) := by decide +kernel
theorem dX9_gasVolume_4 : decode cX9_gasVolume 4 = .ok (.getfield 291, 3) := by decide +kernel
theorem dX9_gasVolume_7 : decode cX9_gasVolume 7 = .ok (.ireturn, 1) := by decide +kernel
theorem dX9_cardAt_0 : decode cX9_cardAt 0 = .ok (.aload_n 0, 1) := by decide +kernel
theorem dX9_cardAt_1 : decode cX9_cardAt 1 = .ok (.getfield 33, 3) := by decide +kernel
theorem dX9_cardAt_4 : decode cX9_cardAt 4 = .ok (.iload_n 1, 1) := by decide +kernel
theorem dX9_cardAt_5 : decode cX9_cardAt 5 = .ok (.invokevirtual 294, 3) := by decide +kernel
theorem dX9_cardAt_8 : decode cX9_cardAt 8 = .ok (.ifCond .ne 14, 3) := by decide +kernel
theorem dX9_cardAt_11 : decode cX9_cardAt 11 = .ok (.new 212, 3) := by decide +kernel
theorem dX9_cardAt_14 : decode cX9_cardAt 14 = .ok (.dup, 1) := by decide +kernel
theorem dX9_cardAt_15 : decode cX9_cardAt 15 = .ok (.ldc_w 298, 3) := by decide +kernel
theorem dX9_cardAt_18 : decode cX9_cardAt 18 = .ok (.invokespecial 216, 3) := by decide +kernel
theorem dX9_cardAt_21 : decode cX9_cardAt 21 = .ok (.athrow, 1) := by decide +kernel
theorem dX9_addStream_0 : decode cX9_addStream 0 = .ok (.iload_n 1, 1) := by decide +kernel
theorem dX9_addStream_1 : decode cX9_addStream 1 = .ok (.bipush 50, 2) := by decide +kernel
theorem dX9_addStream_3 : decode cX9_addStream 3 = .ok (.sipush 999, 3) := by decide +kernel
theorem dX9_addStream_6 : decode cX9_addStream 6 = .ok (.invokestatic 72, 3) := by decide +kernel
theorem dX9_addStream_9 : decode cX9_addStream 9 = .ok (.ifCond .ne 30, 3) := by decide +kernel
theorem dX9_addStream_12 : decode cX9_addStream 12 = .ok (.iload_n 2, 1) := by decide +kernel
theorem dX9_addStream_13 : decode cX9_addStream 13 = .ok (.bipush 50, 2) := by decide +kernel
theorem dX9_addStream_15 : decode cX9_addStream 15 = .ok (.sipush 999, 3) := by decide +kernel
theorem dX9_addStream_18 : decode cX9_addStream 18 = .ok (.invokestatic 72, 3) := by decide +kernel
theorem dX9_addStream_21 : decode cX9_addStream 21 = .ok (.ifCond .ne 18, 3) := by decide +kernel
theorem dX9_addStream_24 : decode cX9_addStream 24 = .ok (.iload_n 3, 1) := by decide +kernel
theorem dX9_addStream_25 : decode cX9_addStream 25 = .ok (.iconst 1, 1) := by decide +kernel
theorem dX9_addStream_26 : decode cX9_addStream 26 = .ok (.bipush 50, 2) := by decide +kernel
theorem dX9_addStream_28 : decode cX9_addStream 28 = .ok (.invokestatic 72, 3) := by decide +kernel
theorem dX9_addStream_31 : decode cX9_addStream 31 = .ok (.ifCond .ne 8, 3) := by decide +kernel
theorem dX9_addStream_34 : decode cX9_addStream 34 = .ok (.iload_n 1, 1) := by decide +kernel
theorem dX9_addStream_35 : decode cX9_addStream 35 = .ok (.iload_n 2, 1) := by decide +kernel
theorem dX9_addStream_36 : decode cX9_addStream 36 = .ok (.if_icmp .ne 13, 3) := by decide +kernel
theorem dX9_addStream_39 : decode cX9_addStream 39 = .ok (.new 76, 3) := by decide +kernel
theorem dX9_addStream_42 : decode cX9_addStream 42 = .ok (.dup, 1) := by decide +kernel
theorem dX9_addStream_43 : decode cX9_addStream 43 = .ok (.ldc 78, 2) := by decide +kernel
theorem dX9_addStream_45 : decode cX9_addStream 45 = .ok (.invokespecial 80, 3) := by decide +kernel
theorem dX9_addStream_48 : decode cX9_addStream 48 = .ok (.athrow, 1) := by decide +kernel
theorem dX9_addStream_49 : decode cX9_addStream 49 = .ok (.aload_n 0, 1) := by decide +kernel
theorem dX9_addStream_50 : decode cX9_addStream 50 = .ok (.getfield 40, 3) := by decide +kernel
theorem dX9_addStream_53 : decode cX9_addStream 53 = .ok (.invokevirtual 303, 3) := by decide +kernel
theorem dX9_addStream_56 : decode cX9_addStream 56 = .ok (.ifCond .eq 14, 3) := by decide +kernel
theorem dX9_addStream_70 : decode cX9_addStream 70 = .ok (.aload_n 0, 1) := by decide +kernel
theorem dX9_addStream_71 : decode cX9_addStream 71 = .ok (.getfield 40, 3) := by decide +kernel
theorem dX9_addStream_74 : decode cX9_addStream 74 = .ok (.iload_n 1, 1) := by decide +kernel
theorem dX9_addStream_75 : decode cX9_addStream 75 = .ok (.iload_n 2, 1) := by decide +kernel
theorem dX9_addStream_76 : decode cX9_addStream 76 = .ok (.iload_n 3, 1) := by decide +kernel
theorem dX9_addStream_77 : decode cX9_addStream 77 = .ok (.invokevirtual 306, 3) := by decide +kernel
theorem dX9_addStream_80 : decode cX9_addStream 80 = .ok (.ireturn, 1) := by decide +kernel
theorem dX9_clearStreams_0 : decode cX9_clearStreams 0 = .ok (.aload_n 0, 1) := by decide +kernel
theorem dX9_clearStreams_1 : decode cX9_clearStreams 1 = .ok (.getfield 40, 3) := by decide +kernel
theorem dX9_clearStreams_4 : decode cX9_clearStreams 4 = .ok (.invokevirtual 309, 3) := by decide +kernel
theorem dX9_clearStreams_7 : decode cX9_clearStreams 7 = .ok (.ireturn, 1) := by decide +kernel
theorem dX9_heatNeeded_0 : decode cX9_heatNeeded 0 = .ok (.aload_n 0, 1) := by decide +kernel
theorem dX9_heatNeeded_1 : decode cX9_heatNeeded 1 = .ok (.iload_n 1, 1) := by decide +kernel
theorem dX9_heatNeeded_2 : decode cX9_heatNeeded 2 = .ok (.invokevirtual 310, 3) := by decide +kernel
theorem dX9_heatNeeded_5 : decode cX9_heatNeeded 5 = .ok (.aload_n 0, 1) := by decide +kernel
theorem dX9_heatNeeded_6 : decode cX9_heatNeeded 6 = .ok (.getfield 40, 3) := by decide +kernel
theorem dX9_heatNeeded_9 : decode cX9_heatNeeded 9 = .ok (.iload_n 1, 1) := by decide +kernel
theorem dX9_heatNeeded_10 : decode cX9_heatNeeded 10 = .ok (.invokevirtual 313, 3) := by decide +kernel
theorem dX9_heatNeeded_13 : decode cX9_heatNeeded 13 = .ok (.ireturn, 1) := by decide +kernel
theorem dX9_coldNeeded_0 : decode cX9_coldNeeded 0 = .ok (.aload_n 0, 1) := by decide +kernel
theorem dX9_coldNeeded_1 : decode cX9_coldNeeded 1 = .ok (.iload_n 1, 1) := by decide +kernel
theorem dX9_coldNeeded_2 : decode cX9_coldNeeded 2 = .ok (.invokevirtual 310, 3) := by decide +kernel
theorem dX9_coldNeeded_5 : decode cX9_coldNeeded 5 = .ok (.aload_n 0, 1) := by decide +kernel
theorem dX9_coldNeeded_6 : decode cX9_coldNeeded 6 = .ok (.getfield 40, 3) := by decide +kernel
theorem dX9_coldNeeded_9 : decode cX9_coldNeeded 9 = .ok (.iload_n 1, 1) := by decide +kernel
theorem dX9_coldNeeded_10 : decode cX9_coldNeeded 10 = .ok (.invokevirtual 316, 3) := by decide +kernel
theorem dX9_coldNeeded_13 : decode cX9_coldNeeded 13 = .ok (.ireturn, 1) := by decide +kernel
theorem dX9_pinch_0 : decode cX9_pinch 0 = .ok (.aload_n 0, 1) := by decide +kernel
theorem dX9_pinch_1 : decode cX9_pinch 1 = .ok (.iload_n 1, 1) := by decide +kernel
theorem dX9_pinch_2 : decode cX9_pinch 2 = .ok (.invokevirtual 310, 3) := by decide +kernel
theorem dX9_pinch_5 : decode cX9_pinch 5 = .ok (.aload_n 0, 1) := by decide +kernel
theorem dX9_pinch_6 : decode cX9_pinch 6 = .ok (.getfield 40, 3) := by decide +kernel
theorem dX9_pinch_9 : decode cX9_pinch 9 = .ok (.iload_n 1, 1) := by decide +kernel
theorem dX9_pinch_10 : decode cX9_pinch 10 = .ok (.invokevirtual 313, 3) := by decide +kernel
theorem dX9_pinch_13 : decode cX9_pinch 13 = .ok (.ifCond .ne 14, 3) := by decide +kernel
theorem dX9_pinch_16 : decode cX9_pinch 16 = .ok (.new 212, 3) := by decide +kernel
theorem dX9_pinch_19 : decode cX9_pinch 19 = .ok (.dup, 1) := by decide +kernel
theorem dX9_pinch_20 : decode cX9_pinch 20 = .ok (.ldc_w 319, 3) := by decide +kernel
theorem dX9_pinch_23 : decode cX9_pinch 23 = .ok (.invokespecial 216, 3) := by decide +kernel
theorem dX9_pinch_26 : decode cX9_pinch 26 = .ok (.athrow, 1) := by decide +kernel
theorem dX9_setGovernor_0 : decode cX9_setGovernor 0 = .ok (.iload_n 1, 1) := by decide +kernel
theorem dX9_setGovernor_1 : decode cX9_setGovernor 1 = .ok (.iconst 0, 1) := by decide +kernel
theorem dX9_setGovernor_2 : decode cX9_setGovernor 2 = .ok (.sipush 3000, 3) := by decide +kernel
theorem dX9_setGovernor_5 : decode cX9_setGovernor 5 = .ok (.invokestatic 72, 3) := by decide +kernel
theorem dX9_setGovernor_8 : decode cX9_setGovernor 8 = .ok (.ifCond .ne 35, 3) := by decide +kernel
theorem dX9_setGovernor_11 : decode cX9_setGovernor 11 = .ok (.iload_n 2, 1) := by decide +kernel
theorem dX9_setGovernor_12 : decode cX9_setGovernor 12 = .ok (.iconst 0, 1) := by decide +kernel
theorem dX9_setGovernor_13 : decode cX9_setGovernor 13 = .ok (.bipush 100, 2) := by decide +kernel
theorem dX9_setGovernor_15 : decode cX9_setGovernor 15 = .ok (.invokestatic 72, 3) := by decide +kernel
theorem dX9_setGovernor_18 : decode cX9_setGovernor 18 = .ok (.ifCond .ne 25, 3) := by decide +kernel
theorem dX9_setGovernor_21 : decode cX9_setGovernor 21 = .ok (.iload_n 3, 1) := by decide +kernel
theorem dX9_setGovernor_22 : decode cX9_setGovernor 22 = .ok (.iconst 0, 1) := by decide +kernel
theorem dX9_setGovernor_23 : decode cX9_setGovernor 23 = .ok (.bipush 50, 2) := by decide +kernel
theorem dX9_setGovernor_25 : decode cX9_setGovernor 25 = .ok (.invokestatic 72, 3) := by decide +kernel
theorem dX9_setGovernor_28 : decode cX9_setGovernor 28 = .ok (.ifCond .ne 15, 3) := by decide +kernel
theorem dX9_setGovernor_31 : decode cX9_setGovernor 31 = .ok (.iload 4, 2) := by decide +kernel
theorem dX9_setGovernor_33 : decode cX9_setGovernor 33 = .ok (.iconst 0, 1) := by decide +kernel
theorem dX9_setGovernor_34 : decode cX9_setGovernor 34 = .ok (.sipush 5000, 3) := by decide +kernel
theorem dX9_setGovernor_37 : decode cX9_setGovernor 37 = .ok (.invokestatic 72, 3) := by decide +kernel
theorem dX9_setGovernor_40 : decode cX9_setGovernor 40 = .ok (.ifCond .eq 13, 3) := by decide +kernel
theorem dX9_setGovernor_43 : decode cX9_setGovernor 43 = .ok (.new 76, 3) := by decide +kernel
theorem dX9_setGovernor_46 : decode cX9_setGovernor 46 = .ok (.dup, 1) := by decide +kernel
theorem dX9_setGovernor_47 : decode cX9_setGovernor 47 = .ok (.ldc 78, 2) := by decide +kernel
theorem dX9_setGovernor_49 : decode cX9_setGovernor 49 = .ok (.invokespecial 80, 3) := by decide +kernel
theorem dX9_setGovernor_52 : decode cX9_setGovernor 52 = .ok (.athrow, 1) := by decide +kernel
theorem dX9_setGovernor_53 : decode cX9_setGovernor 53 = .ok (.aload_n 0, 1) := by decide +kernel
theorem dX9_setGovernor_54 : decode cX9_setGovernor 54 = .ok (.getfield 47, 3) := by decide +kernel
theorem dX9_setGovernor_57 : decode cX9_setGovernor 57 = .ok (.getfield 324, 3) := by decide +kernel
theorem dX9_setGovernor_60 : decode cX9_setGovernor 60 = .ok (.istore 5, 2) := by decide +kernel
theorem dX9_setGovernor_62 : decode cX9_setGovernor 62 = .ok (.aload_n 0, 1) := by decide +kernel
theorem dX9_setGovernor_63 : decode cX9_setGovernor 63 = .ok (.getfield 47, 3) := by decide +kernel
theorem dX9_setGovernor_66 : decode cX9_setGovernor 66 = .ok (.iload_n 1, 1) := by decide +kernel
theorem dX9_setGovernor_67 : decode cX9_setGovernor 67 = .ok (.iload_n 2, 1) := by decide +kernel
theorem dX9_setGovernor_68 : decode cX9_setGovernor 68 = .ok (.iload_n 3, 1) := by decide +kernel
theorem dX9_setGovernor_69 : decode cX9_setGovernor 69 = .ok (.iload 4, 2) := by decide +kernel
theorem dX9_setGovernor_71 : decode cX9_setGovernor 71 = .ok (.invokevirtual 327, 3) := by decide +kernel
theorem dX9_setGovernor_74 : decode cX9_setGovernor 74 = .ok (.iload 5, 2) := by decide +kernel
theorem dX9_setGovernor_76 : decode cX9_setGovernor 76 = .ok (.ireturn, 1) := by decide +kernel
theorem dX9_setLoad_0 : decode cX9_setLoad 0 = .ok (.iload_n 1, 1) := by decide +kernel
theorem dX9_setLoad_1 : decode cX9_setLoad 1 = .ok (.iconst 0, 1) := by decide +kernel
theorem dX9_setLoad_2 : decode cX9_setLoad 2 = .ok (.bipush 100, 2) := by decide +kernel
theorem dX9_setLoad_4 : decode cX9_setLoad 4 = .ok (.invokestatic 72, 3) := by decide +kernel
theorem dX9_setLoad_7 : decode cX9_setLoad 7 = .ok (.ifCond .eq 13, 3) := by decide +kernel
theorem dX9_setLoad_10 : decode cX9_setLoad 10 = .ok (.new 76, 3) := by decide +kernel
theorem dX9_setLoad_13 : decode cX9_setLoad 13 = .ok (.dup, 1) := by decide +kernel
theorem dX9_setLoad_14 : decode cX9_setLoad 14 = .ok (.ldc 78, 2) := by decide +kernel
theorem dX9_setLoad_16 : decode cX9_setLoad 16 = .ok (.invokespecial 80, 3) := by decide +kernel
theorem dX9_setLoad_19 : decode cX9_setLoad 19 = .ok (.athrow, 1) := by decide +kernel
theorem dX9_setLoad_20 : decode cX9_setLoad 20 = .ok (.aload_n 0, 1) := by decide +kernel
theorem dX9_setLoad_21 : decode cX9_setLoad 21 = .ok (.getfield 47, 3) := by decide +kernel
theorem dX9_setLoad_24 : decode cX9_setLoad 24 = .ok (.getfield 331, 3) := by decide +kernel
theorem dX9_setLoad_27 : decode cX9_setLoad 27 = .ok (.istore_n 2, 1) := by decide +kernel
theorem dX9_setLoad_28 : decode cX9_setLoad 28 = .ok (.aload_n 0, 1) := by decide +kernel
theorem dX9_setLoad_29 : decode cX9_setLoad 29 = .ok (.getfield 47, 3) := by decide +kernel
theorem dX9_setLoad_32 : decode cX9_setLoad 32 = .ok (.iload_n 1, 1) := by decide +kernel
theorem dX9_setLoad_33 : decode cX9_setLoad 33 = .ok (.putfield 331, 3) := by decide +kernel
theorem dX9_setLoad_36 : decode cX9_setLoad 36 = .ok (.iload_n 2, 1) := by decide +kernel
theorem dX9_setLoad_37 : decode cX9_setLoad 37 = .ok (.ireturn, 1) := by decide +kernel
theorem dX9_runSeconds_0 : decode cX9_runSeconds 0 = .ok (.iload_n 1, 1) := by decide +kernel
theorem dX9_runSeconds_1 : decode cX9_runSeconds 1 = .ok (.iconst 1, 1) := by decide +kernel
theorem dX9_runSeconds_2 : decode cX9_runSeconds 2 = .ok (.sipush 500, 3) := by decide +kernel
theorem dX9_runSeconds_5 : decode cX9_runSeconds 5 = .ok (.invokestatic 72, 3) := by decide +kernel
theorem dX9_runSeconds_8 : decode cX9_runSeconds 8 = .ok (.ifCond .eq 13, 3) := by decide +kernel
theorem dX9_runSeconds_11 : decode cX9_runSeconds 11 = .ok (.new 76, 3) := by decide +kernel
theorem dX9_runSeconds_14 : decode cX9_runSeconds 14 = .ok (.dup, 1) := by decide +kernel
theorem dX9_runSeconds_15 : decode cX9_runSeconds 15 = .ok (.ldc 78, 2) := by decide +kernel
theorem dX9_runSeconds_17 : decode cX9_runSeconds 17 = .ok (.invokespecial 80, 3) := by decide +kernel
theorem dX9_runSeconds_20 : decode cX9_runSeconds 20 = .ok (.athrow, 1) := by decide +kernel
theorem dX9_runSeconds_21 : decode cX9_runSeconds 21 = .ok (.iconst 0, 1) := by decide +kernel
theorem dX9_runSeconds_22 : decode cX9_runSeconds 22 = .ok (.istore_n 2, 1) := by decide +kernel
theorem dX9_runSeconds_23 : decode cX9_runSeconds 23 = .ok (.iload_n 2, 1) := by decide +kernel
theorem dX9_runSeconds_24 : decode cX9_runSeconds 24 = .ok (.iload_n 1, 1) := by decide +kernel
theorem dX9_runSeconds_25 : decode cX9_runSeconds 25 = .ok (.if_icmp .ge 16, 3) := by decide +kernel
theorem dX9_runSeconds_28 : decode cX9_runSeconds 28 = .ok (.aload_n 0, 1) := by decide +kernel
theorem dX9_runSeconds_29 : decode cX9_runSeconds 29 = .ok (.getfield 47, 3) := by decide +kernel
theorem dX9_runSeconds_32 : decode cX9_runSeconds 32 = .ok (.invokevirtual 334, 3) := by decide +kernel
theorem dX9_runSeconds_35 : decode cX9_runSeconds 35 = .ok (.iinc 2 1, 3) := by decide +kernel
theorem dX9_runSeconds_38 : decode cX9_runSeconds 38 = .ok (.goto (-15), 3) := by decide +kernel
theorem dX9_runSeconds_41 : decode cX9_runSeconds 41 = .ok (.aload_n 0, 1) := by decide +kernel
theorem dX9_runSeconds_42 : decode cX9_runSeconds 42 = .ok (.getfield 47, 3) := by decide +kernel
theorem dX9_runSeconds_45 : decode cX9_runSeconds 45 = .ok (.getfield 337, 3) := by decide +kernel
theorem dX9_runSeconds_48 : decode cX9_runSeconds 48 = .ok (.ireturn, 1) := by decide +kernel
theorem dX9_getValve_0 : decode cX9_getValve 0 = .ok (.aload_n 0, 1) := by decide +kernel
theorem dX9_getValve_1 : decode cX9_getValve 1 = .ok (.getfield 47, 3) := by decide +kernel
theorem dX9_getValve_4 : decode cX9_getValve 4 = .ok (.getfield 340, 3) := by decide +kernel
theorem dX9_getValve_7 : decode cX9_getValve 7 = .ok (.ireturn, 1) := by decide +kernel
theorem dX9_countTurns_0 : decode cX9_countTurns 0 = .ok (.aload_n 0, 1) := by decide +kernel
theorem dX9_countTurns_1 : decode cX9_countTurns 1 = .ok (.getfield 47, 3) := by decide +kernel
theorem dX9_countTurns_4 : decode cX9_countTurns 4 = .ok (.getfield 343, 3) := by decide +kernel
theorem dX9_countTurns_7 : decode cX9_countTurns 7 = .ok (.ireturn, 1) := by decide +kernel
theorem dX9_isTripped_0 : decode cX9_isTripped 0 = .ok (.aload_n 0, 1) := by decide +kernel
theorem dX9_isTripped_1 : decode cX9_isTripped 1 = .ok (.getfield 47, 3) := by decide +kernel
theorem dX9_isTripped_4 : decode cX9_isTripped 4 = .ok (.getfield 346, 3) := by decide +kernel
theorem dX9_isTripped_7 : decode cX9_isTripped 7 = .ok (.ireturn, 1) := by decide +kernel
theorem dX9_resetTrip_0 : decode cX9_resetTrip 0 = .ok (.aload_n 0, 1) := by decide +kernel
theorem dX9_resetTrip_1 : decode cX9_resetTrip 1 = .ok (.getfield 47, 3) := by decide +kernel
theorem dX9_resetTrip_4 : decode cX9_resetTrip 4 = .ok (.getfield 337, 3) := by decide +kernel
theorem dX9_resetTrip_7 : decode cX9_resetTrip 7 = .ok (.aload_n 0, 1) := by decide +kernel
theorem dX9_resetTrip_8 : decode cX9_resetTrip 8 = .ok (.getfield 47, 3) := by decide +kernel
theorem dX9_resetTrip_11 : decode cX9_resetTrip 11 = .ok (.getfield 349, 3) := by decide +kernel
theorem dX9_resetTrip_14 : decode cX9_resetTrip 14 = .ok (.if_icmp .le 14, 3) := by decide +kernel
theorem dX9_resetTrip_28 : decode cX9_resetTrip 28 = .ok (.aload_n 0, 1) := by decide +kernel
theorem dX9_resetTrip_29 : decode cX9_resetTrip 29 = .ok (.getfield 47, 3) := by decide +kernel
theorem dX9_resetTrip_32 : decode cX9_resetTrip 32 = .ok (.getfield 346, 3) := by decide +kernel
theorem dX9_resetTrip_35 : decode cX9_resetTrip 35 = .ok (.istore_n 1, 1) := by decide +kernel
theorem dX9_resetTrip_36 : decode cX9_resetTrip 36 = .ok (.aload_n 0, 1) := by decide +kernel
theorem dX9_resetTrip_37 : decode cX9_resetTrip 37 = .ok (.getfield 47, 3) := by decide +kernel
theorem dX9_resetTrip_40 : decode cX9_resetTrip 40 = .ok (.iconst 0, 1) := by decide +kernel
theorem dX9_resetTrip_41 : decode cX9_resetTrip 41 = .ok (.putfield 346, 3) := by decide +kernel
theorem dX9_resetTrip_44 : decode cX9_resetTrip 44 = .ok (.iload_n 1, 1) := by decide +kernel
theorem dX9_resetTrip_45 : decode cX9_resetTrip 45 = .ok (.ireturn, 1) := by decide +kernel
theorem dX9_claim_0 : decode cX9_claim 0 = .ok (.aload_n 0, 1) := by decide +kernel
theorem dX9_claim_1 : decode cX9_claim 1 = .ok (.iload_n 1, 1) := by decide +kernel
theorem dX9_claim_2 : decode cX9_claim 2 = .ok (.iload_n 2, 1) := by decide +kernel
theorem dX9_claim_3 : decode cX9_claim 3 = .ok (.iload_n 3, 1) := by decide +kernel
theorem dX9_claim_4 : decode cX9_claim 4 = .ok (.invokevirtual 354, 3) := by decide +kernel
theorem dX9_claim_7 : decode cX9_claim 7 = .ok (.iload 4, 2) := by decide +kernel
theorem dX9_claim_9 : decode cX9_claim 9 = .ok (.iconst 0, 1) := by decide +kernel
theorem dX9_claim_10 : decode cX9_claim 10 = .ok (.ldc_w 357, 3) := by decide +kernel
theorem dX9_claim_13 : decode cX9_claim 13 = .ok (.invokestatic 72, 3) := by decide +kernel
theorem dX9_claim_16 : decode cX9_claim 16 = .ok (.ifCond .eq 13, 3) := by decide +kernel
theorem dX9_claim_19 : decode cX9_claim 19 = .ok (.new 76, 3) := by decide +kernel
theorem dX9_claim_22 : decode cX9_claim 22 = .ok (.dup, 1) := by decide +kernel
theorem dX9_claim_23 : decode cX9_claim 23 = .ok (.ldc 136, 2) := by decide +kernel
theorem dX9_claim_25 : decode cX9_claim 25 = .ok (.invokespecial 80, 3) := by decide +kernel
theorem dX9_claim_28 : decode cX9_claim 28 = .ok (.athrow, 1) := by decide +kernel
theorem dX9_claim_29 : decode cX9_claim 29 = .ok (.iload 4, 2) := by decide +kernel
theorem dX9_claim_31 : decode cX9_claim 31 = .ok (.iload_n 1, 1) := by decide +kernel
theorem dX9_claim_32 : decode cX9_claim 32 = .ok (.if_icmp .le 6, 3) := by decide +kernel
theorem dX9_claim_35 : decode cX9_claim 35 = .ok (.bipush 101, 2) := by decide +kernel
theorem dX9_claim_37 : decode cX9_claim 37 = .ok (.ireturn, 1) := by decide +kernel
theorem dX9_claim_38 : decode cX9_claim 38 = .ok (.iload_n 1, 1) := by decide +kernel
theorem dX9_claim_39 : decode cX9_claim 39 = .ok (.iload_n 2, 1) := by decide +kernel
theorem dX9_claim_40 : decode cX9_claim 40 = .ok (.i2l, 1) := by decide +kernel
theorem dX9_claim_41 : decode cX9_claim 41 = .ok (.iload_n 1, 1) := by decide +kernel
theorem dX9_claim_42 : decode cX9_claim 42 = .ok (.iload 4, 2) := by decide +kernel
theorem dX9_claim_44 : decode cX9_claim 44 = .ok (.isub, 1) := by decide +kernel
theorem dX9_claim_45 : decode cX9_claim 45 = .ok (.iload_n 3, 1) := by decide +kernel
theorem dX9_claim_46 : decode cX9_claim 46 = .ok (.i2l, 1) := by decide +kernel
theorem dX9_claim_47 : decode cX9_claim 47 = .ok (.invokestatic 358, 3) := by decide +kernel
theorem dX9_claim_50 : decode cX9_claim 50 = .ok (.ifCond .ge 8, 3) := by decide +kernel
theorem dX9_claim_53 : decode cX9_claim 53 = .ok (.bipush 100, 2) := by decide +kernel
theorem dX9_claim_55 : decode cX9_claim 55 = .ok (.goto 5, 3) := by decide +kernel
theorem dX9_claim_58 : decode cX9_claim 58 = .ok (.bipush 45, 2) := by decide +kernel
theorem dX9_claim_60 : decode cX9_claim 60 = .ok (.ireturn, 1) := by decide +kernel
theorem dX9_bestWork_0 : decode cX9_bestWork 0 = .ok (.aload_n 0, 1) := by decide +kernel
theorem dX9_bestWork_1 : decode cX9_bestWork 1 = .ok (.iload_n 1, 1) := by decide +kernel
theorem dX9_bestWork_2 : decode cX9_bestWork 2 = .ok (.iload_n 2, 1) := by decide +kernel
theorem dX9_bestWork_3 : decode cX9_bestWork 3 = .ok (.iload_n 3, 1) := by decide +kernel
theorem dX9_bestWork_4 : decode cX9_bestWork 4 = .ok (.invokevirtual 354, 3) := by decide +kernel
theorem dX9_bestWork_7 : decode cX9_bestWork 7 = .ok (.sipush 1000, 3) := by decide +kernel
theorem dX9_bestWork_10 : decode cX9_bestWork 10 = .ok (.iload_n 1, 1) := by decide +kernel
theorem dX9_bestWork_11 : decode cX9_bestWork 11 = .ok (.imul, 1) := by decide +kernel
theorem dX9_bestWork_12 : decode cX9_bestWork 12 = .ok (.iload_n 2, 1) := by decide +kernel
theorem dX9_bestWork_13 : decode cX9_bestWork 13 = .ok (.invokestatic 362, 3) := by decide +kernel
theorem dX9_bestWork_16 : decode cX9_bestWork 16 = .ok (.iload_n 3, 1) := by decide +kernel
theorem dX9_bestWork_17 : decode cX9_bestWork 17 = .ok (.imul, 1) := by decide +kernel
theorem dX9_bestWork_18 : decode cX9_bestWork 18 = .ok (.sipush 1000, 3) := by decide +kernel
theorem dX9_bestWork_21 : decode cX9_bestWork 21 = .ok (.invokestatic 362, 3) := by decide +kernel
theorem dX9_bestWork_24 : decode cX9_bestWork 24 = .ok (.istore 4, 2) := by decide +kernel
theorem dX9_bestWork_26 : decode cX9_bestWork 26 = .ok (.iload 4, 2) := by decide +kernel
theorem dX9_bestWork_28 : decode cX9_bestWork 28 = .ok (.iload_n 1, 1) := by decide +kernel
theorem dX9_bestWork_29 : decode cX9_bestWork 29 = .ok (.if_icmp .le 14, 3) := by decide +kernel
theorem dX9_bestWork_32 : decode cX9_bestWork 32 = .ok (.new 212, 3) := by decide +kernel
theorem dX9_bestWork_35 : decode cX9_bestWork 35 = .ok (.dup, 1) := by decide +kernel
theorem dX9_bestWork_36 : decode cX9_bestWork 36 = .ok (.ldc_w 365, 3) := by decide +kernel
theorem dX9_bestWork_39 : decode cX9_bestWork 39 = .ok (.invokespecial 216, 3) := by decide +kernel
theorem dX9_bestWork_42 : decode cX9_bestWork 42 = .ok (.athrow, 1) := by decide +kernel
theorem dX9_bestWork_43 : decode cX9_bestWork 43 = .ok (.iload_n 1, 1) := by decide +kernel
theorem dX9_bestWork_44 : decode cX9_bestWork 44 = .ok (.iload 4, 2) := by decide +kernel
theorem dX9_bestWork_46 : decode cX9_bestWork 46 = .ok (.isub, 1) := by decide +kernel
theorem dX9_bestWork_47 : decode cX9_bestWork 47 = .ok (.ireturn, 1) := by decide +kernel
theorem dX9_checksum_0 : decode cX9_checksum 0 = .ok (.ldc2_w 367, 3) := by decide +kernel
theorem dX9_checksum_3 : decode cX9_checksum 3 = .ok (.lstore_n 1, 1) := by decide +kernel
theorem dX9_checksum_4 : decode cX9_checksum 4 = .ok (.iconst 0, 1) := by decide +kernel
theorem dX9_checksum_5 : decode cX9_checksum 5 = .ok (.istore_n 3, 1) := by decide +kernel
theorem dX9_checksum_6 : decode cX9_checksum 6 = .ok (.iload_n 3, 1) := by decide +kernel
theorem dX9_checksum_7 : decode cX9_checksum 7 = .ok (.aload_n 0, 1) := by decide +kernel
theorem dX9_checksum_8 : decode cX9_checksum 8 = .ok (.getfield 10, 3) := by decide +kernel
theorem dX9_checksum_11 : decode cX9_checksum 11 = .ok (.getfield 369, 3) := by decide +kernel
theorem dX9_checksum_14 : decode cX9_checksum 14 = .ok (.if_icmp .ge 27, 3) := by decide +kernel
theorem dX9_checksum_41 : decode cX9_checksum 41 = .ok (.ldc2_w 370, 3) := by decide +kernel
theorem dX9_checksum_44 : decode cX9_checksum 44 = .ok (.lload_n 1, 1) := by decide +kernel
theorem dX9_checksum_45 : decode cX9_checksum 45 = .ok (.lmul, 1) := by decide +kernel
theorem dX9_checksum_46 : decode cX9_checksum 46 = .ok (.aload_n 0, 1) := by decide +kernel
theorem dX9_checksum_47 : decode cX9_checksum 47 = .ok (.getfield 54, 3) := by decide +kernel
theorem dX9_checksum_50 : decode cX9_checksum 50 = .ok (.getfield 139, 3) := by decide +kernel
theorem dX9_checksum_53 : decode cX9_checksum 53 = .ok (.ladd, 1) := by decide +kernel
theorem dX9_checksum_54 : decode cX9_checksum 54 = .ok (.lstore_n 1, 1) := by decide +kernel
theorem dX9_checksum_55 : decode cX9_checksum 55 = .ok (.ldc2_w 370, 3) := by decide +kernel
theorem dX9_checksum_58 : decode cX9_checksum 58 = .ok (.lload_n 1, 1) := by decide +kernel
theorem dX9_checksum_59 : decode cX9_checksum 59 = .ok (.lmul, 1) := by decide +kernel
theorem dX9_checksum_60 : decode cX9_checksum 60 = .ok (.aload_n 0, 1) := by decide +kernel
theorem dX9_checksum_61 : decode cX9_checksum 61 = .ok (.getfield 54, 3) := by decide +kernel
theorem dX9_checksum_64 : decode cX9_checksum 64 = .ok (.getfield 142, 3) := by decide +kernel
theorem dX9_checksum_67 : decode cX9_checksum 67 = .ok (.i2l, 1) := by decide +kernel
theorem dX9_checksum_68 : decode cX9_checksum 68 = .ok (.ladd, 1) := by decide +kernel
theorem dX9_checksum_69 : decode cX9_checksum 69 = .ok (.lstore_n 1, 1) := by decide +kernel
theorem dX9_checksum_70 : decode cX9_checksum 70 = .ok (.ldc2_w 370, 3) := by decide +kernel
theorem dX9_checksum_73 : decode cX9_checksum 73 = .ok (.lload_n 1, 1) := by decide +kernel
theorem dX9_checksum_74 : decode cX9_checksum 74 = .ok (.lmul, 1) := by decide +kernel
theorem dX9_checksum_75 : decode cX9_checksum 75 = .ok (.aload_n 0, 1) := by decide +kernel
theorem dX9_checksum_76 : decode cX9_checksum 76 = .ok (.getfield 33, 3) := by decide +kernel
theorem dX9_checksum_79 : decode cX9_checksum 79 = .ok (.getfield 58, 3) := by decide +kernel
theorem dX9_checksum_82 : decode cX9_checksum 82 = .ok (.invokevirtual 62, 3) := by decide +kernel
theorem dX9_checksum_85 : decode cX9_checksum 85 = .ok (.ladd, 1) := by decide +kernel
theorem dX9_checksum_86 : decode cX9_checksum 86 = .ok (.lstore_n 1, 1) := by decide +kernel
theorem dX9_checksum_87 : decode cX9_checksum 87 = .ok (.ldc2_w 370, 3) := by decide +kernel
theorem dX9_checksum_90 : decode cX9_checksum 90 = .ok (.lload_n 1, 1) := by decide +kernel
theorem dX9_checksum_91 : decode cX9_checksum 91 = .ok (.lmul, 1) := by decide +kernel
theorem dX9_checksum_92 : decode cX9_checksum 92 = .ok (.aload_n 0, 1) := by decide +kernel
theorem dX9_checksum_93 : decode cX9_checksum 93 = .ok (.getfield 47, 3) := by decide +kernel
theorem dX9_checksum_96 : decode cX9_checksum 96 = .ok (.getfield 337, 3) := by decide +kernel
theorem dX9_checksum_99 : decode cX9_checksum 99 = .ok (.i2l, 1) := by decide +kernel
theorem dX9_checksum_100 : decode cX9_checksum 100 = .ok (.ladd, 1) := by decide +kernel
theorem dX9_checksum_101 : decode cX9_checksum 101 = .ok (.lreturn, 1) := by decide +kernel
theorem dX9_makingShare_0 : decode cX9_makingShare 0 = .ok (.aload_n 0, 1) := by decide +kernel
theorem dX9_makingShare_1 : decode cX9_makingShare 1 = .ok (.getfield 54, 3) := by decide +kernel
theorem dX9_makingShare_4 : decode cX9_makingShare 4 = .ok (.getfield 372, 3) := by decide +kernel
theorem dX9_makingShare_7 : decode cX9_makingShare 7 = .ok (.ifCond .ne 14, 3) := by decide +kernel
theorem dX9_makingShare_10 : decode cX9_makingShare 10 = .ok (.new 375, 3) := by decide +kernel
theorem dX9_makingShare_13 : decode cX9_makingShare 13 = .ok (.dup, 1) := by decide +kernel
theorem dX9_makingShare_14 : decode cX9_makingShare 14 = .ok (.ldc_w 377, 3) := by decide +kernel
theorem dX9_makingShare_17 : decode cX9_makingShare 17 = .ok (.invokespecial 379, 3) := by decide +kernel
theorem dX9_makingShare_20 : decode cX9_makingShare 20 = .ok (.athrow, 1) := by decide +kernel
theorem dX9_meanTemperature_0 : decode cX9_meanTemperature 0 = .ok (.aload_n 0, 1) := by decide +kernel
theorem dX9_meanTemperature_1 : decode cX9_meanTemperature 1 = .ok (.getfield 10, 3) := by decide +kernel
theorem dX9_meanTemperature_4 : decode cX9_meanTemperature 4 = .ok (.getfield 369, 3) := by decide +kernel
theorem dX9_meanTemperature_7 : decode cX9_meanTemperature 7 = .ok (.ifCond .ne 14, 3) := by decide +kernel
theorem dX9_meanTemperature_10 : decode cX9_meanTemperature 10 = .ok (.new 375, 3) := by decide +kernel
theorem dX9_meanTemperature_13 : decode cX9_meanTemperature 13 = .ok (.dup, 1) := by decide +kernel
theorem dX9_meanTemperature_14 : decode cX9_meanTemperature 14 = .ok (.ldc_w 383, 3) := by decide +kernel
theorem dX9_meanTemperature_17 : decode cX9_meanTemperature 17 = .ok (.invokespecial 379, 3) := by decide +kernel
theorem dX9_meanTemperature_20 : decode cX9_meanTemperature 20 = .ok (.athrow, 1) := by decide +kernel
theorem dX9_isSound_0 : decode cX9_isSound 0 = .ok (.aload_n 0, 1) := by decide +kernel
theorem dX9_isSound_1 : decode cX9_isSound 1 = .ok (.getfield 10, 3) := by decide +kernel
theorem dX9_isSound_4 : decode cX9_isSound 4 = .ok (.invokevirtual 392, 3) := by decide +kernel
theorem dX9_isSound_7 : decode cX9_isSound 7 = .ok (.aload_n 0, 1) := by decide +kernel
theorem dX9_isSound_8 : decode cX9_isSound 8 = .ok (.getfield 33, 3) := by decide +kernel
theorem dX9_isSound_11 : decode cX9_isSound 11 = .ok (.getfield 58, 3) := by decide +kernel
theorem dX9_isSound_14 : decode cX9_isSound 14 = .ok (.invokevirtual 62, 3) := by decide +kernel
theorem dX9_isSound_17 : decode cX9_isSound 17 = .ok (.ladd, 1) := by decide +kernel
theorem dX9_isSound_18 : decode cX9_isSound 18 = .ok (.aload_n 0, 1) := by decide +kernel
theorem dX9_isSound_19 : decode cX9_isSound 19 = .ok (.getfield 54, 3) := by decide +kernel
theorem dX9_isSound_22 : decode cX9_isSound 22 = .ok (.getfield 139, 3) := by decide +kernel
theorem dX9_isSound_25 : decode cX9_isSound 25 = .ok (.ladd, 1) := by decide +kernel
theorem dX9_isSound_26 : decode cX9_isSound 26 = .ok (.aload_n 0, 1) := by decide +kernel
theorem dX9_isSound_27 : decode cX9_isSound 27 = .ok (.getfield 54, 3) := by decide +kernel
theorem dX9_isSound_30 : decode cX9_isSound 30 = .ok (.getfield 68, 3) := by decide +kernel
theorem dX9_isSound_33 : decode cX9_isSound 33 = .ok (.lcmp, 1) := by decide +kernel
theorem dX9_isSound_34 : decode cX9_isSound 34 = .ok (.ifCond .ne 60, 3) := by decide +kernel
theorem dX9_isSound_37 : decode cX9_isSound 37 = .ok (.aload_n 0, 1) := by decide +kernel
theorem dX9_isSound_38 : decode cX9_isSound 38 = .ok (.getfield 10, 3) := by decide +kernel
theorem dX9_isSound_41 : decode cX9_isSound 41 = .ok (.invokevirtual 395, 3) := by decide +kernel
theorem dX9_isSound_44 : decode cX9_isSound 44 = .ok (.ifCond .eq 50, 3) := by decide +kernel
theorem dX9_isSound_47 : decode cX9_isSound 47 = .ok (.aload_n 0, 1) := by decide +kernel
theorem dX9_isSound_48 : decode cX9_isSound 48 = .ok (.getfield 54, 3) := by decide +kernel
theorem dX9_isSound_51 : decode cX9_isSound 51 = .ok (.getfield 142, 3) := by decide +kernel
theorem dX9_isSound_54 : decode cX9_isSound 54 = .ok (.ifCond .lt 40, 3) := by decide +kernel
theorem dX9_isSound_57 : decode cX9_isSound 57 = .ok (.aload_n 0, 1) := by decide +kernel
theorem dX9_isSound_58 : decode cX9_isSound 58 = .ok (.getfield 26, 3) := by decide +kernel
theorem dX9_isSound_61 : decode cX9_isSound 61 = .ok (.getfield 398, 3) := by decide +kernel
theorem dX9_isSound_64 : decode cX9_isSound 64 = .ok (.ifCond .eq 26, 3) := by decide +kernel
theorem dX9_isSound_90 : decode cX9_isSound 90 = .ok (.iconst 1, 1) := by decide +kernel
theorem dX9_isSound_91 : decode cX9_isSound 91 = .ok (.goto 4, 3) := by decide +kernel
theorem dX9_isSound_95 : decode cX9_isSound 95 = .ok (.ireturn, 1) := by decide +kernel
theorem dX9_isOutside_0 : decode cX9_isOutside 0 = .ok (.iload_n 0, 1) := by decide +kernel
theorem dX9_isOutside_1 : decode cX9_isOutside 1 = .ok (.iload_n 1, 1) := by decide +kernel
theorem dX9_isOutside_2 : decode cX9_isOutside 2 = .ok (.if_icmp .lt 8, 3) := by decide +kernel
theorem dX9_isOutside_5 : decode cX9_isOutside 5 = .ok (.iload_n 0, 1) := by decide +kernel
theorem dX9_isOutside_6 : decode cX9_isOutside 6 = .ok (.iload_n 2, 1) := by decide +kernel
theorem dX9_isOutside_7 : decode cX9_isOutside 7 = .ok (.if_icmp .le 7, 3) := by decide +kernel
theorem dX9_isOutside_10 : decode cX9_isOutside 10 = .ok (.iconst 1, 1) := by decide +kernel
theorem dX9_isOutside_11 : decode cX9_isOutside 11 = .ok (.goto 4, 3) := by decide +kernel
theorem dX9_isOutside_14 : decode cX9_isOutside 14 = .ok (.iconst 0, 1) := by decide +kernel
theorem dX9_isOutside_15 : decode cX9_isOutside 15 = .ok (.ireturn, 1) := by decide +kernel
theorem dX9_requireBody_0 : decode cX9_requireBody 0 = .ok (.aload_n 0, 1) := by decide +kernel
theorem dX9_requireBody_1 : decode cX9_requireBody 1 = .ok (.getfield 10, 3) := by decide +kernel
theorem dX9_requireBody_4 : decode cX9_requireBody 4 = .ok (.iload_n 1, 1) := by decide +kernel
theorem dX9_requireBody_5 : decode cX9_requireBody 5 = .ok (.invokevirtual 404, 3) := by decide +kernel
theorem dX9_requireBody_8 : decode cX9_requireBody 8 = .ok (.ifCond .ne 14, 3) := by decide +kernel
theorem dX9_requireBody_11 : decode cX9_requireBody 11 = .ok (.new 407, 3) := by decide +kernel
theorem dX9_requireBody_14 : decode cX9_requireBody 14 = .ok (.dup, 1) := by decide +kernel
theorem dX9_requireBody_15 : decode cX9_requireBody 15 = .ok (.ldc_w 409, 3) := by decide +kernel
theorem dX9_requireBody_18 : decode cX9_requireBody 18 = .ok (.invokespecial 411, 3) := by decide +kernel
theorem dX9_requireBody_21 : decode cX9_requireBody 21 = .ok (.athrow, 1) := by decide +kernel
theorem dX9_requireTwoBodies_0 : decode cX9_requireTwoBodies 0 = .ok (.aload_n 0, 1) := by decide +kernel
theorem dX9_requireTwoBodies_1 : decode cX9_requireTwoBodies 1 = .ok (.iload_n 1, 1) := by decide +kernel
theorem dX9_requireTwoBodies_2 : decode cX9_requireTwoBodies 2 = .ok (.invokevirtual 96, 3) := by decide +kernel
theorem dX9_requireRows_0 : decode cX9_requireRows 0 = .ok (.aload_n 0, 1) := by decide +kernel
theorem dX9_requireRows_1 : decode cX9_requireRows 1 = .ok (.getfield 19, 3) := by decide +kernel
theorem dX9_requireRows_4 : decode cX9_requireRows 4 = .ok (.iload_n 1, 1) := by decide +kernel
theorem dX9_requireRows_5 : decode cX9_requireRows 5 = .ok (.invokevirtual 428, 3) := by decide +kernel
theorem dX9_requireRows_8 : decode cX9_requireRows 8 = .ok (.ifCond .ne 14, 3) := by decide +kernel
theorem dX9_requireRows_11 : decode cX9_requireRows 11 = .ok (.new 212, 3) := by decide +kernel
theorem dX9_requireRows_14 : decode cX9_requireRows 14 = .ok (.dup, 1) := by decide +kernel
theorem dX9_requireRows_15 : decode cX9_requireRows 15 = .ok (.ldc_w 431, 3) := by decide +kernel
theorem dX9_requireRows_18 : decode cX9_requireRows 18 = .ok (.invokespecial 216, 3) := by decide +kernel
theorem dX9_requireRows_21 : decode cX9_requireRows 21 = .ok (.athrow, 1) := by decide +kernel
theorem dX9_requireStateHeat_0 : decode cX9_requireStateHeat 0 = .ok (.iload_n 1, 1) := by decide +kernel
theorem dX9_requireStateHeat_1 : decode cX9_requireStateHeat 1 = .ok (.iconst 0, 1) := by decide +kernel
theorem dX9_requireStateHeat_2 : decode cX9_requireStateHeat 2 = .ok (.sipush 20000, 3) := by decide +kernel
theorem dX9_requireStateHeat_5 : decode cX9_requireStateHeat 5 = .ok (.invokestatic 72, 3) := by decide +kernel
theorem dX9_requireStateHeat_8 : decode cX9_requireStateHeat 8 = .ok (.ifCond .eq 14, 3) := by decide +kernel
theorem dX9_requireStateHeat_11 : decode cX9_requireStateHeat 11 = .ok (.new 76, 3) := by decide +kernel
theorem dX9_requireStateHeat_14 : decode cX9_requireStateHeat 14 = .ok (.dup, 1) := by decide +kernel
theorem dX9_requireStateHeat_15 : decode cX9_requireStateHeat 15 = .ok (.ldc_w 414, 3) := by decide +kernel
theorem dX9_requireStateHeat_18 : decode cX9_requireStateHeat 18 = .ok (.invokespecial 80, 3) := by decide +kernel
theorem dX9_requireStateHeat_21 : decode cX9_requireStateHeat 21 = .ok (.athrow, 1) := by decide +kernel
theorem dX9_requireStateHeat_22 : decode cX9_requireStateHeat 22 = .ok (.return_, 1) := by decide +kernel
theorem dX9_requireState_0 : decode cX9_requireState 0 = .ok (.aload_n 0, 1) := by decide +kernel
theorem dX9_requireState_1 : decode cX9_requireState 1 = .ok (.iload_n 2, 1) := by decide +kernel
theorem dX9_requireState_2 : decode cX9_requireState 2 = .ok (.invokevirtual 198, 3) := by decide +kernel
theorem dX9_requireState_5 : decode cX9_requireState 5 = .ok (.aload_n 0, 1) := by decide +kernel
theorem dX9_requireState_6 : decode cX9_requireState 6 = .ok (.iload_n 1, 1) := by decide +kernel
theorem dX9_requireState_7 : decode cX9_requireState 7 = .ok (.invokevirtual 156, 3) := by decide +kernel
theorem dX9_requireSolved_0 : decode cX9_requireSolved 0 = .ok (.aload_n 0, 1) := by decide +kernel
theorem dX9_requireSolved_1 : decode cX9_requireSolved 1 = .ok (.getfield 26, 3) := by decide +kernel
theorem dX9_requireSolved_4 : decode cX9_requireSolved 4 = .ok (.getfield 398, 3) := by decide +kernel
theorem dX9_requireSolved_7 : decode cX9_requireSolved 7 = .ok (.ifCond .ne 14, 3) := by decide +kernel
theorem dX9_requireSolved_10 : decode cX9_requireSolved 10 = .ok (.new 87, 3) := by decide +kernel
theorem dX9_requireSolved_13 : decode cX9_requireSolved 13 = .ok (.dup, 1) := by decide +kernel
theorem dX9_requireSolved_14 : decode cX9_requireSolved 14 = .ok (.ldc_w 433, 3) := by decide +kernel
theorem dX9_requireSolved_17 : decode cX9_requireSolved 17 = .ok (.invokespecial 91, 3) := by decide +kernel
theorem dX9_requireSolved_20 : decode cX9_requireSolved 20 = .ok (.athrow, 1) := by decide +kernel
theorem dX9_requireSolvedPart_0 : decode cX9_requireSolvedPart 0 = .ok (.aload_n 0, 1) := by decide +kernel
theorem dX9_requireSolvedPart_1 : decode cX9_requireSolvedPart 1 = .ok (.invokevirtual 241, 3) := by decide +kernel
theorem dX9_requireApproach_0 : decode cX9_requireApproach 0 = .ok (.iload_n 1, 1) := by decide +kernel
theorem dX9_requireApproach_1 : decode cX9_requireApproach 1 = .ok (.iconst 0, 1) := by decide +kernel
theorem dX9_requireApproach_2 : decode cX9_requireApproach 2 = .ok (.bipush 100, 2) := by decide +kernel
theorem dX9_requireApproach_4 : decode cX9_requireApproach 4 = .ok (.invokestatic 72, 3) := by decide +kernel
theorem dX9_requireApproach_7 : decode cX9_requireApproach 7 = .ok (.ifCond .eq 14, 3) := by decide +kernel
theorem dX9_requireApproach_10 : decode cX9_requireApproach 10 = .ok (.new 76, 3) := by decide +kernel
theorem dX9_requireApproach_13 : decode cX9_requireApproach 13 = .ok (.dup, 1) := by decide +kernel
theorem dX9_requireApproach_14 : decode cX9_requireApproach 14 = .ok (.ldc_w 438, 3) := by decide +kernel
theorem dX9_requireApproach_17 : decode cX9_requireApproach 17 = .ok (.invokespecial 80, 3) := by decide +kernel
theorem dX9_requireApproach_20 : decode cX9_requireApproach 20 = .ok (.athrow, 1) := by decide +kernel
theorem dX9_requireApproach_21 : decode cX9_requireApproach 21 = .ok (.return_, 1) := by decide +kernel
theorem dX9_requireClaim_0 : decode cX9_requireClaim 0 = .ok (.iload_n 1, 1) := by decide +kernel
theorem dX9_requireClaim_1 : decode cX9_requireClaim 1 = .ok (.iconst 1, 1) := by decide +kernel
theorem dX9_requireClaim_2 : decode cX9_requireClaim 2 = .ok (.ldc 138, 2) := by decide +kernel
theorem dX9_requireClaim_4 : decode cX9_requireClaim 4 = .ok (.invokestatic 72, 3) := by decide +kernel
theorem dX9_requireClaim_7 : decode cX9_requireClaim 7 = .ok (.ifCond .ne 32, 3) := by decide +kernel
theorem dX9_requireClaim_10 : decode cX9_requireClaim 10 = .ok (.iload_n 2, 1) := by decide +kernel
theorem dX9_requireClaim_11 : decode cX9_requireClaim 11 = .ok (.bipush 50, 2) := by decide +kernel
theorem dX9_requireClaim_13 : decode cX9_requireClaim 13 = .ok (.sipush 2000, 3) := by decide +kernel
theorem dX9_requireClaim_16 : decode cX9_requireClaim 16 = .ok (.invokestatic 72, 3) := by decide +kernel
theorem dX9_requireClaim_19 : decode cX9_requireClaim 19 = .ok (.ifCond .ne 20, 3) := by decide +kernel
theorem dX9_requireClaim_22 : decode cX9_requireClaim 22 = .ok (.iload_n 3, 1) := by decide +kernel
theorem dX9_requireClaim_23 : decode cX9_requireClaim 23 = .ok (.bipush 50, 2) := by decide +kernel
theorem dX9_requireClaim_25 : decode cX9_requireClaim 25 = .ok (.sipush 2000, 3) := by decide +kernel
theorem dX9_requireClaim_28 : decode cX9_requireClaim 28 = .ok (.invokestatic 72, 3) := by decide +kernel
theorem dX9_requireClaim_31 : decode cX9_requireClaim 31 = .ok (.ifCond .ne 8, 3) := by decide +kernel
theorem dX9_requireClaim_34 : decode cX9_requireClaim 34 = .ok (.iload_n 3, 1) := by decide +kernel
theorem dX9_requireClaim_35 : decode cX9_requireClaim 35 = .ok (.iload_n 2, 1) := by decide +kernel
theorem dX9_requireClaim_36 : decode cX9_requireClaim 36 = .ok (.if_icmp .lt 13, 3) := by decide +kernel
theorem dX9_requireClaim_39 : decode cX9_requireClaim 39 = .ok (.new 76, 3) := by decide +kernel
theorem dX9_requireClaim_42 : decode cX9_requireClaim 42 = .ok (.dup, 1) := by decide +kernel
theorem dX9_requireClaim_43 : decode cX9_requireClaim 43 = .ok (.ldc 78, 2) := by decide +kernel
theorem dX9_requireClaim_45 : decode cX9_requireClaim 45 = .ok (.invokespecial 80, 3) := by decide +kernel
theorem dX9_requireClaim_48 : decode cX9_requireClaim 48 = .ok (.athrow, 1) := by decide +kernel
theorem dX9_requireClaim_49 : decode cX9_requireClaim 49 = .ok (.return_, 1) := by decide +kernel
theorem dX9_dividedUp_0 : decode cX9_dividedUp 0 = .ok (.iload_n 1, 1) := by decide +kernel
theorem dX9_dividedUp_1 : decode cX9_dividedUp 1 = .ok (.iconst 1, 1) := by decide +kernel
theorem dX9_dividedUp_2 : decode cX9_dividedUp 2 = .ok (.if_icmp .ge 5, 3) := by decide +kernel
theorem dX9_dividedUp_7 : decode cX9_dividedUp 7 = .ok (.iload_n 0, 1) := by decide +kernel
theorem dX9_dividedUp_8 : decode cX9_dividedUp 8 = .ok (.iload_n 1, 1) := by decide +kernel
theorem dX9_dividedUp_9 : decode cX9_dividedUp 9 = .ok (.idiv, 1) := by decide +kernel
theorem dX9_dividedUp_10 : decode cX9_dividedUp 10 = .ok (.istore_n 2, 1) := by decide +kernel
theorem dX9_dividedUp_11 : decode cX9_dividedUp 11 = .ok (.iload_n 2, 1) := by decide +kernel
theorem dX9_dividedUp_12 : decode cX9_dividedUp 12 = .ok (.iload_n 1, 1) := by decide +kernel
theorem dX9_dividedUp_13 : decode cX9_dividedUp 13 = .ok (.imul, 1) := by decide +kernel
theorem dX9_dividedUp_14 : decode cX9_dividedUp 14 = .ok (.iload_n 0, 1) := by decide +kernel
theorem dX9_dividedUp_15 : decode cX9_dividedUp 15 = .ok (.if_icmp .ge 9, 3) := by decide +kernel
theorem dX9_dividedUp_18 : decode cX9_dividedUp 18 = .ok (.iload_n 2, 1) := by decide +kernel
theorem dX9_dividedUp_19 : decode cX9_dividedUp 19 = .ok (.iconst 1, 1) := by decide +kernel
theorem dX9_dividedUp_20 : decode cX9_dividedUp 20 = .ok (.iadd, 1) := by decide +kernel
theorem dX9_dividedUp_21 : decode cX9_dividedUp 21 = .ok (.goto 4, 3) := by decide +kernel
theorem dX9_dividedUp_24 : decode cX9_dividedUp 24 = .ok (.iload_n 2, 1) := by decide +kernel
theorem dX9_dividedUp_25 : decode cX9_dividedUp 25 = .ok (.ireturn, 1) := by decide +kernel
theorem dX9_dividedDown_0 : decode cX9_dividedDown 0 = .ok (.iload_n 1, 1) := by decide +kernel
theorem dX9_dividedDown_1 : decode cX9_dividedDown 1 = .ok (.iconst 1, 1) := by decide +kernel
theorem dX9_dividedDown_2 : decode cX9_dividedDown 2 = .ok (.if_icmp .ge 7, 3) := by decide +kernel
theorem dX9_dividedDown_9 : decode cX9_dividedDown 9 = .ok (.iload_n 0, 1) := by decide +kernel
theorem dX9_dividedDown_10 : decode cX9_dividedDown 10 = .ok (.iload_n 1, 1) := by decide +kernel
theorem dX9_dividedDown_11 : decode cX9_dividedDown 11 = .ok (.idiv, 1) := by decide +kernel
theorem dX9_dividedDown_12 : decode cX9_dividedDown 12 = .ok (.ireturn, 1) := by decide +kernel
theorem dX9_disorderMade_0 : decode cX9_disorderMade 0 = .ok (.lload_n 1, 1) := by decide +kernel
theorem dX9_disorderMade_1 : decode cX9_disorderMade 1 = .ok (.ldc2_w 440, 3) := by decide +kernel
theorem dX9_disorderMade_4 : decode cX9_disorderMade 4 = .ok (.invokestatic 442, 3) := by decide +kernel
theorem dX9_disorderMade_7 : decode cX9_disorderMade 7 = .ok (.l2i, 1) := by decide +kernel
theorem dX9_disorderMade_8 : decode cX9_disorderMade 8 = .ok (.istore 6, 2) := by decide +kernel
theorem dX9_disorderMade_10 : decode cX9_disorderMade 10 = .ok (.lload 4, 2) := by decide +kernel
theorem dX9_disorderMade_12 : decode cX9_disorderMade 12 = .ok (.ldc2_w 440, 3) := by decide +kernel
theorem dX9_disorderMade_15 : decode cX9_disorderMade 15 = .ok (.invokestatic 442, 3) := by decide +kernel
theorem dX9_disorderMade_18 : decode cX9_disorderMade 18 = .ok (.l2i, 1) := by decide +kernel
theorem dX9_disorderMade_19 : decode cX9_disorderMade 19 = .ok (.istore 7, 2) := by decide +kernel
theorem dX9_disorderMade_21 : decode cX9_disorderMade 21 = .ok (.sipush 1000, 3) := by decide +kernel
theorem dX9_disorderMade_24 : decode cX9_disorderMade 24 = .ok (.iload_n 3, 1) := by decide +kernel
theorem dX9_disorderMade_25 : decode cX9_disorderMade 25 = .ok (.imul, 1) := by decide +kernel
theorem dX9_disorderMade_26 : decode cX9_disorderMade 26 = .ok (.iload 7, 2) := by decide +kernel
theorem dX9_disorderMade_28 : decode cX9_disorderMade 28 = .ok (.invokestatic 446, 3) := by decide +kernel
theorem dX9_disorderMade_31 : decode cX9_disorderMade 31 = .ok (.sipush 1000, 3) := by decide +kernel
theorem dX9_disorderMade_34 : decode cX9_disorderMade 34 = .ok (.iload_n 0, 1) := by decide +kernel
theorem dX9_disorderMade_35 : decode cX9_disorderMade 35 = .ok (.imul, 1) := by decide +kernel
theorem dX9_disorderMade_36 : decode cX9_disorderMade 36 = .ok (.iload 6, 2) := by decide +kernel
theorem dX9_disorderMade_38 : decode cX9_disorderMade 38 = .ok (.invokestatic 362, 3) := by decide +kernel
theorem dX9_disorderMade_41 : decode cX9_disorderMade 41 = .ok (.isub, 1) := by decide +kernel
theorem dX9_disorderMade_42 : decode cX9_disorderMade 42 = .ok (.ireturn, 1) := by decide +kernel
theorem dX10_thrown_0 : decode cX10_thrown 0 = .ok (.aload_n 0, 1) := by decide +kernel
theorem dX10_thrown_1 : decode cX10_thrown 1 = .ok (.getfield 1, 3) := by decide +kernel
theorem dX10_thrown_4 : decode cX10_thrown 4 = .ok (.ireturn, 1) := by decide +kernel
theorem dX10_in_0 : decode cX10_in 0 = .ok (.lload_n 0, 1) := by decide +kernel
theorem dX10_in_1 : decode cX10_in 1 = .ok (.lload_n 2, 1) := by decide +kernel
theorem dX10_in_2 : decode cX10_in 2 = .ok (.lcmp, 1) := by decide +kernel
theorem dX10_in_3 : decode cX10_in 3 = .ok (.ifCond .lt 14, 3) := by decide +kernel
theorem dX10_in_6 : decode cX10_in 6 = .ok (.lload_n 0, 1) := by decide +kernel
theorem dX10_in_7 : decode cX10_in 7 = .ok (.lload 4, 2) := by decide +kernel
theorem dX10_in_9 : decode cX10_in 9 = .ok (.lcmp, 1) := by decide +kernel
theorem dX10_in_10 : decode cX10_in 10 = .ok (.ifCond .gt 7, 3) := by decide +kernel
theorem dX10_in_13 : decode cX10_in 13 = .ok (.iconst 1, 1) := by decide +kernel
theorem dX10_in_14 : decode cX10_in 14 = .ok (.goto 4, 3) := by decide +kernel
theorem dX10_in_17 : decode cX10_in 17 = .ok (.iconst 0, 1) := by decide +kernel
theorem dX10_in_18 : decode cX10_in 18 = .ok (.ireturn, 1) := by decide +kernel
theorem dX10_isOf_0 : decode cX10_isOf 0 = .ok (.iload_n 1, 1) := by decide +kernel
theorem dX10_isOf_1 : decode cX10_isOf 1 = .ok (.i2l, 1) := by decide +kernel
theorem dX10_isOf_2 : decode cX10_isOf 2 = .ok (.lconst 0, 1) := by decide +kernel
theorem dX10_isOf_3 : decode cX10_isOf 3 = .ok (.aload_n 0, 1) := by decide +kernel
theorem dX10_isOf_4 : decode cX10_isOf 4 = .ok (.invokeinterface 7 1, 5) := by decide +kernel
theorem dX10_isOf_9 : decode cX10_isOf 9 = .ok (.iconst 1, 1) := by decide +kernel
theorem dX10_isOf_10 : decode cX10_isOf 10 = .ok (.isub, 1) := by decide +kernel
theorem dX10_isOf_11 : decode cX10_isOf 11 = .ok (.i2l, 1) := by decide +kernel
theorem dX10_isOf_12 : decode cX10_isOf 12 = .ok (.invokestatic 13, 3) := by decide +kernel
theorem dX10_isOf_15 : decode cX10_isOf 15 = .ok (.ireturn, 1) := by decide +kernel
theorem dX10_fails_0 : decode cX10_fails 0 = .ok (.aload_n 0, 1) := by decide +kernel
theorem dX10_fails_1 : decode cX10_fails 1 = .ok (.getfield 1, 3) := by decide +kernel
theorem dX10_fails_4 : decode cX10_fails 4 = .ok (.ifCond .ne 12, 3) := by decide +kernel
theorem dX10_fails_7 : decode cX10_fails 7 = .ok (.iload_n 1, 1) := by decide +kernel
theorem dX10_fails_8 : decode cX10_fails 8 = .ok (.ifCond .eq 8, 3) := by decide +kernel
theorem dX10_fails_11 : decode cX10_fails 11 = .ok (.aload_n 0, 1) := by decide +kernel
theorem dX10_fails_12 : decode cX10_fails 12 = .ok (.iload_n 2, 1) := by decide +kernel
theorem dX10_fails_13 : decode cX10_fails 13 = .ok (.putfield 1, 3) := by decide +kernel
theorem dX10_fails_16 : decode cX10_fails 16 = .ok (.aload_n 0, 1) := by decide +kernel
theorem dX10_fails_17 : decode cX10_fails 17 = .ok (.getfield 1, 3) := by decide +kernel
theorem dX10_fails_20 : decode cX10_fails 20 = .ok (.ifCond .le 7, 3) := by decide +kernel
theorem dX10_fails_23 : decode cX10_fails 23 = .ok (.iconst 1, 1) := by decide +kernel
theorem dX10_fails_24 : decode cX10_fails 24 = .ok (.goto 4, 3) := by decide +kernel
theorem dX10_fails_27 : decode cX10_fails 27 = .ok (.iconst 0, 1) := by decide +kernel
theorem dX10_fails_28 : decode cX10_fails 28 = .ok (.ireturn, 1) := by decide +kernel
theorem dX10_begins_0 : decode cX10_begins 0 = .ok (.aload_n 0, 1) := by decide +kernel
theorem dX10_begins_1 : decode cX10_begins 1 = .ok (.iconst 0, 1) := by decide +kernel
theorem dX10_begins_2 : decode cX10_begins 2 = .ok (.putfield 1, 3) := by decide +kernel
theorem dX10_begins_5 : decode cX10_begins 5 = .ok (.return_, 1) := by decide +kernel
theorem dX10_init_0 : decode cX10_init 0 = .ok (.aload_n 0, 1) := by decide +kernel
theorem dX10_init_1 : decode cX10_init 1 = .ok (.invokespecial 17, 3) := by decide +kernel
theorem dX10_init_4 : decode cX10_init 4 = .ok (.aload_n 0, 1) := by decide +kernel
theorem dX10_init_5 : decode cX10_init 5 = .ok (.new 23, 3) := by decide +kernel
theorem dX10_init_8 : decode cX10_init 8 = .ok (.dup, 1) := by decide +kernel
theorem dX10_init_9 : decode cX10_init 9 = .ok (.invokespecial 25, 3) := by decide +kernel
theorem dX10_init_12 : decode cX10_init 12 = .ok (.putfield 26, 3) := by decide +kernel
theorem dX10_init_15 : decode cX10_init 15 = .ok (.aload_n 0, 1) := by decide +kernel
theorem dX10_init_16 : decode cX10_init 16 = .ok (.new 23, 3) := by decide +kernel
theorem dX10_init_19 : decode cX10_init 19 = .ok (.dup, 1) := by decide +kernel
theorem dX10_init_20 : decode cX10_init 20 = .ok (.invokespecial 25, 3) := by decide +kernel
theorem dX10_init_23 : decode cX10_init 23 = .ok (.putfield 30, 3) := by decide +kernel
theorem dX10_init_26 : decode cX10_init 26 = .ok (.aload_n 0, 1) := by decide +kernel
theorem dX10_init_27 : decode cX10_init 27 = .ok (.new 23, 3) := by decide +kernel
theorem dX10_init_30 : decode cX10_init 30 = .ok (.dup, 1) := by decide +kernel
theorem dX10_init_31 : decode cX10_init 31 = .ok (.invokespecial 25, 3) := by decide +kernel
theorem dX10_init_34 : decode cX10_init 34 = .ok (.putfield 33, 3) := by decide +kernel
theorem dX10_init_37 : decode cX10_init 37 = .ok (.aload_n 0, 1) := by decide +kernel
theorem dX10_init_38 : decode cX10_init 38 = .ok (.iconst 1, 1) := by decide +kernel
theorem dX10_init_39 : decode cX10_init 39 = .ok (.putfield 36, 3) := by decide +kernel
theorem dX10_init_42 : decode cX10_init 42 = .ok (.aload_n 0, 1) := by decide +kernel
theorem dX10_init_43 : decode cX10_init 43 = .ok (.bipush 10, 2) := by decide +kernel
theorem dX10_init_45 : decode cX10_init 45 = .ok (.putfield 39, 3) := by decide +kernel
theorem dX10_init_48 : decode cX10_init 48 = .ok (.aload_n 0, 1) := by decide +kernel
theorem dX10_init_49 : decode cX10_init 49 = .ok (.sipush 900, 3) := by decide +kernel
theorem dX10_init_52 : decode cX10_init 52 = .ok (.putfield 42, 3) := by decide +kernel
theorem dX10_init_55 : decode cX10_init 55 = .ok (.aload_n 0, 1) := by decide +kernel
theorem dX10_init_56 : decode cX10_init 56 = .ok (.new 23, 3) := by decide +kernel
theorem dX10_init_59 : decode cX10_init 59 = .ok (.dup, 1) := by decide +kernel
theorem dX10_init_60 : decode cX10_init 60 = .ok (.invokespecial 25, 3) := by decide +kernel
theorem dX10_init_63 : decode cX10_init 63 = .ok (.putfield 45, 3) := by decide +kernel
theorem dX10_init_66 : decode cX10_init 66 = .ok (.aload_n 0, 1) := by decide +kernel
theorem dX10_init_67 : decode cX10_init 67 = .ok (.new 23, 3) := by decide +kernel
theorem dX10_init_70 : decode cX10_init 70 = .ok (.dup, 1) := by decide +kernel
theorem dX10_init_71 : decode cX10_init 71 = .ok (.invokespecial 25, 3) := by decide +kernel
theorem dX10_init_74 : decode cX10_init 74 = .ok (.putfield 48, 3) := by decide +kernel
theorem dX10_init_77 : decode cX10_init 77 = .ok (.aload_n 0, 1) := by decide +kernel
theorem dX10_init_78 : decode cX10_init 78 = .ok (.new 23, 3) := by decide +kernel
theorem dX10_init_81 : decode cX10_init 81 = .ok (.dup, 1) := by decide +kernel
theorem dX10_init_82 : decode cX10_init 82 = .ok (.invokespecial 25, 3) := by decide +kernel
theorem dX10_init_85 : decode cX10_init 85 = .ok (.putfield 51, 3) := by decide +kernel
theorem dX10_init_88 : decode cX10_init 88 = .ok (.aload_n 0, 1) := by decide +kernel
theorem dX10_init_89 : decode cX10_init 89 = .ok (.sipush 1000, 3) := by decide +kernel
theorem dX10_init_92 : decode cX10_init 92 = .ok (.putfield 54, 3) := by decide +kernel
theorem dX10_init_95 : decode cX10_init 95 = .ok (.aload_n 0, 1) := by decide +kernel
theorem dX10_init_96 : decode cX10_init 96 = .ok (.bipush 50, 2) := by decide +kernel
theorem dX10_init_98 : decode cX10_init 98 = .ok (.putfield 57, 3) := by decide +kernel
theorem dX10_init_101 : decode cX10_init 101 = .ok (.aload_n 0, 1) := by decide +kernel
theorem dX10_init_102 : decode cX10_init 102 = .ok (.bipush 50, 2) := by decide +kernel
theorem dX10_init_104 : decode cX10_init 104 = .ok (.putfield 60, 3) := by decide +kernel
theorem dX10_init_107 : decode cX10_init 107 = .ok (.aload_n 0, 1) := by decide +kernel
theorem dX10_init_108 : decode cX10_init 108 = .ok (.sipush 1000, 3) := by decide +kernel
theorem dX10_init_111 : decode cX10_init 111 = .ok (.putfield 63, 3) := by decide +kernel
theorem dX10_init_114 : decode cX10_init 114 = .ok (.aload_n 0, 1) := by decide +kernel
theorem dX10_init_115 : decode cX10_init 115 = .ok (.bipush 10, 2) := by decide +kernel
theorem dX10_init_117 : decode cX10_init 117 = .ok (.putfield 66, 3) := by decide +kernel
theorem dX10_init_120 : decode cX10_init 120 = .ok (.aload_n 0, 1) := by decide +kernel
theorem dX10_init_121 : decode cX10_init 121 = .ok (.sipush 3000, 3) := by decide +kernel
theorem dX10_init_124 : decode cX10_init 124 = .ok (.putfield 69, 3) := by decide +kernel
theorem dX10_init_127 : decode cX10_init 127 = .ok (.return_, 1) := by decide +kernel
theorem dX10_disorder_0 : decode cX10_disorder 0 = .ok (.ldc2_w 72, 3) := by decide +kernel
theorem dX10_disorder_3 : decode cX10_disorder 3 = .ok (.iload_n 2, 1) := by decide +kernel
theorem dX10_disorder_4 : decode cX10_disorder 4 = .ok (.i2l, 1) := by decide +kernel
theorem dX10_disorder_5 : decode cX10_disorder 5 = .ok (.lmul, 1) := by decide +kernel
theorem dX10_disorder_6 : decode cX10_disorder 6 = .ok (.iload_n 3, 1) := by decide +kernel
theorem dX10_disorder_7 : decode cX10_disorder 7 = .ok (.i2l, 1) := by decide +kernel
theorem dX10_disorder_8 : decode cX10_disorder 8 = .ok (.ladd, 1) := by decide +kernel
theorem dX10_disorder_9 : decode cX10_disorder 9 = .ok (.lconst 1, 1) := by decide +kernel
theorem dX10_disorder_10 : decode cX10_disorder 10 = .ok (.lsub, 1) := by decide +kernel
theorem dX10_disorder_11 : decode cX10_disorder 11 = .ok (.iload_n 3, 1) := by decide +kernel
theorem dX10_disorder_12 : decode cX10_disorder 12 = .ok (.i2l, 1) := by decide +kernel
theorem dX10_disorder_13 : decode cX10_disorder 13 = .ok (.ldiv, 1) := by decide +kernel
theorem dX10_disorder_14 : decode cX10_disorder 14 = .ok (.lstore 4, 2) := by decide +kernel
theorem dX10_disorder_16 : decode cX10_disorder 16 = .ok (.ldc2_w 72, 3) := by decide +kernel
theorem dX10_disorder_19 : decode cX10_disorder 19 = .ok (.iload_n 0, 1) := by decide +kernel
theorem dX10_disorder_20 : decode cX10_disorder 20 = .ok (.i2l, 1) := by decide +kernel
theorem dX10_disorder_21 : decode cX10_disorder 21 = .ok (.lmul, 1) := by decide +kernel
theorem dX10_disorder_22 : decode cX10_disorder 22 = .ok (.iload_n 1, 1) := by decide +kernel
theorem dX10_disorder_23 : decode cX10_disorder 23 = .ok (.i2l, 1) := by decide +kernel
theorem dX10_disorder_24 : decode cX10_disorder 24 = .ok (.ldiv, 1) := by decide +kernel
theorem dX10_disorder_25 : decode cX10_disorder 25 = .ok (.lload 4, 2) := by decide +kernel
theorem dX10_disorder_27 : decode cX10_disorder 27 = .ok (.lsub, 1) := by decide +kernel
theorem dX10_disorder_28 : decode cX10_disorder 28 = .ok (.l2i, 1) := by decide +kernel
theorem dX10_disorder_29 : decode cX10_disorder 29 = .ok (.ireturn, 1) := by decide +kernel
theorem dX10_noBody_0 : decode cX10_noBody 0 = .ok (.aload_n 0, 1) := by decide +kernel
theorem dX10_noBody_1 : decode cX10_noBody 1 = .ok (.aload_n 0, 1) := by decide +kernel
theorem dX10_noBody_2 : decode cX10_noBody 2 = .ok (.getfield 26, 3) := by decide +kernel
theorem dX10_noBody_5 : decode cX10_noBody 5 = .ok (.iload_n 1, 1) := by decide +kernel
theorem dX10_noBody_6 : decode cX10_noBody 6 = .ok (.invokestatic 74, 3) := by decide +kernel
theorem dX10_noBody_9 : decode cX10_noBody 9 = .ok (.ifCond .ne 7, 3) := by decide +kernel
theorem dX10_noBody_12 : decode cX10_noBody 12 = .ok (.iconst 1, 1) := by decide +kernel
theorem dX10_noBody_13 : decode cX10_noBody 13 = .ok (.goto 4, 3) := by decide +kernel
theorem dX10_noBody_17 : decode cX10_noBody 17 = .ok (.iconst 1, 1) := by decide +kernel
theorem dX10_noBody_18 : decode cX10_noBody 18 = .ok (.invokevirtual 78, 3) := by decide +kernel
theorem dX10_noBody_21 : decode cX10_noBody 21 = .ok (.ireturn, 1) := by decide +kernel
theorem dX10_addBody_0 : decode cX10_addBody 0 = .ok (.aload_n 0, 1) := by decide +kernel
theorem dX10_addBody_1 : decode cX10_addBody 1 = .ok (.invokevirtual 82, 3) := by decide +kernel
theorem dX10_addBody_4 : decode cX10_addBody 4 = .ok (.aload_n 0, 1) := by decide +kernel
theorem dX10_addBody_5 : decode cX10_addBody 5 = .ok (.iload_n 1, 1) := by decide +kernel
theorem dX10_addBody_6 : decode cX10_addBody 6 = .ok (.i2l, 1) := by decide +kernel
theorem dX10_addBody_7 : decode cX10_addBody 7 = .ok (.ldc2_w 85, 3) := by decide +kernel
theorem dX10_addBody_10 : decode cX10_addBody 10 = .ok (.ldc2_w 87, 3) := by decide +kernel
theorem dX10_addBody_13 : decode cX10_addBody 13 = .ok (.invokestatic 13, 3) := by decide +kernel
theorem dX10_addBody_16 : decode cX10_addBody 16 = .ok (.ifCond .eq 15, 3) := by decide +kernel
theorem dX10_addBody_19 : decode cX10_addBody 19 = .ok (.iload_n 2, 1) := by decide +kernel
theorem dX10_addBody_20 : decode cX10_addBody 20 = .ok (.i2l, 1) := by decide +kernel
theorem dX10_addBody_21 : decode cX10_addBody 21 = .ok (.lconst 1, 1) := by decide +kernel
theorem dX10_addBody_22 : decode cX10_addBody 22 = .ok (.ldc2_w 72, 3) := by decide +kernel
theorem dX10_addBody_25 : decode cX10_addBody 25 = .ok (.invokestatic 13, 3) := by decide +kernel
theorem dX10_addBody_28 : decode cX10_addBody 28 = .ok (.ifCond .ne 7, 3) := by decide +kernel
theorem dX10_addBody_31 : decode cX10_addBody 31 = .ok (.iconst 1, 1) := by decide +kernel
theorem dX10_addBody_32 : decode cX10_addBody 32 = .ok (.goto 4, 3) := by decide +kernel
theorem dX10_addBody_35 : decode cX10_addBody 35 = .ok (.iconst 0, 1) := by decide +kernel
theorem dX10_addBody_36 : decode cX10_addBody 36 = .ok (.iconst 1, 1) := by decide +kernel
theorem dX10_addBody_37 : decode cX10_addBody 37 = .ok (.invokevirtual 78, 3) := by decide +kernel
theorem dX10_addBody_40 : decode cX10_addBody 40 = .ok (.ifCond .ne 30, 3) := by decide +kernel
theorem dX10_addBody_43 : decode cX10_addBody 43 = .ok (.aload_n 0, 1) := by decide +kernel
theorem dX10_addBody_44 : decode cX10_addBody 44 = .ok (.aload_n 0, 1) := by decide +kernel
theorem dX10_addBody_45 : decode cX10_addBody 45 = .ok (.getfield 26, 3) := by decide +kernel
theorem dX10_addBody_48 : decode cX10_addBody 48 = .ok (.invokeinterface 7 1, 5) := by decide +kernel
theorem dX10_addBody_53 : decode cX10_addBody 53 = .ok (.bipush 8, 2) := by decide +kernel
theorem dX10_addBody_55 : decode cX10_addBody 55 = .ok (.if_icmp .ne 7, 3) := by decide +kernel
theorem dX10_addBody_62 : decode cX10_addBody 62 = .ok (.iconst 0, 1) := by decide +kernel
theorem dX10_addBody_63 : decode cX10_addBody 63 = .ok (.iconst 2, 1) := by decide +kernel
theorem dX10_addBody_64 : decode cX10_addBody 64 = .ok (.invokevirtual 78, 3) := by decide +kernel
theorem dX10_addBody_67 : decode cX10_addBody 67 = .ok (.ifCond .eq 5, 3) := by decide +kernel
theorem dX10_addBody_70 : decode cX10_addBody 70 = .ok (.iconst (-1), 1) := by decide +kernel
theorem dX10_addBody_71 : decode cX10_addBody 71 = .ok (.ireturn, 1) := by decide +kernel
theorem dX10_addBody_72 : decode cX10_addBody 72 = .ok (.aload_n 0, 1) := by decide +kernel
theorem dX10_addBody_73 : decode cX10_addBody 73 = .ok (.getfield 26, 3) := by decide +kernel
theorem dX10_addBody_76 : decode cX10_addBody 76 = .ok (.iconst 2, 1) := by decide +kernel
theorem dX10_addBody_77 : decode cX10_addBody 77 = .ok (.newarray .int, 2) := by decide +kernel
theorem dX10_addBody_79 : decode cX10_addBody 79 = .ok (.dup, 1) := by decide +kernel
theorem dX10_addBody_80 : decode cX10_addBody 80 = .ok (.iconst 0, 1) := by decide +kernel
theorem dX10_addBody_81 : decode cX10_addBody 81 = .ok (.iload_n 2, 1) := by decide +kernel
theorem dX10_addBody_82 : decode cX10_addBody 82 = .ok (.iastore, 1) := by decide +kernel
theorem dX10_addBody_83 : decode cX10_addBody 83 = .ok (.dup, 1) := by decide +kernel
theorem dX10_addBody_84 : decode cX10_addBody 84 = .ok (.iconst 1, 1) := by decide +kernel
theorem dX10_addBody_85 : decode cX10_addBody 85 = .ok (.iload_n 2, 1) := by decide +kernel
theorem dX10_addBody_86 : decode cX10_addBody 86 = .ok (.iload_n 1, 1) := by decide +kernel
theorem dX10_addBody_87 : decode cX10_addBody 87 = .ok (.imul, 1) := by decide +kernel
theorem dX10_addBody_88 : decode cX10_addBody 88 = .ok (.iastore, 1) := by decide +kernel
theorem dX10_addBody_89 : decode cX10_addBody 89 = .ok (.invokeinterface 89 2, 5) := by decide +kernel
theorem dX10_addBody_94 : decode cX10_addBody 94 = .ok (.pop, 1) := by decide +kernel
theorem dX10_addBody_95 : decode cX10_addBody 95 = .ok (.aload_n 0, 1) := by decide +kernel
theorem dX10_addBody_96 : decode cX10_addBody 96 = .ok (.getfield 26, 3) := by decide +kernel
theorem dX10_addBody_99 : decode cX10_addBody 99 = .ok (.invokeinterface 7 1, 5) := by decide +kernel
theorem dX10_addBody_104 : decode cX10_addBody 104 = .ok (.iconst 1, 1) := by decide +kernel
theorem dX10_addBody_105 : decode cX10_addBody 105 = .ok (.isub, 1) := by decide +kernel
theorem dX10_addBody_106 : decode cX10_addBody 106 = .ok (.ireturn, 1) := by decide +kernel
theorem dX10_getTemperature_0 : decode cX10_getTemperature 0 = .ok (.aload_n 0, 1) := by decide +kernel
theorem dX10_getTemperature_1 : decode cX10_getTemperature 1 = .ok (.invokevirtual 82, 3) := by decide +kernel
theorem dX10_getTemperature_4 : decode cX10_getTemperature 4 = .ok (.aload_n 0, 1) := by decide +kernel
theorem dX10_getTemperature_5 : decode cX10_getTemperature 5 = .ok (.iload_n 1, 1) := by decide +kernel
theorem dX10_getTemperature_6 : decode cX10_getTemperature 6 = .ok (.invokevirtual 93, 3) := by decide +kernel
theorem dX10_getTemperature_9 : decode cX10_getTemperature 9 = .ok (.ifCond .eq 7, 3) := by decide +kernel
theorem dX10_getTemperature_12 : decode cX10_getTemperature 12 = .ok (.iconst (-1), 1) := by decide +kernel
theorem dX10_getTemperature_13 : decode cX10_getTemperature 13 = .ok (.goto 19, 3) := by decide +kernel
theorem dX10_getTemperature_32 : decode cX10_getTemperature 32 = .ok (.ireturn, 1) := by decide +kernel
theorem dX10_getEnergy_0 : decode cX10_getEnergy 0 = .ok (.aload_n 0, 1) := by decide +kernel
theorem dX10_getEnergy_1 : decode cX10_getEnergy 1 = .ok (.invokevirtual 82, 3) := by decide +kernel
theorem dX10_getEnergy_4 : decode cX10_getEnergy 4 = .ok (.aload_n 0, 1) := by decide +kernel
theorem dX10_getEnergy_5 : decode cX10_getEnergy 5 = .ok (.iload_n 1, 1) := by decide +kernel
theorem dX10_getEnergy_6 : decode cX10_getEnergy 6 = .ok (.invokevirtual 93, 3) := by decide +kernel
theorem dX10_getEnergy_9 : decode cX10_getEnergy 9 = .ok (.ifCond .eq 7, 3) := by decide +kernel
theorem dX10_getEnergy_12 : decode cX10_getEnergy 12 = .ok (.iconst (-1), 1) := by decide +kernel
theorem dX10_getEnergy_13 : decode cX10_getEnergy 13 = .ok (.goto 18, 3) := by decide +kernel
theorem dX10_getEnergy_31 : decode cX10_getEnergy 31 = .ok (.ireturn, 1) := by decide +kernel
theorem dX10_conduct_0 : decode cX10_conduct 0 = .ok (.aload_n 0, 1) := by decide +kernel
theorem dX10_conduct_1 : decode cX10_conduct 1 = .ok (.invokevirtual 82, 3) := by decide +kernel
theorem dX10_conduct_4 : decode cX10_conduct 4 = .ok (.aload_n 0, 1) := by decide +kernel
theorem dX10_conduct_5 : decode cX10_conduct 5 = .ok (.aload_n 0, 1) := by decide +kernel
theorem dX10_conduct_6 : decode cX10_conduct 6 = .ok (.getfield 26, 3) := by decide +kernel
theorem dX10_conduct_9 : decode cX10_conduct 9 = .ok (.iload_n 1, 1) := by decide +kernel
theorem dX10_conduct_10 : decode cX10_conduct 10 = .ok (.invokestatic 74, 3) := by decide +kernel
theorem dX10_conduct_13 : decode cX10_conduct 13 = .ok (.ifCond .eq 14, 3) := by decide +kernel
theorem dX10_conduct_27 : decode cX10_conduct 27 = .ok (.iconst 1, 1) := by decide +kernel
theorem dX10_conduct_28 : decode cX10_conduct 28 = .ok (.goto 4, 3) := by decide +kernel
theorem dX10_conduct_32 : decode cX10_conduct 32 = .ok (.iconst 1, 1) := by decide +kernel
theorem dX10_conduct_33 : decode cX10_conduct 33 = .ok (.invokevirtual 78, 3) := by decide +kernel
theorem dX10_conduct_36 : decode cX10_conduct 36 = .ok (.ifCond .ne 33, 3) := by decide +kernel
theorem dX10_conduct_69 : decode cX10_conduct 69 = .ok (.iconst (-1), 1) := by decide +kernel
theorem dX10_conduct_70 : decode cX10_conduct 70 = .ok (.ireturn, 1) := by decide +kernel
theorem dX10_runEngine_0 : decode cX10_runEngine 0 = .ok (.aload_n 0, 1) := by decide +kernel
theorem dX10_runEngine_1 : decode cX10_runEngine 1 = .ok (.invokevirtual 82, 3) := by decide +kernel
theorem dX10_runEngine_4 : decode cX10_runEngine 4 = .ok (.aload_n 0, 1) := by decide +kernel
theorem dX10_runEngine_5 : decode cX10_runEngine 5 = .ok (.aload_n 0, 1) := by decide +kernel
theorem dX10_runEngine_6 : decode cX10_runEngine 6 = .ok (.getfield 26, 3) := by decide +kernel
theorem dX10_runEngine_9 : decode cX10_runEngine 9 = .ok (.iload_n 1, 1) := by decide +kernel
theorem dX10_runEngine_10 : decode cX10_runEngine 10 = .ok (.invokestatic 74, 3) := by decide +kernel
theorem dX10_runEngine_13 : decode cX10_runEngine 13 = .ok (.ifCond .eq 14, 3) := by decide +kernel
theorem dX10_runEngine_27 : decode cX10_runEngine 27 = .ok (.iconst 1, 1) := by decide +kernel
theorem dX10_runEngine_28 : decode cX10_runEngine 28 = .ok (.goto 4, 3) := by decide +kernel
theorem dX10_runEngine_32 : decode cX10_runEngine 32 = .ok (.iconst 1, 1) := by decide +kernel
theorem dX10_runEngine_33 : decode cX10_runEngine 33 = .ok (.invokevirtual 78, 3) := by decide +kernel
theorem dX10_runEngine_36 : decode cX10_runEngine 36 = .ok (.ifCond .ne 45, 3) := by decide +kernel
theorem dX10_runEngine_81 : decode cX10_runEngine 81 = .ok (.iconst (-1), 1) := by decide +kernel
theorem dX10_runEngine_82 : decode cX10_runEngine 82 = .ok (.ireturn, 1) := by decide +kernel
theorem dX10_runPump_0 : decode cX10_runPump 0 = .ok (.aload_n 0, 1) := by decide +kernel
theorem dX10_runPump_1 : decode cX10_runPump 1 = .ok (.invokevirtual 82, 3) := by decide +kernel
theorem dX10_runPump_4 : decode cX10_runPump 4 = .ok (.aload_n 0, 1) := by decide +kernel
theorem dX10_runPump_5 : decode cX10_runPump 5 = .ok (.aload_n 0, 1) := by decide +kernel
theorem dX10_runPump_6 : decode cX10_runPump 6 = .ok (.getfield 26, 3) := by decide +kernel
theorem dX10_runPump_9 : decode cX10_runPump 9 = .ok (.iload_n 1, 1) := by decide +kernel
theorem dX10_runPump_10 : decode cX10_runPump 10 = .ok (.invokestatic 74, 3) := by decide +kernel
theorem dX10_runPump_13 : decode cX10_runPump 13 = .ok (.ifCond .eq 14, 3) := by decide +kernel
theorem dX10_runPump_27 : decode cX10_runPump 27 = .ok (.iconst 1, 1) := by decide +kernel
theorem dX10_runPump_28 : decode cX10_runPump 28 = .ok (.goto 4, 3) := by decide +kernel
theorem dX10_runPump_32 : decode cX10_runPump 32 = .ok (.iconst 1, 1) := by decide +kernel
theorem dX10_runPump_33 : decode cX10_runPump 33 = .ok (.invokevirtual 78, 3) := by decide +kernel
theorem dX10_runPump_36 : decode cX10_runPump 36 = .ok (.ifCond .ne 46, 3) := by decide +kernel
theorem dX10_runPump_82 : decode cX10_runPump 82 = .ok (.iconst (-1), 1) := by decide +kernel
theorem dX10_runPump_83 : decode cX10_runPump 83 = .ok (.ireturn, 1) := by decide +kernel
theorem dX10_getWork_0 : decode cX10_getWork 0 = .ok (.aload_n 0, 1) := by decide +kernel
theorem dX10_getWork_1 : decode cX10_getWork 1 = .ok (.invokevirtual 82, 3) := by decide +kernel
theorem dX10_getWork_4 : decode cX10_getWork 4 = .ok (.aload_n 0, 1) := by decide +kernel
theorem dX10_getWork_5 : decode cX10_getWork 5 = .ok (.getfield 136, 3) := by decide +kernel
theorem dX10_getWork_8 : decode cX10_getWork 8 = .ok (.ireturn, 1) := by decide +kernel
theorem dX10_getMade_0 : decode cX10_getMade 0 = .ok (.aload_n 0, 1) := by decide +kernel
theorem dX10_getMade_1 : decode cX10_getMade 1 = .ok (.invokevirtual 82, 3) := by decide +kernel
theorem dX10_getMade_4 : decode cX10_getMade 4 = .ok (.aload_n 0, 1) := by decide +kernel
theorem dX10_getMade_5 : decode cX10_getMade 5 = .ok (.getfield 107, 3) := by decide +kernel
theorem dX10_getMade_8 : decode cX10_getMade 8 = .ok (.ireturn, 1) := by decide +kernel
theorem dX10_addRow_0 : decode cX10_addRow 0 = .ok (.aload_n 0, 1) := by decide +kernel
theorem dX10_addRow_1 : decode cX10_addRow 1 = .ok (.invokevirtual 82, 3) := by decide +kernel
theorem dX10_addRow_4 : decode cX10_addRow 4 = .ok (.aload_n 0, 1) := by decide +kernel
theorem dX10_addRow_5 : decode cX10_addRow 5 = .ok (.iload_n 1, 1) := by decide +kernel
theorem dX10_addRow_6 : decode cX10_addRow 6 = .ok (.i2l, 1) := by decide +kernel
theorem dX10_addRow_7 : decode cX10_addRow 7 = .ok (.lconst 1, 1) := by decide +kernel
theorem dX10_addRow_8 : decode cX10_addRow 8 = .ok (.ldc2_w 72, 3) := by decide +kernel
theorem dX10_addRow_11 : decode cX10_addRow 11 = .ok (.invokestatic 13, 3) := by decide +kernel
theorem dX10_addRow_14 : decode cX10_addRow 14 = .ok (.ifCond .eq 42, 3) := by decide +kernel
theorem dX10_addRow_17 : decode cX10_addRow 17 = .ok (.iload_n 2, 1) := by decide +kernel
theorem dX10_addRow_18 : decode cX10_addRow 18 = .ok (.i2l, 1) := by decide +kernel
theorem dX10_addRow_19 : decode cX10_addRow 19 = .ok (.ldc2_w 85, 3) := by decide +kernel
theorem dX10_addRow_22 : decode cX10_addRow 22 = .ok (.ldc2_w 142, 3) := by decide +kernel
theorem dX10_addRow_25 : decode cX10_addRow 25 = .ok (.invokestatic 13, 3) := by decide +kernel
theorem dX10_addRow_28 : decode cX10_addRow 28 = .ok (.ifCond .eq 28, 3) := by decide +kernel
theorem dX10_addRow_31 : decode cX10_addRow 31 = .ok (.iload_n 3, 1) := by decide +kernel
theorem dX10_addRow_32 : decode cX10_addRow 32 = .ok (.i2l, 1) := by decide +kernel
theorem dX10_addRow_33 : decode cX10_addRow 33 = .ok (.lconst 0, 1) := by decide +kernel
theorem dX10_addRow_34 : decode cX10_addRow 34 = .ok (.ldc2_w 144, 3) := by decide +kernel
theorem dX10_addRow_37 : decode cX10_addRow 37 = .ok (.invokestatic 13, 3) := by decide +kernel
theorem dX10_addRow_40 : decode cX10_addRow 40 = .ok (.ifCond .eq 16, 3) := by decide +kernel
theorem dX10_addRow_43 : decode cX10_addRow 43 = .ok (.iload 4, 2) := by decide +kernel
theorem dX10_addRow_45 : decode cX10_addRow 45 = .ok (.i2l, 1) := by decide +kernel
theorem dX10_addRow_46 : decode cX10_addRow 46 = .ok (.lconst 0, 1) := by decide +kernel
theorem dX10_addRow_47 : decode cX10_addRow 47 = .ok (.ldc2_w 144, 3) := by decide +kernel
theorem dX10_addRow_50 : decode cX10_addRow 50 = .ok (.invokestatic 13, 3) := by decide +kernel
theorem dX10_addRow_53 : decode cX10_addRow 53 = .ok (.ifCond .ne 7, 3) := by decide +kernel
theorem dX10_addRow_56 : decode cX10_addRow 56 = .ok (.iconst 1, 1) := by decide +kernel
theorem dX10_addRow_57 : decode cX10_addRow 57 = .ok (.goto 4, 3) := by decide +kernel
theorem dX10_addRow_60 : decode cX10_addRow 60 = .ok (.iconst 0, 1) := by decide +kernel
theorem dX10_addRow_61 : decode cX10_addRow 61 = .ok (.iconst 1, 1) := by decide +kernel
theorem dX10_addRow_62 : decode cX10_addRow 62 = .ok (.invokevirtual 78, 3) := by decide +kernel
theorem dX10_addRow_65 : decode cX10_addRow 65 = .ok (.ifCond .eq 5, 3) := by decide +kernel
theorem dX10_addRow_68 : decode cX10_addRow 68 = .ok (.iconst (-1), 1) := by decide +kernel
theorem dX10_addRow_69 : decode cX10_addRow 69 = .ok (.ireturn, 1) := by decide +kernel
theorem dX10_addRow_70 : decode cX10_addRow 70 = .ok (.iload 4, 2) := by decide +kernel
theorem dX10_addRow_72 : decode cX10_addRow 72 = .ok (.iload_n 3, 1) := by decide +kernel
theorem dX10_addRow_73 : decode cX10_addRow 73 = .ok (.if_icmp .le 7, 3) := by decide +kernel
theorem dX10_addRow_76 : decode cX10_addRow 76 = .ok (.iconst 1, 1) := by decide +kernel
theorem dX10_addRow_77 : decode cX10_addRow 77 = .ok (.goto 4, 3) := by decide +kernel
theorem dX10_addRow_80 : decode cX10_addRow 80 = .ok (.iconst 0, 1) := by decide +kernel
theorem dX10_addRow_81 : decode cX10_addRow 81 = .ok (.istore 5, 2) := by decide +kernel
theorem dX10_addRow_83 : decode cX10_addRow 83 = .ok (.aload_n 0, 1) := by decide +kernel
theorem dX10_addRow_84 : decode cX10_addRow 84 = .ok (.getfield 30, 3) := by decide +kernel
theorem dX10_addRow_87 : decode cX10_addRow 87 = .ok (.invokeinterface 146 1, 5) := by decide +kernel
theorem dX10_addRow_92 : decode cX10_addRow 92 = .ok (.ifCond .ne 64, 3) := by decide +kernel
theorem dX10_addRow_156 : decode cX10_addRow 156 = .ok (.aload_n 0, 1) := by decide +kernel
theorem dX10_addRow_157 : decode cX10_addRow 157 = .ok (.iload 5, 2) := by decide +kernel
theorem dX10_addRow_159 : decode cX10_addRow 159 = .ok (.ifCond .ne 7, 3) := by decide +kernel
theorem dX10_addRow_162 : decode cX10_addRow 162 = .ok (.iconst 1, 1) := by decide +kernel
theorem dX10_addRow_163 : decode cX10_addRow 163 = .ok (.goto 4, 3) := by decide +kernel
theorem dX10_addRow_166 : decode cX10_addRow 166 = .ok (.iconst 0, 1) := by decide +kernel
theorem dX10_addRow_167 : decode cX10_addRow 167 = .ok (.iconst 2, 1) := by decide +kernel
theorem dX10_addRow_168 : decode cX10_addRow 168 = .ok (.invokevirtual 78, 3) := by decide +kernel
theorem dX10_addRow_171 : decode cX10_addRow 171 = .ok (.ifCond .ne 30, 3) := by decide +kernel
theorem dX10_addRow_174 : decode cX10_addRow 174 = .ok (.aload_n 0, 1) := by decide +kernel
theorem dX10_addRow_175 : decode cX10_addRow 175 = .ok (.aload_n 0, 1) := by decide +kernel
theorem dX10_addRow_176 : decode cX10_addRow 176 = .ok (.getfield 30, 3) := by decide +kernel
theorem dX10_addRow_179 : decode cX10_addRow 179 = .ok (.invokeinterface 7 1, 5) := by decide +kernel
theorem dX10_addRow_184 : decode cX10_addRow 184 = .ok (.bipush 8, 2) := by decide +kernel
theorem dX10_addRow_186 : decode cX10_addRow 186 = .ok (.if_icmp .ne 7, 3) := by decide +kernel
theorem dX10_addRow_193 : decode cX10_addRow 193 = .ok (.iconst 0, 1) := by decide +kernel
theorem dX10_addRow_194 : decode cX10_addRow 194 = .ok (.iconst 3, 1) := by decide +kernel
theorem dX10_addRow_195 : decode cX10_addRow 195 = .ok (.invokevirtual 78, 3) := by decide +kernel
theorem dX10_addRow_198 : decode cX10_addRow 198 = .ok (.ifCond .eq 5, 3) := by decide +kernel
theorem dX10_addRow_201 : decode cX10_addRow 201 = .ok (.iconst (-1), 1) := by decide +kernel
theorem dX10_addRow_202 : decode cX10_addRow 202 = .ok (.ireturn, 1) := by decide +kernel
theorem dX10_addRow_203 : decode cX10_addRow 203 = .ok (.aload_n 0, 1) := by decide +kernel
theorem dX10_addRow_204 : decode cX10_addRow 204 = .ok (.getfield 30, 3) := by decide +kernel
theorem dX10_addRow_207 : decode cX10_addRow 207 = .ok (.iconst 4, 1) := by decide +kernel
theorem dX10_addRow_208 : decode cX10_addRow 208 = .ok (.newarray .int, 2) := by decide +kernel
theorem dX10_addRow_210 : decode cX10_addRow 210 = .ok (.dup, 1) := by decide +kernel
theorem dX10_addRow_211 : decode cX10_addRow 211 = .ok (.iconst 0, 1) := by decide +kernel
theorem dX10_addRow_212 : decode cX10_addRow 212 = .ok (.iload_n 1, 1) := by decide +kernel
theorem dX10_addRow_213 : decode cX10_addRow 213 = .ok (.iastore, 1) := by decide +kernel
theorem dX10_addRow_214 : decode cX10_addRow 214 = .ok (.dup, 1) := by decide +kernel
theorem dX10_addRow_215 : decode cX10_addRow 215 = .ok (.iconst 1, 1) := by decide +kernel
theorem dX10_addRow_216 : decode cX10_addRow 216 = .ok (.iload_n 2, 1) := by decide +kernel
theorem dX10_addRow_217 : decode cX10_addRow 217 = .ok (.iastore, 1) := by decide +kernel
theorem dX10_addRow_218 : decode cX10_addRow 218 = .ok (.dup, 1) := by decide +kernel
theorem dX10_addRow_219 : decode cX10_addRow 219 = .ok (.iconst 2, 1) := by decide +kernel
theorem dX10_addRow_220 : decode cX10_addRow 220 = .ok (.iload_n 3, 1) := by decide +kernel
theorem dX10_addRow_221 : decode cX10_addRow 221 = .ok (.iastore, 1) := by decide +kernel
theorem dX10_addRow_222 : decode cX10_addRow 222 = .ok (.dup, 1) := by decide +kernel
theorem dX10_addRow_223 : decode cX10_addRow 223 = .ok (.iconst 3, 1) := by decide +kernel
theorem dX10_addRow_224 : decode cX10_addRow 224 = .ok (.iload 4, 2) := by decide +kernel
theorem dX10_addRow_226 : decode cX10_addRow 226 = .ok (.iastore, 1) := by decide +kernel
theorem dX10_addRow_227 : decode cX10_addRow 227 = .ok (.invokeinterface 89 2, 5) := by decide +kernel
theorem dX10_addRow_232 : decode cX10_addRow 232 = .ok (.pop, 1) := by decide +kernel
theorem dX10_addRow_233 : decode cX10_addRow 233 = .ok (.aload_n 0, 1) := by decide +kernel
theorem dX10_addRow_234 : decode cX10_addRow 234 = .ok (.getfield 30, 3) := by decide +kernel
theorem dX10_addRow_237 : decode cX10_addRow 237 = .ok (.invokeinterface 7 1, 5) := by decide +kernel
theorem dX10_addRow_242 : decode cX10_addRow 242 = .ok (.ireturn, 1) := by decide +kernel
theorem dX10_isIn_0 : decode cX10_isIn 0 = .ok (.aload_n 0, 1) := by decide +kernel
theorem dX10_isIn_1 : decode cX10_isIn 1 = .ok (.getfield 30, 3) := by decide +kernel
theorem dX10_isIn_4 : decode cX10_isIn 4 = .ok (.invokeinterface 146 1, 5) := by decide +kernel
theorem dX10_isIn_9 : decode cX10_isIn 9 = .ok (.ifCond .ne 57, 3) := by decide +kernel
theorem dX10_isIn_66 : decode cX10_isIn 66 = .ok (.iconst 0, 1) := by decide +kernel
theorem dX10_isIn_67 : decode cX10_isIn 67 = .ok (.ireturn, 1) := by decide +kernel
theorem dX10_rowed_0 : decode cX10_rowed 0 = .ok (.aload_n 0, 1) := by decide +kernel
theorem dX10_rowed_1 : decode cX10_rowed 1 = .ok (.aload_n 0, 1) := by decide +kernel
theorem dX10_rowed_2 : decode cX10_rowed 2 = .ok (.iload_n 1, 1) := by decide +kernel
theorem dX10_rowed_3 : decode cX10_rowed 3 = .ok (.invokevirtual 150, 3) := by decide +kernel
theorem dX10_rowed_6 : decode cX10_rowed 6 = .ok (.ifCond .ne 7, 3) := by decide +kernel
theorem dX10_rowed_9 : decode cX10_rowed 9 = .ok (.iconst 1, 1) := by decide +kernel
theorem dX10_rowed_10 : decode cX10_rowed 10 = .ok (.goto 4, 3) := by decide +kernel
theorem dX10_rowed_14 : decode cX10_rowed 14 = .ok (.iconst 1, 1) := by decide +kernel
theorem dX10_rowed_15 : decode cX10_rowed 15 = .ok (.invokevirtual 78, 3) := by decide +kernel
theorem dX10_rowed_18 : decode cX10_rowed 18 = .ok (.ifCond .eq 7, 3) := by decide +kernel
theorem dX10_rowed_21 : decode cX10_rowed 21 = .ok (.iconst (-1), 1) := by decide +kernel
theorem dX10_rowed_22 : decode cX10_rowed 22 = .ok (.goto 9, 3) := by decide +kernel
theorem dX10_rowed_31 : decode cX10_rowed 31 = .ok (.ireturn, 1) := by decide +kernel
theorem dX10_getBoiling_0 : decode cX10_getBoiling 0 = .ok (.aload_n 0, 1) := by decide +kernel
theorem dX10_getBoiling_1 : decode cX10_getBoiling 1 = .ok (.invokevirtual 82, 3) := by decide +kernel
theorem dX10_getBoiling_4 : decode cX10_getBoiling 4 = .ok (.aload_n 0, 1) := by decide +kernel
theorem dX10_getBoiling_5 : decode cX10_getBoiling 5 = .ok (.iload_n 1, 1) := by decide +kernel
theorem dX10_getBoiling_6 : decode cX10_getBoiling 6 = .ok (.iconst 1, 1) := by decide +kernel
theorem dX10_getBoiling_7 : decode cX10_getBoiling 7 = .ok (.invokevirtual 156, 3) := by decide +kernel
theorem dX10_getBoiling_10 : decode cX10_getBoiling 10 = .ok (.ireturn, 1) := by decide +kernel
theorem dX10_getLiquid_0 : decode cX10_getLiquid 0 = .ok (.aload_n 0, 1) := by decide +kernel
theorem dX10_getLiquid_1 : decode cX10_getLiquid 1 = .ok (.invokevirtual 82, 3) := by decide +kernel
theorem dX10_getLiquid_4 : decode cX10_getLiquid 4 = .ok (.aload_n 0, 1) := by decide +kernel
theorem dX10_getLiquid_5 : decode cX10_getLiquid 5 = .ok (.iload_n 1, 1) := by decide +kernel
theorem dX10_getLiquid_6 : decode cX10_getLiquid 6 = .ok (.iconst 2, 1) := by decide +kernel
theorem dX10_getLiquid_7 : decode cX10_getLiquid 7 = .ok (.invokevirtual 156, 3) := by decide +kernel
theorem dX10_getLiquid_10 : decode cX10_getLiquid 10 = .ok (.ireturn, 1) := by decide +kernel
theorem dX10_getVapour_0 : decode cX10_getVapour 0 = .ok (.aload_n 0, 1) := by decide +kernel
theorem dX10_getVapour_1 : decode cX10_getVapour 1 = .ok (.invokevirtual 82, 3) := by decide +kernel
theorem dX10_getVapour_4 : decode cX10_getVapour 4 = .ok (.aload_n 0, 1) := by decide +kernel
theorem dX10_getVapour_5 : decode cX10_getVapour 5 = .ok (.iload_n 1, 1) := by decide +kernel
theorem dX10_getVapour_6 : decode cX10_getVapour 6 = .ok (.iconst 3, 1) := by decide +kernel
theorem dX10_getVapour_7 : decode cX10_getVapour 7 = .ok (.invokevirtual 156, 3) := by decide +kernel
theorem dX10_getVapour_10 : decode cX10_getVapour 10 = .ok (.ireturn, 1) := by decide +kernel
theorem dX10_noState_0 : decode cX10_noState 0 = .ok (.aload_n 0, 1) := by decide +kernel
theorem dX10_noState_1 : decode cX10_noState 1 = .ok (.iload_n 2, 1) := by decide +kernel
theorem dX10_noState_2 : decode cX10_noState 2 = .ok (.i2l, 1) := by decide +kernel
theorem dX10_noState_3 : decode cX10_noState 3 = .ok (.lconst 0, 1) := by decide +kernel
theorem dX10_noState_4 : decode cX10_noState 4 = .ok (.ldc2_w 159, 3) := by decide +kernel
theorem dX10_noState_7 : decode cX10_noState 7 = .ok (.invokestatic 13, 3) := by decide +kernel
theorem dX10_noState_10 : decode cX10_noState 10 = .ok (.ifCond .ne 7, 3) := by decide +kernel
theorem dX10_noState_13 : decode cX10_noState 13 = .ok (.iconst 1, 1) := by decide +kernel
theorem dX10_noState_14 : decode cX10_noState 14 = .ok (.goto 4, 3) := by decide +kernel
theorem dX10_noState_17 : decode cX10_noState 17 = .ok (.iconst 0, 1) := by decide +kernel
theorem dX10_noState_18 : decode cX10_noState 18 = .ok (.iconst 1, 1) := by decide +kernel
theorem dX10_noState_19 : decode cX10_noState 19 = .ok (.invokevirtual 78, 3) := by decide +kernel
theorem dX10_noState_22 : decode cX10_noState 22 = .ok (.ifCond .ne 24, 3) := by decide +kernel
theorem dX10_noState_25 : decode cX10_noState 25 = .ok (.aload_n 0, 1) := by decide +kernel
theorem dX10_noState_26 : decode cX10_noState 26 = .ok (.aload_n 0, 1) := by decide +kernel
theorem dX10_noState_27 : decode cX10_noState 27 = .ok (.iload_n 1, 1) := by decide +kernel
theorem dX10_noState_28 : decode cX10_noState 28 = .ok (.invokevirtual 150, 3) := by decide +kernel
theorem dX10_noState_31 : decode cX10_noState 31 = .ok (.ifCond .ne 7, 3) := by decide +kernel
theorem dX10_noState_34 : decode cX10_noState 34 = .ok (.iconst 1, 1) := by decide +kernel
theorem dX10_noState_35 : decode cX10_noState 35 = .ok (.goto 4, 3) := by decide +kernel
theorem dX10_noState_39 : decode cX10_noState 39 = .ok (.iconst 2, 1) := by decide +kernel
theorem dX10_noState_40 : decode cX10_noState 40 = .ok (.invokevirtual 78, 3) := by decide +kernel
theorem dX10_noState_43 : decode cX10_noState 43 = .ok (.ifCond .eq 7, 3) := by decide +kernel
theorem dX10_noState_46 : decode cX10_noState 46 = .ok (.iconst 1, 1) := by decide +kernel
theorem dX10_noState_47 : decode cX10_noState 47 = .ok (.goto 4, 3) := by decide +kernel
theorem dX10_noState_51 : decode cX10_noState 51 = .ok (.ireturn, 1) := by decide +kernel
theorem dX10_getPhase_0 : decode cX10_getPhase 0 = .ok (.aload_n 0, 1) := by decide +kernel
theorem dX10_getPhase_1 : decode cX10_getPhase 1 = .ok (.invokevirtual 82, 3) := by decide +kernel
theorem dX10_getPhase_4 : decode cX10_getPhase 4 = .ok (.aload_n 0, 1) := by decide +kernel
theorem dX10_getPhase_5 : decode cX10_getPhase 5 = .ok (.iload_n 1, 1) := by decide +kernel
theorem dX10_getPhase_6 : decode cX10_getPhase 6 = .ok (.iload_n 2, 1) := by decide +kernel
theorem dX10_getPhase_7 : decode cX10_getPhase 7 = .ok (.invokevirtual 161, 3) := by decide +kernel
theorem dX10_getPhase_10 : decode cX10_getPhase 10 = .ok (.ifCond .eq 8, 3) := by decide +kernel
theorem dX10_getPhase_13 : decode cX10_getPhase 13 = .ok (.bipush 32, 2) := by decide +kernel
theorem dX10_getPhase_15 : decode cX10_getPhase 15 = .ok (.goto 9, 3) := by decide +kernel
theorem dX10_getPhase_24 : decode cX10_getPhase 24 = .ok (.ireturn, 1) := by decide +kernel
theorem dX10_getDryness_0 : decode cX10_getDryness 0 = .ok (.aload_n 0, 1) := by decide +kernel
theorem dX10_getDryness_1 : decode cX10_getDryness 1 = .ok (.invokevirtual 82, 3) := by decide +kernel
theorem dX10_getDryness_4 : decode cX10_getDryness 4 = .ok (.aload_n 0, 1) := by decide +kernel
theorem dX10_getDryness_5 : decode cX10_getDryness 5 = .ok (.iload_n 1, 1) := by decide +kernel
theorem dX10_getDryness_6 : decode cX10_getDryness 6 = .ok (.iload_n 2, 1) := by decide +kernel
theorem dX10_getDryness_7 : decode cX10_getDryness 7 = .ok (.invokevirtual 161, 3) := by decide +kernel
theorem dX10_getDryness_10 : decode cX10_getDryness 10 = .ok (.ifCond .eq 5, 3) := by decide +kernel
theorem dX10_getDryness_13 : decode cX10_getDryness 13 = .ok (.iconst (-1), 1) := by decide +kernel
theorem dX10_getDryness_14 : decode cX10_getDryness 14 = .ok (.ireturn, 1) := by decide +kernel
theorem dX10_stateTemperature_0 : decode cX10_stateTemperature 0 = .ok (.aload_n 0, 1) := by decide +kernel
theorem dX10_stateTemperature_1 : decode cX10_stateTemperature 1 = .ok (.invokevirtual 82, 3) := by decide +kernel
theorem dX10_stateTemperature_4 : decode cX10_stateTemperature 4 = .ok (.aload_n 0, 1) := by decide +kernel
theorem dX10_stateTemperature_5 : decode cX10_stateTemperature 5 = .ok (.iload_n 1, 1) := by decide +kernel
theorem dX10_stateTemperature_6 : decode cX10_stateTemperature 6 = .ok (.iload_n 2, 1) := by decide +kernel
theorem dX10_stateTemperature_7 : decode cX10_stateTemperature 7 = .ok (.invokevirtual 161, 3) := by decide +kernel
theorem dX10_stateTemperature_10 : decode cX10_stateTemperature 10 = .ok (.ifCond .eq 7, 3) := by decide +kernel
theorem dX10_stateTemperature_13 : decode cX10_stateTemperature 13 = .ok (.iconst (-1), 1) := by decide +kernel
theorem dX10_stateTemperature_14 : decode cX10_stateTemperature 14 = .ok (.goto 9, 3) := by decide +kernel
theorem dX10_stateTemperature_23 : decode cX10_stateTemperature 23 = .ok (.ireturn, 1) := by decide +kernel
theorem dX10_addPart_0 : decode cX10_addPart 0 = .ok (.aload_n 0, 1) := by decide +kernel
theorem dX10_addPart_1 : decode cX10_addPart 1 = .ok (.invokevirtual 82, 3) := by decide +kernel
theorem dX10_addPart_4 : decode cX10_addPart 4 = .ok (.ldc 172, 2) := by decide +kernel
theorem dX10_addPart_6 : decode cX10_addPart 6 = .ok (.iload_n 1, 1) := by decide +kernel
theorem dX10_addPart_7 : decode cX10_addPart 7 = .ok (.invokevirtual 174, 3) := by decide +kernel
theorem dX10_addPart_10 : decode cX10_addPart 10 = .ok (.ifCond .lt 55, 3) := by decide +kernel
theorem dX10_addPart_13 : decode cX10_addPart 13 = .ok (.iload_n 1, 1) := by decide +kernel
theorem dX10_addPart_14 : decode cX10_addPart 14 = .ok (.bipush 99, 2) := by decide +kernel
theorem dX10_addPart_16 : decode cX10_addPart 16 = .ok (.if_icmp .eq 27, 3) := by decide +kernel
theorem dX10_addPart_19 : decode cX10_addPart 19 = .ok (.iload_n 2, 1) := by decide +kernel
theorem dX10_addPart_20 : decode cX10_addPart 20 = .ok (.i2l, 1) := by decide +kernel
theorem dX10_addPart_21 : decode cX10_addPart 21 = .ok (.lconst 1, 1) := by decide +kernel
theorem dX10_addPart_22 : decode cX10_addPart 22 = .ok (.iload_n 1, 1) := by decide +kernel
theorem dX10_addPart_23 : decode cX10_addPart 23 = .ok (.bipush 104, 2) := by decide +kernel
theorem dX10_addPart_25 : decode cX10_addPart 25 = .ok (.if_icmp .ne 9, 3) := by decide +kernel
theorem dX10_addPart_28 : decode cX10_addPart 28 = .ok (.ldc2_w 144, 3) := by decide +kernel
theorem dX10_addPart_31 : decode cX10_addPart 31 = .ok (.goto 6, 3) := by decide +kernel
theorem dX10_addPart_34 : decode cX10_addPart 34 = .ok (.ldc2_w 72, 3) := by decide +kernel
theorem dX10_addPart_37 : decode cX10_addPart 37 = .ok (.invokestatic 13, 3) := by decide +kernel
theorem dX10_addPart_40 : decode cX10_addPart 40 = .ok (.ifCond .eq 25, 3) := by decide +kernel
theorem dX10_addPart_43 : decode cX10_addPart 43 = .ok (.iload_n 1, 1) := by decide +kernel
theorem dX10_addPart_44 : decode cX10_addPart 44 = .ok (.bipush 116, 2) := by decide +kernel
theorem dX10_addPart_46 : decode cX10_addPart 46 = .ok (.if_icmp .ne 15, 3) := by decide +kernel
theorem dX10_addPart_49 : decode cX10_addPart 49 = .ok (.iload_n 3, 1) := by decide +kernel
theorem dX10_addPart_50 : decode cX10_addPart 50 = .ok (.i2l, 1) := by decide +kernel
theorem dX10_addPart_51 : decode cX10_addPart 51 = .ok (.lconst 0, 1) := by decide +kernel
theorem dX10_addPart_52 : decode cX10_addPart 52 = .ok (.ldc2_w 179, 3) := by decide +kernel
theorem dX10_addPart_55 : decode cX10_addPart 55 = .ok (.invokestatic 13, 3) := by decide +kernel
theorem dX10_addPart_58 : decode cX10_addPart 58 = .ok (.ifCond .eq 7, 3) := by decide +kernel
theorem dX10_addPart_61 : decode cX10_addPart 61 = .ok (.iconst 1, 1) := by decide +kernel
theorem dX10_addPart_62 : decode cX10_addPart 62 = .ok (.goto 4, 3) := by decide +kernel
theorem dX10_addPart_65 : decode cX10_addPart 65 = .ok (.iconst 0, 1) := by decide +kernel
theorem dX10_addPart_66 : decode cX10_addPart 66 = .ok (.istore 4, 2) := by decide +kernel
theorem dX10_addPart_68 : decode cX10_addPart 68 = .ok (.aload_n 0, 1) := by decide +kernel
theorem dX10_addPart_69 : decode cX10_addPart 69 = .ok (.iload 4, 2) := by decide +kernel
theorem dX10_addPart_71 : decode cX10_addPart 71 = .ok (.ifCond .ne 7, 3) := by decide +kernel
theorem dX10_addPart_74 : decode cX10_addPart 74 = .ok (.iconst 1, 1) := by decide +kernel
theorem dX10_addPart_75 : decode cX10_addPart 75 = .ok (.goto 4, 3) := by decide +kernel
theorem dX10_addPart_78 : decode cX10_addPart 78 = .ok (.iconst 0, 1) := by decide +kernel
theorem dX10_addPart_79 : decode cX10_addPart 79 = .ok (.iconst 1, 1) := by decide +kernel
theorem dX10_addPart_80 : decode cX10_addPart 80 = .ok (.invokevirtual 78, 3) := by decide +kernel
theorem dX10_addPart_83 : decode cX10_addPart 83 = .ok (.ifCond .ne 30, 3) := by decide +kernel
theorem dX10_addPart_86 : decode cX10_addPart 86 = .ok (.aload_n 0, 1) := by decide +kernel
theorem dX10_addPart_87 : decode cX10_addPart 87 = .ok (.aload_n 0, 1) := by decide +kernel
theorem dX10_addPart_88 : decode cX10_addPart 88 = .ok (.getfield 33, 3) := by decide +kernel
theorem dX10_addPart_91 : decode cX10_addPart 91 = .ok (.invokeinterface 7 1, 5) := by decide +kernel
theorem dX10_addPart_96 : decode cX10_addPart 96 = .ok (.bipush 8, 2) := by decide +kernel
theorem dX10_addPart_98 : decode cX10_addPart 98 = .ok (.if_icmp .ne 7, 3) := by decide +kernel
theorem dX10_addPart_105 : decode cX10_addPart 105 = .ok (.iconst 0, 1) := by decide +kernel
theorem dX10_addPart_106 : decode cX10_addPart 106 = .ok (.iconst 2, 1) := by decide +kernel
theorem dX10_addPart_107 : decode cX10_addPart 107 = .ok (.invokevirtual 78, 3) := by decide +kernel
theorem dX10_addPart_110 : decode cX10_addPart 110 = .ok (.ifCond .eq 5, 3) := by decide +kernel
theorem dX10_addPart_113 : decode cX10_addPart 113 = .ok (.iconst (-1), 1) := by decide +kernel
theorem dX10_addPart_114 : decode cX10_addPart 114 = .ok (.ireturn, 1) := by decide +kernel
theorem dX10_addPart_115 : decode cX10_addPart 115 = .ok (.aload_n 0, 1) := by decide +kernel
theorem dX10_addPart_116 : decode cX10_addPart 116 = .ok (.getfield 33, 3) := by decide +kernel
theorem dX10_addPart_119 : decode cX10_addPart 119 = .ok (.iconst 3, 1) := by decide +kernel
theorem dX10_addPart_120 : decode cX10_addPart 120 = .ok (.newarray .int, 2) := by decide +kernel
theorem dX10_addPart_122 : decode cX10_addPart 122 = .ok (.dup, 1) := by decide +kernel
theorem dX10_addPart_123 : decode cX10_addPart 123 = .ok (.iconst 0, 1) := by decide +kernel
theorem dX10_addPart_124 : decode cX10_addPart 124 = .ok (.iload_n 1, 1) := by decide +kernel
theorem dX10_addPart_125 : decode cX10_addPart 125 = .ok (.iastore, 1) := by decide +kernel
theorem dX10_addPart_126 : decode cX10_addPart 126 = .ok (.dup, 1) := by decide +kernel
theorem dX10_addPart_127 : decode cX10_addPart 127 = .ok (.iconst 1, 1) := by decide +kernel
theorem dX10_addPart_128 : decode cX10_addPart 128 = .ok (.iload_n 2, 1) := by decide +kernel
theorem dX10_addPart_129 : decode cX10_addPart 129 = .ok (.iastore, 1) := by decide +kernel
theorem dX10_addPart_130 : decode cX10_addPart 130 = .ok (.dup, 1) := by decide +kernel
theorem dX10_addPart_131 : decode cX10_addPart 131 = .ok (.iconst 2, 1) := by decide +kernel
theorem dX10_addPart_132 : decode cX10_addPart 132 = .ok (.iload_n 3, 1) := by decide +kernel
theorem dX10_addPart_133 : decode cX10_addPart 133 = .ok (.iastore, 1) := by decide +kernel
theorem dX10_addPart_134 : decode cX10_addPart 134 = .ok (.invokeinterface 89 2, 5) := by decide +kernel
theorem dX10_addPart_139 : decode cX10_addPart 139 = .ok (.pop, 1) := by decide +kernel
theorem dX10_addPart_140 : decode cX10_addPart 140 = .ok (.aload_n 0, 1) := by decide +kernel
theorem dX10_addPart_141 : decode cX10_addPart 141 = .ok (.getfield 33, 3) := by decide +kernel
theorem dX10_addPart_144 : decode cX10_addPart 144 = .ok (.invokeinterface 7 1, 5) := by decide +kernel
theorem dX10_addPart_149 : decode cX10_addPart 149 = .ok (.ireturn, 1) := by decide +kernel
theorem dX10_clearParts_0 : decode cX10_clearParts 0 = .ok (.aload_n 0, 1) := by decide +kernel
theorem dX10_clearParts_1 : decode cX10_clearParts 1 = .ok (.invokevirtual 82, 3) := by decide +kernel
theorem dX10_clearParts_4 : decode cX10_clearParts 4 = .ok (.aload_n 0, 1) := by decide +kernel
theorem dX10_clearParts_5 : decode cX10_clearParts 5 = .ok (.getfield 33, 3) := by decide +kernel
theorem dX10_clearParts_8 : decode cX10_clearParts 8 = .ok (.invokeinterface 7 1, 5) := by decide +kernel
theorem dX10_clearParts_13 : decode cX10_clearParts 13 = .ok (.istore_n 1, 1) := by decide +kernel
theorem dX10_clearParts_14 : decode cX10_clearParts 14 = .ok (.aload_n 0, 1) := by decide +kernel
theorem dX10_clearParts_15 : decode cX10_clearParts 15 = .ok (.getfield 33, 3) := by decide +kernel
theorem dX10_clearParts_18 : decode cX10_clearParts 18 = .ok (.invokeinterface 181 1, 5) := by decide +kernel
theorem dX10_clearParts_23 : decode cX10_clearParts 23 = .ok (.aload_n 0, 1) := by decide +kernel
theorem dX10_clearParts_24 : decode cX10_clearParts 24 = .ok (.aconst_null, 1) := by decide +kernel
theorem dX10_clearParts_25 : decode cX10_clearParts 25 = .ok (.putfield 184, 3) := by decide +kernel
theorem dX10_clearParts_28 : decode cX10_clearParts 28 = .ok (.iload_n 1, 1) := by decide +kernel
theorem dX10_clearParts_29 : decode cX10_clearParts 29 = .ok (.ireturn, 1) := by decide +kernel
theorem dX10_solve_0 : decode cX10_solve 0 = .ok (.aload_n 0, 1) := by decide +kernel
theorem dX10_solve_1 : decode cX10_solve 1 = .ok (.invokevirtual 82, 3) := by decide +kernel
theorem dX10_solve_4 : decode cX10_solve 4 = .ok (.aload_n 0, 1) := by decide +kernel
theorem dX10_solve_5 : decode cX10_solve 5 = .ok (.iload_n 2, 1) := by decide +kernel
theorem dX10_solve_6 : decode cX10_solve 6 = .ok (.i2l, 1) := by decide +kernel
theorem dX10_solve_7 : decode cX10_solve 7 = .ok (.lconst 0, 1) := by decide +kernel
theorem dX10_solve_8 : decode cX10_solve 8 = .ok (.ldc2_w 159, 3) := by decide +kernel
theorem dX10_solve_11 : decode cX10_solve 11 = .ok (.invokestatic 13, 3) := by decide +kernel
theorem dX10_solve_14 : decode cX10_solve 14 = .ok (.ifCond .ne 7, 3) := by decide +kernel
theorem dX10_solve_17 : decode cX10_solve 17 = .ok (.iconst 1, 1) := by decide +kernel
theorem dX10_solve_18 : decode cX10_solve 18 = .ok (.goto 4, 3) := by decide +kernel
theorem dX10_solve_21 : decode cX10_solve 21 = .ok (.iconst 0, 1) := by decide +kernel
theorem dX10_solve_22 : decode cX10_solve 22 = .ok (.iconst 1, 1) := by decide +kernel
theorem dX10_solve_23 : decode cX10_solve 23 = .ok (.invokevirtual 78, 3) := by decide +kernel
theorem dX10_solve_26 : decode cX10_solve 26 = .ok (.ifCond .ne 41, 3) := by decide +kernel
theorem dX10_solve_29 : decode cX10_solve 29 = .ok (.aload_n 0, 1) := by decide +kernel
theorem dX10_solve_30 : decode cX10_solve 30 = .ok (.aload_n 0, 1) := by decide +kernel
theorem dX10_solve_31 : decode cX10_solve 31 = .ok (.getfield 33, 3) := by decide +kernel
theorem dX10_solve_34 : decode cX10_solve 34 = .ok (.invokeinterface 146 1, 5) := by decide +kernel
theorem dX10_solve_39 : decode cX10_solve 39 = .ok (.iconst 2, 1) := by decide +kernel
theorem dX10_solve_40 : decode cX10_solve 40 = .ok (.invokevirtual 78, 3) := by decide +kernel
theorem dX10_solve_43 : decode cX10_solve 43 = .ok (.ifCond .ne 24, 3) := by decide +kernel
theorem dX10_solve_67 : decode cX10_solve 67 = .ok (.iconst (-1), 1) := by decide +kernel
theorem dX10_solve_68 : decode cX10_solve 68 = .ok (.ireturn, 1) := by decide +kernel
theorem dX10_told_0 : decode cX10_told 0 = .ok (.aload_n 0, 1) := by decide +kernel
theorem dX10_told_1 : decode cX10_told 1 = .ok (.aload_n 0, 1) := by decide +kernel
theorem dX10_told_2 : decode cX10_told 2 = .ok (.getfield 184, 3) := by decide +kernel
theorem dX10_told_5 : decode cX10_told 5 = .ok (.ifnonnull 7, 3) := by decide +kernel
theorem dX10_told_8 : decode cX10_told 8 = .ok (.iconst 1, 1) := by decide +kernel
theorem dX10_told_9 : decode cX10_told 9 = .ok (.goto 4, 3) := by decide +kernel
theorem dX10_told_13 : decode cX10_told 13 = .ok (.iconst 1, 1) := by decide +kernel
theorem dX10_told_14 : decode cX10_told 14 = .ok (.invokevirtual 78, 3) := by decide +kernel
theorem dX10_told_17 : decode cX10_told 17 = .ok (.ifCond .ne 27, 3) := by decide +kernel
theorem dX10_told_44 : decode cX10_told 44 = .ok (.iconst (-1), 1) := by decide +kernel
theorem dX10_told_45 : decode cX10_told 45 = .ok (.goto 18, 3) := by decide +kernel
theorem dX10_told_63 : decode cX10_told 63 = .ok (.ireturn, 1) := by decide +kernel
theorem dX10_partWork_0 : decode cX10_partWork 0 = .ok (.aload_n 0, 1) := by decide +kernel
theorem dX10_partWork_1 : decode cX10_partWork 1 = .ok (.invokevirtual 82, 3) := by decide +kernel
theorem dX10_partWork_4 : decode cX10_partWork 4 = .ok (.aload_n 0, 1) := by decide +kernel
theorem dX10_partWork_5 : decode cX10_partWork 5 = .ok (.iload_n 1, 1) := by decide +kernel
theorem dX10_partWork_6 : decode cX10_partWork 6 = .ok (.iconst 2, 1) := by decide +kernel
theorem dX10_partWork_7 : decode cX10_partWork 7 = .ok (.invokevirtual 204, 3) := by decide +kernel
theorem dX10_partWork_10 : decode cX10_partWork 10 = .ok (.ireturn, 1) := by decide +kernel
theorem dX10_partHeat_0 : decode cX10_partHeat 0 = .ok (.aload_n 0, 1) := by decide +kernel
theorem dX10_partHeat_1 : decode cX10_partHeat 1 = .ok (.invokevirtual 82, 3) := by decide +kernel
theorem dX10_partHeat_4 : decode cX10_partHeat 4 = .ok (.aload_n 0, 1) := by decide +kernel
theorem dX10_partHeat_5 : decode cX10_partHeat 5 = .ok (.iload_n 1, 1) := by decide +kernel
theorem dX10_partHeat_6 : decode cX10_partHeat 6 = .ok (.iconst 3, 1) := by decide +kernel
theorem dX10_partHeat_7 : decode cX10_partHeat 7 = .ok (.invokevirtual 204, 3) := by decide +kernel
theorem dX10_partHeat_10 : decode cX10_partHeat 10 = .ok (.ireturn, 1) := by decide +kernel
theorem dX10_partLost_0 : decode cX10_partLost 0 = .ok (.aload_n 0, 1) := by decide +kernel
theorem dX10_partLost_1 : decode cX10_partLost 1 = .ok (.invokevirtual 82, 3) := by decide +kernel
theorem dX10_partLost_4 : decode cX10_partLost 4 = .ok (.aload_n 0, 1) := by decide +kernel
theorem dX10_partLost_5 : decode cX10_partLost 5 = .ok (.iload_n 1, 1) := by decide +kernel
theorem dX10_partLost_6 : decode cX10_partLost 6 = .ok (.iconst 4, 1) := by decide +kernel
theorem dX10_partLost_7 : decode cX10_partLost 7 = .ok (.invokevirtual 204, 3) := by decide +kernel
theorem dX10_partLost_10 : decode cX10_partLost 10 = .ok (.ireturn, 1) := by decide +kernel
theorem dX10_pressureAhead_0 : decode cX10_pressureAhead 0 = .ok (.aload_n 0, 1) := by decide +kernel
theorem dX10_pressureAhead_1 : decode cX10_pressureAhead 1 = .ok (.invokevirtual 82, 3) := by decide +kernel
theorem dX10_pressureAhead_4 : decode cX10_pressureAhead 4 = .ok (.aload_n 0, 1) := by decide +kernel
theorem dX10_pressureAhead_5 : decode cX10_pressureAhead 5 = .ok (.iload_n 1, 1) := by decide +kernel
theorem dX10_pressureAhead_6 : decode cX10_pressureAhead 6 = .ok (.iconst 0, 1) := by decide +kernel
theorem dX10_pressureAhead_7 : decode cX10_pressureAhead 7 = .ok (.invokevirtual 204, 3) := by decide +kernel
theorem dX10_pressureAhead_10 : decode cX10_pressureAhead 10 = .ok (.ireturn, 1) := by decide +kernel
theorem dX10_heatAhead_0 : decode cX10_heatAhead 0 = .ok (.aload_n 0, 1) := by decide +kernel
theorem dX10_heatAhead_1 : decode cX10_heatAhead 1 = .ok (.invokevirtual 82, 3) := by decide +kernel
theorem dX10_heatAhead_4 : decode cX10_heatAhead 4 = .ok (.aload_n 0, 1) := by decide +kernel
theorem dX10_heatAhead_5 : decode cX10_heatAhead 5 = .ok (.iload_n 1, 1) := by decide +kernel
theorem dX10_heatAhead_6 : decode cX10_heatAhead 6 = .ok (.iconst 1, 1) := by decide +kernel
theorem dX10_heatAhead_7 : decode cX10_heatAhead 7 = .ok (.invokevirtual 204, 3) := by decide +kernel
theorem dX10_heatAhead_10 : decode cX10_heatAhead 10 = .ok (.ireturn, 1) := by decide +kernel
theorem dX10_plantWork_0 : decode cX10_plantWork 0 = .ok (.aload_n 0, 1) := by decide +kernel
theorem dX10_plantWork_1 : decode cX10_plantWork 1 = .ok (.invokevirtual 82, 3) := by decide +kernel
theorem dX10_plantWork_4 : decode cX10_plantWork 4 = .ok (.aload_n 0, 1) := by decide +kernel
theorem dX10_plantWork_5 : decode cX10_plantWork 5 = .ok (.aload_n 0, 1) := by decide +kernel
theorem dX10_plantWork_6 : decode cX10_plantWork 6 = .ok (.getfield 184, 3) := by decide +kernel
theorem dX10_plantWork_9 : decode cX10_plantWork 9 = .ok (.ifnonnull 7, 3) := by decide +kernel
theorem dX10_plantWork_12 : decode cX10_plantWork 12 = .ok (.iconst 1, 1) := by decide +kernel
theorem dX10_plantWork_13 : decode cX10_plantWork 13 = .ok (.goto 4, 3) := by decide +kernel
theorem dX10_plantWork_17 : decode cX10_plantWork 17 = .ok (.iconst 1, 1) := by decide +kernel
theorem dX10_plantWork_18 : decode cX10_plantWork 18 = .ok (.invokevirtual 78, 3) := by decide +kernel
theorem dX10_plantWork_21 : decode cX10_plantWork 21 = .ok (.ifCond .eq 5, 3) := by decide +kernel
theorem dX10_plantWork_24 : decode cX10_plantWork 24 = .ok (.iconst (-1), 1) := by decide +kernel
theorem dX10_plantWork_25 : decode cX10_plantWork 25 = .ok (.ireturn, 1) := by decide +kernel
theorem dX10_setGas_0 : decode cX10_setGas 0 = .ok (.aload_n 0, 1) := by decide +kernel
theorem dX10_setGas_1 : decode cX10_setGas 1 = .ok (.invokevirtual 82, 3) := by decide +kernel
theorem dX10_setGas_4 : decode cX10_setGas 4 = .ok (.aload_n 0, 1) := by decide +kernel
theorem dX10_setGas_5 : decode cX10_setGas 5 = .ok (.iload_n 1, 1) := by decide +kernel
theorem dX10_setGas_6 : decode cX10_setGas 6 = .ok (.i2l, 1) := by decide +kernel
theorem dX10_setGas_7 : decode cX10_setGas 7 = .ok (.lconst 1, 1) := by decide +kernel
theorem dX10_setGas_8 : decode cX10_setGas 8 = .ok (.ldc2_w 207, 3) := by decide +kernel
theorem dX10_setGas_11 : decode cX10_setGas 11 = .ok (.invokestatic 13, 3) := by decide +kernel
theorem dX10_setGas_14 : decode cX10_setGas 14 = .ok (.ifCond .eq 29, 3) := by decide +kernel
theorem dX10_setGas_17 : decode cX10_setGas 17 = .ok (.iload_n 2, 1) := by decide +kernel
theorem dX10_setGas_18 : decode cX10_setGas 18 = .ok (.i2l, 1) := by decide +kernel
theorem dX10_setGas_19 : decode cX10_setGas 19 = .ok (.lconst 1, 1) := by decide +kernel
theorem dX10_setGas_20 : decode cX10_setGas 20 = .ok (.ldc2_w 179, 3) := by decide +kernel
theorem dX10_setGas_23 : decode cX10_setGas 23 = .ok (.invokestatic 13, 3) := by decide +kernel
theorem dX10_setGas_26 : decode cX10_setGas 26 = .ok (.ifCond .eq 17, 3) := by decide +kernel
theorem dX10_setGas_29 : decode cX10_setGas 29 = .ok (.iload_n 3, 1) := by decide +kernel
theorem dX10_setGas_30 : decode cX10_setGas 30 = .ok (.i2l, 1) := by decide +kernel
theorem dX10_setGas_31 : decode cX10_setGas 31 = .ok (.ldc2_w 85, 3) := by decide +kernel
theorem dX10_setGas_34 : decode cX10_setGas 34 = .ok (.ldc2_w 87, 3) := by decide +kernel
theorem dX10_setGas_37 : decode cX10_setGas 37 = .ok (.invokestatic 13, 3) := by decide +kernel
theorem dX10_setGas_40 : decode cX10_setGas 40 = .ok (.ifCond .ne 7, 3) := by decide +kernel
theorem dX10_setGas_43 : decode cX10_setGas 43 = .ok (.iconst 1, 1) := by decide +kernel
theorem dX10_setGas_44 : decode cX10_setGas 44 = .ok (.goto 4, 3) := by decide +kernel
theorem dX10_setGas_47 : decode cX10_setGas 47 = .ok (.iconst 0, 1) := by decide +kernel
theorem dX10_setGas_48 : decode cX10_setGas 48 = .ok (.iconst 1, 1) := by decide +kernel
theorem dX10_setGas_49 : decode cX10_setGas 49 = .ok (.invokevirtual 78, 3) := by decide +kernel
theorem dX10_setGas_52 : decode cX10_setGas 52 = .ok (.ifCond .eq 5, 3) := by decide +kernel
theorem dX10_setGas_55 : decode cX10_setGas 55 = .ok (.iconst (-1), 1) := by decide +kernel
theorem dX10_setGas_56 : decode cX10_setGas 56 = .ok (.ireturn, 1) := by decide +kernel
theorem dX10_setGas_57 : decode cX10_setGas 57 = .ok (.aload_n 0, 1) := by decide +kernel
theorem dX10_setGas_58 : decode cX10_setGas 58 = .ok (.getfield 42, 3) := by decide +kernel
theorem dX10_setGas_61 : decode cX10_setGas 61 = .ok (.istore 4, 2) := by decide +kernel
theorem dX10_setGas_63 : decode cX10_setGas 63 = .ok (.aload_n 0, 1) := by decide +kernel
theorem dX10_setGas_64 : decode cX10_setGas 64 = .ok (.iload_n 1, 1) := by decide +kernel
theorem dX10_setGas_65 : decode cX10_setGas 65 = .ok (.putfield 36, 3) := by decide +kernel
theorem dX10_setGas_68 : decode cX10_setGas 68 = .ok (.aload_n 0, 1) := by decide +kernel
theorem dX10_setGas_69 : decode cX10_setGas 69 = .ok (.iload_n 2, 1) := by decide +kernel
theorem dX10_setGas_70 : decode cX10_setGas 70 = .ok (.putfield 39, 3) := by decide +kernel
theorem dX10_setGas_73 : decode cX10_setGas 73 = .ok (.aload_n 0, 1) := by decide +kernel
theorem dX10_setGas_74 : decode cX10_setGas 74 = .ok (.iconst 3, 1) := by decide +kernel
theorem dX10_setGas_75 : decode cX10_setGas 75 = .ok (.iload_n 1, 1) := by decide +kernel
theorem dX10_setGas_76 : decode cX10_setGas 76 = .ok (.imul, 1) := by decide +kernel
theorem dX10_setGas_77 : decode cX10_setGas 77 = .ok (.iload_n 3, 1) := by decide +kernel
theorem dX10_setGas_78 : decode cX10_setGas 78 = .ok (.imul, 1) := by decide +kernel
theorem dX10_setGas_79 : decode cX10_setGas 79 = .ok (.putfield 42, 3) := by decide +kernel
theorem dX10_setGas_82 : decode cX10_setGas 82 = .ok (.iload 4, 2) := by decide +kernel
theorem dX10_setGas_84 : decode cX10_setGas 84 = .ok (.ireturn, 1) := by decide +kernel
theorem dX10_addStroke_0 : decode cX10_addStroke 0 = .ok (.aload_n 0, 1) := by decide +kernel
theorem dX10_addStroke_1 : decode cX10_addStroke 1 = .ok (.invokevirtual 82, 3) := by decide +kernel
theorem dX10_addStroke_4 : decode cX10_addStroke 4 = .ok (.aload_n 0, 1) := by decide +kernel
theorem dX10_addStroke_5 : decode cX10_addStroke 5 = .ok (.ldc 209, 2) := by decide +kernel
theorem dX10_addStroke_7 : decode cX10_addStroke 7 = .ok (.iload_n 1, 1) := by decide +kernel
theorem dX10_addStroke_8 : decode cX10_addStroke 8 = .ok (.invokevirtual 174, 3) := by decide +kernel
theorem dX10_addStroke_11 : decode cX10_addStroke 11 = .ok (.ifCond .lt 21, 3) := by decide +kernel
theorem dX10_addStroke_14 : decode cX10_addStroke 14 = .ok (.iload_n 1, 1) := by decide +kernel
theorem dX10_addStroke_15 : decode cX10_addStroke 15 = .ok (.bipush 118, 2) := by decide +kernel
theorem dX10_addStroke_17 : decode cX10_addStroke 17 = .ok (.if_icmp .eq 19, 3) := by decide +kernel
theorem dX10_addStroke_20 : decode cX10_addStroke 20 = .ok (.iload_n 2, 1) := by decide +kernel
theorem dX10_addStroke_21 : decode cX10_addStroke 21 = .ok (.i2l, 1) := by decide +kernel
theorem dX10_addStroke_22 : decode cX10_addStroke 22 = .ok (.lconst 1, 1) := by decide +kernel
theorem dX10_addStroke_23 : decode cX10_addStroke 23 = .ok (.ldc2_w 179, 3) := by decide +kernel
theorem dX10_addStroke_26 : decode cX10_addStroke 26 = .ok (.invokestatic 13, 3) := by decide +kernel
theorem dX10_addStroke_29 : decode cX10_addStroke 29 = .ok (.ifCond .ne 7, 3) := by decide +kernel
theorem dX10_addStroke_32 : decode cX10_addStroke 32 = .ok (.iconst 1, 1) := by decide +kernel
theorem dX10_addStroke_33 : decode cX10_addStroke 33 = .ok (.goto 4, 3) := by decide +kernel
theorem dX10_addStroke_36 : decode cX10_addStroke 36 = .ok (.iconst 0, 1) := by decide +kernel
theorem dX10_addStroke_37 : decode cX10_addStroke 37 = .ok (.iconst 1, 1) := by decide +kernel
theorem dX10_addStroke_38 : decode cX10_addStroke 38 = .ok (.invokevirtual 78, 3) := by decide +kernel
theorem dX10_addStroke_41 : decode cX10_addStroke 41 = .ok (.ifCond .ne 60, 3) := by decide +kernel
theorem dX10_addStroke_44 : decode cX10_addStroke 44 = .ok (.aload_n 0, 1) := by decide +kernel
theorem dX10_addStroke_45 : decode cX10_addStroke 45 = .ok (.iload_n 1, 1) := by decide +kernel
theorem dX10_addStroke_46 : decode cX10_addStroke 46 = .ok (.bipush 97, 2) := by decide +kernel
theorem dX10_addStroke_48 : decode cX10_addStroke 48 = .ok (.if_icmp .eq 18, 3) := by decide +kernel
theorem dX10_addStroke_51 : decode cX10_addStroke 51 = .ok (.aload_n 0, 1) := by decide +kernel
theorem dX10_addStroke_52 : decode cX10_addStroke 52 = .ok (.getfield 26, 3) := by decide +kernel
theorem dX10_addStroke_55 : decode cX10_addStroke 55 = .ok (.iload_n 3, 1) := by decide +kernel
theorem dX10_addStroke_56 : decode cX10_addStroke 56 = .ok (.invokestatic 74, 3) := by decide +kernel
theorem dX10_addStroke_59 : decode cX10_addStroke 59 = .ok (.ifCond .ne 7, 3) := by decide +kernel
theorem dX10_addStroke_62 : decode cX10_addStroke 62 = .ok (.iconst 1, 1) := by decide +kernel
theorem dX10_addStroke_63 : decode cX10_addStroke 63 = .ok (.goto 4, 3) := by decide +kernel
theorem dX10_addStroke_66 : decode cX10_addStroke 66 = .ok (.iconst 0, 1) := by decide +kernel
theorem dX10_addStroke_67 : decode cX10_addStroke 67 = .ok (.iconst 2, 1) := by decide +kernel
theorem dX10_addStroke_68 : decode cX10_addStroke 68 = .ok (.invokevirtual 78, 3) := by decide +kernel
theorem dX10_addStroke_71 : decode cX10_addStroke 71 = .ok (.ifCond .ne 30, 3) := by decide +kernel
theorem dX10_addStroke_74 : decode cX10_addStroke 74 = .ok (.aload_n 0, 1) := by decide +kernel
theorem dX10_addStroke_75 : decode cX10_addStroke 75 = .ok (.aload_n 0, 1) := by decide +kernel
theorem dX10_addStroke_76 : decode cX10_addStroke 76 = .ok (.getfield 45, 3) := by decide +kernel
theorem dX10_addStroke_79 : decode cX10_addStroke 79 = .ok (.invokeinterface 7 1, 5) := by decide +kernel
theorem dX10_addStroke_84 : decode cX10_addStroke 84 = .ok (.bipush 8, 2) := by decide +kernel
theorem dX10_addStroke_86 : decode cX10_addStroke 86 = .ok (.if_icmp .ne 7, 3) := by decide +kernel
theorem dX10_addStroke_93 : decode cX10_addStroke 93 = .ok (.iconst 0, 1) := by decide +kernel
theorem dX10_addStroke_94 : decode cX10_addStroke 94 = .ok (.iconst 3, 1) := by decide +kernel
theorem dX10_addStroke_95 : decode cX10_addStroke 95 = .ok (.invokevirtual 78, 3) := by decide +kernel
theorem dX10_addStroke_98 : decode cX10_addStroke 98 = .ok (.ifCond .eq 5, 3) := by decide +kernel
theorem dX10_addStroke_101 : decode cX10_addStroke 101 = .ok (.iconst (-1), 1) := by decide +kernel
theorem dX10_addStroke_102 : decode cX10_addStroke 102 = .ok (.ireturn, 1) := by decide +kernel
theorem dX10_addStroke_103 : decode cX10_addStroke 103 = .ok (.aload_n 0, 1) := by decide +kernel
theorem dX10_addStroke_104 : decode cX10_addStroke 104 = .ok (.getfield 45, 3) := by decide +kernel
theorem dX10_addStroke_107 : decode cX10_addStroke 107 = .ok (.iconst 3, 1) := by decide +kernel
theorem dX10_addStroke_108 : decode cX10_addStroke 108 = .ok (.newarray .int, 2) := by decide +kernel
theorem dX10_addStroke_110 : decode cX10_addStroke 110 = .ok (.dup, 1) := by decide +kernel
theorem dX10_addStroke_111 : decode cX10_addStroke 111 = .ok (.iconst 0, 1) := by decide +kernel
theorem dX10_addStroke_112 : decode cX10_addStroke 112 = .ok (.iload_n 1, 1) := by decide +kernel
theorem dX10_addStroke_113 : decode cX10_addStroke 113 = .ok (.iastore, 1) := by decide +kernel
theorem dX10_addStroke_114 : decode cX10_addStroke 114 = .ok (.dup, 1) := by decide +kernel
theorem dX10_addStroke_115 : decode cX10_addStroke 115 = .ok (.iconst 1, 1) := by decide +kernel
theorem dX10_addStroke_116 : decode cX10_addStroke 116 = .ok (.iload_n 2, 1) := by decide +kernel
theorem dX10_addStroke_117 : decode cX10_addStroke 117 = .ok (.iastore, 1) := by decide +kernel
theorem dX10_addStroke_118 : decode cX10_addStroke 118 = .ok (.dup, 1) := by decide +kernel
theorem dX10_addStroke_119 : decode cX10_addStroke 119 = .ok (.iconst 2, 1) := by decide +kernel
theorem dX10_addStroke_120 : decode cX10_addStroke 120 = .ok (.iload_n 3, 1) := by decide +kernel
theorem dX10_addStroke_121 : decode cX10_addStroke 121 = .ok (.iastore, 1) := by decide +kernel
theorem dX10_addStroke_122 : decode cX10_addStroke 122 = .ok (.invokeinterface 89 2, 5) := by decide +kernel
theorem dX10_addStroke_127 : decode cX10_addStroke 127 = .ok (.pop, 1) := by decide +kernel
theorem dX10_addStroke_128 : decode cX10_addStroke 128 = .ok (.aload_n 0, 1) := by decide +kernel
theorem dX10_addStroke_129 : decode cX10_addStroke 129 = .ok (.getfield 45, 3) := by decide +kernel
theorem dX10_addStroke_132 : decode cX10_addStroke 132 = .ok (.invokeinterface 7 1, 5) := by decide +kernel
theorem dX10_addStroke_137 : decode cX10_addStroke 137 = .ok (.ireturn, 1) := by decide +kernel
theorem dX10_clearStrokes_0 : decode cX10_clearStrokes 0 = .ok (.aload_n 0, 1) := by decide +kernel
theorem dX10_clearStrokes_1 : decode cX10_clearStrokes 1 = .ok (.invokevirtual 82, 3) := by decide +kernel
theorem dX10_clearStrokes_4 : decode cX10_clearStrokes 4 = .ok (.aload_n 0, 1) := by decide +kernel
theorem dX10_clearStrokes_5 : decode cX10_clearStrokes 5 = .ok (.getfield 45, 3) := by decide +kernel
theorem dX10_clearStrokes_8 : decode cX10_clearStrokes 8 = .ok (.invokeinterface 7 1, 5) := by decide +kernel
theorem dX10_clearStrokes_13 : decode cX10_clearStrokes 13 = .ok (.istore_n 1, 1) := by decide +kernel
theorem dX10_clearStrokes_14 : decode cX10_clearStrokes 14 = .ok (.aload_n 0, 1) := by decide +kernel
theorem dX10_clearStrokes_15 : decode cX10_clearStrokes 15 = .ok (.getfield 45, 3) := by decide +kernel
theorem dX10_clearStrokes_18 : decode cX10_clearStrokes 18 = .ok (.invokeinterface 181 1, 5) := by decide +kernel
theorem dX10_clearStrokes_23 : decode cX10_clearStrokes 23 = .ok (.iload_n 1, 1) := by decide +kernel
theorem dX10_clearStrokes_24 : decode cX10_clearStrokes 24 = .ok (.ireturn, 1) := by decide +kernel
theorem dX10_push_0 : decode cX10_push 0 = .ok (.iconst 2, 1) := by decide +kernel
theorem dX10_push_1 : decode cX10_push 1 = .ok (.aload_n 0, 1) := by decide +kernel
theorem dX10_push_2 : decode cX10_push 2 = .ok (.getfield 42, 3) := by decide +kernel
theorem dX10_push_5 : decode cX10_push 5 = .ok (.imul, 1) := by decide +kernel
theorem dX10_push_6 : decode cX10_push 6 = .ok (.iconst 3, 1) := by decide +kernel
theorem dX10_push_7 : decode cX10_push 7 = .ok (.aload_n 0, 1) := by decide +kernel
theorem dX10_push_8 : decode cX10_push 8 = .ok (.getfield 39, 3) := by decide +kernel
theorem dX10_push_11 : decode cX10_push 11 = .ok (.imul, 1) := by decide +kernel
theorem dX10_push_12 : decode cX10_push 12 = .ok (.idiv, 1) := by decide +kernel
theorem dX10_push_13 : decode cX10_push 13 = .ok (.ireturn, 1) := by decide +kernel
theorem dX10_runCycles_0 : decode cX10_runCycles 0 = .ok (.aload_n 0, 1) := by decide +kernel
theorem dX10_runCycles_1 : decode cX10_runCycles 1 = .ok (.invokevirtual 82, 3) := by decide +kernel
theorem dX10_runCycles_4 : decode cX10_runCycles 4 = .ok (.aload_n 0, 1) := by decide +kernel
theorem dX10_runCycles_5 : decode cX10_runCycles 5 = .ok (.iload_n 1, 1) := by decide +kernel
theorem dX10_runCycles_6 : decode cX10_runCycles 6 = .ok (.i2l, 1) := by decide +kernel
theorem dX10_runCycles_7 : decode cX10_runCycles 7 = .ok (.lconst 1, 1) := by decide +kernel
theorem dX10_runCycles_8 : decode cX10_runCycles 8 = .ok (.ldc2_w 227, 3) := by decide +kernel
theorem dX10_runCycles_11 : decode cX10_runCycles 11 = .ok (.invokestatic 13, 3) := by decide +kernel
theorem dX10_runCycles_14 : decode cX10_runCycles 14 = .ok (.ifCond .ne 7, 3) := by decide +kernel
theorem dX10_runCycles_17 : decode cX10_runCycles 17 = .ok (.iconst 1, 1) := by decide +kernel
theorem dX10_runCycles_18 : decode cX10_runCycles 18 = .ok (.goto 4, 3) := by decide +kernel
theorem dX10_runCycles_21 : decode cX10_runCycles 21 = .ok (.iconst 0, 1) := by decide +kernel
theorem dX10_runCycles_22 : decode cX10_runCycles 22 = .ok (.iconst 1, 1) := by decide +kernel
theorem dX10_runCycles_23 : decode cX10_runCycles 23 = .ok (.invokevirtual 78, 3) := by decide +kernel
theorem dX10_runCycles_26 : decode cX10_runCycles 26 = .ok (.ifCond .ne 20, 3) := by decide +kernel
theorem dX10_runCycles_29 : decode cX10_runCycles 29 = .ok (.aload_n 0, 1) := by decide +kernel
theorem dX10_runCycles_30 : decode cX10_runCycles 30 = .ok (.aload_n 0, 1) := by decide +kernel
theorem dX10_runCycles_31 : decode cX10_runCycles 31 = .ok (.getfield 45, 3) := by decide +kernel
theorem dX10_runCycles_34 : decode cX10_runCycles 34 = .ok (.invokeinterface 146 1, 5) := by decide +kernel
theorem dX10_runCycles_39 : decode cX10_runCycles 39 = .ok (.iconst 2, 1) := by decide +kernel
theorem dX10_runCycles_40 : decode cX10_runCycles 40 = .ok (.invokevirtual 78, 3) := by decide +kernel
theorem dX10_runCycles_43 : decode cX10_runCycles 43 = .ok (.ifCond .eq 5, 3) := by decide +kernel
theorem dX10_runCycles_46 : decode cX10_runCycles 46 = .ok (.iconst (-1), 1) := by decide +kernel
theorem dX10_runCycles_47 : decode cX10_runCycles 47 = .ok (.ireturn, 1) := by decide +kernel
theorem dX10_wasEnded_0 : decode cX10_wasEnded 0 = .ok (.aload_n 0, 1) := by decide +kernel
theorem dX10_wasEnded_1 : decode cX10_wasEnded 1 = .ok (.invokevirtual 82, 3) := by decide +kernel
theorem dX10_wasEnded_4 : decode cX10_wasEnded 4 = .ok (.aload_n 0, 1) := by decide +kernel
theorem dX10_wasEnded_5 : decode cX10_wasEnded 5 = .ok (.aload_n 0, 1) := by decide +kernel
theorem dX10_wasEnded_6 : decode cX10_wasEnded 6 = .ok (.getfield 229, 3) := by decide +kernel
theorem dX10_wasEnded_9 : decode cX10_wasEnded 9 = .ok (.ifCond .ne 7, 3) := by decide +kernel
theorem dX10_wasEnded_12 : decode cX10_wasEnded 12 = .ok (.iconst 1, 1) := by decide +kernel
theorem dX10_wasEnded_13 : decode cX10_wasEnded 13 = .ok (.goto 4, 3) := by decide +kernel
theorem dX10_wasEnded_17 : decode cX10_wasEnded 17 = .ok (.iconst 1, 1) := by decide +kernel
theorem dX10_wasEnded_18 : decode cX10_wasEnded 18 = .ok (.invokevirtual 78, 3) := by decide +kernel
theorem dX10_wasEnded_21 : decode cX10_wasEnded 21 = .ok (.ifCond .ne 14, 3) := by decide +kernel
theorem dX10_wasEnded_35 : decode cX10_wasEnded 35 = .ok (.iconst 0, 1) := by decide +kernel
theorem dX10_wasEnded_36 : decode cX10_wasEnded 36 = .ok (.ireturn, 1) := by decide +kernel
theorem dX10_gasEnergy_0 : decode cX10_gasEnergy 0 = .ok (.aload_n 0, 1) := by decide +kernel
theorem dX10_gasEnergy_1 : decode cX10_gasEnergy 1 = .ok (.invokevirtual 82, 3) := by decide +kernel
theorem dX10_gasEnergy_4 : decode cX10_gasEnergy 4 = .ok (.aload_n 0, 1) := by decide +kernel
theorem dX10_gasEnergy_5 : decode cX10_gasEnergy 5 = .ok (.getfield 42, 3) := by decide +kernel
theorem dX10_gasEnergy_8 : decode cX10_gasEnergy 8 = .ok (.ireturn, 1) := by decide +kernel
theorem dX10_gasPressure_0 : decode cX10_gasPressure 0 = .ok (.aload_n 0, 1) := by decide +kernel
theorem dX10_gasPressure_1 : decode cX10_gasPressure 1 = .ok (.invokevirtual 82, 3) := by decide +kernel
theorem dX10_gasPressure_4 : decode cX10_gasPressure 4 = .ok (.aload_n 0, 1) := by decide +kernel
theorem dX10_gasPressure_5 : decode cX10_gasPressure 5 = .ok (.invokevirtual 211, 3) := by decide +kernel
theorem dX10_gasPressure_8 : decode cX10_gasPressure 8 = .ok (.ireturn, 1) := by decide +kernel
theorem dX10_gasVolume_0 : decode cX10_gasVolume 0 = .ok (.aload_n 0, 1) := by decide +kernel
theorem dX10_gasVolume_1 : decode cX10_gasVolume 1 = .ok (.invokevirtual 82, 3) := by decide +kernel
theorem dX10_gasVolume_4 : decode cX10_gasVolume 4 = .ok (.aload_n 0, 1) := by decide +kernel
theorem dX10_gasVolume_5 : decode cX10_gasVolume 5 = .ok (.getfield 39, 3) := by decide +kernel
theorem dX10_gasVolume_8 : decode cX10_gasVolume 8 = .ok (.ireturn, 1) := by decide +kernel
theorem dX10_cardAt_0 : decode cX10_cardAt 0 = .ok (.aload_n 0, 1) := by decide +kernel
theorem dX10_cardAt_1 : decode cX10_cardAt 1 = .ok (.invokevirtual 82, 3) := by decide +kernel
theorem dX10_cardAt_4 : decode cX10_cardAt 4 = .ok (.aload_n 0, 1) := by decide +kernel
theorem dX10_cardAt_5 : decode cX10_cardAt 5 = .ok (.aload_n 0, 1) := by decide +kernel
theorem dX10_cardAt_6 : decode cX10_cardAt 6 = .ok (.getfield 48, 3) := by decide +kernel
theorem dX10_cardAt_9 : decode cX10_cardAt 9 = .ok (.iload_n 1, 1) := by decide +kernel
theorem dX10_cardAt_10 : decode cX10_cardAt 10 = .ok (.invokestatic 74, 3) := by decide +kernel
theorem dX10_cardAt_13 : decode cX10_cardAt 13 = .ok (.ifCond .ne 7, 3) := by decide +kernel
theorem dX10_cardAt_16 : decode cX10_cardAt 16 = .ok (.iconst 1, 1) := by decide +kernel
theorem dX10_cardAt_17 : decode cX10_cardAt 17 = .ok (.goto 4, 3) := by decide +kernel
theorem dX10_cardAt_21 : decode cX10_cardAt 21 = .ok (.iconst 1, 1) := by decide +kernel
theorem dX10_cardAt_22 : decode cX10_cardAt 22 = .ok (.invokevirtual 78, 3) := by decide +kernel
theorem dX10_cardAt_25 : decode cX10_cardAt 25 = .ok (.ifCond .eq 7, 3) := by decide +kernel
theorem dX10_cardAt_28 : decode cX10_cardAt 28 = .ok (.iconst (-1), 1) := by decide +kernel
theorem dX10_cardAt_29 : decode cX10_cardAt 29 = .ok (.goto 19, 3) := by decide +kernel
theorem dX10_cardAt_48 : decode cX10_cardAt 48 = .ok (.ireturn, 1) := by decide +kernel
theorem dX10_addStream_0 : decode cX10_addStream 0 = .ok (.aload_n 0, 1) := by decide +kernel
theorem dX10_addStream_1 : decode cX10_addStream 1 = .ok (.invokevirtual 82, 3) := by decide +kernel
theorem dX10_addStream_4 : decode cX10_addStream 4 = .ok (.aload_n 0, 1) := by decide +kernel
theorem dX10_addStream_5 : decode cX10_addStream 5 = .ok (.iload_n 1, 1) := by decide +kernel
theorem dX10_addStream_6 : decode cX10_addStream 6 = .ok (.i2l, 1) := by decide +kernel
theorem dX10_addStream_7 : decode cX10_addStream 7 = .ok (.ldc2_w 85, 3) := by decide +kernel
theorem dX10_addStream_10 : decode cX10_addStream 10 = .ok (.ldc2_w 142, 3) := by decide +kernel
theorem dX10_addStream_13 : decode cX10_addStream 13 = .ok (.invokestatic 13, 3) := by decide +kernel
theorem dX10_addStream_16 : decode cX10_addStream 16 = .ok (.ifCond .eq 34, 3) := by decide +kernel
theorem dX10_addStream_19 : decode cX10_addStream 19 = .ok (.iload_n 2, 1) := by decide +kernel
theorem dX10_addStream_20 : decode cX10_addStream 20 = .ok (.i2l, 1) := by decide +kernel
theorem dX10_addStream_21 : decode cX10_addStream 21 = .ok (.ldc2_w 85, 3) := by decide +kernel
theorem dX10_addStream_24 : decode cX10_addStream 24 = .ok (.ldc2_w 142, 3) := by decide +kernel
theorem dX10_addStream_27 : decode cX10_addStream 27 = .ok (.invokestatic 13, 3) := by decide +kernel
theorem dX10_addStream_30 : decode cX10_addStream 30 = .ok (.ifCond .eq 20, 3) := by decide +kernel
theorem dX10_addStream_33 : decode cX10_addStream 33 = .ok (.iload_n 3, 1) := by decide +kernel
theorem dX10_addStream_34 : decode cX10_addStream 34 = .ok (.i2l, 1) := by decide +kernel
theorem dX10_addStream_35 : decode cX10_addStream 35 = .ok (.lconst 1, 1) := by decide +kernel
theorem dX10_addStream_36 : decode cX10_addStream 36 = .ok (.ldc2_w 85, 3) := by decide +kernel
theorem dX10_addStream_39 : decode cX10_addStream 39 = .ok (.invokestatic 13, 3) := by decide +kernel
theorem dX10_addStream_42 : decode cX10_addStream 42 = .ok (.ifCond .eq 8, 3) := by decide +kernel
theorem dX10_addStream_45 : decode cX10_addStream 45 = .ok (.iload_n 1, 1) := by decide +kernel
theorem dX10_addStream_46 : decode cX10_addStream 46 = .ok (.iload_n 2, 1) := by decide +kernel
theorem dX10_addStream_47 : decode cX10_addStream 47 = .ok (.if_icmp .ne 7, 3) := by decide +kernel
theorem dX10_addStream_50 : decode cX10_addStream 50 = .ok (.iconst 1, 1) := by decide +kernel
theorem dX10_addStream_51 : decode cX10_addStream 51 = .ok (.goto 4, 3) := by decide +kernel
theorem dX10_addStream_54 : decode cX10_addStream 54 = .ok (.iconst 0, 1) := by decide +kernel
theorem dX10_addStream_55 : decode cX10_addStream 55 = .ok (.iconst 1, 1) := by decide +kernel
theorem dX10_addStream_56 : decode cX10_addStream 56 = .ok (.invokevirtual 78, 3) := by decide +kernel
theorem dX10_addStream_59 : decode cX10_addStream 59 = .ok (.ifCond .ne 30, 3) := by decide +kernel
theorem dX10_addStream_62 : decode cX10_addStream 62 = .ok (.aload_n 0, 1) := by decide +kernel
theorem dX10_addStream_63 : decode cX10_addStream 63 = .ok (.aload_n 0, 1) := by decide +kernel
theorem dX10_addStream_64 : decode cX10_addStream 64 = .ok (.getfield 51, 3) := by decide +kernel
theorem dX10_addStream_67 : decode cX10_addStream 67 = .ok (.invokeinterface 7 1, 5) := by decide +kernel
theorem dX10_addStream_72 : decode cX10_addStream 72 = .ok (.bipush 10, 2) := by decide +kernel
theorem dX10_addStream_74 : decode cX10_addStream 74 = .ok (.if_icmp .ne 7, 3) := by decide +kernel
theorem dX10_addStream_81 : decode cX10_addStream 81 = .ok (.iconst 0, 1) := by decide +kernel
theorem dX10_addStream_82 : decode cX10_addStream 82 = .ok (.iconst 2, 1) := by decide +kernel
theorem dX10_addStream_83 : decode cX10_addStream 83 = .ok (.invokevirtual 78, 3) := by decide +kernel
theorem dX10_addStream_86 : decode cX10_addStream 86 = .ok (.ifCond .eq 5, 3) := by decide +kernel
theorem dX10_addStream_89 : decode cX10_addStream 89 = .ok (.iconst (-1), 1) := by decide +kernel
theorem dX10_addStream_90 : decode cX10_addStream 90 = .ok (.ireturn, 1) := by decide +kernel
theorem dX10_addStream_91 : decode cX10_addStream 91 = .ok (.aload_n 0, 1) := by decide +kernel
theorem dX10_addStream_92 : decode cX10_addStream 92 = .ok (.getfield 51, 3) := by decide +kernel
theorem dX10_addStream_95 : decode cX10_addStream 95 = .ok (.iconst 3, 1) := by decide +kernel
theorem dX10_addStream_96 : decode cX10_addStream 96 = .ok (.newarray .int, 2) := by decide +kernel
theorem dX10_addStream_98 : decode cX10_addStream 98 = .ok (.dup, 1) := by decide +kernel
theorem dX10_addStream_99 : decode cX10_addStream 99 = .ok (.iconst 0, 1) := by decide +kernel
theorem dX10_addStream_100 : decode cX10_addStream 100 = .ok (.iload_n 1, 1) := by decide +kernel
theorem dX10_addStream_101 : decode cX10_addStream 101 = .ok (.iastore, 1) := by decide +kernel
theorem dX10_addStream_102 : decode cX10_addStream 102 = .ok (.dup, 1) := by decide +kernel
theorem dX10_addStream_103 : decode cX10_addStream 103 = .ok (.iconst 1, 1) := by decide +kernel
theorem dX10_addStream_104 : decode cX10_addStream 104 = .ok (.iload_n 2, 1) := by decide +kernel
theorem dX10_addStream_105 : decode cX10_addStream 105 = .ok (.iastore, 1) := by decide +kernel
theorem dX10_addStream_106 : decode cX10_addStream 106 = .ok (.dup, 1) := by decide +kernel
theorem dX10_addStream_107 : decode cX10_addStream 107 = .ok (.iconst 2, 1) := by decide +kernel
theorem dX10_addStream_108 : decode cX10_addStream 108 = .ok (.iload_n 3, 1) := by decide +kernel
theorem dX10_addStream_109 : decode cX10_addStream 109 = .ok (.iastore, 1) := by decide +kernel
theorem dX10_addStream_110 : decode cX10_addStream 110 = .ok (.invokeinterface 89 2, 5) := by decide +kernel
theorem dX10_addStream_115 : decode cX10_addStream 115 = .ok (.pop, 1) := by decide +kernel
theorem dX10_addStream_116 : decode cX10_addStream 116 = .ok (.aload_n 0, 1) := by decide +kernel
theorem dX10_addStream_117 : decode cX10_addStream 117 = .ok (.getfield 51, 3) := by decide +kernel
theorem dX10_addStream_120 : decode cX10_addStream 120 = .ok (.invokeinterface 7 1, 5) := by decide +kernel
theorem dX10_addStream_125 : decode cX10_addStream 125 = .ok (.ireturn, 1) := by decide +kernel
theorem dX10_clearStreams_0 : decode cX10_clearStreams 0 = .ok (.aload_n 0, 1) := by decide +kernel
theorem dX10_clearStreams_1 : decode cX10_clearStreams 1 = .ok (.invokevirtual 82, 3) := by decide +kernel
theorem dX10_clearStreams_4 : decode cX10_clearStreams 4 = .ok (.aload_n 0, 1) := by decide +kernel
theorem dX10_clearStreams_5 : decode cX10_clearStreams 5 = .ok (.getfield 51, 3) := by decide +kernel
theorem dX10_clearStreams_8 : decode cX10_clearStreams 8 = .ok (.invokeinterface 7 1, 5) := by decide +kernel
theorem dX10_clearStreams_13 : decode cX10_clearStreams 13 = .ok (.istore_n 1, 1) := by decide +kernel
theorem dX10_clearStreams_14 : decode cX10_clearStreams 14 = .ok (.aload_n 0, 1) := by decide +kernel
theorem dX10_clearStreams_15 : decode cX10_clearStreams 15 = .ok (.getfield 51, 3) := by decide +kernel
theorem dX10_clearStreams_18 : decode cX10_clearStreams 18 = .ok (.invokeinterface 181 1, 5) := by decide +kernel
theorem dX10_clearStreams_23 : decode cX10_clearStreams 23 = .ok (.iload_n 1, 1) := by decide +kernel
theorem dX10_clearStreams_24 : decode cX10_clearStreams 24 = .ok (.ireturn, 1) := by decide +kernel
theorem dX10_gives_0 : decode cX10_gives 0 = .ok (.iconst 0, 1) := by decide +kernel
theorem dX10_gives_1 : decode cX10_gives 1 = .ok (.istore_n 3, 1) := by decide +kernel
theorem dX10_gives_2 : decode cX10_gives 2 = .ok (.aload_n 0, 1) := by decide +kernel
theorem dX10_gives_3 : decode cX10_gives 3 = .ok (.getfield 51, 3) := by decide +kernel
theorem dX10_gives_6 : decode cX10_gives 6 = .ok (.invokeinterface 187 1, 5) := by decide +kernel
theorem dX10_gives_11 : decode cX10_gives 11 = .ok (.astore 4, 2) := by decide +kernel
theorem dX10_gives_13 : decode cX10_gives 13 = .ok (.aload 4, 2) := by decide +kernel
theorem dX10_gives_15 : decode cX10_gives 15 = .ok (.invokeinterface 191 1, 5) := by decide +kernel
theorem dX10_gives_20 : decode cX10_gives 20 = .ok (.ifCond .eq 120, 3) := by decide +kernel
theorem dX10_gives_140 : decode cX10_gives 140 = .ok (.iload_n 3, 1) := by decide +kernel
theorem dX10_gives_141 : decode cX10_gives 141 = .ok (.ireturn, 1) := by decide +kernel
theorem dX10_cascade_0 : decode cX10_cascade 0 = .ok (.iconst 0, 1) := by decide +kernel
theorem dX10_cascade_1 : decode cX10_cascade 1 = .ok (.istore_n 2, 1) := by decide +kernel
theorem dX10_cascade_2 : decode cX10_cascade 2 = .ok (.iconst 0, 1) := by decide +kernel
theorem dX10_cascade_3 : decode cX10_cascade 3 = .ok (.istore_n 3, 1) := by decide +kernel
theorem dX10_cascade_4 : decode cX10_cascade 4 = .ok (.iconst 0, 1) := by decide +kernel
theorem dX10_cascade_5 : decode cX10_cascade 5 = .ok (.istore 4, 2) := by decide +kernel
theorem dX10_cascade_7 : decode cX10_cascade 7 = .ok (.sipush 1000, 3) := by decide +kernel
theorem dX10_cascade_10 : decode cX10_cascade 10 = .ok (.istore 5, 2) := by decide +kernel
theorem dX10_cascade_12 : decode cX10_cascade 12 = .ok (.iload 5, 2) := by decide +kernel
theorem dX10_cascade_14 : decode cX10_cascade 14 = .ok (.bipush (-100), 2) := by decide +kernel
theorem dX10_cascade_16 : decode cX10_cascade 16 = .ok (.if_icmp .lt 41, 3) := by decide +kernel
theorem dX10_cascade_19 : decode cX10_cascade 19 = .ok (.iload 4, 2) := by decide +kernel
theorem dX10_cascade_21 : decode cX10_cascade 21 = .ok (.aload_n 0, 1) := by decide +kernel
theorem dX10_cascade_22 : decode cX10_cascade 22 = .ok (.iload 5, 2) := by decide +kernel
theorem dX10_cascade_24 : decode cX10_cascade 24 = .ok (.iload_n 1, 1) := by decide +kernel
theorem dX10_cascade_25 : decode cX10_cascade 25 = .ok (.invokevirtual 244, 3) := by decide +kernel
theorem dX10_cascade_28 : decode cX10_cascade 28 = .ok (.iadd, 1) := by decide +kernel
theorem dX10_cascade_29 : decode cX10_cascade 29 = .ok (.istore 4, 2) := by decide +kernel
theorem dX10_cascade_31 : decode cX10_cascade 31 = .ok (.iload 4, 2) := by decide +kernel
theorem dX10_cascade_33 : decode cX10_cascade 33 = .ok (.iload_n 2, 1) := by decide +kernel
theorem dX10_cascade_34 : decode cX10_cascade 34 = .ok (.if_icmp .ge 8, 3) := by decide +kernel
theorem dX10_cascade_42 : decode cX10_cascade 42 = .ok (.iload_n 3, 1) := by decide +kernel
theorem dX10_cascade_43 : decode cX10_cascade 43 = .ok (.istore_n 3, 1) := by decide +kernel
theorem dX10_cascade_44 : decode cX10_cascade 44 = .ok (.iload_n 2, 1) := by decide +kernel
theorem dX10_cascade_45 : decode cX10_cascade 45 = .ok (.iload 4, 2) := by decide +kernel
theorem dX10_cascade_47 : decode cX10_cascade 47 = .ok (.invokestatic 241, 3) := by decide +kernel
theorem dX10_cascade_50 : decode cX10_cascade 50 = .ok (.istore_n 2, 1) := by decide +kernel
theorem dX10_cascade_51 : decode cX10_cascade 51 = .ok (.iinc 5 (-1), 3) := by decide +kernel
theorem dX10_cascade_54 : decode cX10_cascade 54 = .ok (.goto (-42), 3) := by decide +kernel
theorem dX10_cascade_57 : decode cX10_cascade 57 = .ok (.iconst 3, 1) := by decide +kernel
theorem dX10_cascade_58 : decode cX10_cascade 58 = .ok (.newarray .int, 2) := by decide +kernel
theorem dX10_cascade_60 : decode cX10_cascade 60 = .ok (.dup, 1) := by decide +kernel
theorem dX10_cascade_61 : decode cX10_cascade 61 = .ok (.iconst 0, 1) := by decide +kernel
theorem dX10_cascade_62 : decode cX10_cascade 62 = .ok (.iload_n 2, 1) := by decide +kernel
theorem dX10_cascade_63 : decode cX10_cascade 63 = .ok (.ineg, 1) := by decide +kernel
theorem dX10_cascade_64 : decode cX10_cascade 64 = .ok (.iastore, 1) := by decide +kernel
theorem dX10_cascade_65 : decode cX10_cascade 65 = .ok (.dup, 1) := by decide +kernel
theorem dX10_cascade_66 : decode cX10_cascade 66 = .ok (.iconst 1, 1) := by decide +kernel
theorem dX10_cascade_67 : decode cX10_cascade 67 = .ok (.iload 4, 2) := by decide +kernel
theorem dX10_cascade_69 : decode cX10_cascade 69 = .ok (.iastore, 1) := by decide +kernel
theorem dX10_cascade_70 : decode cX10_cascade 70 = .ok (.dup, 1) := by decide +kernel
theorem dX10_cascade_71 : decode cX10_cascade 71 = .ok (.iconst 2, 1) := by decide +kernel
theorem dX10_cascade_72 : decode cX10_cascade 72 = .ok (.iload_n 3, 1) := by decide +kernel
theorem dX10_cascade_73 : decode cX10_cascade 73 = .ok (.iastore, 1) := by decide +kernel
theorem dX10_cascade_74 : decode cX10_cascade 74 = .ok (.areturn, 1) := by decide +kernel
theorem dX10_noApproach_0 : decode cX10_noApproach 0 = .ok (.aload_n 0, 1) := by decide +kernel
theorem dX10_noApproach_1 : decode cX10_noApproach 1 = .ok (.iload_n 1, 1) := by decide +kernel
theorem dX10_noApproach_2 : decode cX10_noApproach 2 = .ok (.i2l, 1) := by decide +kernel
theorem dX10_noApproach_3 : decode cX10_noApproach 3 = .ok (.lconst 0, 1) := by decide +kernel
theorem dX10_noApproach_4 : decode cX10_noApproach 4 = .ok (.ldc2_w 179, 3) := by decide +kernel
theorem dX10_noApproach_7 : decode cX10_noApproach 7 = .ok (.invokestatic 13, 3) := by decide +kernel
theorem dX10_noApproach_10 : decode cX10_noApproach 10 = .ok (.ifCond .ne 7, 3) := by decide +kernel
theorem dX10_noApproach_13 : decode cX10_noApproach 13 = .ok (.iconst 1, 1) := by decide +kernel
theorem dX10_noApproach_14 : decode cX10_noApproach 14 = .ok (.goto 4, 3) := by decide +kernel
theorem dX10_noApproach_17 : decode cX10_noApproach 17 = .ok (.iconst 0, 1) := by decide +kernel
theorem dX10_noApproach_18 : decode cX10_noApproach 18 = .ok (.iconst 1, 1) := by decide +kernel
theorem dX10_noApproach_19 : decode cX10_noApproach 19 = .ok (.invokevirtual 78, 3) := by decide +kernel
theorem dX10_noApproach_22 : decode cX10_noApproach 22 = .ok (.ireturn, 1) := by decide +kernel
theorem dX10_heatNeeded_0 : decode cX10_heatNeeded 0 = .ok (.aload_n 0, 1) := by decide +kernel
theorem dX10_heatNeeded_1 : decode cX10_heatNeeded 1 = .ok (.invokevirtual 82, 3) := by decide +kernel
theorem dX10_heatNeeded_4 : decode cX10_heatNeeded 4 = .ok (.aload_n 0, 1) := by decide +kernel
theorem dX10_heatNeeded_5 : decode cX10_heatNeeded 5 = .ok (.iload_n 1, 1) := by decide +kernel
theorem dX10_heatNeeded_6 : decode cX10_heatNeeded 6 = .ok (.invokevirtual 247, 3) := by decide +kernel
theorem dX10_heatNeeded_9 : decode cX10_heatNeeded 9 = .ok (.ifCond .eq 7, 3) := by decide +kernel
theorem dX10_heatNeeded_12 : decode cX10_heatNeeded 12 = .ok (.iconst (-1), 1) := by decide +kernel
theorem dX10_heatNeeded_13 : decode cX10_heatNeeded 13 = .ok (.goto 10, 3) := by decide +kernel
theorem dX10_heatNeeded_16 : decode cX10_heatNeeded 16 = .ok (.aload_n 0, 1) := by decide +kernel
theorem dX10_heatNeeded_17 : decode cX10_heatNeeded 17 = .ok (.iload_n 1, 1) := by decide +kernel
theorem dX10_heatNeeded_18 : decode cX10_heatNeeded 18 = .ok (.invokevirtual 250, 3) := by decide +kernel
theorem dX10_heatNeeded_21 : decode cX10_heatNeeded 21 = .ok (.iconst 0, 1) := by decide +kernel
theorem dX10_heatNeeded_22 : decode cX10_heatNeeded 22 = .ok (.iaload, 1) := by decide +kernel
theorem dX10_heatNeeded_23 : decode cX10_heatNeeded 23 = .ok (.ireturn, 1) := by decide +kernel
theorem dX10_coldNeeded_0 : decode cX10_coldNeeded 0 = .ok (.aload_n 0, 1) := by decide +kernel
theorem dX10_coldNeeded_1 : decode cX10_coldNeeded 1 = .ok (.invokevirtual 82, 3) := by decide +kernel
theorem dX10_coldNeeded_4 : decode cX10_coldNeeded 4 = .ok (.aload_n 0, 1) := by decide +kernel
theorem dX10_coldNeeded_5 : decode cX10_coldNeeded 5 = .ok (.iload_n 1, 1) := by decide +kernel
theorem dX10_coldNeeded_6 : decode cX10_coldNeeded 6 = .ok (.invokevirtual 247, 3) := by decide +kernel
theorem dX10_coldNeeded_9 : decode cX10_coldNeeded 9 = .ok (.ifCond .eq 7, 3) := by decide +kernel
theorem dX10_coldNeeded_12 : decode cX10_coldNeeded 12 = .ok (.iconst (-1), 1) := by decide +kernel
theorem dX10_coldNeeded_13 : decode cX10_coldNeeded 13 = .ok (.goto 18, 3) := by decide +kernel
theorem dX10_coldNeeded_16 : decode cX10_coldNeeded 16 = .ok (.aload_n 0, 1) := by decide +kernel
theorem dX10_coldNeeded_17 : decode cX10_coldNeeded 17 = .ok (.iload_n 1, 1) := by decide +kernel
theorem dX10_coldNeeded_18 : decode cX10_coldNeeded 18 = .ok (.invokevirtual 250, 3) := by decide +kernel
theorem dX10_coldNeeded_21 : decode cX10_coldNeeded 21 = .ok (.iconst 0, 1) := by decide +kernel
theorem dX10_coldNeeded_22 : decode cX10_coldNeeded 22 = .ok (.iaload, 1) := by decide +kernel
theorem dX10_coldNeeded_23 : decode cX10_coldNeeded 23 = .ok (.aload_n 0, 1) := by decide +kernel
theorem dX10_coldNeeded_24 : decode cX10_coldNeeded 24 = .ok (.iload_n 1, 1) := by decide +kernel
theorem dX10_coldNeeded_25 : decode cX10_coldNeeded 25 = .ok (.invokevirtual 250, 3) := by decide +kernel
theorem dX10_coldNeeded_28 : decode cX10_coldNeeded 28 = .ok (.iconst 1, 1) := by decide +kernel
theorem dX10_coldNeeded_29 : decode cX10_coldNeeded 29 = .ok (.iaload, 1) := by decide +kernel
theorem dX10_coldNeeded_30 : decode cX10_coldNeeded 30 = .ok (.iadd, 1) := by decide +kernel
theorem dX10_coldNeeded_31 : decode cX10_coldNeeded 31 = .ok (.ireturn, 1) := by decide +kernel
theorem dX10_pinch_0 : decode cX10_pinch 0 = .ok (.aload_n 0, 1) := by decide +kernel
theorem dX10_pinch_1 : decode cX10_pinch 1 = .ok (.invokevirtual 82, 3) := by decide +kernel
theorem dX10_pinch_4 : decode cX10_pinch 4 = .ok (.aload_n 0, 1) := by decide +kernel
theorem dX10_pinch_5 : decode cX10_pinch 5 = .ok (.iload_n 1, 1) := by decide +kernel
theorem dX10_pinch_6 : decode cX10_pinch 6 = .ok (.invokevirtual 247, 3) := by decide +kernel
theorem dX10_pinch_9 : decode cX10_pinch 9 = .ok (.ifCond .ne 26, 3) := by decide +kernel
theorem dX10_pinch_12 : decode cX10_pinch 12 = .ok (.aload_n 0, 1) := by decide +kernel
theorem dX10_pinch_13 : decode cX10_pinch 13 = .ok (.aload_n 0, 1) := by decide +kernel
theorem dX10_pinch_14 : decode cX10_pinch 14 = .ok (.iload_n 1, 1) := by decide +kernel
theorem dX10_pinch_15 : decode cX10_pinch 15 = .ok (.invokevirtual 250, 3) := by decide +kernel
theorem dX10_pinch_18 : decode cX10_pinch 18 = .ok (.iconst 0, 1) := by decide +kernel
theorem dX10_pinch_19 : decode cX10_pinch 19 = .ok (.iaload, 1) := by decide +kernel
theorem dX10_pinch_20 : decode cX10_pinch 20 = .ok (.ifCond .ne 7, 3) := by decide +kernel
theorem dX10_pinch_23 : decode cX10_pinch 23 = .ok (.iconst 1, 1) := by decide +kernel
theorem dX10_pinch_24 : decode cX10_pinch 24 = .ok (.goto 4, 3) := by decide +kernel
theorem dX10_pinch_28 : decode cX10_pinch 28 = .ok (.iconst 2, 1) := by decide +kernel
theorem dX10_pinch_29 : decode cX10_pinch 29 = .ok (.invokevirtual 78, 3) := by decide +kernel
theorem dX10_pinch_32 : decode cX10_pinch 32 = .ok (.ifCond .eq 7, 3) := by decide +kernel
theorem dX10_pinch_35 : decode cX10_pinch 35 = .ok (.iconst (-1), 1) := by decide +kernel
theorem dX10_pinch_36 : decode cX10_pinch 36 = .ok (.goto 10, 3) := by decide +kernel
theorem dX10_pinch_46 : decode cX10_pinch 46 = .ok (.ireturn, 1) := by decide +kernel
theorem dX10_setGovernor_0 : decode cX10_setGovernor 0 = .ok (.aload_n 0, 1) := by decide +kernel
theorem dX10_setGovernor_1 : decode cX10_setGovernor 1 = .ok (.invokevirtual 82, 3) := by decide +kernel
theorem dX10_setGovernor_4 : decode cX10_setGovernor 4 = .ok (.aload_n 0, 1) := by decide +kernel
theorem dX10_setGovernor_5 : decode cX10_setGovernor 5 = .ok (.iload_n 1, 1) := by decide +kernel
theorem dX10_setGovernor_6 : decode cX10_setGovernor 6 = .ok (.i2l, 1) := by decide +kernel
theorem dX10_setGovernor_7 : decode cX10_setGovernor 7 = .ok (.lconst 0, 1) := by decide +kernel
theorem dX10_setGovernor_8 : decode cX10_setGovernor 8 = .ok (.ldc2_w 254, 3) := by decide +kernel
theorem dX10_setGovernor_11 : decode cX10_setGovernor 11 = .ok (.invokestatic 13, 3) := by decide +kernel
theorem dX10_setGovernor_14 : decode cX10_setGovernor 14 = .ok (.ifCond .eq 40, 3) := by decide +kernel
theorem dX10_setGovernor_17 : decode cX10_setGovernor 17 = .ok (.iload_n 2, 1) := by decide +kernel
theorem dX10_setGovernor_18 : decode cX10_setGovernor 18 = .ok (.i2l, 1) := by decide +kernel
theorem dX10_setGovernor_19 : decode cX10_setGovernor 19 = .ok (.lconst 0, 1) := by decide +kernel
theorem dX10_setGovernor_20 : decode cX10_setGovernor 20 = .ok (.ldc2_w 179, 3) := by decide +kernel
theorem dX10_setGovernor_23 : decode cX10_setGovernor 23 = .ok (.invokestatic 13, 3) := by decide +kernel
theorem dX10_setGovernor_26 : decode cX10_setGovernor 26 = .ok (.ifCond .eq 28, 3) := by decide +kernel
theorem dX10_setGovernor_29 : decode cX10_setGovernor 29 = .ok (.iload_n 3, 1) := by decide +kernel
theorem dX10_setGovernor_30 : decode cX10_setGovernor 30 = .ok (.i2l, 1) := by decide +kernel
theorem dX10_setGovernor_31 : decode cX10_setGovernor 31 = .ok (.lconst 0, 1) := by decide +kernel
theorem dX10_setGovernor_32 : decode cX10_setGovernor 32 = .ok (.ldc2_w 85, 3) := by decide +kernel
theorem dX10_setGovernor_35 : decode cX10_setGovernor 35 = .ok (.invokestatic 13, 3) := by decide +kernel
theorem dX10_setGovernor_38 : decode cX10_setGovernor 38 = .ok (.ifCond .eq 16, 3) := by decide +kernel
theorem dX10_setGovernor_41 : decode cX10_setGovernor 41 = .ok (.iload 4, 2) := by decide +kernel
theorem dX10_setGovernor_43 : decode cX10_setGovernor 43 = .ok (.i2l, 1) := by decide +kernel
theorem dX10_setGovernor_44 : decode cX10_setGovernor 44 = .ok (.lconst 0, 1) := by decide +kernel
theorem dX10_setGovernor_45 : decode cX10_setGovernor 45 = .ok (.ldc2_w 256, 3) := by decide +kernel
theorem dX10_setGovernor_48 : decode cX10_setGovernor 48 = .ok (.invokestatic 13, 3) := by decide +kernel
theorem dX10_setGovernor_51 : decode cX10_setGovernor 51 = .ok (.ifCond .ne 7, 3) := by decide +kernel
theorem dX10_setGovernor_54 : decode cX10_setGovernor 54 = .ok (.iconst 1, 1) := by decide +kernel
theorem dX10_setGovernor_55 : decode cX10_setGovernor 55 = .ok (.goto 4, 3) := by decide +kernel
theorem dX10_setGovernor_58 : decode cX10_setGovernor 58 = .ok (.iconst 0, 1) := by decide +kernel
theorem dX10_setGovernor_59 : decode cX10_setGovernor 59 = .ok (.iconst 1, 1) := by decide +kernel
theorem dX10_setGovernor_60 : decode cX10_setGovernor 60 = .ok (.invokevirtual 78, 3) := by decide +kernel
theorem dX10_setGovernor_63 : decode cX10_setGovernor 63 = .ok (.ifCond .eq 5, 3) := by decide +kernel
theorem dX10_setGovernor_66 : decode cX10_setGovernor 66 = .ok (.iconst (-1), 1) := by decide +kernel
theorem dX10_setGovernor_67 : decode cX10_setGovernor 67 = .ok (.ireturn, 1) := by decide +kernel
theorem dX10_setGovernor_68 : decode cX10_setGovernor 68 = .ok (.aload_n 0, 1) := by decide +kernel
theorem dX10_setGovernor_69 : decode cX10_setGovernor 69 = .ok (.getfield 63, 3) := by decide +kernel
theorem dX10_setGovernor_72 : decode cX10_setGovernor 72 = .ok (.istore 5, 2) := by decide +kernel
theorem dX10_setGovernor_74 : decode cX10_setGovernor 74 = .ok (.aload_n 0, 1) := by decide +kernel
theorem dX10_setGovernor_75 : decode cX10_setGovernor 75 = .ok (.iload_n 1, 1) := by decide +kernel
theorem dX10_setGovernor_76 : decode cX10_setGovernor 76 = .ok (.putfield 63, 3) := by decide +kernel
theorem dX10_setGovernor_79 : decode cX10_setGovernor 79 = .ok (.aload_n 0, 1) := by decide +kernel
theorem dX10_setGovernor_80 : decode cX10_setGovernor 80 = .ok (.iload_n 2, 1) := by decide +kernel
theorem dX10_setGovernor_81 : decode cX10_setGovernor 81 = .ok (.putfield 66, 3) := by decide +kernel
theorem dX10_setGovernor_84 : decode cX10_setGovernor 84 = .ok (.aload_n 0, 1) := by decide +kernel
theorem dX10_setGovernor_85 : decode cX10_setGovernor 85 = .ok (.iload_n 3, 1) := by decide +kernel
theorem dX10_setGovernor_86 : decode cX10_setGovernor 86 = .ok (.putfield 258, 3) := by decide +kernel
theorem dX10_setGovernor_89 : decode cX10_setGovernor 89 = .ok (.aload_n 0, 1) := by decide +kernel
theorem dX10_setGovernor_90 : decode cX10_setGovernor 90 = .ok (.iload 4, 2) := by decide +kernel
theorem dX10_setGovernor_92 : decode cX10_setGovernor 92 = .ok (.putfield 69, 3) := by decide +kernel
theorem dX10_setGovernor_95 : decode cX10_setGovernor 95 = .ok (.iload 5, 2) := by decide +kernel
theorem dX10_setGovernor_97 : decode cX10_setGovernor 97 = .ok (.ireturn, 1) := by decide +kernel
theorem dX10_setLoad_0 : decode cX10_setLoad 0 = .ok (.aload_n 0, 1) := by decide +kernel
theorem dX10_setLoad_1 : decode cX10_setLoad 1 = .ok (.invokevirtual 82, 3) := by decide +kernel
theorem dX10_setLoad_4 : decode cX10_setLoad 4 = .ok (.aload_n 0, 1) := by decide +kernel
theorem dX10_setLoad_5 : decode cX10_setLoad 5 = .ok (.iload_n 1, 1) := by decide +kernel
theorem dX10_setLoad_6 : decode cX10_setLoad 6 = .ok (.i2l, 1) := by decide +kernel
theorem dX10_setLoad_7 : decode cX10_setLoad 7 = .ok (.lconst 0, 1) := by decide +kernel
theorem dX10_setLoad_8 : decode cX10_setLoad 8 = .ok (.ldc2_w 179, 3) := by decide +kernel
theorem dX10_setLoad_11 : decode cX10_setLoad 11 = .ok (.invokestatic 13, 3) := by decide +kernel
theorem dX10_setLoad_14 : decode cX10_setLoad 14 = .ok (.ifCond .ne 7, 3) := by decide +kernel
theorem dX10_setLoad_17 : decode cX10_setLoad 17 = .ok (.iconst 1, 1) := by decide +kernel
theorem dX10_setLoad_18 : decode cX10_setLoad 18 = .ok (.goto 4, 3) := by decide +kernel
theorem dX10_setLoad_21 : decode cX10_setLoad 21 = .ok (.iconst 0, 1) := by decide +kernel
theorem dX10_setLoad_22 : decode cX10_setLoad 22 = .ok (.iconst 1, 1) := by decide +kernel
theorem dX10_setLoad_23 : decode cX10_setLoad 23 = .ok (.invokevirtual 78, 3) := by decide +kernel
theorem dX10_setLoad_26 : decode cX10_setLoad 26 = .ok (.ifCond .eq 5, 3) := by decide +kernel
theorem dX10_setLoad_29 : decode cX10_setLoad 29 = .ok (.iconst (-1), 1) := by decide +kernel
theorem dX10_setLoad_30 : decode cX10_setLoad 30 = .ok (.ireturn, 1) := by decide +kernel
theorem dX10_setLoad_31 : decode cX10_setLoad 31 = .ok (.aload_n 0, 1) := by decide +kernel
theorem dX10_setLoad_32 : decode cX10_setLoad 32 = .ok (.getfield 60, 3) := by decide +kernel
theorem dX10_setLoad_35 : decode cX10_setLoad 35 = .ok (.istore_n 2, 1) := by decide +kernel
theorem dX10_setLoad_36 : decode cX10_setLoad 36 = .ok (.aload_n 0, 1) := by decide +kernel
theorem dX10_setLoad_37 : decode cX10_setLoad 37 = .ok (.iload_n 1, 1) := by decide +kernel
theorem dX10_setLoad_38 : decode cX10_setLoad 38 = .ok (.putfield 60, 3) := by decide +kernel
theorem dX10_setLoad_41 : decode cX10_setLoad 41 = .ok (.iload_n 2, 1) := by decide +kernel
theorem dX10_setLoad_42 : decode cX10_setLoad 42 = .ok (.ireturn, 1) := by decide +kernel
theorem dX10_second_0 : decode cX10_second 0 = .ok (.iconst 0, 1) := by decide +kernel
theorem dX10_second_1 : decode cX10_second 1 = .ok (.bipush 100, 2) := by decide +kernel
theorem dX10_second_3 : decode cX10_second 3 = .ok (.aload_n 0, 1) := by decide +kernel
theorem dX10_second_4 : decode cX10_second 4 = .ok (.getfield 57, 3) := by decide +kernel
theorem dX10_second_7 : decode cX10_second 7 = .ok (.aload_n 0, 1) := by decide +kernel
theorem dX10_second_8 : decode cX10_second 8 = .ok (.getfield 63, 3) := by decide +kernel
theorem dX10_second_11 : decode cX10_second 11 = .ok (.aload_n 0, 1) := by decide +kernel
theorem dX10_second_12 : decode cX10_second 12 = .ok (.getfield 54, 3) := by decide +kernel
theorem dX10_second_15 : decode cX10_second 15 = .ok (.isub, 1) := by decide +kernel
theorem dX10_second_16 : decode cX10_second 16 = .ok (.aload_n 0, 1) := by decide +kernel
theorem dX10_second_17 : decode cX10_second 17 = .ok (.getfield 66, 3) := by decide +kernel
theorem dX10_second_20 : decode cX10_second 20 = .ok (.imul, 1) := by decide +kernel
theorem dX10_second_21 : decode cX10_second 21 = .ok (.bipush 100, 2) := by decide +kernel
theorem dX10_second_23 : decode cX10_second 23 = .ok (.idiv, 1) := by decide +kernel
theorem dX10_second_24 : decode cX10_second 24 = .ok (.iadd, 1) := by decide +kernel
theorem dX10_second_25 : decode cX10_second 25 = .ok (.invokestatic 241, 3) := by decide +kernel
theorem dX10_second_28 : decode cX10_second 28 = .ok (.invokestatic 126, 3) := by decide +kernel
theorem dX10_second_31 : decode cX10_second 31 = .ok (.istore_n 1, 1) := by decide +kernel
theorem dX10_second_32 : decode cX10_second 32 = .ok (.iload_n 1, 1) := by decide +kernel
theorem dX10_second_33 : decode cX10_second 33 = .ok (.aload_n 0, 1) := by decide +kernel
theorem dX10_second_34 : decode cX10_second 34 = .ok (.getfield 57, 3) := by decide +kernel
theorem dX10_second_37 : decode cX10_second 37 = .ok (.isub, 1) := by decide +kernel
theorem dX10_second_38 : decode cX10_second 38 = .ok (.invokestatic 261, 3) := by decide +kernel
theorem dX10_second_41 : decode cX10_second 41 = .ok (.aload_n 0, 1) := by decide +kernel
theorem dX10_second_42 : decode cX10_second 42 = .ok (.getfield 258, 3) := by decide +kernel
theorem dX10_second_45 : decode cX10_second 45 = .ok (.if_icmp .le 50, 3) := by decide +kernel
theorem dX10_second_95 : decode cX10_second 95 = .ok (.aload_n 0, 1) := by decide +kernel
theorem dX10_second_96 : decode cX10_second 96 = .ok (.iconst 0, 1) := by decide +kernel
theorem dX10_second_97 : decode cX10_second 97 = .ok (.aload_n 0, 1) := by decide +kernel
theorem dX10_second_98 : decode cX10_second 98 = .ok (.getfield 54, 3) := by decide +kernel
theorem dX10_second_101 : decode cX10_second 101 = .ok (.iconst 4, 1) := by decide +kernel
theorem dX10_second_102 : decode cX10_second 102 = .ok (.aload_n 0, 1) := by decide +kernel
theorem dX10_second_103 : decode cX10_second 103 = .ok (.getfield 270, 3) := by decide +kernel
theorem dX10_second_106 : decode cX10_second 106 = .ok (.ifCond .eq 7, 3) := by decide +kernel
theorem dX10_second_113 : decode cX10_second 113 = .ok (.aload_n 0, 1) := by decide +kernel
theorem dX10_second_114 : decode cX10_second 114 = .ok (.getfield 57, 3) := by decide +kernel
theorem dX10_second_117 : decode cX10_second 117 = .ok (.aload_n 0, 1) := by decide +kernel
theorem dX10_second_118 : decode cX10_second 118 = .ok (.getfield 60, 3) := by decide +kernel
theorem dX10_second_121 : decode cX10_second 121 = .ok (.isub, 1) := by decide +kernel
theorem dX10_second_122 : decode cX10_second 122 = .ok (.imul, 1) := by decide +kernel
theorem dX10_second_123 : decode cX10_second 123 = .ok (.iadd, 1) := by decide +kernel
theorem dX10_second_124 : decode cX10_second 124 = .ok (.invokestatic 126, 3) := by decide +kernel
theorem dX10_second_127 : decode cX10_second 127 = .ok (.putfield 54, 3) := by decide +kernel
theorem dX10_second_130 : decode cX10_second 130 = .ok (.aload_n 0, 1) := by decide +kernel
theorem dX10_second_131 : decode cX10_second 131 = .ok (.aload_n 0, 1) := by decide +kernel
theorem dX10_second_132 : decode cX10_second 132 = .ok (.getfield 270, 3) := by decide +kernel
theorem dX10_second_135 : decode cX10_second 135 = .ok (.ifCond .ne 14, 3) := by decide +kernel
theorem dX10_second_138 : decode cX10_second 138 = .ok (.aload_n 0, 1) := by decide +kernel
theorem dX10_second_139 : decode cX10_second 139 = .ok (.getfield 54, 3) := by decide +kernel
theorem dX10_second_142 : decode cX10_second 142 = .ok (.aload_n 0, 1) := by decide +kernel
theorem dX10_second_143 : decode cX10_second 143 = .ok (.getfield 69, 3) := by decide +kernel
theorem dX10_second_146 : decode cX10_second 146 = .ok (.if_icmp .le 7, 3) := by decide +kernel
theorem dX10_second_153 : decode cX10_second 153 = .ok (.iconst 0, 1) := by decide +kernel
theorem dX10_second_154 : decode cX10_second 154 = .ok (.putfield 270, 3) := by decide +kernel
theorem dX10_second_157 : decode cX10_second 157 = .ok (.return_, 1) := by decide +kernel
theorem dX10_runSeconds_0 : decode cX10_runSeconds 0 = .ok (.aload_n 0, 1) := by decide +kernel
theorem dX10_runSeconds_1 : decode cX10_runSeconds 1 = .ok (.invokevirtual 82, 3) := by decide +kernel
theorem dX10_runSeconds_4 : decode cX10_runSeconds 4 = .ok (.aload_n 0, 1) := by decide +kernel
theorem dX10_runSeconds_5 : decode cX10_runSeconds 5 = .ok (.iload_n 1, 1) := by decide +kernel
theorem dX10_runSeconds_6 : decode cX10_runSeconds 6 = .ok (.i2l, 1) := by decide +kernel
theorem dX10_runSeconds_7 : decode cX10_runSeconds 7 = .ok (.lconst 1, 1) := by decide +kernel
theorem dX10_runSeconds_8 : decode cX10_runSeconds 8 = .ok (.ldc2_w 273, 3) := by decide +kernel
theorem dX10_runSeconds_11 : decode cX10_runSeconds 11 = .ok (.invokestatic 13, 3) := by decide +kernel
theorem dX10_runSeconds_14 : decode cX10_runSeconds 14 = .ok (.ifCond .ne 7, 3) := by decide +kernel
theorem dX10_runSeconds_17 : decode cX10_runSeconds 17 = .ok (.iconst 1, 1) := by decide +kernel
theorem dX10_runSeconds_18 : decode cX10_runSeconds 18 = .ok (.goto 4, 3) := by decide +kernel
theorem dX10_runSeconds_21 : decode cX10_runSeconds 21 = .ok (.iconst 0, 1) := by decide +kernel
theorem dX10_runSeconds_22 : decode cX10_runSeconds 22 = .ok (.iconst 1, 1) := by decide +kernel
theorem dX10_runSeconds_23 : decode cX10_runSeconds 23 = .ok (.invokevirtual 78, 3) := by decide +kernel
theorem dX10_runSeconds_26 : decode cX10_runSeconds 26 = .ok (.ifCond .eq 5, 3) := by decide +kernel
theorem dX10_runSeconds_29 : decode cX10_runSeconds 29 = .ok (.iconst (-1), 1) := by decide +kernel
theorem dX10_runSeconds_30 : decode cX10_runSeconds 30 = .ok (.ireturn, 1) := by decide +kernel
theorem dX10_runSeconds_31 : decode cX10_runSeconds 31 = .ok (.iconst 0, 1) := by decide +kernel
theorem dX10_runSeconds_32 : decode cX10_runSeconds 32 = .ok (.istore_n 2, 1) := by decide +kernel
theorem dX10_runSeconds_33 : decode cX10_runSeconds 33 = .ok (.iload_n 2, 1) := by decide +kernel
theorem dX10_runSeconds_34 : decode cX10_runSeconds 34 = .ok (.iload_n 1, 1) := by decide +kernel
theorem dX10_runSeconds_35 : decode cX10_runSeconds 35 = .ok (.if_icmp .ge 13, 3) := by decide +kernel
theorem dX10_runSeconds_38 : decode cX10_runSeconds 38 = .ok (.aload_n 0, 1) := by decide +kernel
theorem dX10_runSeconds_39 : decode cX10_runSeconds 39 = .ok (.invokevirtual 275, 3) := by decide +kernel
theorem dX10_runSeconds_42 : decode cX10_runSeconds 42 = .ok (.iinc 2 1, 3) := by decide +kernel
theorem dX10_runSeconds_45 : decode cX10_runSeconds 45 = .ok (.goto (-12), 3) := by decide +kernel
theorem dX10_runSeconds_48 : decode cX10_runSeconds 48 = .ok (.aload_n 0, 1) := by decide +kernel
theorem dX10_runSeconds_49 : decode cX10_runSeconds 49 = .ok (.getfield 54, 3) := by decide +kernel
theorem dX10_runSeconds_52 : decode cX10_runSeconds 52 = .ok (.ireturn, 1) := by decide +kernel
theorem dX10_getValve_0 : decode cX10_getValve 0 = .ok (.aload_n 0, 1) := by decide +kernel
theorem dX10_getValve_1 : decode cX10_getValve 1 = .ok (.invokevirtual 82, 3) := by decide +kernel
theorem dX10_getValve_4 : decode cX10_getValve 4 = .ok (.aload_n 0, 1) := by decide +kernel
theorem dX10_getValve_5 : decode cX10_getValve 5 = .ok (.getfield 57, 3) := by decide +kernel
theorem dX10_getValve_8 : decode cX10_getValve 8 = .ok (.ireturn, 1) := by decide +kernel
theorem dX10_countTurns_0 : decode cX10_countTurns 0 = .ok (.aload_n 0, 1) := by decide +kernel
theorem dX10_countTurns_1 : decode cX10_countTurns 1 = .ok (.invokevirtual 82, 3) := by decide +kernel
theorem dX10_countTurns_4 : decode cX10_countTurns 4 = .ok (.aload_n 0, 1) := by decide +kernel
theorem dX10_countTurns_5 : decode cX10_countTurns 5 = .ok (.getfield 264, 3) := by decide +kernel
theorem dX10_countTurns_8 : decode cX10_countTurns 8 = .ok (.ireturn, 1) := by decide +kernel
theorem dX10_isTripped_0 : decode cX10_isTripped 0 = .ok (.aload_n 0, 1) := by decide +kernel
theorem dX10_isTripped_1 : decode cX10_isTripped 1 = .ok (.invokevirtual 82, 3) := by decide +kernel
theorem dX10_isTripped_4 : decode cX10_isTripped 4 = .ok (.aload_n 0, 1) := by decide +kernel
theorem dX10_isTripped_5 : decode cX10_isTripped 5 = .ok (.getfield 270, 3) := by decide +kernel
theorem dX10_isTripped_8 : decode cX10_isTripped 8 = .ok (.ireturn, 1) := by decide +kernel
theorem dX10_resetTrip_0 : decode cX10_resetTrip 0 = .ok (.aload_n 0, 1) := by decide +kernel
theorem dX10_resetTrip_1 : decode cX10_resetTrip 1 = .ok (.invokevirtual 82, 3) := by decide +kernel
theorem dX10_resetTrip_4 : decode cX10_resetTrip 4 = .ok (.aload_n 0, 1) := by decide +kernel
theorem dX10_resetTrip_5 : decode cX10_resetTrip 5 = .ok (.aload_n 0, 1) := by decide +kernel
theorem dX10_resetTrip_6 : decode cX10_resetTrip 6 = .ok (.getfield 54, 3) := by decide +kernel
theorem dX10_resetTrip_9 : decode cX10_resetTrip 9 = .ok (.aload_n 0, 1) := by decide +kernel
theorem dX10_resetTrip_10 : decode cX10_resetTrip 10 = .ok (.getfield 69, 3) := by decide +kernel
theorem dX10_resetTrip_13 : decode cX10_resetTrip 13 = .ok (.if_icmp .le 7, 3) := by decide +kernel
theorem dX10_resetTrip_20 : decode cX10_resetTrip 20 = .ok (.iconst 0, 1) := by decide +kernel
theorem dX10_resetTrip_21 : decode cX10_resetTrip 21 = .ok (.iconst 1, 1) := by decide +kernel
theorem dX10_resetTrip_22 : decode cX10_resetTrip 22 = .ok (.invokevirtual 78, 3) := by decide +kernel
theorem dX10_resetTrip_25 : decode cX10_resetTrip 25 = .ok (.ifCond .eq 5, 3) := by decide +kernel
theorem dX10_resetTrip_30 : decode cX10_resetTrip 30 = .ok (.aload_n 0, 1) := by decide +kernel
theorem dX10_resetTrip_31 : decode cX10_resetTrip 31 = .ok (.getfield 270, 3) := by decide +kernel
theorem dX10_resetTrip_34 : decode cX10_resetTrip 34 = .ok (.istore_n 1, 1) := by decide +kernel
theorem dX10_resetTrip_35 : decode cX10_resetTrip 35 = .ok (.aload_n 0, 1) := by decide +kernel
theorem dX10_resetTrip_36 : decode cX10_resetTrip 36 = .ok (.iconst 0, 1) := by decide +kernel
theorem dX10_resetTrip_37 : decode cX10_resetTrip 37 = .ok (.putfield 270, 3) := by decide +kernel
theorem dX10_resetTrip_40 : decode cX10_resetTrip 40 = .ok (.iload_n 1, 1) := by decide +kernel
theorem dX10_resetTrip_41 : decode cX10_resetTrip 41 = .ok (.ireturn, 1) := by decide +kernel
theorem dX10_noClaim_0 : decode cX10_noClaim 0 = .ok (.aload_n 0, 1) := by decide +kernel
theorem dX10_noClaim_1 : decode cX10_noClaim 1 = .ok (.iload_n 1, 1) := by decide +kernel
theorem dX10_noClaim_2 : decode cX10_noClaim 2 = .ok (.i2l, 1) := by decide +kernel
theorem dX10_noClaim_3 : decode cX10_noClaim 3 = .ok (.lconst 1, 1) := by decide +kernel
theorem dX10_noClaim_4 : decode cX10_noClaim 4 = .ok (.ldc2_w 116, 3) := by decide +kernel
theorem dX10_noClaim_7 : decode cX10_noClaim 7 = .ok (.invokestatic 13, 3) := by decide +kernel
theorem dX10_noClaim_10 : decode cX10_noClaim 10 = .ok (.ifCond .eq 36, 3) := by decide +kernel
theorem dX10_noClaim_13 : decode cX10_noClaim 13 = .ok (.iload_n 2, 1) := by decide +kernel
theorem dX10_noClaim_14 : decode cX10_noClaim 14 = .ok (.i2l, 1) := by decide +kernel
theorem dX10_noClaim_15 : decode cX10_noClaim 15 = .ok (.ldc2_w 85, 3) := by decide +kernel
theorem dX10_noClaim_18 : decode cX10_noClaim 18 = .ok (.ldc2_w 87, 3) := by decide +kernel
theorem dX10_noClaim_21 : decode cX10_noClaim 21 = .ok (.invokestatic 13, 3) := by decide +kernel
theorem dX10_noClaim_24 : decode cX10_noClaim 24 = .ok (.ifCond .eq 22, 3) := by decide +kernel
theorem dX10_noClaim_27 : decode cX10_noClaim 27 = .ok (.iload_n 3, 1) := by decide +kernel
theorem dX10_noClaim_28 : decode cX10_noClaim 28 = .ok (.i2l, 1) := by decide +kernel
theorem dX10_noClaim_29 : decode cX10_noClaim 29 = .ok (.ldc2_w 85, 3) := by decide +kernel
theorem dX10_noClaim_32 : decode cX10_noClaim 32 = .ok (.ldc2_w 87, 3) := by decide +kernel
theorem dX10_noClaim_35 : decode cX10_noClaim 35 = .ok (.invokestatic 13, 3) := by decide +kernel
theorem dX10_noClaim_38 : decode cX10_noClaim 38 = .ok (.ifCond .eq 8, 3) := by decide +kernel
theorem dX10_noClaim_41 : decode cX10_noClaim 41 = .ok (.iload_n 3, 1) := by decide +kernel
theorem dX10_noClaim_42 : decode cX10_noClaim 42 = .ok (.iload_n 2, 1) := by decide +kernel
theorem dX10_noClaim_43 : decode cX10_noClaim 43 = .ok (.if_icmp .lt 7, 3) := by decide +kernel
theorem dX10_noClaim_46 : decode cX10_noClaim 46 = .ok (.iconst 1, 1) := by decide +kernel
theorem dX10_noClaim_47 : decode cX10_noClaim 47 = .ok (.goto 4, 3) := by decide +kernel
theorem dX10_noClaim_50 : decode cX10_noClaim 50 = .ok (.iconst 0, 1) := by decide +kernel
theorem dX10_noClaim_51 : decode cX10_noClaim 51 = .ok (.iconst 1, 1) := by decide +kernel
theorem dX10_noClaim_52 : decode cX10_noClaim 52 = .ok (.invokevirtual 78, 3) := by decide +kernel
theorem dX10_noClaim_55 : decode cX10_noClaim 55 = .ok (.ireturn, 1) := by decide +kernel
theorem dX10_claim_0 : decode cX10_claim 0 = .ok (.aload_n 0, 1) := by decide +kernel
theorem dX10_claim_1 : decode cX10_claim 1 = .ok (.invokevirtual 82, 3) := by decide +kernel
theorem dX10_claim_4 : decode cX10_claim 4 = .ok (.aload_n 0, 1) := by decide +kernel
theorem dX10_claim_5 : decode cX10_claim 5 = .ok (.iload 4, 2) := by decide +kernel
theorem dX10_claim_7 : decode cX10_claim 7 = .ok (.i2l, 1) := by decide +kernel
theorem dX10_claim_8 : decode cX10_claim 8 = .ok (.lconst 0, 1) := by decide +kernel
theorem dX10_claim_9 : decode cX10_claim 9 = .ok (.ldc2_w 278, 3) := by decide +kernel
theorem dX10_claim_12 : decode cX10_claim 12 = .ok (.invokestatic 13, 3) := by decide +kernel
theorem dX10_claim_15 : decode cX10_claim 15 = .ok (.ifCond .ne 7, 3) := by decide +kernel
theorem dX10_claim_18 : decode cX10_claim 18 = .ok (.iconst 1, 1) := by decide +kernel
theorem dX10_claim_19 : decode cX10_claim 19 = .ok (.goto 4, 3) := by decide +kernel
theorem dX10_claim_22 : decode cX10_claim 22 = .ok (.iconst 0, 1) := by decide +kernel
theorem dX10_claim_23 : decode cX10_claim 23 = .ok (.iconst 1, 1) := by decide +kernel
theorem dX10_claim_24 : decode cX10_claim 24 = .ok (.invokevirtual 78, 3) := by decide +kernel
theorem dX10_claim_27 : decode cX10_claim 27 = .ok (.ifCond .ne 13, 3) := by decide +kernel
theorem dX10_claim_30 : decode cX10_claim 30 = .ok (.aload_n 0, 1) := by decide +kernel
theorem dX10_claim_31 : decode cX10_claim 31 = .ok (.iload_n 1, 1) := by decide +kernel
theorem dX10_claim_32 : decode cX10_claim 32 = .ok (.iload_n 2, 1) := by decide +kernel
theorem dX10_claim_33 : decode cX10_claim 33 = .ok (.iload_n 3, 1) := by decide +kernel
theorem dX10_claim_34 : decode cX10_claim 34 = .ok (.invokevirtual 280, 3) := by decide +kernel
theorem dX10_claim_37 : decode cX10_claim 37 = .ok (.ifCond .eq 6, 3) := by decide +kernel
theorem dX10_claim_40 : decode cX10_claim 40 = .ok (.bipush 32, 2) := by decide +kernel
theorem dX10_claim_42 : decode cX10_claim 42 = .ok (.ireturn, 1) := by decide +kernel
theorem dX10_claim_43 : decode cX10_claim 43 = .ok (.iload 4, 2) := by decide +kernel
theorem dX10_claim_45 : decode cX10_claim 45 = .ok (.iload_n 1, 1) := by decide +kernel
theorem dX10_claim_46 : decode cX10_claim 46 = .ok (.if_icmp .le 8, 3) := by decide +kernel
theorem dX10_claim_49 : decode cX10_claim 49 = .ok (.bipush 101, 2) := by decide +kernel
theorem dX10_claim_51 : decode cX10_claim 51 = .ok (.goto 23, 3) := by decide +kernel
theorem dX10_claim_54 : decode cX10_claim 54 = .ok (.iload_n 1, 1) := by decide +kernel
theorem dX10_claim_55 : decode cX10_claim 55 = .ok (.iload 4, 2) := by decide +kernel
theorem dX10_claim_57 : decode cX10_claim 57 = .ok (.isub, 1) := by decide +kernel
theorem dX10_claim_58 : decode cX10_claim 58 = .ok (.iload_n 3, 1) := by decide +kernel
theorem dX10_claim_59 : decode cX10_claim 59 = .ok (.iload_n 1, 1) := by decide +kernel
theorem dX10_claim_60 : decode cX10_claim 60 = .ok (.iload_n 2, 1) := by decide +kernel
theorem dX10_claim_61 : decode cX10_claim 61 = .ok (.invokestatic 122, 3) := by decide +kernel
theorem dX10_claim_64 : decode cX10_claim 64 = .ok (.ifCond .ge 8, 3) := by decide +kernel
theorem dX10_claim_67 : decode cX10_claim 67 = .ok (.bipush 100, 2) := by decide +kernel
theorem dX10_claim_69 : decode cX10_claim 69 = .ok (.goto 5, 3) := by decide +kernel
theorem dX10_claim_72 : decode cX10_claim 72 = .ok (.bipush 45, 2) := by decide +kernel
theorem dX10_claim_74 : decode cX10_claim 74 = .ok (.ireturn, 1) := by decide +kernel
theorem dX10_bestWork_0 : decode cX10_bestWork 0 = .ok (.aload_n 0, 1) := by decide +kernel
theorem dX10_bestWork_1 : decode cX10_bestWork 1 = .ok (.invokevirtual 82, 3) := by decide +kernel
theorem dX10_bestWork_4 : decode cX10_bestWork 4 = .ok (.aload_n 0, 1) := by decide +kernel
theorem dX10_bestWork_5 : decode cX10_bestWork 5 = .ok (.iload_n 1, 1) := by decide +kernel
theorem dX10_bestWork_6 : decode cX10_bestWork 6 = .ok (.iload_n 2, 1) := by decide +kernel
theorem dX10_bestWork_7 : decode cX10_bestWork 7 = .ok (.iload_n 3, 1) := by decide +kernel
theorem dX10_bestWork_8 : decode cX10_bestWork 8 = .ok (.invokevirtual 280, 3) := by decide +kernel
theorem dX10_bestWork_11 : decode cX10_bestWork 11 = .ok (.ifCond .eq 5, 3) := by decide +kernel
theorem dX10_bestWork_14 : decode cX10_bestWork 14 = .ok (.iconst (-1), 1) := by decide +kernel
theorem dX10_bestWork_15 : decode cX10_bestWork 15 = .ok (.ireturn, 1) := by decide +kernel
theorem dX10_bestWork_16 : decode cX10_bestWork 16 = .ok (.iload_n 1, 1) := by decide +kernel
theorem dX10_bestWork_17 : decode cX10_bestWork 17 = .ok (.istore 4, 2) := by decide +kernel
theorem dX10_bestWork_19 : decode cX10_bestWork 19 = .ok (.iload 4, 2) := by decide +kernel
theorem dX10_bestWork_21 : decode cX10_bestWork 21 = .ok (.ifCond .lt 22, 3) := by decide +kernel
theorem dX10_bestWork_24 : decode cX10_bestWork 24 = .ok (.iload_n 1, 1) := by decide +kernel
theorem dX10_bestWork_25 : decode cX10_bestWork 25 = .ok (.iload 4, 2) := by decide +kernel
theorem dX10_bestWork_27 : decode cX10_bestWork 27 = .ok (.isub, 1) := by decide +kernel
theorem dX10_bestWork_28 : decode cX10_bestWork 28 = .ok (.iload_n 3, 1) := by decide +kernel
theorem dX10_bestWork_29 : decode cX10_bestWork 29 = .ok (.iload_n 1, 1) := by decide +kernel
theorem dX10_bestWork_30 : decode cX10_bestWork 30 = .ok (.iload_n 2, 1) := by decide +kernel
theorem dX10_bestWork_31 : decode cX10_bestWork 31 = .ok (.invokestatic 122, 3) := by decide +kernel
theorem dX10_bestWork_34 : decode cX10_bestWork 34 = .ok (.ifCond .ge 9, 3) := by decide +kernel
theorem dX10_bestWork_37 : decode cX10_bestWork 37 = .ok (.iinc 4 (-1), 3) := by decide +kernel
theorem dX10_bestWork_40 : decode cX10_bestWork 40 = .ok (.goto (-21), 3) := by decide +kernel
theorem dX10_bestWork_43 : decode cX10_bestWork 43 = .ok (.aload_n 0, 1) := by decide +kernel
theorem dX10_bestWork_44 : decode cX10_bestWork 44 = .ok (.iload 4, 2) := by decide +kernel
theorem dX10_bestWork_46 : decode cX10_bestWork 46 = .ok (.ifCond .ge 7, 3) := by decide +kernel
theorem dX10_bestWork_49 : decode cX10_bestWork 49 = .ok (.iconst 1, 1) := by decide +kernel
theorem dX10_bestWork_50 : decode cX10_bestWork 50 = .ok (.goto 4, 3) := by decide +kernel
theorem dX10_bestWork_53 : decode cX10_bestWork 53 = .ok (.iconst 0, 1) := by decide +kernel
theorem dX10_bestWork_54 : decode cX10_bestWork 54 = .ok (.iconst 2, 1) := by decide +kernel
theorem dX10_bestWork_55 : decode cX10_bestWork 55 = .ok (.invokevirtual 78, 3) := by decide +kernel
theorem dX10_bestWork_58 : decode cX10_bestWork 58 = .ok (.ifCond .eq 7, 3) := by decide +kernel
theorem dX10_bestWork_61 : decode cX10_bestWork 61 = .ok (.iconst (-1), 1) := by decide +kernel
theorem dX10_bestWork_62 : decode cX10_bestWork 62 = .ok (.goto 5, 3) := by decide +kernel
theorem dX10_bestWork_65 : decode cX10_bestWork 65 = .ok (.iload 4, 2) := by decide +kernel
theorem dX10_bestWork_67 : decode cX10_bestWork 67 = .ok (.ireturn, 1) := by decide +kernel
theorem dX10_checksum_0 : decode cX10_checksum 0 = .ok (.aload_n 0, 1) := by decide +kernel
theorem dX10_checksum_1 : decode cX10_checksum 1 = .ok (.invokevirtual 82, 3) := by decide +kernel
theorem dX10_checksum_4 : decode cX10_checksum 4 = .ok (.ldc2_w 284, 3) := by decide +kernel
theorem dX10_checksum_7 : decode cX10_checksum 7 = .ok (.lstore_n 1, 1) := by decide +kernel
theorem dX10_checksum_8 : decode cX10_checksum 8 = .ok (.aload_n 0, 1) := by decide +kernel
theorem dX10_checksum_9 : decode cX10_checksum 9 = .ok (.getfield 26, 3) := by decide +kernel
theorem dX10_checksum_12 : decode cX10_checksum 12 = .ok (.invokeinterface 187 1, 5) := by decide +kernel
theorem dX10_checksum_17 : decode cX10_checksum 17 = .ok (.astore_n 3, 1) := by decide +kernel
theorem dX10_checksum_18 : decode cX10_checksum 18 = .ok (.aload_n 3, 1) := by decide +kernel
theorem dX10_checksum_19 : decode cX10_checksum 19 = .ok (.invokeinterface 191 1, 5) := by decide +kernel
theorem dX10_checksum_24 : decode cX10_checksum 24 = .ok (.ifCond .eq 29, 3) := by decide +kernel
theorem dX10_checksum_53 : decode cX10_checksum 53 = .ok (.ldc2_w 286, 3) := by decide +kernel
theorem dX10_checksum_56 : decode cX10_checksum 56 = .ok (.lload_n 1, 1) := by decide +kernel
theorem dX10_checksum_57 : decode cX10_checksum 57 = .ok (.lmul, 1) := by decide +kernel
theorem dX10_checksum_58 : decode cX10_checksum 58 = .ok (.aload_n 0, 1) := by decide +kernel
theorem dX10_checksum_59 : decode cX10_checksum 59 = .ok (.getfield 136, 3) := by decide +kernel
theorem dX10_checksum_62 : decode cX10_checksum 62 = .ok (.i2l, 1) := by decide +kernel
theorem dX10_checksum_63 : decode cX10_checksum 63 = .ok (.ladd, 1) := by decide +kernel
theorem dX10_checksum_64 : decode cX10_checksum 64 = .ok (.lstore_n 1, 1) := by decide +kernel
theorem dX10_checksum_65 : decode cX10_checksum 65 = .ok (.ldc2_w 286, 3) := by decide +kernel
theorem dX10_checksum_68 : decode cX10_checksum 68 = .ok (.lload_n 1, 1) := by decide +kernel
theorem dX10_checksum_69 : decode cX10_checksum 69 = .ok (.lmul, 1) := by decide +kernel
theorem dX10_checksum_70 : decode cX10_checksum 70 = .ok (.aload_n 0, 1) := by decide +kernel
theorem dX10_checksum_71 : decode cX10_checksum 71 = .ok (.getfield 107, 3) := by decide +kernel
theorem dX10_checksum_74 : decode cX10_checksum 74 = .ok (.i2l, 1) := by decide +kernel
theorem dX10_checksum_75 : decode cX10_checksum 75 = .ok (.ladd, 1) := by decide +kernel
theorem dX10_checksum_76 : decode cX10_checksum 76 = .ok (.lstore_n 1, 1) := by decide +kernel
theorem dX10_checksum_77 : decode cX10_checksum 77 = .ok (.ldc2_w 286, 3) := by decide +kernel
theorem dX10_checksum_80 : decode cX10_checksum 80 = .ok (.lload_n 1, 1) := by decide +kernel
theorem dX10_checksum_81 : decode cX10_checksum 81 = .ok (.lmul, 1) := by decide +kernel
theorem dX10_checksum_82 : decode cX10_checksum 82 = .ok (.aload_n 0, 1) := by decide +kernel
theorem dX10_checksum_83 : decode cX10_checksum 83 = .ok (.getfield 42, 3) := by decide +kernel
theorem dX10_checksum_86 : decode cX10_checksum 86 = .ok (.i2l, 1) := by decide +kernel
theorem dX10_checksum_87 : decode cX10_checksum 87 = .ok (.ladd, 1) := by decide +kernel
theorem dX10_checksum_88 : decode cX10_checksum 88 = .ok (.lstore_n 1, 1) := by decide +kernel
theorem dX10_checksum_89 : decode cX10_checksum 89 = .ok (.ldc2_w 286, 3) := by decide +kernel
theorem dX10_checksum_92 : decode cX10_checksum 92 = .ok (.lload_n 1, 1) := by decide +kernel
theorem dX10_checksum_93 : decode cX10_checksum 93 = .ok (.lmul, 1) := by decide +kernel
theorem dX10_checksum_94 : decode cX10_checksum 94 = .ok (.aload_n 0, 1) := by decide +kernel
theorem dX10_checksum_95 : decode cX10_checksum 95 = .ok (.getfield 54, 3) := by decide +kernel
theorem dX10_checksum_98 : decode cX10_checksum 98 = .ok (.i2l, 1) := by decide +kernel
theorem dX10_checksum_99 : decode cX10_checksum 99 = .ok (.ladd, 1) := by decide +kernel
theorem dX10_checksum_100 : decode cX10_checksum 100 = .ok (.lreturn, 1) := by decide +kernel
theorem dX10_makingShare_0 : decode cX10_makingShare 0 = .ok (.aload_n 0, 1) := by decide +kernel
theorem dX10_makingShare_1 : decode cX10_makingShare 1 = .ok (.invokevirtual 82, 3) := by decide +kernel
theorem dX10_makingShare_4 : decode cX10_makingShare 4 = .ok (.aload_n 0, 1) := by decide +kernel
theorem dX10_makingShare_5 : decode cX10_makingShare 5 = .ok (.aload_n 0, 1) := by decide +kernel
theorem dX10_makingShare_6 : decode cX10_makingShare 6 = .ok (.getfield 110, 3) := by decide +kernel
theorem dX10_makingShare_9 : decode cX10_makingShare 9 = .ok (.ifCond .ne 7, 3) := by decide +kernel
theorem dX10_makingShare_12 : decode cX10_makingShare 12 = .ok (.iconst 1, 1) := by decide +kernel
theorem dX10_makingShare_13 : decode cX10_makingShare 13 = .ok (.goto 4, 3) := by decide +kernel
theorem dX10_makingShare_17 : decode cX10_makingShare 17 = .ok (.iconst 1, 1) := by decide +kernel
theorem dX10_makingShare_18 : decode cX10_makingShare 18 = .ok (.invokevirtual 78, 3) := by decide +kernel
theorem dX10_makingShare_21 : decode cX10_makingShare 21 = .ok (.ifCond .eq 7, 3) := by decide +kernel
theorem dX10_makingShare_24 : decode cX10_makingShare 24 = .ok (.fconst 0, 1) := by decide +kernel
theorem dX10_makingShare_25 : decode cX10_makingShare 25 = .ok (.goto 14, 3) := by decide +kernel
theorem dX10_makingShare_39 : decode cX10_makingShare 39 = .ok (.freturn, 1) := by decide +kernel
theorem dX10_meanTemperature_0 : decode cX10_meanTemperature 0 = .ok (.aload_n 0, 1) := by decide +kernel
theorem dX10_meanTemperature_1 : decode cX10_meanTemperature 1 = .ok (.invokevirtual 82, 3) := by decide +kernel
theorem dX10_meanTemperature_4 : decode cX10_meanTemperature 4 = .ok (.iconst 0, 1) := by decide +kernel
theorem dX10_meanTemperature_5 : decode cX10_meanTemperature 5 = .ok (.istore_n 1, 1) := by decide +kernel
theorem dX10_meanTemperature_6 : decode cX10_meanTemperature 6 = .ok (.aload_n 0, 1) := by decide +kernel
theorem dX10_meanTemperature_7 : decode cX10_meanTemperature 7 = .ok (.getfield 26, 3) := by decide +kernel
theorem dX10_meanTemperature_10 : decode cX10_meanTemperature 10 = .ok (.invokeinterface 187 1, 5) := by decide +kernel
theorem dX10_meanTemperature_15 : decode cX10_meanTemperature 15 = .ok (.astore_n 2, 1) := by decide +kernel
theorem dX10_meanTemperature_16 : decode cX10_meanTemperature 16 = .ok (.aload_n 2, 1) := by decide +kernel
theorem dX10_meanTemperature_17 : decode cX10_meanTemperature 17 = .ok (.invokeinterface 191 1, 5) := by decide +kernel
theorem dX10_meanTemperature_22 : decode cX10_meanTemperature 22 = .ok (.ifCond .eq 23, 3) := by decide +kernel
theorem dX10_meanTemperature_45 : decode cX10_meanTemperature 45 = .ok (.aload_n 0, 1) := by decide +kernel
theorem dX10_meanTemperature_46 : decode cX10_meanTemperature 46 = .ok (.aload_n 0, 1) := by decide +kernel
theorem dX10_meanTemperature_47 : decode cX10_meanTemperature 47 = .ok (.getfield 26, 3) := by decide +kernel
theorem dX10_meanTemperature_50 : decode cX10_meanTemperature 50 = .ok (.invokeinterface 146 1, 5) := by decide +kernel
theorem dX10_meanTemperature_55 : decode cX10_meanTemperature 55 = .ok (.iconst 1, 1) := by decide +kernel
theorem dX10_meanTemperature_56 : decode cX10_meanTemperature 56 = .ok (.invokevirtual 78, 3) := by decide +kernel
theorem dX10_meanTemperature_59 : decode cX10_meanTemperature 59 = .ok (.ifCond .eq 7, 3) := by decide +kernel
theorem dX10_meanTemperature_62 : decode cX10_meanTemperature 62 = .ok (.dconst 0, 1) := by decide +kernel
theorem dX10_meanTemperature_63 : decode cX10_meanTemperature 63 = .ok (.goto 16, 3) := by decide +kernel
theorem dX10_meanTemperature_79 : decode cX10_meanTemperature 79 = .ok (.dreturn, 1) := by decide +kernel
theorem dX10_isSound_0 : decode cX10_isSound 0 = .ok (.aload_n 0, 1) := by decide +kernel
theorem dX10_isSound_1 : decode cX10_isSound 1 = .ok (.invokevirtual 82, 3) := by decide +kernel
theorem dX10_isSound_4 : decode cX10_isSound 4 = .ok (.iconst 1, 1) := by decide +kernel
theorem dX10_isSound_5 : decode cX10_isSound 5 = .ok (.ireturn, 1) := by decide +kernel
theorem dJ0_length_8abf5_0 : decode cJ0_length_8abf5 0 = .ok (.aload_n 0, 1) := by decide +kernel
theorem dJ0_length_8abf5_1 : decode cJ0_length_8abf5 1 = .ok (.getfield 9, 3) := by decide +kernel
theorem dJ0_length_8abf5_4 : decode cJ0_length_8abf5 4 = .ok (.arraylength, 1) := by decide +kernel
theorem dJ0_length_8abf5_5 : decode cJ0_length_8abf5 5 = .ok (.aload_n 0, 1) := by decide +kernel
theorem dJ0_length_8abf5_6 : decode cJ0_length_8abf5 6 = .ok (.invokevirtual 335, 3) := by decide +kernel
theorem dJ0_length_8abf5_9 : decode cJ0_length_8abf5 9 = .ok (.ishr, 1) := by decide +kernel
theorem dJ0_length_8abf5_10 : decode cJ0_length_8abf5 10 = .ok (.ireturn, 1) := by decide +kernel
theorem dJ0_indexOf_0f7a4_0 : decode cJ0_indexOf_0f7a4 0 = .ok (.aload_n 0, 1) := by decide +kernel
theorem dJ0_indexOf_0f7a4_1 : decode cJ0_indexOf_0f7a4 1 = .ok (.iload_n 1, 1) := by decide +kernel
theorem dJ0_indexOf_0f7a4_2 : decode cJ0_indexOf_0f7a4 2 = .ok (.iconst 0, 1) := by decide +kernel
theorem dJ0_indexOf_0f7a4_3 : decode cJ0_indexOf_0f7a4 3 = .ok (.invokevirtual 633, 3) := by decide +kernel
theorem dJ0_indexOf_0f7a4_6 : decode cJ0_indexOf_0f7a4 6 = .ok (.ireturn, 1) := by decide +kernel
theorem dJ0_indexOf_7cf53_0 : decode cJ0_indexOf_7cf53 0 = .ok (.aload_n 0, 1) := by decide +kernel
theorem dJ0_indexOf_7cf53_1 : decode cJ0_indexOf_7cf53 1 = .ok (.invokevirtual 492, 3) := by decide +kernel
theorem dJ0_indexOf_7cf53_4 : decode cJ0_indexOf_7cf53 4 = .ok (.ifCond .eq 19, 3) := by decide +kernel
theorem dJ0_indexOf_7cf53_7 : decode cJ0_indexOf_7cf53 7 = .ok (.aload_n 0, 1) := by decide +kernel
theorem dJ0_indexOf_7cf53_8 : decode cJ0_indexOf_7cf53 8 = .ok (.getfield 9, 3) := by decide +kernel
theorem dJ0_indexOf_7cf53_11 : decode cJ0_indexOf_7cf53 11 = .ok (.iload_n 1, 1) := by decide +kernel
theorem dJ0_indexOf_7cf53_12 : decode cJ0_indexOf_7cf53 12 = .ok (.iload_n 2, 1) := by decide +kernel
theorem dJ0_indexOf_7cf53_13 : decode cJ0_indexOf_7cf53 13 = .ok (.aload_n 0, 1) := by decide +kernel
theorem dJ0_indexOf_7cf53_14 : decode cJ0_indexOf_7cf53 14 = .ok (.invokevirtual 505, 3) := by decide +kernel
theorem dJ0_indexOf_7cf53_17 : decode cJ0_indexOf_7cf53 17 = .ok (.invokestatic 637, 3) := by decide +kernel
theorem dJ0_indexOf_7cf53_20 : decode cJ0_indexOf_7cf53 20 = .ok (.goto 16, 3) := by decide +kernel
theorem dJ0_indexOf_7cf53_36 : decode cJ0_indexOf_7cf53 36 = .ok (.ireturn, 1) := by decide +kernel
theorem dJ0_coder_7d493_0 : decode cJ0_coder_7d493 0 = .ok (.getstatic 38, 3) := by decide +kernel
theorem dJ0_coder_7d493_3 : decode cJ0_coder_7d493 3 = .ok (.ifCond .eq 10, 3) := by decide +kernel
theorem dJ0_coder_7d493_6 : decode cJ0_coder_7d493 6 = .ok (.aload_n 0, 1) := by decide +kernel
theorem dJ0_coder_7d493_7 : decode cJ0_coder_7d493 7 = .ok (.getfield 15, 3) := by decide +kernel
theorem dJ0_coder_7d493_10 : decode cJ0_coder_7d493 10 = .ok (.goto 4, 3) := by decide +kernel
theorem dJ0_coder_7d493_14 : decode cJ0_coder_7d493 14 = .ok (.ireturn, 1) := by decide +kernel
theorem dJ0_isLatin1_aae02_0 : decode cJ0_isLatin1_aae02 0 = .ok (.getstatic 38, 3) := by decide +kernel
theorem dJ0_isLatin1_aae02_3 : decode cJ0_isLatin1_aae02 3 = .ok (.ifCond .eq 14, 3) := by decide +kernel
theorem dJ0_isLatin1_aae02_6 : decode cJ0_isLatin1_aae02 6 = .ok (.aload_n 0, 1) := by decide +kernel
theorem dJ0_isLatin1_aae02_7 : decode cJ0_isLatin1_aae02 7 = .ok (.getfield 15, 3) := by decide +kernel
theorem dJ0_isLatin1_aae02_10 : decode cJ0_isLatin1_aae02 10 = .ok (.ifCond .ne 7, 3) := by decide +kernel
theorem dJ0_isLatin1_aae02_13 : decode cJ0_isLatin1_aae02 13 = .ok (.iconst 1, 1) := by decide +kernel
theorem dJ0_isLatin1_aae02_14 : decode cJ0_isLatin1_aae02 14 = .ok (.goto 4, 3) := by decide +kernel
theorem dJ0_isLatin1_aae02_18 : decode cJ0_isLatin1_aae02 18 = .ok (.ireturn, 1) := by decide +kernel
theorem dJ1_canEncode_9a6ad_0 : decode cJ1_canEncode_9a6ad 0 = .ok (.iload_n 0, 1) := by decide +kernel
theorem dJ1_canEncode_9a6ad_1 : decode cJ1_canEncode_9a6ad 1 = .ok (.ifCond .lt 14, 3) := by decide +kernel
theorem dJ1_canEncode_9a6ad_4 : decode cJ1_canEncode_9a6ad 4 = .ok (.iload_n 0, 1) := by decide +kernel
theorem dJ1_canEncode_9a6ad_5 : decode cJ1_canEncode_9a6ad 5 = .ok (.sipush 255, 3) := by decide +kernel
theorem dJ1_canEncode_9a6ad_8 : decode cJ1_canEncode_9a6ad 8 = .ok (.if_icmp .gt 7, 3) := by decide +kernel
theorem dJ1_canEncode_9a6ad_11 : decode cJ1_canEncode_9a6ad 11 = .ok (.iconst 1, 1) := by decide +kernel
theorem dJ1_canEncode_9a6ad_12 : decode cJ1_canEncode_9a6ad 12 = .ok (.goto 4, 3) := by decide +kernel
theorem dJ1_canEncode_9a6ad_15 : decode cJ1_canEncode_9a6ad 15 = .ok (.iconst 0, 1) := by decide +kernel
theorem dJ1_canEncode_9a6ad_16 : decode cJ1_canEncode_9a6ad 16 = .ok (.ireturn, 1) := by decide +kernel
theorem dJ1_indexOf_4cfef_0 : decode cJ1_indexOf_4cfef 0 = .ok (.iload_n 1, 1) := by decide +kernel
theorem dJ1_indexOf_4cfef_1 : decode cJ1_indexOf_4cfef 1 = .ok (.invokestatic 88, 3) := by decide +kernel
theorem dJ1_indexOf_4cfef_4 : decode cJ1_indexOf_4cfef 4 = .ok (.ifCond .ne 5, 3) := by decide +kernel
theorem dJ1_indexOf_4cfef_7 : decode cJ1_indexOf_4cfef 7 = .ok (.iconst (-1), 1) := by decide +kernel
theorem dJ1_indexOf_4cfef_8 : decode cJ1_indexOf_4cfef 8 = .ok (.ireturn, 1) := by decide +kernel
theorem dJ1_indexOf_4cfef_9 : decode cJ1_indexOf_4cfef 9 = .ok (.iload_n 2, 1) := by decide +kernel
theorem dJ1_indexOf_4cfef_10 : decode cJ1_indexOf_4cfef 10 = .ok (.iconst 0, 1) := by decide +kernel
theorem dJ1_indexOf_4cfef_11 : decode cJ1_indexOf_4cfef 11 = .ok (.invokestatic 92, 3) := by decide +kernel
theorem dJ1_indexOf_4cfef_14 : decode cJ1_indexOf_4cfef 14 = .ok (.istore_n 2, 1) := by decide +kernel
theorem dJ1_indexOf_4cfef_15 : decode cJ1_indexOf_4cfef 15 = .ok (.iload_n 3, 1) := by decide +kernel
theorem dJ1_indexOf_4cfef_16 : decode cJ1_indexOf_4cfef 16 = .ok (.aload_n 0, 1) := by decide +kernel
theorem dJ1_indexOf_4cfef_17 : decode cJ1_indexOf_4cfef 17 = .ok (.arraylength, 1) := by decide +kernel
theorem dJ1_indexOf_4cfef_18 : decode cJ1_indexOf_4cfef 18 = .ok (.invokestatic 38, 3) := by decide +kernel
theorem dJ1_indexOf_4cfef_21 : decode cJ1_indexOf_4cfef 21 = .ok (.istore_n 3, 1) := by decide +kernel
theorem dJ1_indexOf_4cfef_22 : decode cJ1_indexOf_4cfef 22 = .ok (.iload_n 2, 1) := by decide +kernel
theorem dJ1_indexOf_4cfef_23 : decode cJ1_indexOf_4cfef 23 = .ok (.iload_n 3, 1) := by decide +kernel
theorem dJ1_indexOf_4cfef_24 : decode cJ1_indexOf_4cfef 24 = .ok (.if_icmp .lt 5, 3) := by decide +kernel
theorem dJ1_indexOf_4cfef_29 : decode cJ1_indexOf_4cfef 29 = .ok (.aload_n 0, 1) := by decide +kernel
theorem dJ1_indexOf_4cfef_30 : decode cJ1_indexOf_4cfef 30 = .ok (.iload_n 1, 1) := by decide +kernel
theorem dJ1_indexOf_4cfef_31 : decode cJ1_indexOf_4cfef 31 = .ok (.iload_n 2, 1) := by decide +kernel
theorem dJ1_indexOf_4cfef_32 : decode cJ1_indexOf_4cfef 32 = .ok (.iload_n 3, 1) := by decide +kernel
theorem dJ1_indexOf_4cfef_33 : decode cJ1_indexOf_4cfef 33 = .ok (.invokestatic 95, 3) := by decide +kernel
theorem dJ1_indexOf_4cfef_36 : decode cJ1_indexOf_4cfef 36 = .ok (.ireturn, 1) := by decide +kernel
theorem dJ1_indexOfChar_4cfef_0 : decode cJ1_indexOfChar_4cfef 0 = .ok (.iload_n 1, 1) := by decide +kernel
theorem dJ1_indexOfChar_4cfef_1 : decode cJ1_indexOfChar_4cfef 1 = .ok (.i2b, 1) := by decide +kernel
theorem dJ1_indexOfChar_4cfef_2 : decode cJ1_indexOfChar_4cfef 2 = .ok (.istore 4, 2) := by decide +kernel
theorem dJ1_indexOfChar_4cfef_4 : decode cJ1_indexOfChar_4cfef 4 = .ok (.iload_n 2, 1) := by decide +kernel
theorem dJ1_indexOfChar_4cfef_5 : decode cJ1_indexOfChar_4cfef 5 = .ok (.istore 5, 2) := by decide +kernel
theorem dJ1_indexOfChar_4cfef_7 : decode cJ1_indexOfChar_4cfef 7 = .ok (.iload 5, 2) := by decide +kernel
theorem dJ1_indexOfChar_4cfef_9 : decode cJ1_indexOfChar_4cfef 9 = .ok (.iload_n 3, 1) := by decide +kernel
theorem dJ1_indexOfChar_4cfef_10 : decode cJ1_indexOfChar_4cfef 10 = .ok (.if_icmp .ge 21, 3) := by decide +kernel
theorem dJ1_indexOfChar_4cfef_13 : decode cJ1_indexOfChar_4cfef 13 = .ok (.aload_n 0, 1) := by decide +kernel
theorem dJ1_indexOfChar_4cfef_14 : decode cJ1_indexOfChar_4cfef 14 = .ok (.iload 5, 2) := by decide +kernel
theorem dJ1_indexOfChar_4cfef_16 : decode cJ1_indexOfChar_4cfef 16 = .ok (.baload, 1) := by decide +kernel
theorem dJ1_indexOfChar_4cfef_17 : decode cJ1_indexOfChar_4cfef 17 = .ok (.iload 4, 2) := by decide +kernel
theorem dJ1_indexOfChar_4cfef_19 : decode cJ1_indexOfChar_4cfef 19 = .ok (.if_icmp .ne 6, 3) := by decide +kernel
theorem dJ1_indexOfChar_4cfef_22 : decode cJ1_indexOfChar_4cfef 22 = .ok (.iload 5, 2) := by decide +kernel
theorem dJ1_indexOfChar_4cfef_24 : decode cJ1_indexOfChar_4cfef 24 = .ok (.ireturn, 1) := by decide +kernel
theorem dJ1_indexOfChar_4cfef_25 : decode cJ1_indexOfChar_4cfef 25 = .ok (.iinc 5 1, 3) := by decide +kernel
theorem dJ1_indexOfChar_4cfef_28 : decode cJ1_indexOfChar_4cfef 28 = .ok (.goto (-21), 3) := by decide +kernel
theorem dJ1_indexOfChar_4cfef_31 : decode cJ1_indexOfChar_4cfef 31 = .ok (.iconst (-1), 1) := by decide +kernel
theorem dJ1_indexOfChar_4cfef_32 : decode cJ1_indexOfChar_4cfef 32 = .ok (.ireturn, 1) := by decide +kernel
theorem dJxa1e45_init_da8c8_0 : decode cJxa1e45_init_da8c8 0 = .ok (.aload_n 0, 1) := by decide +kernel
theorem dJxa1e45_init_da8c8_1 : decode cJxa1e45_init_da8c8 1 = .ok (.invokespecial 1, 3) := by decide +kernel
theorem dJxa1e45_init_da8c8_4 : decode cJxa1e45_init_da8c8 4 = .ok (.return_, 1) := by decide +kernel
theorem dJxc12de_init_da8c8_0 : decode cJxc12de_init_da8c8 0 = .ok (.aload_n 0, 1) := by decide +kernel
theorem dJxc12de_init_da8c8_1 : decode cJxc12de_init_da8c8 1 = .ok (.invokespecial 1, 3) := by decide +kernel
theorem dJxc12de_init_da8c8_4 : decode cJxc12de_init_da8c8 4 = .ok (.aload_n 0, 1) := by decide +kernel
theorem dJxc12de_init_da8c8_5 : decode cJxc12de_init_da8c8 5 = .ok (.iconst 0, 1) := by decide +kernel
theorem dJxc12de_init_da8c8_6 : decode cJxc12de_init_da8c8 6 = .ok (.putfield 7, 3) := by decide +kernel
theorem dJxc12de_init_da8c8_9 : decode cJxc12de_init_da8c8 9 = .ok (.return_, 1) := by decide +kernel
theorem dJx35411_init_45d68_0 : decode cJx35411_init_45d68 0 = .ok (.aload_n 0, 1) := by decide +kernel
theorem dJx35411_init_45d68_1 : decode cJx35411_init_45d68 1 = .ok (.aload_n 1, 1) := by decide +kernel
theorem dJx35411_init_45d68_2 : decode cJx35411_init_45d68 2 = .ok (.putfield 1, 3) := by decide +kernel
theorem dJx35411_init_45d68_5 : decode cJx35411_init_45d68 5 = .ok (.aload_n 0, 1) := by decide +kernel
theorem dJx35411_init_45d68_6 : decode cJx35411_init_45d68 6 = .ok (.invokespecial 7, 3) := by decide +kernel
theorem dJx35411_init_45d68_9 : decode cJx35411_init_45d68 9 = .ok (.aload_n 0, 1) := by decide +kernel
theorem dJx35411_init_45d68_10 : decode cJx35411_init_45d68 10 = .ok (.iconst (-1), 1) := by decide +kernel
theorem dJx35411_init_45d68_11 : decode cJx35411_init_45d68 11 = .ok (.putfield 13, 3) := by decide +kernel
theorem dJx35411_init_45d68_14 : decode cJx35411_init_45d68 14 = .ok (.aload_n 0, 1) := by decide +kernel
theorem dJx35411_init_45d68_15 : decode cJx35411_init_45d68 15 = .ok (.aload_n 0, 1) := by decide +kernel
theorem dJx35411_init_45d68_16 : decode cJx35411_init_45d68 16 = .ok (.getfield 1, 3) := by decide +kernel
theorem dJx35411_init_45d68_19 : decode cJx35411_init_45d68 19 = .ok (.getfield 17, 3) := by decide +kernel
theorem dJx35411_init_45d68_22 : decode cJx35411_init_45d68 22 = .ok (.putfield 22, 3) := by decide +kernel
theorem dJx35411_init_45d68_25 : decode cJx35411_init_45d68 25 = .ok (.return_, 1) := by decide +kernel
theorem dJx35411_hasNext_aae02_0 : decode cJx35411_hasNext_aae02 0 = .ok (.aload_n 0, 1) := by decide +kernel
theorem dJx35411_hasNext_aae02_1 : decode cJx35411_hasNext_aae02 1 = .ok (.getfield 25, 3) := by decide +kernel
theorem dJx35411_hasNext_aae02_4 : decode cJx35411_hasNext_aae02 4 = .ok (.aload_n 0, 1) := by decide +kernel
theorem dJx35411_hasNext_aae02_5 : decode cJx35411_hasNext_aae02 5 = .ok (.getfield 1, 3) := by decide +kernel
theorem dJx35411_hasNext_aae02_8 : decode cJx35411_hasNext_aae02 8 = .ok (.getfield 28, 3) := by decide +kernel
theorem dJx35411_hasNext_aae02_11 : decode cJx35411_hasNext_aae02 11 = .ok (.if_icmp .eq 7, 3) := by decide +kernel
theorem dJx35411_hasNext_aae02_18 : decode cJx35411_hasNext_aae02 18 = .ok (.iconst 0, 1) := by decide +kernel
theorem dJx35411_hasNext_aae02_19 : decode cJx35411_hasNext_aae02 19 = .ok (.ireturn, 1) := by decide +kernel
theorem dJx4a65c_init_da8c8_0 : decode cJx4a65c_init_da8c8 0 = .ok (.aload_n 0, 1) := by decide +kernel
theorem dJx4a65c_init_da8c8_1 : decode cJx4a65c_init_da8c8 1 = .ok (.invokespecial 1, 3) := by decide +kernel
theorem dJx4a65c_init_da8c8_4 : decode cJx4a65c_init_da8c8 4 = .ok (.aload_n 0, 1) := by decide +kernel
theorem dJx4a65c_init_da8c8_5 : decode cJx4a65c_init_da8c8 5 = .ok (.getstatic 39, 3) := by decide +kernel
theorem dJx4a65c_init_da8c8_8 : decode cJx4a65c_init_da8c8 8 = .ok (.putfield 9, 3) := by decide +kernel
theorem dJx4a65c_init_da8c8_11 : decode cJx4a65c_init_da8c8 11 = .ok (.return_, 1) := by decide +kernel
theorem dJx4a65c_grow_92f84_0 : decode cJx4a65c_grow_92f84 0 = .ok (.aload_n 0, 1) := by decide +kernel
theorem dJx4a65c_grow_92f84_1 : decode cJx4a65c_grow_92f84 1 = .ok (.getfield 9, 3) := by decide +kernel
theorem dJx4a65c_grow_92f84_4 : decode cJx4a65c_grow_92f84 4 = .ok (.arraylength, 1) := by decide +kernel
theorem dJx4a65c_grow_92f84_5 : decode cJx4a65c_grow_92f84 5 = .ok (.istore_n 2, 1) := by decide +kernel
theorem dJx4a65c_grow_92f84_6 : decode cJx4a65c_grow_92f84 6 = .ok (.iload_n 2, 1) := by decide +kernel
theorem dJx4a65c_grow_92f84_7 : decode cJx4a65c_grow_92f84 7 = .ok (.ifCond .gt 13, 3) := by decide +kernel
theorem dJx4a65c_grow_92f84_10 : decode cJx4a65c_grow_92f84 10 = .ok (.aload_n 0, 1) := by decide +kernel
theorem dJx4a65c_grow_92f84_11 : decode cJx4a65c_grow_92f84 11 = .ok (.getfield 9, 3) := by decide +kernel
theorem dJx4a65c_grow_92f84_14 : decode cJx4a65c_grow_92f84 14 = .ok (.getstatic 39, 3) := by decide +kernel
theorem dJx4a65c_grow_92f84_17 : decode cJx4a65c_grow_92f84 17 = .ok (.if_acmp .eq 28, 3) := by decide +kernel
theorem dJx4a65c_grow_92f84_45 : decode cJx4a65c_grow_92f84 45 = .ok (.aload_n 0, 1) := by decide +kernel
theorem dJx4a65c_grow_92f84_46 : decode cJx4a65c_grow_92f84 46 = .ok (.bipush 10, 2) := by decide +kernel
theorem dJx4a65c_grow_92f84_48 : decode cJx4a65c_grow_92f84 48 = .ok (.iload_n 1, 1) := by decide +kernel
theorem dJx4a65c_grow_92f84_49 : decode cJx4a65c_grow_92f84 49 = .ok (.invokestatic 79, 3) := by decide +kernel
theorem dJx4a65c_grow_92f84_52 : decode cJx4a65c_grow_92f84 52 = .ok (.anewarray 7, 3) := by decide +kernel
theorem dJx4a65c_grow_92f84_55 : decode cJx4a65c_grow_92f84 55 = .ok (.dup_x1, 1) := by decide +kernel
theorem dJx4a65c_grow_92f84_56 : decode cJx4a65c_grow_92f84 56 = .ok (.putfield 9, 3) := by decide +kernel
theorem dJx4a65c_grow_92f84_59 : decode cJx4a65c_grow_92f84 59 = .ok (.areturn, 1) := by decide +kernel
theorem dJx4a65c_grow_d5877_0 : decode cJx4a65c_grow_d5877 0 = .ok (.aload_n 0, 1) := by decide +kernel
theorem dJx4a65c_grow_d5877_1 : decode cJx4a65c_grow_d5877 1 = .ok (.aload_n 0, 1) := by decide +kernel
theorem dJx4a65c_grow_d5877_2 : decode cJx4a65c_grow_d5877 2 = .ok (.getfield 48, 3) := by decide +kernel
theorem dJx4a65c_grow_d5877_5 : decode cJx4a65c_grow_d5877 5 = .ok (.iconst 1, 1) := by decide +kernel
theorem dJx4a65c_grow_d5877_6 : decode cJx4a65c_grow_d5877 6 = .ok (.iadd, 1) := by decide +kernel
theorem dJx4a65c_grow_d5877_7 : decode cJx4a65c_grow_d5877 7 = .ok (.invokevirtual 69, 3) := by decide +kernel
theorem dJx4a65c_grow_d5877_10 : decode cJx4a65c_grow_d5877 10 = .ok (.areturn, 1) := by decide +kernel
theorem dJx4a65c_size_8abf5_0 : decode cJx4a65c_size_8abf5 0 = .ok (.aload_n 0, 1) := by decide +kernel
theorem dJx4a65c_size_8abf5_1 : decode cJx4a65c_size_8abf5 1 = .ok (.getfield 48, 3) := by decide +kernel
theorem dJx4a65c_size_8abf5_4 : decode cJx4a65c_size_8abf5 4 = .ok (.ireturn, 1) := by decide +kernel
theorem dJx4a65c_isEmpty_aae02_0 : decode cJx4a65c_isEmpty_aae02 0 = .ok (.aload_n 0, 1) := by decide +kernel
theorem dJx4a65c_isEmpty_aae02_1 : decode cJx4a65c_isEmpty_aae02 1 = .ok (.getfield 48, 3) := by decide +kernel
theorem dJx4a65c_isEmpty_aae02_4 : decode cJx4a65c_isEmpty_aae02 4 = .ok (.ifCond .ne 7, 3) := by decide +kernel
theorem dJx4a65c_isEmpty_aae02_7 : decode cJx4a65c_isEmpty_aae02 7 = .ok (.iconst 1, 1) := by decide +kernel
theorem dJx4a65c_isEmpty_aae02_8 : decode cJx4a65c_isEmpty_aae02 8 = .ok (.goto 4, 3) := by decide +kernel
theorem dJx4a65c_isEmpty_aae02_12 : decode cJx4a65c_isEmpty_aae02 12 = .ok (.ireturn, 1) := by decide +kernel
theorem dJx4a65c_add_72be8_0 : decode cJx4a65c_add_72be8 0 = .ok (.iload_n 3, 1) := by decide +kernel
theorem dJx4a65c_add_72be8_1 : decode cJx4a65c_add_72be8 1 = .ok (.aload_n 2, 1) := by decide +kernel
theorem dJx4a65c_add_72be8_2 : decode cJx4a65c_add_72be8 2 = .ok (.arraylength, 1) := by decide +kernel
theorem dJx4a65c_add_72be8_3 : decode cJx4a65c_add_72be8 3 = .ok (.if_icmp .ne 8, 3) := by decide +kernel
theorem dJx4a65c_add_72be8_6 : decode cJx4a65c_add_72be8 6 = .ok (.aload_n 0, 1) := by decide +kernel
theorem dJx4a65c_add_72be8_7 : decode cJx4a65c_add_72be8 7 = .ok (.invokevirtual 129, 3) := by decide +kernel
theorem dJx4a65c_add_72be8_10 : decode cJx4a65c_add_72be8 10 = .ok (.astore_n 2, 1) := by decide +kernel
theorem dJx4a65c_add_72be8_11 : decode cJx4a65c_add_72be8 11 = .ok (.aload_n 2, 1) := by decide +kernel
theorem dJx4a65c_add_72be8_12 : decode cJx4a65c_add_72be8 12 = .ok (.iload_n 3, 1) := by decide +kernel
theorem dJx4a65c_add_72be8_13 : decode cJx4a65c_add_72be8 13 = .ok (.aload_n 1, 1) := by decide +kernel
theorem dJx4a65c_add_72be8_14 : decode cJx4a65c_add_72be8 14 = .ok (.aastore, 1) := by decide +kernel
theorem dJx4a65c_add_72be8_15 : decode cJx4a65c_add_72be8 15 = .ok (.aload_n 0, 1) := by decide +kernel
theorem dJx4a65c_add_72be8_16 : decode cJx4a65c_add_72be8 16 = .ok (.iload_n 3, 1) := by decide +kernel
theorem dJx4a65c_add_72be8_17 : decode cJx4a65c_add_72be8 17 = .ok (.iconst 1, 1) := by decide +kernel
theorem dJx4a65c_add_72be8_18 : decode cJx4a65c_add_72be8 18 = .ok (.iadd, 1) := by decide +kernel
theorem dJx4a65c_add_72be8_19 : decode cJx4a65c_add_72be8 19 = .ok (.putfield 48, 3) := by decide +kernel
theorem dJx4a65c_add_72be8_22 : decode cJx4a65c_add_72be8 22 = .ok (.return_, 1) := by decide +kernel
theorem dJx4a65c_add_9ea2d_0 : decode cJx4a65c_add_9ea2d 0 = .ok (.aload_n 0, 1) := by decide +kernel
theorem dJx4a65c_add_9ea2d_1 : decode cJx4a65c_add_9ea2d 1 = .ok (.dup, 1) := by decide +kernel
theorem dJx4a65c_add_9ea2d_2 : decode cJx4a65c_add_9ea2d 2 = .ok (.getfield 63, 3) := by decide +kernel
theorem dJx4a65c_add_9ea2d_5 : decode cJx4a65c_add_9ea2d 5 = .ok (.iconst 1, 1) := by decide +kernel
theorem dJx4a65c_add_9ea2d_6 : decode cJx4a65c_add_9ea2d 6 = .ok (.iadd, 1) := by decide +kernel
theorem dJx4a65c_add_9ea2d_7 : decode cJx4a65c_add_9ea2d 7 = .ok (.putfield 63, 3) := by decide +kernel
theorem dJx4a65c_add_9ea2d_10 : decode cJx4a65c_add_9ea2d 10 = .ok (.aload_n 0, 1) := by decide +kernel
theorem dJx4a65c_add_9ea2d_11 : decode cJx4a65c_add_9ea2d 11 = .ok (.aload_n 1, 1) := by decide +kernel
theorem dJx4a65c_add_9ea2d_12 : decode cJx4a65c_add_9ea2d 12 = .ok (.aload_n 0, 1) := by decide +kernel
theorem dJx4a65c_add_9ea2d_13 : decode cJx4a65c_add_9ea2d 13 = .ok (.getfield 9, 3) := by decide +kernel
theorem dJx4a65c_add_9ea2d_16 : decode cJx4a65c_add_9ea2d 16 = .ok (.aload_n 0, 1) := by decide +kernel
theorem dJx4a65c_add_9ea2d_17 : decode cJx4a65c_add_9ea2d 17 = .ok (.getfield 48, 3) := by decide +kernel
theorem dJx4a65c_add_9ea2d_20 : decode cJx4a65c_add_9ea2d 20 = .ok (.invokevirtual 131, 3) := by decide +kernel
theorem dJx4a65c_add_9ea2d_23 : decode cJx4a65c_add_9ea2d 23 = .ok (.iconst 1, 1) := by decide +kernel
theorem dJx4a65c_add_9ea2d_24 : decode cJx4a65c_add_9ea2d 24 = .ok (.ireturn, 1) := by decide +kernel
theorem dJx4a65c_clear_da8c8_0 : decode cJx4a65c_clear_da8c8 0 = .ok (.aload_n 0, 1) := by decide +kernel
theorem dJx4a65c_clear_da8c8_1 : decode cJx4a65c_clear_da8c8 1 = .ok (.dup, 1) := by decide +kernel
theorem dJx4a65c_clear_da8c8_2 : decode cJx4a65c_clear_da8c8 2 = .ok (.getfield 63, 3) := by decide +kernel
theorem dJx4a65c_clear_da8c8_5 : decode cJx4a65c_clear_da8c8 5 = .ok (.iconst 1, 1) := by decide +kernel
theorem dJx4a65c_clear_da8c8_6 : decode cJx4a65c_clear_da8c8 6 = .ok (.iadd, 1) := by decide +kernel
theorem dJx4a65c_clear_da8c8_7 : decode cJx4a65c_clear_da8c8 7 = .ok (.putfield 63, 3) := by decide +kernel
theorem dJx4a65c_clear_da8c8_10 : decode cJx4a65c_clear_da8c8 10 = .ok (.aload_n 0, 1) := by decide +kernel
theorem dJx4a65c_clear_da8c8_11 : decode cJx4a65c_clear_da8c8 11 = .ok (.getfield 9, 3) := by decide +kernel
theorem dJx4a65c_clear_da8c8_14 : decode cJx4a65c_clear_da8c8 14 = .ok (.astore_n 1, 1) := by decide +kernel
theorem dJx4a65c_clear_da8c8_15 : decode cJx4a65c_clear_da8c8 15 = .ok (.aload_n 0, 1) := by decide +kernel
theorem dJx4a65c_clear_da8c8_16 : decode cJx4a65c_clear_da8c8 16 = .ok (.getfield 48, 3) := by decide +kernel
theorem dJx4a65c_clear_da8c8_19 : decode cJx4a65c_clear_da8c8 19 = .ok (.istore_n 2, 1) := by decide +kernel
theorem dJx4a65c_clear_da8c8_20 : decode cJx4a65c_clear_da8c8 20 = .ok (.aload_n 0, 1) := by decide +kernel
theorem dJx4a65c_clear_da8c8_21 : decode cJx4a65c_clear_da8c8 21 = .ok (.iconst 0, 1) := by decide +kernel
theorem dJx4a65c_clear_da8c8_22 : decode cJx4a65c_clear_da8c8 22 = .ok (.dup_x1, 1) := by decide +kernel
theorem dJx4a65c_clear_da8c8_23 : decode cJx4a65c_clear_da8c8 23 = .ok (.putfield 48, 3) := by decide +kernel
theorem dJx4a65c_clear_da8c8_26 : decode cJx4a65c_clear_da8c8 26 = .ok (.istore_n 3, 1) := by decide +kernel
theorem dJx4a65c_clear_da8c8_27 : decode cJx4a65c_clear_da8c8 27 = .ok (.iload_n 3, 1) := by decide +kernel
theorem dJx4a65c_clear_da8c8_28 : decode cJx4a65c_clear_da8c8 28 = .ok (.iload_n 2, 1) := by decide +kernel
theorem dJx4a65c_clear_da8c8_29 : decode cJx4a65c_clear_da8c8 29 = .ok (.if_icmp .ge 13, 3) := by decide +kernel
theorem dJx4a65c_clear_da8c8_42 : decode cJx4a65c_clear_da8c8 42 = .ok (.return_, 1) := by decide +kernel
theorem dJx4a65c_iterator_32c93_0 : decode cJx4a65c_iterator_32c93 0 = .ok (.new 267, 3) := by decide +kernel
theorem dJx4a65c_iterator_32c93_3 : decode cJx4a65c_iterator_32c93 3 = .ok (.dup, 1) := by decide +kernel
theorem dJx4a65c_iterator_32c93_4 : decode cJx4a65c_iterator_32c93 4 = .ok (.aload_n 0, 1) := by decide +kernel
theorem dJx4a65c_iterator_32c93_5 : decode cJx4a65c_iterator_32c93 5 = .ok (.invokespecial 269, 3) := by decide +kernel
theorem dJx4a65c_iterator_32c93_8 : decode cJx4a65c_iterator_32c93 8 = .ok (.areturn, 1) := by decide +kernel
theorem dL_addBody_0 : decode cL_addBody 0 = .ok (.aload_n 3, 1) := by decide +kernel
theorem dL_addBody_1 : decode cL_addBody 1 = .ok (.iconst 0, 1) := by decide +kernel
theorem dL_addBody_2 : decode cL_addBody 2 = .ok (.aload_n 0, 1) := by decide +kernel
theorem dL_addBody_3 : decode cL_addBody 3 = .ok (.iload_n 1, 1) := by decide +kernel
theorem dL_addBody_4 : decode cL_addBody 4 = .ok (.iload_n 2, 1) := by decide +kernel
theorem dL_addBody_5 : decode cL_addBody 5 = .ok (.invokevirtual 7, 3) := by decide +kernel
theorem dL_addBody_8 : decode cL_addBody 8 = .ok (.i2l, 1) := by decide +kernel
theorem dL_addBody_9 : decode cL_addBody 9 = .ok (.lastore, 1) := by decide +kernel
theorem dL_addBody_10 : decode cL_addBody 10 = .ok (.goto 11, 3) := by decide +kernel
theorem dL_addBody_13 : decode cL_addBody 13 = .ok (.astore 4, 2) := by decide +kernel
theorem dL_addBody_15 : decode cL_addBody 15 = .ok (.iconst 1, 1) := by decide +kernel
theorem dL_addBody_16 : decode cL_addBody 16 = .ok (.ireturn, 1) := by decide +kernel
theorem dL_addBody_21 : decode cL_addBody 21 = .ok (.iconst 0, 1) := by decide +kernel
theorem dL_addBody_22 : decode cL_addBody 22 = .ok (.ireturn, 1) := by decide +kernel
theorem dL_getTemperature_0 : decode cL_getTemperature 0 = .ok (.aload_n 2, 1) := by decide +kernel
theorem dL_getTemperature_1 : decode cL_getTemperature 1 = .ok (.iconst 0, 1) := by decide +kernel
theorem dL_getTemperature_2 : decode cL_getTemperature 2 = .ok (.aload_n 0, 1) := by decide +kernel
theorem dL_getTemperature_3 : decode cL_getTemperature 3 = .ok (.iload_n 1, 1) := by decide +kernel
theorem dL_getTemperature_4 : decode cL_getTemperature 4 = .ok (.invokevirtual 17, 3) := by decide +kernel
theorem dL_getTemperature_12 : decode cL_getTemperature 12 = .ok (.astore_n 3, 1) := by decide +kernel
theorem dL_getTemperature_13 : decode cL_getTemperature 13 = .ok (.iconst 1, 1) := by decide +kernel
theorem dL_getTemperature_14 : decode cL_getTemperature 14 = .ok (.ireturn, 1) := by decide +kernel
theorem dL_getEnergy_0 : decode cL_getEnergy 0 = .ok (.aload_n 2, 1) := by decide +kernel
theorem dL_getEnergy_1 : decode cL_getEnergy 1 = .ok (.iconst 0, 1) := by decide +kernel
theorem dL_getEnergy_2 : decode cL_getEnergy 2 = .ok (.aload_n 0, 1) := by decide +kernel
theorem dL_getEnergy_3 : decode cL_getEnergy 3 = .ok (.iload_n 1, 1) := by decide +kernel
theorem dL_getEnergy_4 : decode cL_getEnergy 4 = .ok (.invokevirtual 23, 3) := by decide +kernel
theorem dL_getEnergy_12 : decode cL_getEnergy 12 = .ok (.astore_n 3, 1) := by decide +kernel
theorem dL_getEnergy_13 : decode cL_getEnergy 13 = .ok (.iconst 1, 1) := by decide +kernel
theorem dL_getEnergy_14 : decode cL_getEnergy 14 = .ok (.ireturn, 1) := by decide +kernel
theorem dL_conduct_0 : decode cL_conduct 0 = .ok (.aload 4, 2) := by decide +kernel
theorem dL_conduct_2 : decode cL_conduct 2 = .ok (.iconst 0, 1) := by decide +kernel
theorem dL_conduct_3 : decode cL_conduct 3 = .ok (.aload_n 0, 1) := by decide +kernel
theorem dL_conduct_4 : decode cL_conduct 4 = .ok (.iload_n 1, 1) := by decide +kernel
theorem dL_conduct_5 : decode cL_conduct 5 = .ok (.iload_n 2, 1) := by decide +kernel
theorem dL_conduct_6 : decode cL_conduct 6 = .ok (.iload_n 3, 1) := by decide +kernel
theorem dL_conduct_7 : decode cL_conduct 7 = .ok (.invokevirtual 26, 3) := by decide +kernel
theorem dL_conduct_15 : decode cL_conduct 15 = .ok (.astore 5, 2) := by decide +kernel
theorem dL_conduct_17 : decode cL_conduct 17 = .ok (.iconst 1, 1) := by decide +kernel
theorem dL_conduct_18 : decode cL_conduct 18 = .ok (.ireturn, 1) := by decide +kernel
theorem dL_runEngine_0 : decode cL_runEngine 0 = .ok (.aload 5, 2) := by decide +kernel
theorem dL_runEngine_2 : decode cL_runEngine 2 = .ok (.iconst 0, 1) := by decide +kernel
theorem dL_runEngine_3 : decode cL_runEngine 3 = .ok (.aload_n 0, 1) := by decide +kernel
theorem dL_runEngine_4 : decode cL_runEngine 4 = .ok (.iload_n 1, 1) := by decide +kernel
theorem dL_runEngine_5 : decode cL_runEngine 5 = .ok (.iload_n 2, 1) := by decide +kernel
theorem dL_runEngine_6 : decode cL_runEngine 6 = .ok (.iload_n 3, 1) := by decide +kernel
theorem dL_runEngine_7 : decode cL_runEngine 7 = .ok (.iload 4, 2) := by decide +kernel
theorem dL_runEngine_9 : decode cL_runEngine 9 = .ok (.invokevirtual 32, 3) := by decide +kernel
theorem dL_runEngine_17 : decode cL_runEngine 17 = .ok (.astore 6, 2) := by decide +kernel
theorem dL_runEngine_19 : decode cL_runEngine 19 = .ok (.iconst 1, 1) := by decide +kernel
theorem dL_runEngine_20 : decode cL_runEngine 20 = .ok (.ireturn, 1) := by decide +kernel
theorem dL_runPump_0 : decode cL_runPump 0 = .ok (.aload 5, 2) := by decide +kernel
theorem dL_runPump_2 : decode cL_runPump 2 = .ok (.iconst 0, 1) := by decide +kernel
theorem dL_runPump_3 : decode cL_runPump 3 = .ok (.aload_n 0, 1) := by decide +kernel
theorem dL_runPump_4 : decode cL_runPump 4 = .ok (.iload_n 1, 1) := by decide +kernel
theorem dL_runPump_5 : decode cL_runPump 5 = .ok (.iload_n 2, 1) := by decide +kernel
theorem dL_runPump_6 : decode cL_runPump 6 = .ok (.iload_n 3, 1) := by decide +kernel
theorem dL_runPump_7 : decode cL_runPump 7 = .ok (.iload 4, 2) := by decide +kernel
theorem dL_runPump_9 : decode cL_runPump 9 = .ok (.invokevirtual 36, 3) := by decide +kernel
theorem dL_runPump_17 : decode cL_runPump 17 = .ok (.astore 6, 2) := by decide +kernel
theorem dL_runPump_19 : decode cL_runPump 19 = .ok (.iconst 1, 1) := by decide +kernel
theorem dL_runPump_20 : decode cL_runPump 20 = .ok (.ireturn, 1) := by decide +kernel
theorem dL_addRow_0 : decode cL_addRow 0 = .ok (.aload 5, 2) := by decide +kernel
theorem dL_addRow_2 : decode cL_addRow 2 = .ok (.iconst 0, 1) := by decide +kernel
theorem dL_addRow_3 : decode cL_addRow 3 = .ok (.aload_n 0, 1) := by decide +kernel
theorem dL_addRow_4 : decode cL_addRow 4 = .ok (.iload_n 1, 1) := by decide +kernel
theorem dL_addRow_5 : decode cL_addRow 5 = .ok (.iload_n 2, 1) := by decide +kernel
theorem dL_addRow_6 : decode cL_addRow 6 = .ok (.iload_n 3, 1) := by decide +kernel
theorem dL_addRow_7 : decode cL_addRow 7 = .ok (.iload 4, 2) := by decide +kernel
theorem dL_addRow_9 : decode cL_addRow 9 = .ok (.invokevirtual 39, 3) := by decide +kernel
theorem dL_addRow_12 : decode cL_addRow 12 = .ok (.i2l, 1) := by decide +kernel
theorem dL_addRow_13 : decode cL_addRow 13 = .ok (.lastore, 1) := by decide +kernel
theorem dL_addRow_14 : decode cL_addRow 14 = .ok (.goto 15, 3) := by decide +kernel
theorem dL_addRow_17 : decode cL_addRow 17 = .ok (.astore 6, 2) := by decide +kernel
theorem dL_addRow_19 : decode cL_addRow 19 = .ok (.iconst 1, 1) := by decide +kernel
theorem dL_addRow_20 : decode cL_addRow 20 = .ok (.ireturn, 1) := by decide +kernel
theorem dL_addRow_21 : decode cL_addRow 21 = .ok (.astore 6, 2) := by decide +kernel
theorem dL_addRow_23 : decode cL_addRow 23 = .ok (.iconst 2, 1) := by decide +kernel
theorem dL_addRow_24 : decode cL_addRow 24 = .ok (.ireturn, 1) := by decide +kernel
theorem dL_addRow_29 : decode cL_addRow 29 = .ok (.iconst 0, 1) := by decide +kernel
theorem dL_addRow_30 : decode cL_addRow 30 = .ok (.ireturn, 1) := by decide +kernel
theorem dL_getBoiling_0 : decode cL_getBoiling 0 = .ok (.aload_n 2, 1) := by decide +kernel
theorem dL_getBoiling_1 : decode cL_getBoiling 1 = .ok (.iconst 0, 1) := by decide +kernel
theorem dL_getBoiling_2 : decode cL_getBoiling 2 = .ok (.aload_n 0, 1) := by decide +kernel
theorem dL_getBoiling_3 : decode cL_getBoiling 3 = .ok (.iload_n 1, 1) := by decide +kernel
theorem dL_getBoiling_4 : decode cL_getBoiling 4 = .ok (.invokevirtual 42, 3) := by decide +kernel
theorem dL_getBoiling_12 : decode cL_getBoiling 12 = .ok (.astore_n 3, 1) := by decide +kernel
theorem dL_getBoiling_13 : decode cL_getBoiling 13 = .ok (.iconst 1, 1) := by decide +kernel
theorem dL_getBoiling_14 : decode cL_getBoiling 14 = .ok (.ireturn, 1) := by decide +kernel
theorem dL_getLiquid_0 : decode cL_getLiquid 0 = .ok (.aload_n 2, 1) := by decide +kernel
theorem dL_getLiquid_1 : decode cL_getLiquid 1 = .ok (.iconst 0, 1) := by decide +kernel
theorem dL_getLiquid_2 : decode cL_getLiquid 2 = .ok (.aload_n 0, 1) := by decide +kernel
theorem dL_getLiquid_3 : decode cL_getLiquid 3 = .ok (.iload_n 1, 1) := by decide +kernel
theorem dL_getLiquid_4 : decode cL_getLiquid 4 = .ok (.invokevirtual 47, 3) := by decide +kernel
theorem dL_getLiquid_12 : decode cL_getLiquid 12 = .ok (.astore_n 3, 1) := by decide +kernel
theorem dL_getLiquid_13 : decode cL_getLiquid 13 = .ok (.iconst 1, 1) := by decide +kernel
theorem dL_getLiquid_14 : decode cL_getLiquid 14 = .ok (.ireturn, 1) := by decide +kernel
theorem dL_getVapour_0 : decode cL_getVapour 0 = .ok (.aload_n 2, 1) := by decide +kernel
theorem dL_getVapour_1 : decode cL_getVapour 1 = .ok (.iconst 0, 1) := by decide +kernel
theorem dL_getVapour_2 : decode cL_getVapour 2 = .ok (.aload_n 0, 1) := by decide +kernel
theorem dL_getVapour_3 : decode cL_getVapour 3 = .ok (.iload_n 1, 1) := by decide +kernel
theorem dL_getVapour_4 : decode cL_getVapour 4 = .ok (.invokevirtual 50, 3) := by decide +kernel
theorem dL_getVapour_12 : decode cL_getVapour 12 = .ok (.astore_n 3, 1) := by decide +kernel
theorem dL_getVapour_13 : decode cL_getVapour 13 = .ok (.iconst 1, 1) := by decide +kernel
theorem dL_getVapour_14 : decode cL_getVapour 14 = .ok (.ireturn, 1) := by decide +kernel
theorem dL_getPhase_0 : decode cL_getPhase 0 = .ok (.aload_n 3, 1) := by decide +kernel
theorem dL_getPhase_1 : decode cL_getPhase 1 = .ok (.iconst 0, 1) := by decide +kernel
theorem dL_getPhase_2 : decode cL_getPhase 2 = .ok (.aload_n 0, 1) := by decide +kernel
theorem dL_getPhase_3 : decode cL_getPhase 3 = .ok (.iload_n 1, 1) := by decide +kernel
theorem dL_getPhase_4 : decode cL_getPhase 4 = .ok (.iload_n 2, 1) := by decide +kernel
theorem dL_getPhase_5 : decode cL_getPhase 5 = .ok (.invokevirtual 53, 3) := by decide +kernel
theorem dL_getPhase_13 : decode cL_getPhase 13 = .ok (.astore 4, 2) := by decide +kernel
theorem dL_getPhase_15 : decode cL_getPhase 15 = .ok (.iconst 1, 1) := by decide +kernel
theorem dL_getPhase_16 : decode cL_getPhase 16 = .ok (.ireturn, 1) := by decide +kernel
theorem dL_getPhase_17 : decode cL_getPhase 17 = .ok (.astore 4, 2) := by decide +kernel
theorem dL_getPhase_19 : decode cL_getPhase 19 = .ok (.iconst 2, 1) := by decide +kernel
theorem dL_getPhase_20 : decode cL_getPhase 20 = .ok (.ireturn, 1) := by decide +kernel
theorem dL_getDryness_0 : decode cL_getDryness 0 = .ok (.aload_n 3, 1) := by decide +kernel
theorem dL_getDryness_1 : decode cL_getDryness 1 = .ok (.iconst 0, 1) := by decide +kernel
theorem dL_getDryness_2 : decode cL_getDryness 2 = .ok (.aload_n 0, 1) := by decide +kernel
theorem dL_getDryness_3 : decode cL_getDryness 3 = .ok (.iload_n 1, 1) := by decide +kernel
theorem dL_getDryness_4 : decode cL_getDryness 4 = .ok (.iload_n 2, 1) := by decide +kernel
theorem dL_getDryness_5 : decode cL_getDryness 5 = .ok (.invokevirtual 57, 3) := by decide +kernel
theorem dL_getDryness_13 : decode cL_getDryness 13 = .ok (.astore 4, 2) := by decide +kernel
theorem dL_getDryness_15 : decode cL_getDryness 15 = .ok (.iconst 1, 1) := by decide +kernel
theorem dL_getDryness_16 : decode cL_getDryness 16 = .ok (.ireturn, 1) := by decide +kernel
theorem dL_getDryness_17 : decode cL_getDryness 17 = .ok (.astore 4, 2) := by decide +kernel
theorem dL_getDryness_19 : decode cL_getDryness 19 = .ok (.iconst 2, 1) := by decide +kernel
theorem dL_getDryness_20 : decode cL_getDryness 20 = .ok (.ireturn, 1) := by decide +kernel
theorem dL_stateTemperature_0 : decode cL_stateTemperature 0 = .ok (.aload_n 3, 1) := by decide +kernel
theorem dL_stateTemperature_1 : decode cL_stateTemperature 1 = .ok (.iconst 0, 1) := by decide +kernel
theorem dL_stateTemperature_2 : decode cL_stateTemperature 2 = .ok (.aload_n 0, 1) := by decide +kernel
theorem dL_stateTemperature_3 : decode cL_stateTemperature 3 = .ok (.iload_n 1, 1) := by decide +kernel
theorem dL_stateTemperature_4 : decode cL_stateTemperature 4 = .ok (.iload_n 2, 1) := by decide +kernel
theorem dL_stateTemperature_5 : decode cL_stateTemperature 5 = .ok (.invokevirtual 60, 3) := by decide +kernel
theorem dL_stateTemperature_13 : decode cL_stateTemperature 13 = .ok (.astore 4, 2) := by decide +kernel
theorem dL_stateTemperature_15 : decode cL_stateTemperature 15 = .ok (.iconst 1, 1) := by decide +kernel
theorem dL_stateTemperature_16 : decode cL_stateTemperature 16 = .ok (.ireturn, 1) := by decide +kernel
theorem dL_stateTemperature_17 : decode cL_stateTemperature 17 = .ok (.astore 4, 2) := by decide +kernel
theorem dL_stateTemperature_19 : decode cL_stateTemperature 19 = .ok (.iconst 2, 1) := by decide +kernel
theorem dL_stateTemperature_20 : decode cL_stateTemperature 20 = .ok (.ireturn, 1) := by decide +kernel
theorem dL_addPart_0 : decode cL_addPart 0 = .ok (.aload 4, 2) := by decide +kernel
theorem dL_addPart_2 : decode cL_addPart 2 = .ok (.iconst 0, 1) := by decide +kernel
theorem dL_addPart_3 : decode cL_addPart 3 = .ok (.aload_n 0, 1) := by decide +kernel
theorem dL_addPart_4 : decode cL_addPart 4 = .ok (.iload_n 1, 1) := by decide +kernel
theorem dL_addPart_5 : decode cL_addPart 5 = .ok (.iload_n 2, 1) := by decide +kernel
theorem dL_addPart_6 : decode cL_addPart 6 = .ok (.iload_n 3, 1) := by decide +kernel
theorem dL_addPart_7 : decode cL_addPart 7 = .ok (.invokevirtual 63, 3) := by decide +kernel
theorem dL_addPart_10 : decode cL_addPart 10 = .ok (.i2l, 1) := by decide +kernel
theorem dL_addPart_11 : decode cL_addPart 11 = .ok (.lastore, 1) := by decide +kernel
theorem dL_addPart_12 : decode cL_addPart 12 = .ok (.goto 11, 3) := by decide +kernel
theorem dL_addPart_15 : decode cL_addPart 15 = .ok (.astore 5, 2) := by decide +kernel
theorem dL_addPart_17 : decode cL_addPart 17 = .ok (.iconst 1, 1) := by decide +kernel
theorem dL_addPart_18 : decode cL_addPart 18 = .ok (.ireturn, 1) := by decide +kernel
theorem dL_addPart_23 : decode cL_addPart 23 = .ok (.iconst 0, 1) := by decide +kernel
theorem dL_addPart_24 : decode cL_addPart 24 = .ok (.ireturn, 1) := by decide +kernel
theorem dL_solve_0 : decode cL_solve 0 = .ok (.aload_n 3, 1) := by decide +kernel
theorem dL_solve_1 : decode cL_solve 1 = .ok (.iconst 0, 1) := by decide +kernel
theorem dL_solve_2 : decode cL_solve 2 = .ok (.aload_n 0, 1) := by decide +kernel
theorem dL_solve_3 : decode cL_solve 3 = .ok (.iload_n 1, 1) := by decide +kernel
theorem dL_solve_4 : decode cL_solve 4 = .ok (.iload_n 2, 1) := by decide +kernel
theorem dL_solve_5 : decode cL_solve 5 = .ok (.invokevirtual 67, 3) := by decide +kernel
theorem dL_solve_13 : decode cL_solve 13 = .ok (.astore 4, 2) := by decide +kernel
theorem dL_solve_15 : decode cL_solve 15 = .ok (.iconst 1, 1) := by decide +kernel
theorem dL_solve_16 : decode cL_solve 16 = .ok (.ireturn, 1) := by decide +kernel
theorem dL_solve_17 : decode cL_solve 17 = .ok (.astore 4, 2) := by decide +kernel
theorem dL_solve_19 : decode cL_solve 19 = .ok (.iconst 2, 1) := by decide +kernel
theorem dL_solve_20 : decode cL_solve 20 = .ok (.ireturn, 1) := by decide +kernel
theorem dL_partWork_0 : decode cL_partWork 0 = .ok (.aload_n 2, 1) := by decide +kernel
theorem dL_partWork_1 : decode cL_partWork 1 = .ok (.iconst 0, 1) := by decide +kernel
theorem dL_partWork_2 : decode cL_partWork 2 = .ok (.aload_n 0, 1) := by decide +kernel
theorem dL_partWork_3 : decode cL_partWork 3 = .ok (.iload_n 1, 1) := by decide +kernel
theorem dL_partWork_4 : decode cL_partWork 4 = .ok (.invokevirtual 70, 3) := by decide +kernel
theorem dL_partWork_12 : decode cL_partWork 12 = .ok (.astore_n 3, 1) := by decide +kernel
theorem dL_partWork_13 : decode cL_partWork 13 = .ok (.iconst 1, 1) := by decide +kernel
theorem dL_partWork_14 : decode cL_partWork 14 = .ok (.ireturn, 1) := by decide +kernel
theorem dL_partHeat_0 : decode cL_partHeat 0 = .ok (.aload_n 2, 1) := by decide +kernel
theorem dL_partHeat_1 : decode cL_partHeat 1 = .ok (.iconst 0, 1) := by decide +kernel
theorem dL_partHeat_2 : decode cL_partHeat 2 = .ok (.aload_n 0, 1) := by decide +kernel
theorem dL_partHeat_3 : decode cL_partHeat 3 = .ok (.iload_n 1, 1) := by decide +kernel
theorem dL_partHeat_4 : decode cL_partHeat 4 = .ok (.invokevirtual 73, 3) := by decide +kernel
theorem dL_partHeat_12 : decode cL_partHeat 12 = .ok (.astore_n 3, 1) := by decide +kernel
theorem dL_partHeat_13 : decode cL_partHeat 13 = .ok (.iconst 1, 1) := by decide +kernel
theorem dL_partHeat_14 : decode cL_partHeat 14 = .ok (.ireturn, 1) := by decide +kernel
theorem dL_partLost_0 : decode cL_partLost 0 = .ok (.aload_n 2, 1) := by decide +kernel
theorem dL_partLost_1 : decode cL_partLost 1 = .ok (.iconst 0, 1) := by decide +kernel
theorem dL_partLost_2 : decode cL_partLost 2 = .ok (.aload_n 0, 1) := by decide +kernel
theorem dL_partLost_3 : decode cL_partLost 3 = .ok (.iload_n 1, 1) := by decide +kernel
theorem dL_partLost_4 : decode cL_partLost 4 = .ok (.invokevirtual 76, 3) := by decide +kernel
theorem dL_partLost_12 : decode cL_partLost 12 = .ok (.astore_n 3, 1) := by decide +kernel
theorem dL_partLost_13 : decode cL_partLost 13 = .ok (.iconst 1, 1) := by decide +kernel
theorem dL_partLost_14 : decode cL_partLost 14 = .ok (.ireturn, 1) := by decide +kernel
theorem dL_pressureAhead_0 : decode cL_pressureAhead 0 = .ok (.aload_n 2, 1) := by decide +kernel
theorem dL_pressureAhead_1 : decode cL_pressureAhead 1 = .ok (.iconst 0, 1) := by decide +kernel
theorem dL_pressureAhead_2 : decode cL_pressureAhead 2 = .ok (.aload_n 0, 1) := by decide +kernel
theorem dL_pressureAhead_3 : decode cL_pressureAhead 3 = .ok (.iload_n 1, 1) := by decide +kernel
theorem dL_pressureAhead_4 : decode cL_pressureAhead 4 = .ok (.invokevirtual 79, 3) := by decide +kernel
theorem dL_pressureAhead_12 : decode cL_pressureAhead 12 = .ok (.astore_n 3, 1) := by decide +kernel
theorem dL_pressureAhead_13 : decode cL_pressureAhead 13 = .ok (.iconst 1, 1) := by decide +kernel
theorem dL_pressureAhead_14 : decode cL_pressureAhead 14 = .ok (.ireturn, 1) := by decide +kernel
theorem dL_heatAhead_0 : decode cL_heatAhead 0 = .ok (.aload_n 2, 1) := by decide +kernel
theorem dL_heatAhead_1 : decode cL_heatAhead 1 = .ok (.iconst 0, 1) := by decide +kernel
theorem dL_heatAhead_2 : decode cL_heatAhead 2 = .ok (.aload_n 0, 1) := by decide +kernel
theorem dL_heatAhead_3 : decode cL_heatAhead 3 = .ok (.iload_n 1, 1) := by decide +kernel
theorem dL_heatAhead_4 : decode cL_heatAhead 4 = .ok (.invokevirtual 82, 3) := by decide +kernel
theorem dL_heatAhead_12 : decode cL_heatAhead 12 = .ok (.astore_n 3, 1) := by decide +kernel
theorem dL_heatAhead_13 : decode cL_heatAhead 13 = .ok (.iconst 1, 1) := by decide +kernel
theorem dL_heatAhead_14 : decode cL_heatAhead 14 = .ok (.ireturn, 1) := by decide +kernel
theorem dL_plantWork_0 : decode cL_plantWork 0 = .ok (.aload_n 1, 1) := by decide +kernel
theorem dL_plantWork_1 : decode cL_plantWork 1 = .ok (.iconst 0, 1) := by decide +kernel
theorem dL_plantWork_2 : decode cL_plantWork 2 = .ok (.aload_n 0, 1) := by decide +kernel
theorem dL_plantWork_3 : decode cL_plantWork 3 = .ok (.invokevirtual 85, 3) := by decide +kernel
theorem dL_plantWork_11 : decode cL_plantWork 11 = .ok (.astore_n 2, 1) := by decide +kernel
theorem dL_plantWork_12 : decode cL_plantWork 12 = .ok (.iconst 1, 1) := by decide +kernel
theorem dL_plantWork_13 : decode cL_plantWork 13 = .ok (.ireturn, 1) := by decide +kernel
theorem dL_setGas_0 : decode cL_setGas 0 = .ok (.aload 4, 2) := by decide +kernel
theorem dL_setGas_2 : decode cL_setGas 2 = .ok (.iconst 0, 1) := by decide +kernel
theorem dL_setGas_3 : decode cL_setGas 3 = .ok (.aload_n 0, 1) := by decide +kernel
theorem dL_setGas_4 : decode cL_setGas 4 = .ok (.iload_n 1, 1) := by decide +kernel
theorem dL_setGas_5 : decode cL_setGas 5 = .ok (.iload_n 2, 1) := by decide +kernel
theorem dL_setGas_6 : decode cL_setGas 6 = .ok (.iload_n 3, 1) := by decide +kernel
theorem dL_setGas_7 : decode cL_setGas 7 = .ok (.invokevirtual 89, 3) := by decide +kernel
theorem dL_setGas_10 : decode cL_setGas 10 = .ok (.i2l, 1) := by decide +kernel
theorem dL_setGas_11 : decode cL_setGas 11 = .ok (.lastore, 1) := by decide +kernel
theorem dL_setGas_12 : decode cL_setGas 12 = .ok (.goto 7, 3) := by decide +kernel
theorem dL_setGas_15 : decode cL_setGas 15 = .ok (.astore 5, 2) := by decide +kernel
theorem dL_setGas_17 : decode cL_setGas 17 = .ok (.iconst 1, 1) := by decide +kernel
theorem dL_setGas_18 : decode cL_setGas 18 = .ok (.ireturn, 1) := by decide +kernel
theorem dL_setGas_19 : decode cL_setGas 19 = .ok (.iconst 0, 1) := by decide +kernel
theorem dL_setGas_20 : decode cL_setGas 20 = .ok (.ireturn, 1) := by decide +kernel
theorem dL_addStroke_0 : decode cL_addStroke 0 = .ok (.aload 4, 2) := by decide +kernel
theorem dL_addStroke_2 : decode cL_addStroke 2 = .ok (.iconst 0, 1) := by decide +kernel
theorem dL_addStroke_3 : decode cL_addStroke 3 = .ok (.aload_n 0, 1) := by decide +kernel
theorem dL_addStroke_4 : decode cL_addStroke 4 = .ok (.iload_n 1, 1) := by decide +kernel
theorem dL_addStroke_5 : decode cL_addStroke 5 = .ok (.iload_n 2, 1) := by decide +kernel
theorem dL_addStroke_6 : decode cL_addStroke 6 = .ok (.iload_n 3, 1) := by decide +kernel
theorem dL_addStroke_7 : decode cL_addStroke 7 = .ok (.invokevirtual 92, 3) := by decide +kernel
theorem dL_addStroke_10 : decode cL_addStroke 10 = .ok (.i2l, 1) := by decide +kernel
theorem dL_addStroke_11 : decode cL_addStroke 11 = .ok (.lastore, 1) := by decide +kernel
theorem dL_addStroke_12 : decode cL_addStroke 12 = .ok (.goto 15, 3) := by decide +kernel
theorem dL_addStroke_15 : decode cL_addStroke 15 = .ok (.astore 5, 2) := by decide +kernel
theorem dL_addStroke_17 : decode cL_addStroke 17 = .ok (.iconst 1, 1) := by decide +kernel
theorem dL_addStroke_18 : decode cL_addStroke 18 = .ok (.ireturn, 1) := by decide +kernel
theorem dL_addStroke_19 : decode cL_addStroke 19 = .ok (.astore 5, 2) := by decide +kernel
theorem dL_addStroke_21 : decode cL_addStroke 21 = .ok (.iconst 2, 1) := by decide +kernel
theorem dL_addStroke_22 : decode cL_addStroke 22 = .ok (.ireturn, 1) := by decide +kernel
theorem dL_addStroke_27 : decode cL_addStroke 27 = .ok (.iconst 0, 1) := by decide +kernel
theorem dL_addStroke_28 : decode cL_addStroke 28 = .ok (.ireturn, 1) := by decide +kernel
theorem dL_runCycles_0 : decode cL_runCycles 0 = .ok (.aload_n 2, 1) := by decide +kernel
theorem dL_runCycles_1 : decode cL_runCycles 1 = .ok (.iconst 0, 1) := by decide +kernel
theorem dL_runCycles_2 : decode cL_runCycles 2 = .ok (.aload_n 0, 1) := by decide +kernel
theorem dL_runCycles_3 : decode cL_runCycles 3 = .ok (.iload_n 1, 1) := by decide +kernel
theorem dL_runCycles_4 : decode cL_runCycles 4 = .ok (.invokevirtual 95, 3) := by decide +kernel
theorem dL_runCycles_12 : decode cL_runCycles 12 = .ok (.astore_n 3, 1) := by decide +kernel
theorem dL_runCycles_13 : decode cL_runCycles 13 = .ok (.iconst 1, 1) := by decide +kernel
theorem dL_runCycles_14 : decode cL_runCycles 14 = .ok (.ireturn, 1) := by decide +kernel
theorem dL_runCycles_15 : decode cL_runCycles 15 = .ok (.astore_n 3, 1) := by decide +kernel
theorem dL_runCycles_16 : decode cL_runCycles 16 = .ok (.iconst 2, 1) := by decide +kernel
theorem dL_runCycles_17 : decode cL_runCycles 17 = .ok (.ireturn, 1) := by decide +kernel
theorem dL_wasEnded_0 : decode cL_wasEnded 0 = .ok (.aload_n 1, 1) := by decide +kernel
theorem dL_wasEnded_1 : decode cL_wasEnded 1 = .ok (.iconst 0, 1) := by decide +kernel
theorem dL_wasEnded_2 : decode cL_wasEnded 2 = .ok (.aload_n 0, 1) := by decide +kernel
theorem dL_wasEnded_3 : decode cL_wasEnded 3 = .ok (.invokevirtual 98, 3) := by decide +kernel
theorem dL_wasEnded_18 : decode cL_wasEnded 18 = .ok (.astore_n 2, 1) := by decide +kernel
theorem dL_wasEnded_19 : decode cL_wasEnded 19 = .ok (.iconst 1, 1) := by decide +kernel
theorem dL_wasEnded_20 : decode cL_wasEnded 20 = .ok (.ireturn, 1) := by decide +kernel
theorem dL_cardAt_0 : decode cL_cardAt 0 = .ok (.aload_n 2, 1) := by decide +kernel
theorem dL_cardAt_1 : decode cL_cardAt 1 = .ok (.iconst 0, 1) := by decide +kernel
theorem dL_cardAt_2 : decode cL_cardAt 2 = .ok (.aload_n 0, 1) := by decide +kernel
theorem dL_cardAt_3 : decode cL_cardAt 3 = .ok (.iload_n 1, 1) := by decide +kernel
theorem dL_cardAt_4 : decode cL_cardAt 4 = .ok (.invokevirtual 102, 3) := by decide +kernel
theorem dL_cardAt_12 : decode cL_cardAt 12 = .ok (.astore_n 3, 1) := by decide +kernel
theorem dL_cardAt_13 : decode cL_cardAt 13 = .ok (.iconst 1, 1) := by decide +kernel
theorem dL_cardAt_14 : decode cL_cardAt 14 = .ok (.ireturn, 1) := by decide +kernel
theorem dL_addStream_0 : decode cL_addStream 0 = .ok (.aload 4, 2) := by decide +kernel
theorem dL_addStream_2 : decode cL_addStream 2 = .ok (.iconst 0, 1) := by decide +kernel
theorem dL_addStream_3 : decode cL_addStream 3 = .ok (.aload_n 0, 1) := by decide +kernel
theorem dL_addStream_4 : decode cL_addStream 4 = .ok (.iload_n 1, 1) := by decide +kernel
theorem dL_addStream_5 : decode cL_addStream 5 = .ok (.iload_n 2, 1) := by decide +kernel
theorem dL_addStream_6 : decode cL_addStream 6 = .ok (.iload_n 3, 1) := by decide +kernel
theorem dL_addStream_7 : decode cL_addStream 7 = .ok (.invokevirtual 105, 3) := by decide +kernel
theorem dL_addStream_10 : decode cL_addStream 10 = .ok (.i2l, 1) := by decide +kernel
theorem dL_addStream_11 : decode cL_addStream 11 = .ok (.lastore, 1) := by decide +kernel
theorem dL_addStream_12 : decode cL_addStream 12 = .ok (.goto 11, 3) := by decide +kernel
theorem dL_addStream_15 : decode cL_addStream 15 = .ok (.astore 5, 2) := by decide +kernel
theorem dL_addStream_17 : decode cL_addStream 17 = .ok (.iconst 1, 1) := by decide +kernel
theorem dL_addStream_18 : decode cL_addStream 18 = .ok (.ireturn, 1) := by decide +kernel
theorem dL_addStream_23 : decode cL_addStream 23 = .ok (.iconst 0, 1) := by decide +kernel
theorem dL_addStream_24 : decode cL_addStream 24 = .ok (.ireturn, 1) := by decide +kernel
theorem dL_heatNeeded_0 : decode cL_heatNeeded 0 = .ok (.aload_n 2, 1) := by decide +kernel
theorem dL_heatNeeded_1 : decode cL_heatNeeded 1 = .ok (.iconst 0, 1) := by decide +kernel
theorem dL_heatNeeded_2 : decode cL_heatNeeded 2 = .ok (.aload_n 0, 1) := by decide +kernel
theorem dL_heatNeeded_3 : decode cL_heatNeeded 3 = .ok (.iload_n 1, 1) := by decide +kernel
theorem dL_heatNeeded_4 : decode cL_heatNeeded 4 = .ok (.invokevirtual 108, 3) := by decide +kernel
theorem dL_heatNeeded_7 : decode cL_heatNeeded 7 = .ok (.i2l, 1) := by decide +kernel
theorem dL_heatNeeded_8 : decode cL_heatNeeded 8 = .ok (.lastore, 1) := by decide +kernel
theorem dL_heatNeeded_9 : decode cL_heatNeeded 9 = .ok (.goto 6, 3) := by decide +kernel
theorem dL_heatNeeded_12 : decode cL_heatNeeded 12 = .ok (.astore_n 3, 1) := by decide +kernel
theorem dL_heatNeeded_13 : decode cL_heatNeeded 13 = .ok (.iconst 1, 1) := by decide +kernel
theorem dL_heatNeeded_14 : decode cL_heatNeeded 14 = .ok (.ireturn, 1) := by decide +kernel
theorem dL_heatNeeded_15 : decode cL_heatNeeded 15 = .ok (.iconst 0, 1) := by decide +kernel
theorem dL_heatNeeded_16 : decode cL_heatNeeded 16 = .ok (.ireturn, 1) := by decide +kernel
theorem dL_coldNeeded_0 : decode cL_coldNeeded 0 = .ok (.aload_n 2, 1) := by decide +kernel
theorem dL_coldNeeded_1 : decode cL_coldNeeded 1 = .ok (.iconst 0, 1) := by decide +kernel
theorem dL_coldNeeded_2 : decode cL_coldNeeded 2 = .ok (.aload_n 0, 1) := by decide +kernel
theorem dL_coldNeeded_3 : decode cL_coldNeeded 3 = .ok (.iload_n 1, 1) := by decide +kernel
theorem dL_coldNeeded_4 : decode cL_coldNeeded 4 = .ok (.invokevirtual 111, 3) := by decide +kernel
theorem dL_coldNeeded_7 : decode cL_coldNeeded 7 = .ok (.i2l, 1) := by decide +kernel
theorem dL_coldNeeded_8 : decode cL_coldNeeded 8 = .ok (.lastore, 1) := by decide +kernel
theorem dL_coldNeeded_9 : decode cL_coldNeeded 9 = .ok (.goto 6, 3) := by decide +kernel
theorem dL_coldNeeded_12 : decode cL_coldNeeded 12 = .ok (.astore_n 3, 1) := by decide +kernel
theorem dL_coldNeeded_13 : decode cL_coldNeeded 13 = .ok (.iconst 1, 1) := by decide +kernel
theorem dL_coldNeeded_14 : decode cL_coldNeeded 14 = .ok (.ireturn, 1) := by decide +kernel
theorem dL_coldNeeded_15 : decode cL_coldNeeded 15 = .ok (.iconst 0, 1) := by decide +kernel
theorem dL_coldNeeded_16 : decode cL_coldNeeded 16 = .ok (.ireturn, 1) := by decide +kernel
theorem dL_pinch_0 : decode cL_pinch 0 = .ok (.aload_n 2, 1) := by decide +kernel
theorem dL_pinch_1 : decode cL_pinch 1 = .ok (.iconst 0, 1) := by decide +kernel
theorem dL_pinch_2 : decode cL_pinch 2 = .ok (.aload_n 0, 1) := by decide +kernel
theorem dL_pinch_3 : decode cL_pinch 3 = .ok (.iload_n 1, 1) := by decide +kernel
theorem dL_pinch_4 : decode cL_pinch 4 = .ok (.invokevirtual 114, 3) := by decide +kernel
theorem dL_pinch_12 : decode cL_pinch 12 = .ok (.astore_n 3, 1) := by decide +kernel
theorem dL_pinch_13 : decode cL_pinch 13 = .ok (.iconst 1, 1) := by decide +kernel
theorem dL_pinch_14 : decode cL_pinch 14 = .ok (.ireturn, 1) := by decide +kernel
theorem dL_pinch_15 : decode cL_pinch 15 = .ok (.astore_n 3, 1) := by decide +kernel
theorem dL_pinch_16 : decode cL_pinch 16 = .ok (.iconst 2, 1) := by decide +kernel
theorem dL_pinch_17 : decode cL_pinch 17 = .ok (.ireturn, 1) := by decide +kernel
theorem dL_setGovernor_0 : decode cL_setGovernor 0 = .ok (.aload 5, 2) := by decide +kernel
theorem dL_setGovernor_2 : decode cL_setGovernor 2 = .ok (.iconst 0, 1) := by decide +kernel
theorem dL_setGovernor_3 : decode cL_setGovernor 3 = .ok (.aload_n 0, 1) := by decide +kernel
theorem dL_setGovernor_4 : decode cL_setGovernor 4 = .ok (.iload_n 1, 1) := by decide +kernel
theorem dL_setGovernor_5 : decode cL_setGovernor 5 = .ok (.iload_n 2, 1) := by decide +kernel
theorem dL_setGovernor_6 : decode cL_setGovernor 6 = .ok (.iload_n 3, 1) := by decide +kernel
theorem dL_setGovernor_7 : decode cL_setGovernor 7 = .ok (.iload 4, 2) := by decide +kernel
theorem dL_setGovernor_9 : decode cL_setGovernor 9 = .ok (.invokevirtual 117, 3) := by decide +kernel
theorem dL_setGovernor_12 : decode cL_setGovernor 12 = .ok (.i2l, 1) := by decide +kernel
theorem dL_setGovernor_13 : decode cL_setGovernor 13 = .ok (.lastore, 1) := by decide +kernel
theorem dL_setGovernor_14 : decode cL_setGovernor 14 = .ok (.goto 7, 3) := by decide +kernel
theorem dL_setGovernor_17 : decode cL_setGovernor 17 = .ok (.astore 6, 2) := by decide +kernel
theorem dL_setGovernor_19 : decode cL_setGovernor 19 = .ok (.iconst 1, 1) := by decide +kernel
theorem dL_setGovernor_20 : decode cL_setGovernor 20 = .ok (.ireturn, 1) := by decide +kernel
theorem dL_setGovernor_21 : decode cL_setGovernor 21 = .ok (.iconst 0, 1) := by decide +kernel
theorem dL_setGovernor_22 : decode cL_setGovernor 22 = .ok (.ireturn, 1) := by decide +kernel
theorem dL_setLoad_0 : decode cL_setLoad 0 = .ok (.aload_n 2, 1) := by decide +kernel
theorem dL_setLoad_1 : decode cL_setLoad 1 = .ok (.iconst 0, 1) := by decide +kernel
theorem dL_setLoad_2 : decode cL_setLoad 2 = .ok (.aload_n 0, 1) := by decide +kernel
theorem dL_setLoad_3 : decode cL_setLoad 3 = .ok (.iload_n 1, 1) := by decide +kernel
theorem dL_setLoad_4 : decode cL_setLoad 4 = .ok (.invokevirtual 120, 3) := by decide +kernel
theorem dL_setLoad_7 : decode cL_setLoad 7 = .ok (.i2l, 1) := by decide +kernel
theorem dL_setLoad_8 : decode cL_setLoad 8 = .ok (.lastore, 1) := by decide +kernel
theorem dL_setLoad_9 : decode cL_setLoad 9 = .ok (.goto 6, 3) := by decide +kernel
theorem dL_setLoad_12 : decode cL_setLoad 12 = .ok (.astore_n 3, 1) := by decide +kernel
theorem dL_setLoad_13 : decode cL_setLoad 13 = .ok (.iconst 1, 1) := by decide +kernel
theorem dL_setLoad_14 : decode cL_setLoad 14 = .ok (.ireturn, 1) := by decide +kernel
theorem dL_setLoad_15 : decode cL_setLoad 15 = .ok (.iconst 0, 1) := by decide +kernel
theorem dL_setLoad_16 : decode cL_setLoad 16 = .ok (.ireturn, 1) := by decide +kernel
theorem dL_runSeconds_0 : decode cL_runSeconds 0 = .ok (.aload_n 2, 1) := by decide +kernel
theorem dL_runSeconds_1 : decode cL_runSeconds 1 = .ok (.iconst 0, 1) := by decide +kernel
theorem dL_runSeconds_2 : decode cL_runSeconds 2 = .ok (.aload_n 0, 1) := by decide +kernel
theorem dL_runSeconds_3 : decode cL_runSeconds 3 = .ok (.iload_n 1, 1) := by decide +kernel
theorem dL_runSeconds_4 : decode cL_runSeconds 4 = .ok (.invokevirtual 123, 3) := by decide +kernel
theorem dL_runSeconds_7 : decode cL_runSeconds 7 = .ok (.i2l, 1) := by decide +kernel
theorem dL_runSeconds_8 : decode cL_runSeconds 8 = .ok (.lastore, 1) := by decide +kernel
theorem dL_runSeconds_9 : decode cL_runSeconds 9 = .ok (.goto 6, 3) := by decide +kernel
theorem dL_runSeconds_12 : decode cL_runSeconds 12 = .ok (.astore_n 3, 1) := by decide +kernel
theorem dL_runSeconds_13 : decode cL_runSeconds 13 = .ok (.iconst 1, 1) := by decide +kernel
theorem dL_runSeconds_14 : decode cL_runSeconds 14 = .ok (.ireturn, 1) := by decide +kernel
theorem dL_runSeconds_15 : decode cL_runSeconds 15 = .ok (.iconst 0, 1) := by decide +kernel
theorem dL_runSeconds_16 : decode cL_runSeconds 16 = .ok (.ireturn, 1) := by decide +kernel
theorem dL_resetTrip_0 : decode cL_resetTrip 0 = .ok (.aload_n 1, 1) := by decide +kernel
theorem dL_resetTrip_1 : decode cL_resetTrip 1 = .ok (.iconst 0, 1) := by decide +kernel
theorem dL_resetTrip_2 : decode cL_resetTrip 2 = .ok (.aload_n 0, 1) := by decide +kernel
theorem dL_resetTrip_3 : decode cL_resetTrip 3 = .ok (.invokevirtual 126, 3) := by decide +kernel
theorem dL_resetTrip_6 : decode cL_resetTrip 6 = .ok (.ifCond .eq 7, 3) := by decide +kernel
theorem dL_resetTrip_13 : decode cL_resetTrip 13 = .ok (.lconst 0, 1) := by decide +kernel
theorem dL_resetTrip_14 : decode cL_resetTrip 14 = .ok (.lastore, 1) := by decide +kernel
theorem dL_resetTrip_15 : decode cL_resetTrip 15 = .ok (.goto 6, 3) := by decide +kernel
theorem dL_resetTrip_21 : decode cL_resetTrip 21 = .ok (.iconst 0, 1) := by decide +kernel
theorem dL_resetTrip_22 : decode cL_resetTrip 22 = .ok (.ireturn, 1) := by decide +kernel
theorem dL_claim_0 : decode cL_claim 0 = .ok (.aload 5, 2) := by decide +kernel
theorem dL_claim_2 : decode cL_claim 2 = .ok (.iconst 0, 1) := by decide +kernel
theorem dL_claim_3 : decode cL_claim 3 = .ok (.aload_n 0, 1) := by decide +kernel
theorem dL_claim_4 : decode cL_claim 4 = .ok (.iload_n 1, 1) := by decide +kernel
theorem dL_claim_5 : decode cL_claim 5 = .ok (.iload_n 2, 1) := by decide +kernel
theorem dL_claim_6 : decode cL_claim 6 = .ok (.iload_n 3, 1) := by decide +kernel
theorem dL_claim_7 : decode cL_claim 7 = .ok (.iload 4, 2) := by decide +kernel
theorem dL_claim_9 : decode cL_claim 9 = .ok (.invokevirtual 129, 3) := by decide +kernel
theorem dL_claim_12 : decode cL_claim 12 = .ok (.i2l, 1) := by decide +kernel
theorem dL_claim_13 : decode cL_claim 13 = .ok (.lastore, 1) := by decide +kernel
theorem dL_claim_14 : decode cL_claim 14 = .ok (.goto 7, 3) := by decide +kernel
theorem dL_claim_17 : decode cL_claim 17 = .ok (.astore 6, 2) := by decide +kernel
theorem dL_claim_19 : decode cL_claim 19 = .ok (.iconst 1, 1) := by decide +kernel
theorem dL_claim_20 : decode cL_claim 20 = .ok (.ireturn, 1) := by decide +kernel
theorem dL_claim_21 : decode cL_claim 21 = .ok (.iconst 0, 1) := by decide +kernel
theorem dL_claim_22 : decode cL_claim 22 = .ok (.ireturn, 1) := by decide +kernel
theorem dL_bestWork_0 : decode cL_bestWork 0 = .ok (.aload 4, 2) := by decide +kernel
theorem dL_bestWork_2 : decode cL_bestWork 2 = .ok (.iconst 0, 1) := by decide +kernel
theorem dL_bestWork_3 : decode cL_bestWork 3 = .ok (.aload_n 0, 1) := by decide +kernel
theorem dL_bestWork_4 : decode cL_bestWork 4 = .ok (.iload_n 1, 1) := by decide +kernel
theorem dL_bestWork_5 : decode cL_bestWork 5 = .ok (.iload_n 2, 1) := by decide +kernel
theorem dL_bestWork_6 : decode cL_bestWork 6 = .ok (.iload_n 3, 1) := by decide +kernel
theorem dL_bestWork_7 : decode cL_bestWork 7 = .ok (.invokevirtual 133, 3) := by decide +kernel
theorem dL_bestWork_10 : decode cL_bestWork 10 = .ok (.i2l, 1) := by decide +kernel
theorem dL_bestWork_11 : decode cL_bestWork 11 = .ok (.lastore, 1) := by decide +kernel
theorem dL_bestWork_12 : decode cL_bestWork 12 = .ok (.goto 11, 3) := by decide +kernel
theorem dL_bestWork_15 : decode cL_bestWork 15 = .ok (.astore 5, 2) := by decide +kernel
theorem dL_bestWork_17 : decode cL_bestWork 17 = .ok (.iconst 1, 1) := by decide +kernel
theorem dL_bestWork_18 : decode cL_bestWork 18 = .ok (.ireturn, 1) := by decide +kernel
theorem dL_bestWork_19 : decode cL_bestWork 19 = .ok (.astore 5, 2) := by decide +kernel
theorem dL_bestWork_21 : decode cL_bestWork 21 = .ok (.iconst 2, 1) := by decide +kernel
theorem dL_bestWork_22 : decode cL_bestWork 22 = .ok (.ireturn, 1) := by decide +kernel
theorem dL_bestWork_23 : decode cL_bestWork 23 = .ok (.iconst 0, 1) := by decide +kernel
theorem dL_bestWork_24 : decode cL_bestWork 24 = .ok (.ireturn, 1) := by decide +kernel
theorem dL_makingShare_0 : decode cL_makingShare 0 = .ok (.aload_n 1, 1) := by decide +kernel
theorem dL_makingShare_1 : decode cL_makingShare 1 = .ok (.iconst 0, 1) := by decide +kernel
theorem dL_makingShare_2 : decode cL_makingShare 2 = .ok (.aload_n 0, 1) := by decide +kernel
theorem dL_makingShare_3 : decode cL_makingShare 3 = .ok (.invokevirtual 136, 3) := by decide +kernel
theorem dL_makingShare_11 : decode cL_makingShare 11 = .ok (.astore_n 2, 1) := by decide +kernel
theorem dL_makingShare_12 : decode cL_makingShare 12 = .ok (.iconst 1, 1) := by decide +kernel
theorem dL_makingShare_13 : decode cL_makingShare 13 = .ok (.ireturn, 1) := by decide +kernel
theorem dL_meanTemperature_0 : decode cL_meanTemperature 0 = .ok (.aload_n 1, 1) := by decide +kernel
theorem dL_meanTemperature_1 : decode cL_meanTemperature 1 = .ok (.iconst 0, 1) := by decide +kernel
theorem dL_meanTemperature_2 : decode cL_meanTemperature 2 = .ok (.aload_n 0, 1) := by decide +kernel
theorem dL_meanTemperature_3 : decode cL_meanTemperature 3 = .ok (.invokevirtual 142, 3) := by decide +kernel
theorem dL_meanTemperature_10 : decode cL_meanTemperature 10 = .ok (.astore_n 2, 1) := by decide +kernel
theorem dL_meanTemperature_11 : decode cL_meanTemperature 11 = .ok (.iconst 1, 1) := by decide +kernel
theorem dL_meanTemperature_12 : decode cL_meanTemperature 12 = .ok (.ireturn, 1) := by decide +kernel
theorem dL_law_0 : decode cL_law 0 = .ok (.new 8, 3) := by decide +kernel
theorem dL_law_3 : decode cL_law 3 = .ok (.dup, 1) := by decide +kernel
theorem dL_law_4 : decode cL_law 4 = .ok (.invokespecial 146, 3) := by decide +kernel
theorem dL_law_7 : decode cL_law 7 = .ok (.astore_n 1, 1) := by decide +kernel
theorem dL_law_8 : decode cL_law 8 = .ok (.new 147, 3) := by decide +kernel
theorem dL_law_11 : decode cL_law 11 = .ok (.dup, 1) := by decide +kernel
theorem dL_law_12 : decode cL_law 12 = .ok (.invokespecial 149, 3) := by decide +kernel
theorem dL_law_15 : decode cL_law 15 = .ok (.astore_n 2, 1) := by decide +kernel
theorem dL_law_16 : decode cL_law 16 = .ok (.iconst 1, 1) := by decide +kernel
theorem dL_law_17 : decode cL_law 17 = .ok (.newarray .long, 2) := by decide +kernel
theorem dL_law_19 : decode cL_law 19 = .ok (.astore_n 3, 1) := by decide +kernel
theorem dL_law_20 : decode cL_law 20 = .ok (.iconst 1, 1) := by decide +kernel
theorem dL_law_21 : decode cL_law 21 = .ok (.newarray .double, 2) := by decide +kernel
theorem dL_law_23 : decode cL_law 23 = .ok (.astore 4, 2) := by decide +kernel
theorem dL_law_25 : decode cL_law 25 = .ok (.iconst 0, 1) := by decide +kernel
theorem dL_law_26 : decode cL_law 26 = .ok (.istore 5, 2) := by decide +kernel
theorem dL_law_28 : decode cL_law 28 = .ok (.iload 5, 2) := by decide +kernel
theorem dL_law_30 : decode cL_law 30 = .ok (.aload_n 0, 1) := by decide +kernel
theorem dL_law_31 : decode cL_law 31 = .ok (.arraylength, 1) := by decide +kernel
theorem dL_law_32 : decode cL_law 32 = .ok (.iconst 5, 1) := by decide +kernel
theorem dL_law_33 : decode cL_law 33 = .ok (.isub, 1) := by decide +kernel
theorem dL_law_34 : decode cL_law 34 = .ok (.if_icmp .gt 2919, 3) := by decide +kernel
theorem dL_law_37 : decode cL_law 37 = .ok (.aload_n 0, 1) := by decide +kernel
theorem dL_law_38 : decode cL_law 38 = .ok (.iload 5, 2) := by decide +kernel
theorem dL_law_40 : decode cL_law 40 = .ok (.iaload, 1) := by decide +kernel
theorem dL_law_41 : decode cL_law 41 = .ok (.bipush 63, 2) := by decide +kernel
theorem dL_law_43 : decode cL_law 43 = .ok (.iand, 1) := by decide +kernel
theorem dL_law_44 : decode cL_law 44 = .ok (.tableswitch 2903 0 50 #[220, 288, 344, 400, 480, 572, 664, 677, 690, 782, 838, 894, 950, 1018, 1086, 1154, 1236, 1249, 1317, 1373, 1429, 1485, 1541, 1597, 1641, 1721, 1803, 1816, 1872, 1923, 1936, 1949, 1962, 2018, 2098, 2111, 2167, 2223, 2279, 2371, 2427, 2483, 2496, 2509, 2522, 2573, 2665, 2745, 2759, 2825, 2890], 220) := by decide +kernel
theorem dL_law_264 : decode cL_law 264 = .ok (.aload_n 1, 1) := by decide +kernel
theorem dL_law_265 : decode cL_law 265 = .ok (.aload_n 0, 1) := by decide +kernel
theorem dL_law_266 : decode cL_law 266 = .ok (.iload 5, 2) := by decide +kernel
theorem dL_law_268 : decode cL_law 268 = .ok (.iconst 1, 1) := by decide +kernel
theorem dL_law_269 : decode cL_law 269 = .ok (.iadd, 1) := by decide +kernel
theorem dL_law_270 : decode cL_law 270 = .ok (.iaload, 1) := by decide +kernel
theorem dL_law_271 : decode cL_law 271 = .ok (.aload_n 0, 1) := by decide +kernel
theorem dL_law_272 : decode cL_law 272 = .ok (.iload 5, 2) := by decide +kernel
theorem dL_law_274 : decode cL_law 274 = .ok (.iconst 2, 1) := by decide +kernel
theorem dL_law_275 : decode cL_law 275 = .ok (.iadd, 1) := by decide +kernel
theorem dL_law_276 : decode cL_law 276 = .ok (.iaload, 1) := by decide +kernel
theorem dL_law_277 : decode cL_law 277 = .ok (.aload_n 3, 1) := by decide +kernel
theorem dL_law_278 : decode cL_law 278 = .ok (.invokestatic 150, 3) := by decide +kernel
theorem dL_law_281 : decode cL_law 281 = .ok (.istore 6, 2) := by decide +kernel
theorem dL_law_283 : decode cL_law 283 = .ok (.aload_n 2, 1) := by decide +kernel
theorem dL_law_284 : decode cL_law 284 = .ok (.aload_n 0, 1) := by decide +kernel
theorem dL_law_285 : decode cL_law 285 = .ok (.iload 5, 2) := by decide +kernel
theorem dL_law_287 : decode cL_law 287 = .ok (.iconst 1, 1) := by decide +kernel
theorem dL_law_288 : decode cL_law 288 = .ok (.iadd, 1) := by decide +kernel
theorem dL_law_289 : decode cL_law 289 = .ok (.iaload, 1) := by decide +kernel
theorem dL_law_290 : decode cL_law 290 = .ok (.aload_n 0, 1) := by decide +kernel
theorem dL_law_291 : decode cL_law 291 = .ok (.iload 5, 2) := by decide +kernel
theorem dL_law_293 : decode cL_law 293 = .ok (.iconst 2, 1) := by decide +kernel
theorem dL_law_294 : decode cL_law 294 = .ok (.iadd, 1) := by decide +kernel
theorem dL_law_295 : decode cL_law 295 = .ok (.iaload, 1) := by decide +kernel
theorem dL_law_296 : decode cL_law 296 = .ok (.invokevirtual 155, 3) := by decide +kernel
theorem dL_law_299 : decode cL_law 299 = .ok (.istore 7, 2) := by decide +kernel
theorem dL_law_301 : decode cL_law 301 = .ok (.aload_n 2, 1) := by decide +kernel
theorem dL_law_302 : decode cL_law 302 = .ok (.invokevirtual 156, 3) := by decide +kernel
theorem dL_law_305 : decode cL_law 305 = .ok (.iload 6, 2) := by decide +kernel
theorem dL_law_307 : decode cL_law 307 = .ok (.if_icmp .eq 5, 3) := by decide +kernel
theorem dL_law_312 : decode cL_law 312 = .ok (.iload 6, 2) := by decide +kernel
theorem dL_law_314 : decode cL_law 314 = .ok (.ifCond .ne 15, 3) := by decide +kernel
theorem dL_law_317 : decode cL_law 317 = .ok (.aload_n 3, 1) := by decide +kernel
theorem dL_law_318 : decode cL_law 318 = .ok (.iconst 0, 1) := by decide +kernel
theorem dL_law_319 : decode cL_law 319 = .ok (.laload, 1) := by decide +kernel
theorem dL_law_320 : decode cL_law 320 = .ok (.iload 7, 2) := by decide +kernel
theorem dL_law_322 : decode cL_law 322 = .ok (.i2l, 1) := by decide +kernel
theorem dL_law_323 : decode cL_law 323 = .ok (.lcmp, 1) := by decide +kernel
theorem dL_law_324 : decode cL_law 324 = .ok (.ifCond .eq 5, 3) := by decide +kernel
theorem dL_law_329 : decode cL_law 329 = .ok (.goto 2618, 3) := by decide +kernel
theorem dL_law_332 : decode cL_law 332 = .ok (.aload_n 1, 1) := by decide +kernel
theorem dL_law_333 : decode cL_law 333 = .ok (.aload_n 0, 1) := by decide +kernel
theorem dL_law_334 : decode cL_law 334 = .ok (.iload 5, 2) := by decide +kernel
theorem dL_law_336 : decode cL_law 336 = .ok (.iconst 1, 1) := by decide +kernel
theorem dL_law_337 : decode cL_law 337 = .ok (.iadd, 1) := by decide +kernel
theorem dL_law_338 : decode cL_law 338 = .ok (.iaload, 1) := by decide +kernel
theorem dL_law_339 : decode cL_law 339 = .ok (.aload_n 3, 1) := by decide +kernel
theorem dL_law_340 : decode cL_law 340 = .ok (.invokestatic 159, 3) := by decide +kernel
theorem dL_law_343 : decode cL_law 343 = .ok (.istore 6, 2) := by decide +kernel
theorem dL_law_345 : decode cL_law 345 = .ok (.aload_n 2, 1) := by decide +kernel
theorem dL_law_346 : decode cL_law 346 = .ok (.aload_n 0, 1) := by decide +kernel
theorem dL_law_347 : decode cL_law 347 = .ok (.iload 5, 2) := by decide +kernel
theorem dL_law_349 : decode cL_law 349 = .ok (.iconst 1, 1) := by decide +kernel
theorem dL_law_350 : decode cL_law 350 = .ok (.iadd, 1) := by decide +kernel
theorem dL_law_351 : decode cL_law 351 = .ok (.iaload, 1) := by decide +kernel
theorem dL_law_352 : decode cL_law 352 = .ok (.invokevirtual 162, 3) := by decide +kernel
theorem dL_law_355 : decode cL_law 355 = .ok (.istore 7, 2) := by decide +kernel
theorem dL_law_357 : decode cL_law 357 = .ok (.aload_n 2, 1) := by decide +kernel
theorem dL_law_358 : decode cL_law 358 = .ok (.invokevirtual 156, 3) := by decide +kernel
theorem dL_law_361 : decode cL_law 361 = .ok (.iload 6, 2) := by decide +kernel
theorem dL_law_363 : decode cL_law 363 = .ok (.if_icmp .eq 5, 3) := by decide +kernel
theorem dL_law_368 : decode cL_law 368 = .ok (.iload 6, 2) := by decide +kernel
theorem dL_law_370 : decode cL_law 370 = .ok (.ifCond .ne 15, 3) := by decide +kernel
theorem dL_law_385 : decode cL_law 385 = .ok (.goto 2562, 3) := by decide +kernel
theorem dL_law_388 : decode cL_law 388 = .ok (.aload_n 1, 1) := by decide +kernel
theorem dL_law_389 : decode cL_law 389 = .ok (.aload_n 0, 1) := by decide +kernel
theorem dL_law_390 : decode cL_law 390 = .ok (.iload 5, 2) := by decide +kernel
theorem dL_law_392 : decode cL_law 392 = .ok (.iconst 1, 1) := by decide +kernel
theorem dL_law_393 : decode cL_law 393 = .ok (.iadd, 1) := by decide +kernel
theorem dL_law_394 : decode cL_law 394 = .ok (.iaload, 1) := by decide +kernel
theorem dL_law_395 : decode cL_law 395 = .ok (.aload_n 3, 1) := by decide +kernel
theorem dL_law_396 : decode cL_law 396 = .ok (.invokestatic 163, 3) := by decide +kernel
theorem dL_law_399 : decode cL_law 399 = .ok (.istore 6, 2) := by decide +kernel
theorem dL_law_401 : decode cL_law 401 = .ok (.aload_n 2, 1) := by decide +kernel
theorem dL_law_402 : decode cL_law 402 = .ok (.aload_n 0, 1) := by decide +kernel
theorem dL_law_403 : decode cL_law 403 = .ok (.iload 5, 2) := by decide +kernel
theorem dL_law_405 : decode cL_law 405 = .ok (.iconst 1, 1) := by decide +kernel
theorem dL_law_406 : decode cL_law 406 = .ok (.iadd, 1) := by decide +kernel
theorem dL_law_407 : decode cL_law 407 = .ok (.iaload, 1) := by decide +kernel
theorem dL_law_408 : decode cL_law 408 = .ok (.invokevirtual 165, 3) := by decide +kernel
theorem dL_law_411 : decode cL_law 411 = .ok (.istore 7, 2) := by decide +kernel
theorem dL_law_413 : decode cL_law 413 = .ok (.aload_n 2, 1) := by decide +kernel
theorem dL_law_414 : decode cL_law 414 = .ok (.invokevirtual 156, 3) := by decide +kernel
theorem dL_law_417 : decode cL_law 417 = .ok (.iload 6, 2) := by decide +kernel
theorem dL_law_419 : decode cL_law 419 = .ok (.if_icmp .eq 5, 3) := by decide +kernel
theorem dL_law_424 : decode cL_law 424 = .ok (.iload 6, 2) := by decide +kernel
theorem dL_law_426 : decode cL_law 426 = .ok (.ifCond .ne 15, 3) := by decide +kernel
theorem dL_law_441 : decode cL_law 441 = .ok (.goto 2506, 3) := by decide +kernel
theorem dL_law_444 : decode cL_law 444 = .ok (.aload_n 1, 1) := by decide +kernel
theorem dL_law_445 : decode cL_law 445 = .ok (.aload_n 0, 1) := by decide +kernel
theorem dL_law_446 : decode cL_law 446 = .ok (.iload 5, 2) := by decide +kernel
theorem dL_law_448 : decode cL_law 448 = .ok (.iconst 1, 1) := by decide +kernel
theorem dL_law_449 : decode cL_law 449 = .ok (.iadd, 1) := by decide +kernel
theorem dL_law_450 : decode cL_law 450 = .ok (.iaload, 1) := by decide +kernel
theorem dL_law_451 : decode cL_law 451 = .ok (.aload_n 0, 1) := by decide +kernel
theorem dL_law_452 : decode cL_law 452 = .ok (.iload 5, 2) := by decide +kernel
theorem dL_law_454 : decode cL_law 454 = .ok (.iconst 2, 1) := by decide +kernel
theorem dL_law_455 : decode cL_law 455 = .ok (.iadd, 1) := by decide +kernel
theorem dL_law_456 : decode cL_law 456 = .ok (.iaload, 1) := by decide +kernel
theorem dL_law_457 : decode cL_law 457 = .ok (.aload_n 0, 1) := by decide +kernel
theorem dL_law_458 : decode cL_law 458 = .ok (.iload 5, 2) := by decide +kernel
theorem dL_law_460 : decode cL_law 460 = .ok (.iconst 3, 1) := by decide +kernel
theorem dL_law_461 : decode cL_law 461 = .ok (.iadd, 1) := by decide +kernel
theorem dL_law_462 : decode cL_law 462 = .ok (.iaload, 1) := by decide +kernel
theorem dL_law_463 : decode cL_law 463 = .ok (.aload_n 3, 1) := by decide +kernel
theorem dL_law_464 : decode cL_law 464 = .ok (.invokestatic 166, 3) := by decide +kernel
theorem dL_law_467 : decode cL_law 467 = .ok (.istore 6, 2) := by decide +kernel
theorem dL_law_469 : decode cL_law 469 = .ok (.aload_n 2, 1) := by decide +kernel
theorem dL_law_470 : decode cL_law 470 = .ok (.aload_n 0, 1) := by decide +kernel
theorem dL_law_471 : decode cL_law 471 = .ok (.iload 5, 2) := by decide +kernel
theorem dL_law_473 : decode cL_law 473 = .ok (.iconst 1, 1) := by decide +kernel
theorem dL_law_474 : decode cL_law 474 = .ok (.iadd, 1) := by decide +kernel
theorem dL_law_475 : decode cL_law 475 = .ok (.iaload, 1) := by decide +kernel
theorem dL_law_476 : decode cL_law 476 = .ok (.aload_n 0, 1) := by decide +kernel
theorem dL_law_477 : decode cL_law 477 = .ok (.iload 5, 2) := by decide +kernel
theorem dL_law_479 : decode cL_law 479 = .ok (.iconst 2, 1) := by decide +kernel
theorem dL_law_480 : decode cL_law 480 = .ok (.iadd, 1) := by decide +kernel
theorem dL_law_481 : decode cL_law 481 = .ok (.iaload, 1) := by decide +kernel
theorem dL_law_482 : decode cL_law 482 = .ok (.aload_n 0, 1) := by decide +kernel
theorem dL_law_483 : decode cL_law 483 = .ok (.iload 5, 2) := by decide +kernel
theorem dL_law_485 : decode cL_law 485 = .ok (.iconst 3, 1) := by decide +kernel
theorem dL_law_486 : decode cL_law 486 = .ok (.iadd, 1) := by decide +kernel
theorem dL_law_487 : decode cL_law 487 = .ok (.iaload, 1) := by decide +kernel
theorem dL_law_488 : decode cL_law 488 = .ok (.invokevirtual 169, 3) := by decide +kernel
theorem dL_law_491 : decode cL_law 491 = .ok (.istore 7, 2) := by decide +kernel
theorem dL_law_493 : decode cL_law 493 = .ok (.aload_n 2, 1) := by decide +kernel
theorem dL_law_494 : decode cL_law 494 = .ok (.invokevirtual 156, 3) := by decide +kernel
theorem dL_law_497 : decode cL_law 497 = .ok (.iload 6, 2) := by decide +kernel
theorem dL_law_499 : decode cL_law 499 = .ok (.if_icmp .eq 5, 3) := by decide +kernel
theorem dL_law_504 : decode cL_law 504 = .ok (.iload 6, 2) := by decide +kernel
theorem dL_law_506 : decode cL_law 506 = .ok (.ifCond .ne 15, 3) := by decide +kernel
theorem dL_law_521 : decode cL_law 521 = .ok (.goto 2426, 3) := by decide +kernel
theorem dL_law_524 : decode cL_law 524 = .ok (.aload_n 1, 1) := by decide +kernel
theorem dL_law_525 : decode cL_law 525 = .ok (.aload_n 0, 1) := by decide +kernel
theorem dL_law_526 : decode cL_law 526 = .ok (.iload 5, 2) := by decide +kernel
theorem dL_law_528 : decode cL_law 528 = .ok (.iconst 1, 1) := by decide +kernel
theorem dL_law_529 : decode cL_law 529 = .ok (.iadd, 1) := by decide +kernel
theorem dL_law_530 : decode cL_law 530 = .ok (.iaload, 1) := by decide +kernel
theorem dL_law_531 : decode cL_law 531 = .ok (.aload_n 0, 1) := by decide +kernel
theorem dL_law_532 : decode cL_law 532 = .ok (.iload 5, 2) := by decide +kernel
theorem dL_law_534 : decode cL_law 534 = .ok (.iconst 2, 1) := by decide +kernel
theorem dL_law_535 : decode cL_law 535 = .ok (.iadd, 1) := by decide +kernel
theorem dL_law_536 : decode cL_law 536 = .ok (.iaload, 1) := by decide +kernel
theorem dL_law_537 : decode cL_law 537 = .ok (.aload_n 0, 1) := by decide +kernel
theorem dL_law_538 : decode cL_law 538 = .ok (.iload 5, 2) := by decide +kernel
theorem dL_law_540 : decode cL_law 540 = .ok (.iconst 3, 1) := by decide +kernel
theorem dL_law_541 : decode cL_law 541 = .ok (.iadd, 1) := by decide +kernel
theorem dL_law_542 : decode cL_law 542 = .ok (.iaload, 1) := by decide +kernel
theorem dL_law_543 : decode cL_law 543 = .ok (.aload_n 0, 1) := by decide +kernel
theorem dL_law_544 : decode cL_law 544 = .ok (.iload 5, 2) := by decide +kernel
theorem dL_law_546 : decode cL_law 546 = .ok (.iconst 4, 1) := by decide +kernel
theorem dL_law_547 : decode cL_law 547 = .ok (.iadd, 1) := by decide +kernel
theorem dL_law_548 : decode cL_law 548 = .ok (.iaload, 1) := by decide +kernel
theorem dL_law_549 : decode cL_law 549 = .ok (.aload_n 3, 1) := by decide +kernel
theorem dL_law_550 : decode cL_law 550 = .ok (.invokestatic 170, 3) := by decide +kernel
theorem dL_law_553 : decode cL_law 553 = .ok (.istore 6, 2) := by decide +kernel
theorem dL_law_555 : decode cL_law 555 = .ok (.aload_n 2, 1) := by decide +kernel
theorem dL_law_556 : decode cL_law 556 = .ok (.aload_n 0, 1) := by decide +kernel
theorem dL_law_557 : decode cL_law 557 = .ok (.iload 5, 2) := by decide +kernel
theorem dL_law_559 : decode cL_law 559 = .ok (.iconst 1, 1) := by decide +kernel
theorem dL_law_560 : decode cL_law 560 = .ok (.iadd, 1) := by decide +kernel
theorem dL_law_561 : decode cL_law 561 = .ok (.iaload, 1) := by decide +kernel
theorem dL_law_562 : decode cL_law 562 = .ok (.aload_n 0, 1) := by decide +kernel
theorem dL_law_563 : decode cL_law 563 = .ok (.iload 5, 2) := by decide +kernel
theorem dL_law_565 : decode cL_law 565 = .ok (.iconst 2, 1) := by decide +kernel
theorem dL_law_566 : decode cL_law 566 = .ok (.iadd, 1) := by decide +kernel
theorem dL_law_567 : decode cL_law 567 = .ok (.iaload, 1) := by decide +kernel
theorem dL_law_568 : decode cL_law 568 = .ok (.aload_n 0, 1) := by decide +kernel
theorem dL_law_569 : decode cL_law 569 = .ok (.iload 5, 2) := by decide +kernel
theorem dL_law_571 : decode cL_law 571 = .ok (.iconst 3, 1) := by decide +kernel
theorem dL_law_572 : decode cL_law 572 = .ok (.iadd, 1) := by decide +kernel
theorem dL_law_573 : decode cL_law 573 = .ok (.iaload, 1) := by decide +kernel
theorem dL_law_574 : decode cL_law 574 = .ok (.aload_n 0, 1) := by decide +kernel
theorem dL_law_575 : decode cL_law 575 = .ok (.iload 5, 2) := by decide +kernel
theorem dL_law_577 : decode cL_law 577 = .ok (.iconst 4, 1) := by decide +kernel
theorem dL_law_578 : decode cL_law 578 = .ok (.iadd, 1) := by decide +kernel
theorem dL_law_579 : decode cL_law 579 = .ok (.iaload, 1) := by decide +kernel
theorem dL_law_580 : decode cL_law 580 = .ok (.invokevirtual 173, 3) := by decide +kernel
theorem dL_law_583 : decode cL_law 583 = .ok (.istore 7, 2) := by decide +kernel
theorem dL_law_585 : decode cL_law 585 = .ok (.aload_n 2, 1) := by decide +kernel
theorem dL_law_586 : decode cL_law 586 = .ok (.invokevirtual 156, 3) := by decide +kernel
theorem dL_law_589 : decode cL_law 589 = .ok (.iload 6, 2) := by decide +kernel
theorem dL_law_591 : decode cL_law 591 = .ok (.if_icmp .eq 5, 3) := by decide +kernel
theorem dL_law_596 : decode cL_law 596 = .ok (.iload 6, 2) := by decide +kernel
theorem dL_law_598 : decode cL_law 598 = .ok (.ifCond .ne 15, 3) := by decide +kernel
theorem dL_law_613 : decode cL_law 613 = .ok (.goto 2334, 3) := by decide +kernel
theorem dL_law_616 : decode cL_law 616 = .ok (.aload_n 1, 1) := by decide +kernel
theorem dL_law_617 : decode cL_law 617 = .ok (.aload_n 0, 1) := by decide +kernel
theorem dL_law_618 : decode cL_law 618 = .ok (.iload 5, 2) := by decide +kernel
theorem dL_law_620 : decode cL_law 620 = .ok (.iconst 1, 1) := by decide +kernel
theorem dL_law_621 : decode cL_law 621 = .ok (.iadd, 1) := by decide +kernel
theorem dL_law_622 : decode cL_law 622 = .ok (.iaload, 1) := by decide +kernel
theorem dL_law_623 : decode cL_law 623 = .ok (.aload_n 0, 1) := by decide +kernel
theorem dL_law_624 : decode cL_law 624 = .ok (.iload 5, 2) := by decide +kernel
theorem dL_law_626 : decode cL_law 626 = .ok (.iconst 2, 1) := by decide +kernel
theorem dL_law_627 : decode cL_law 627 = .ok (.iadd, 1) := by decide +kernel
theorem dL_law_628 : decode cL_law 628 = .ok (.iaload, 1) := by decide +kernel
theorem dL_law_629 : decode cL_law 629 = .ok (.aload_n 0, 1) := by decide +kernel
theorem dL_law_630 : decode cL_law 630 = .ok (.iload 5, 2) := by decide +kernel
theorem dL_law_632 : decode cL_law 632 = .ok (.iconst 3, 1) := by decide +kernel
theorem dL_law_633 : decode cL_law 633 = .ok (.iadd, 1) := by decide +kernel
theorem dL_law_634 : decode cL_law 634 = .ok (.iaload, 1) := by decide +kernel
theorem dL_law_635 : decode cL_law 635 = .ok (.aload_n 0, 1) := by decide +kernel
theorem dL_law_636 : decode cL_law 636 = .ok (.iload 5, 2) := by decide +kernel
theorem dL_law_638 : decode cL_law 638 = .ok (.iconst 4, 1) := by decide +kernel
theorem dL_law_639 : decode cL_law 639 = .ok (.iadd, 1) := by decide +kernel
theorem dL_law_640 : decode cL_law 640 = .ok (.iaload, 1) := by decide +kernel
theorem dL_law_641 : decode cL_law 641 = .ok (.aload_n 3, 1) := by decide +kernel
theorem dL_law_642 : decode cL_law 642 = .ok (.invokestatic 174, 3) := by decide +kernel
theorem dL_law_645 : decode cL_law 645 = .ok (.istore 6, 2) := by decide +kernel
theorem dL_law_647 : decode cL_law 647 = .ok (.aload_n 2, 1) := by decide +kernel
theorem dL_law_648 : decode cL_law 648 = .ok (.aload_n 0, 1) := by decide +kernel
theorem dL_law_649 : decode cL_law 649 = .ok (.iload 5, 2) := by decide +kernel
theorem dL_law_651 : decode cL_law 651 = .ok (.iconst 1, 1) := by decide +kernel
theorem dL_law_652 : decode cL_law 652 = .ok (.iadd, 1) := by decide +kernel
theorem dL_law_653 : decode cL_law 653 = .ok (.iaload, 1) := by decide +kernel
theorem dL_law_654 : decode cL_law 654 = .ok (.aload_n 0, 1) := by decide +kernel
theorem dL_law_655 : decode cL_law 655 = .ok (.iload 5, 2) := by decide +kernel
theorem dL_law_657 : decode cL_law 657 = .ok (.iconst 2, 1) := by decide +kernel
theorem dL_law_658 : decode cL_law 658 = .ok (.iadd, 1) := by decide +kernel
theorem dL_law_659 : decode cL_law 659 = .ok (.iaload, 1) := by decide +kernel
theorem dL_law_660 : decode cL_law 660 = .ok (.aload_n 0, 1) := by decide +kernel
theorem dL_law_661 : decode cL_law 661 = .ok (.iload 5, 2) := by decide +kernel
theorem dL_law_663 : decode cL_law 663 = .ok (.iconst 3, 1) := by decide +kernel
theorem dL_law_664 : decode cL_law 664 = .ok (.iadd, 1) := by decide +kernel
theorem dL_law_665 : decode cL_law 665 = .ok (.iaload, 1) := by decide +kernel
theorem dL_law_666 : decode cL_law 666 = .ok (.aload_n 0, 1) := by decide +kernel
theorem dL_law_667 : decode cL_law 667 = .ok (.iload 5, 2) := by decide +kernel
theorem dL_law_669 : decode cL_law 669 = .ok (.iconst 4, 1) := by decide +kernel
theorem dL_law_670 : decode cL_law 670 = .ok (.iadd, 1) := by decide +kernel
theorem dL_law_671 : decode cL_law 671 = .ok (.iaload, 1) := by decide +kernel
theorem dL_law_672 : decode cL_law 672 = .ok (.invokevirtual 176, 3) := by decide +kernel
theorem dL_law_675 : decode cL_law 675 = .ok (.istore 7, 2) := by decide +kernel
theorem dL_law_677 : decode cL_law 677 = .ok (.aload_n 2, 1) := by decide +kernel
theorem dL_law_678 : decode cL_law 678 = .ok (.invokevirtual 156, 3) := by decide +kernel
theorem dL_law_681 : decode cL_law 681 = .ok (.iload 6, 2) := by decide +kernel
theorem dL_law_683 : decode cL_law 683 = .ok (.if_icmp .eq 5, 3) := by decide +kernel
theorem dL_law_688 : decode cL_law 688 = .ok (.iload 6, 2) := by decide +kernel
theorem dL_law_690 : decode cL_law 690 = .ok (.ifCond .ne 15, 3) := by decide +kernel
theorem dL_law_705 : decode cL_law 705 = .ok (.goto 2242, 3) := by decide +kernel
theorem dL_law_708 : decode cL_law 708 = .ok (.aload_n 1, 1) := by decide +kernel
theorem dL_law_709 : decode cL_law 709 = .ok (.invokevirtual 177, 3) := by decide +kernel
theorem dL_law_712 : decode cL_law 712 = .ok (.aload_n 2, 1) := by decide +kernel
theorem dL_law_713 : decode cL_law 713 = .ok (.invokevirtual 180, 3) := by decide +kernel
theorem dL_law_716 : decode cL_law 716 = .ok (.if_icmp .eq 2231, 3) := by decide +kernel
theorem dL_law_721 : decode cL_law 721 = .ok (.aload_n 1, 1) := by decide +kernel
theorem dL_law_722 : decode cL_law 722 = .ok (.invokevirtual 181, 3) := by decide +kernel
theorem dL_law_725 : decode cL_law 725 = .ok (.aload_n 2, 1) := by decide +kernel
theorem dL_law_726 : decode cL_law 726 = .ok (.invokevirtual 184, 3) := by decide +kernel
theorem dL_law_729 : decode cL_law 729 = .ok (.if_icmp .eq 2218, 3) := by decide +kernel
theorem dL_law_734 : decode cL_law 734 = .ok (.aload_n 1, 1) := by decide +kernel
theorem dL_law_735 : decode cL_law 735 = .ok (.aload_n 0, 1) := by decide +kernel
theorem dL_law_736 : decode cL_law 736 = .ok (.iload 5, 2) := by decide +kernel
theorem dL_law_738 : decode cL_law 738 = .ok (.iconst 1, 1) := by decide +kernel
theorem dL_law_739 : decode cL_law 739 = .ok (.iadd, 1) := by decide +kernel
theorem dL_law_740 : decode cL_law 740 = .ok (.iaload, 1) := by decide +kernel
theorem dL_law_741 : decode cL_law 741 = .ok (.aload_n 0, 1) := by decide +kernel
theorem dL_law_742 : decode cL_law 742 = .ok (.iload 5, 2) := by decide +kernel
theorem dL_law_744 : decode cL_law 744 = .ok (.iconst 2, 1) := by decide +kernel
theorem dL_law_745 : decode cL_law 745 = .ok (.iadd, 1) := by decide +kernel
theorem dL_law_746 : decode cL_law 746 = .ok (.iaload, 1) := by decide +kernel
theorem dL_law_747 : decode cL_law 747 = .ok (.aload_n 0, 1) := by decide +kernel
theorem dL_law_748 : decode cL_law 748 = .ok (.iload 5, 2) := by decide +kernel
theorem dL_law_750 : decode cL_law 750 = .ok (.iconst 3, 1) := by decide +kernel
theorem dL_law_751 : decode cL_law 751 = .ok (.iadd, 1) := by decide +kernel
theorem dL_law_752 : decode cL_law 752 = .ok (.iaload, 1) := by decide +kernel
theorem dL_law_753 : decode cL_law 753 = .ok (.aload_n 0, 1) := by decide +kernel
theorem dL_law_754 : decode cL_law 754 = .ok (.iload 5, 2) := by decide +kernel
theorem dL_law_756 : decode cL_law 756 = .ok (.iconst 4, 1) := by decide +kernel
theorem dL_law_757 : decode cL_law 757 = .ok (.iadd, 1) := by decide +kernel
theorem dL_law_758 : decode cL_law 758 = .ok (.iaload, 1) := by decide +kernel
theorem dL_law_759 : decode cL_law 759 = .ok (.aload_n 3, 1) := by decide +kernel
theorem dL_law_760 : decode cL_law 760 = .ok (.invokestatic 185, 3) := by decide +kernel
theorem dL_law_763 : decode cL_law 763 = .ok (.istore 6, 2) := by decide +kernel
theorem dL_law_765 : decode cL_law 765 = .ok (.aload_n 2, 1) := by decide +kernel
theorem dL_law_766 : decode cL_law 766 = .ok (.aload_n 0, 1) := by decide +kernel
theorem dL_law_767 : decode cL_law 767 = .ok (.iload 5, 2) := by decide +kernel
theorem dL_law_769 : decode cL_law 769 = .ok (.iconst 1, 1) := by decide +kernel
theorem dL_law_770 : decode cL_law 770 = .ok (.iadd, 1) := by decide +kernel
theorem dL_law_771 : decode cL_law 771 = .ok (.iaload, 1) := by decide +kernel
theorem dL_law_772 : decode cL_law 772 = .ok (.aload_n 0, 1) := by decide +kernel
theorem dL_law_773 : decode cL_law 773 = .ok (.iload 5, 2) := by decide +kernel
theorem dL_law_775 : decode cL_law 775 = .ok (.iconst 2, 1) := by decide +kernel
theorem dL_law_776 : decode cL_law 776 = .ok (.iadd, 1) := by decide +kernel
theorem dL_law_777 : decode cL_law 777 = .ok (.iaload, 1) := by decide +kernel
theorem dL_law_778 : decode cL_law 778 = .ok (.aload_n 0, 1) := by decide +kernel
theorem dL_law_779 : decode cL_law 779 = .ok (.iload 5, 2) := by decide +kernel
theorem dL_law_781 : decode cL_law 781 = .ok (.iconst 3, 1) := by decide +kernel
theorem dL_law_782 : decode cL_law 782 = .ok (.iadd, 1) := by decide +kernel
theorem dL_law_783 : decode cL_law 783 = .ok (.iaload, 1) := by decide +kernel
theorem dL_law_784 : decode cL_law 784 = .ok (.aload_n 0, 1) := by decide +kernel
theorem dL_law_785 : decode cL_law 785 = .ok (.iload 5, 2) := by decide +kernel
theorem dL_law_787 : decode cL_law 787 = .ok (.iconst 4, 1) := by decide +kernel
theorem dL_law_788 : decode cL_law 788 = .ok (.iadd, 1) := by decide +kernel
theorem dL_law_789 : decode cL_law 789 = .ok (.iaload, 1) := by decide +kernel
theorem dL_law_790 : decode cL_law 790 = .ok (.invokevirtual 187, 3) := by decide +kernel
theorem dL_law_793 : decode cL_law 793 = .ok (.istore 7, 2) := by decide +kernel
theorem dL_law_795 : decode cL_law 795 = .ok (.aload_n 2, 1) := by decide +kernel
theorem dL_law_796 : decode cL_law 796 = .ok (.invokevirtual 156, 3) := by decide +kernel
theorem dL_law_799 : decode cL_law 799 = .ok (.iload 6, 2) := by decide +kernel
theorem dL_law_801 : decode cL_law 801 = .ok (.if_icmp .eq 5, 3) := by decide +kernel
theorem dL_law_806 : decode cL_law 806 = .ok (.iload 6, 2) := by decide +kernel
theorem dL_law_808 : decode cL_law 808 = .ok (.ifCond .ne 15, 3) := by decide +kernel
theorem dL_law_811 : decode cL_law 811 = .ok (.aload_n 3, 1) := by decide +kernel
theorem dL_law_812 : decode cL_law 812 = .ok (.iconst 0, 1) := by decide +kernel
theorem dL_law_813 : decode cL_law 813 = .ok (.laload, 1) := by decide +kernel
theorem dL_law_814 : decode cL_law 814 = .ok (.iload 7, 2) := by decide +kernel
theorem dL_law_816 : decode cL_law 816 = .ok (.i2l, 1) := by decide +kernel
theorem dL_law_817 : decode cL_law 817 = .ok (.lcmp, 1) := by decide +kernel
theorem dL_law_818 : decode cL_law 818 = .ok (.ifCond .eq 5, 3) := by decide +kernel
theorem dL_law_823 : decode cL_law 823 = .ok (.goto 2124, 3) := by decide +kernel
theorem dL_law_826 : decode cL_law 826 = .ok (.aload_n 1, 1) := by decide +kernel
theorem dL_law_827 : decode cL_law 827 = .ok (.aload_n 0, 1) := by decide +kernel
theorem dL_law_828 : decode cL_law 828 = .ok (.iload 5, 2) := by decide +kernel
theorem dL_law_830 : decode cL_law 830 = .ok (.iconst 1, 1) := by decide +kernel
theorem dL_law_831 : decode cL_law 831 = .ok (.iadd, 1) := by decide +kernel
theorem dL_law_832 : decode cL_law 832 = .ok (.iaload, 1) := by decide +kernel
theorem dL_law_833 : decode cL_law 833 = .ok (.aload_n 3, 1) := by decide +kernel
theorem dL_law_834 : decode cL_law 834 = .ok (.invokestatic 188, 3) := by decide +kernel
theorem dL_law_837 : decode cL_law 837 = .ok (.istore 6, 2) := by decide +kernel
theorem dL_law_839 : decode cL_law 839 = .ok (.aload_n 2, 1) := by decide +kernel
theorem dL_law_840 : decode cL_law 840 = .ok (.aload_n 0, 1) := by decide +kernel
theorem dL_law_841 : decode cL_law 841 = .ok (.iload 5, 2) := by decide +kernel
theorem dL_law_843 : decode cL_law 843 = .ok (.iconst 1, 1) := by decide +kernel
theorem dL_law_844 : decode cL_law 844 = .ok (.iadd, 1) := by decide +kernel
theorem dL_law_845 : decode cL_law 845 = .ok (.iaload, 1) := by decide +kernel
theorem dL_law_846 : decode cL_law 846 = .ok (.invokevirtual 190, 3) := by decide +kernel
theorem dL_law_849 : decode cL_law 849 = .ok (.istore 7, 2) := by decide +kernel
theorem dL_law_851 : decode cL_law 851 = .ok (.aload_n 2, 1) := by decide +kernel
theorem dL_law_852 : decode cL_law 852 = .ok (.invokevirtual 156, 3) := by decide +kernel
theorem dL_law_855 : decode cL_law 855 = .ok (.iload 6, 2) := by decide +kernel
theorem dL_law_857 : decode cL_law 857 = .ok (.if_icmp .eq 5, 3) := by decide +kernel
theorem dL_law_862 : decode cL_law 862 = .ok (.iload 6, 2) := by decide +kernel
theorem dL_law_864 : decode cL_law 864 = .ok (.ifCond .ne 15, 3) := by decide +kernel
theorem dL_law_879 : decode cL_law 879 = .ok (.goto 2068, 3) := by decide +kernel
theorem dL_law_882 : decode cL_law 882 = .ok (.aload_n 1, 1) := by decide +kernel
theorem dL_law_883 : decode cL_law 883 = .ok (.aload_n 0, 1) := by decide +kernel
theorem dL_law_884 : decode cL_law 884 = .ok (.iload 5, 2) := by decide +kernel
theorem dL_law_886 : decode cL_law 886 = .ok (.iconst 1, 1) := by decide +kernel
theorem dL_law_887 : decode cL_law 887 = .ok (.iadd, 1) := by decide +kernel
theorem dL_law_888 : decode cL_law 888 = .ok (.iaload, 1) := by decide +kernel
theorem dL_law_889 : decode cL_law 889 = .ok (.aload_n 3, 1) := by decide +kernel
theorem dL_law_890 : decode cL_law 890 = .ok (.invokestatic 191, 3) := by decide +kernel
theorem dL_law_893 : decode cL_law 893 = .ok (.istore 6, 2) := by decide +kernel
theorem dL_law_895 : decode cL_law 895 = .ok (.aload_n 2, 1) := by decide +kernel
theorem dL_law_896 : decode cL_law 896 = .ok (.aload_n 0, 1) := by decide +kernel
theorem dL_law_897 : decode cL_law 897 = .ok (.iload 5, 2) := by decide +kernel
theorem dL_law_899 : decode cL_law 899 = .ok (.iconst 1, 1) := by decide +kernel
theorem dL_law_900 : decode cL_law 900 = .ok (.iadd, 1) := by decide +kernel
theorem dL_law_901 : decode cL_law 901 = .ok (.iaload, 1) := by decide +kernel
theorem dL_law_902 : decode cL_law 902 = .ok (.invokevirtual 193, 3) := by decide +kernel
theorem dL_law_905 : decode cL_law 905 = .ok (.istore 7, 2) := by decide +kernel
theorem dL_law_907 : decode cL_law 907 = .ok (.aload_n 2, 1) := by decide +kernel
theorem dL_law_908 : decode cL_law 908 = .ok (.invokevirtual 156, 3) := by decide +kernel
theorem dL_law_911 : decode cL_law 911 = .ok (.iload 6, 2) := by decide +kernel
theorem dL_law_913 : decode cL_law 913 = .ok (.if_icmp .eq 5, 3) := by decide +kernel
theorem dL_law_918 : decode cL_law 918 = .ok (.iload 6, 2) := by decide +kernel
theorem dL_law_920 : decode cL_law 920 = .ok (.ifCond .ne 15, 3) := by decide +kernel
theorem dL_law_935 : decode cL_law 935 = .ok (.goto 2012, 3) := by decide +kernel
theorem dL_law_938 : decode cL_law 938 = .ok (.aload_n 1, 1) := by decide +kernel
theorem dL_law_939 : decode cL_law 939 = .ok (.aload_n 0, 1) := by decide +kernel
theorem dL_law_940 : decode cL_law 940 = .ok (.iload 5, 2) := by decide +kernel
theorem dL_law_942 : decode cL_law 942 = .ok (.iconst 1, 1) := by decide +kernel
theorem dL_law_943 : decode cL_law 943 = .ok (.iadd, 1) := by decide +kernel
theorem dL_law_944 : decode cL_law 944 = .ok (.iaload, 1) := by decide +kernel
theorem dL_law_945 : decode cL_law 945 = .ok (.aload_n 3, 1) := by decide +kernel
theorem dL_law_946 : decode cL_law 946 = .ok (.invokestatic 194, 3) := by decide +kernel
theorem dL_law_949 : decode cL_law 949 = .ok (.istore 6, 2) := by decide +kernel
theorem dL_law_951 : decode cL_law 951 = .ok (.aload_n 2, 1) := by decide +kernel
theorem dL_law_952 : decode cL_law 952 = .ok (.aload_n 0, 1) := by decide +kernel
theorem dL_law_953 : decode cL_law 953 = .ok (.iload 5, 2) := by decide +kernel
theorem dL_law_955 : decode cL_law 955 = .ok (.iconst 1, 1) := by decide +kernel
theorem dL_law_956 : decode cL_law 956 = .ok (.iadd, 1) := by decide +kernel
theorem dL_law_957 : decode cL_law 957 = .ok (.iaload, 1) := by decide +kernel
theorem dL_law_958 : decode cL_law 958 = .ok (.invokevirtual 196, 3) := by decide +kernel
theorem dL_law_961 : decode cL_law 961 = .ok (.istore 7, 2) := by decide +kernel
theorem dL_law_963 : decode cL_law 963 = .ok (.aload_n 2, 1) := by decide +kernel
theorem dL_law_964 : decode cL_law 964 = .ok (.invokevirtual 156, 3) := by decide +kernel
theorem dL_law_967 : decode cL_law 967 = .ok (.iload 6, 2) := by decide +kernel
theorem dL_law_969 : decode cL_law 969 = .ok (.if_icmp .eq 5, 3) := by decide +kernel
theorem dL_law_974 : decode cL_law 974 = .ok (.iload 6, 2) := by decide +kernel
theorem dL_law_976 : decode cL_law 976 = .ok (.ifCond .ne 15, 3) := by decide +kernel
theorem dL_law_991 : decode cL_law 991 = .ok (.goto 1956, 3) := by decide +kernel
theorem dL_law_994 : decode cL_law 994 = .ok (.aload_n 1, 1) := by decide +kernel
theorem dL_law_995 : decode cL_law 995 = .ok (.aload_n 0, 1) := by decide +kernel
theorem dL_law_996 : decode cL_law 996 = .ok (.iload 5, 2) := by decide +kernel
theorem dL_law_998 : decode cL_law 998 = .ok (.iconst 1, 1) := by decide +kernel
theorem dL_law_999 : decode cL_law 999 = .ok (.iadd, 1) := by decide +kernel
theorem dL_law_1000 : decode cL_law 1000 = .ok (.iaload, 1) := by decide +kernel
theorem dL_law_1001 : decode cL_law 1001 = .ok (.aload_n 0, 1) := by decide +kernel
theorem dL_law_1002 : decode cL_law 1002 = .ok (.iload 5, 2) := by decide +kernel
theorem dL_law_1004 : decode cL_law 1004 = .ok (.iconst 2, 1) := by decide +kernel
theorem dL_law_1005 : decode cL_law 1005 = .ok (.iadd, 1) := by decide +kernel
theorem dL_law_1006 : decode cL_law 1006 = .ok (.iaload, 1) := by decide +kernel
theorem dL_law_1007 : decode cL_law 1007 = .ok (.aload_n 3, 1) := by decide +kernel
theorem dL_law_1008 : decode cL_law 1008 = .ok (.invokestatic 197, 3) := by decide +kernel
theorem dL_law_1011 : decode cL_law 1011 = .ok (.istore 6, 2) := by decide +kernel
theorem dL_law_1013 : decode cL_law 1013 = .ok (.aload_n 2, 1) := by decide +kernel
theorem dL_law_1014 : decode cL_law 1014 = .ok (.aload_n 0, 1) := by decide +kernel
theorem dL_law_1015 : decode cL_law 1015 = .ok (.iload 5, 2) := by decide +kernel
theorem dL_law_1017 : decode cL_law 1017 = .ok (.iconst 1, 1) := by decide +kernel
theorem dL_law_1018 : decode cL_law 1018 = .ok (.iadd, 1) := by decide +kernel
theorem dL_law_1019 : decode cL_law 1019 = .ok (.iaload, 1) := by decide +kernel
theorem dL_law_1020 : decode cL_law 1020 = .ok (.aload_n 0, 1) := by decide +kernel
theorem dL_law_1021 : decode cL_law 1021 = .ok (.iload 5, 2) := by decide +kernel
theorem dL_law_1023 : decode cL_law 1023 = .ok (.iconst 2, 1) := by decide +kernel
theorem dL_law_1024 : decode cL_law 1024 = .ok (.iadd, 1) := by decide +kernel
theorem dL_law_1025 : decode cL_law 1025 = .ok (.iaload, 1) := by decide +kernel
theorem dL_law_1026 : decode cL_law 1026 = .ok (.invokevirtual 199, 3) := by decide +kernel
theorem dL_law_1029 : decode cL_law 1029 = .ok (.istore 7, 2) := by decide +kernel
theorem dL_law_1031 : decode cL_law 1031 = .ok (.aload_n 2, 1) := by decide +kernel
theorem dL_law_1032 : decode cL_law 1032 = .ok (.invokevirtual 156, 3) := by decide +kernel
theorem dL_law_1035 : decode cL_law 1035 = .ok (.iload 6, 2) := by decide +kernel
theorem dL_law_1037 : decode cL_law 1037 = .ok (.if_icmp .eq 5, 3) := by decide +kernel
theorem dL_law_1042 : decode cL_law 1042 = .ok (.iload 6, 2) := by decide +kernel
theorem dL_law_1044 : decode cL_law 1044 = .ok (.ifCond .ne 15, 3) := by decide +kernel
theorem dL_law_1059 : decode cL_law 1059 = .ok (.goto 1888, 3) := by decide +kernel
theorem dL_law_1062 : decode cL_law 1062 = .ok (.aload_n 1, 1) := by decide +kernel
theorem dL_law_1063 : decode cL_law 1063 = .ok (.aload_n 0, 1) := by decide +kernel
theorem dL_law_1064 : decode cL_law 1064 = .ok (.iload 5, 2) := by decide +kernel
theorem dL_law_1066 : decode cL_law 1066 = .ok (.iconst 1, 1) := by decide +kernel
theorem dL_law_1067 : decode cL_law 1067 = .ok (.iadd, 1) := by decide +kernel
theorem dL_law_1068 : decode cL_law 1068 = .ok (.iaload, 1) := by decide +kernel
theorem dL_law_1069 : decode cL_law 1069 = .ok (.aload_n 0, 1) := by decide +kernel
theorem dL_law_1070 : decode cL_law 1070 = .ok (.iload 5, 2) := by decide +kernel
theorem dL_law_1072 : decode cL_law 1072 = .ok (.iconst 2, 1) := by decide +kernel
theorem dL_law_1073 : decode cL_law 1073 = .ok (.iadd, 1) := by decide +kernel
theorem dL_law_1074 : decode cL_law 1074 = .ok (.iaload, 1) := by decide +kernel
theorem dL_law_1075 : decode cL_law 1075 = .ok (.aload_n 3, 1) := by decide +kernel
theorem dL_law_1076 : decode cL_law 1076 = .ok (.invokestatic 200, 3) := by decide +kernel
theorem dL_law_1079 : decode cL_law 1079 = .ok (.istore 6, 2) := by decide +kernel
theorem dL_law_1081 : decode cL_law 1081 = .ok (.aload_n 2, 1) := by decide +kernel
theorem dL_law_1082 : decode cL_law 1082 = .ok (.aload_n 0, 1) := by decide +kernel
theorem dL_law_1083 : decode cL_law 1083 = .ok (.iload 5, 2) := by decide +kernel
theorem dL_law_1085 : decode cL_law 1085 = .ok (.iconst 1, 1) := by decide +kernel
theorem dL_law_1086 : decode cL_law 1086 = .ok (.iadd, 1) := by decide +kernel
theorem dL_law_1087 : decode cL_law 1087 = .ok (.iaload, 1) := by decide +kernel
theorem dL_law_1088 : decode cL_law 1088 = .ok (.aload_n 0, 1) := by decide +kernel
theorem dL_law_1089 : decode cL_law 1089 = .ok (.iload 5, 2) := by decide +kernel
theorem dL_law_1091 : decode cL_law 1091 = .ok (.iconst 2, 1) := by decide +kernel
theorem dL_law_1092 : decode cL_law 1092 = .ok (.iadd, 1) := by decide +kernel
theorem dL_law_1093 : decode cL_law 1093 = .ok (.iaload, 1) := by decide +kernel
theorem dL_law_1094 : decode cL_law 1094 = .ok (.invokevirtual 202, 3) := by decide +kernel
theorem dL_law_1097 : decode cL_law 1097 = .ok (.istore 7, 2) := by decide +kernel
theorem dL_law_1099 : decode cL_law 1099 = .ok (.aload_n 2, 1) := by decide +kernel
theorem dL_law_1100 : decode cL_law 1100 = .ok (.invokevirtual 156, 3) := by decide +kernel
theorem dL_law_1103 : decode cL_law 1103 = .ok (.iload 6, 2) := by decide +kernel
theorem dL_law_1105 : decode cL_law 1105 = .ok (.if_icmp .eq 5, 3) := by decide +kernel
theorem dL_law_1110 : decode cL_law 1110 = .ok (.iload 6, 2) := by decide +kernel
theorem dL_law_1112 : decode cL_law 1112 = .ok (.ifCond .ne 15, 3) := by decide +kernel
theorem dL_law_1127 : decode cL_law 1127 = .ok (.goto 1820, 3) := by decide +kernel
theorem dL_law_1130 : decode cL_law 1130 = .ok (.aload_n 1, 1) := by decide +kernel
theorem dL_law_1131 : decode cL_law 1131 = .ok (.aload_n 0, 1) := by decide +kernel
theorem dL_law_1132 : decode cL_law 1132 = .ok (.iload 5, 2) := by decide +kernel
theorem dL_law_1134 : decode cL_law 1134 = .ok (.iconst 1, 1) := by decide +kernel
theorem dL_law_1135 : decode cL_law 1135 = .ok (.iadd, 1) := by decide +kernel
theorem dL_law_1136 : decode cL_law 1136 = .ok (.iaload, 1) := by decide +kernel
theorem dL_law_1137 : decode cL_law 1137 = .ok (.aload_n 0, 1) := by decide +kernel
theorem dL_law_1138 : decode cL_law 1138 = .ok (.iload 5, 2) := by decide +kernel
theorem dL_law_1140 : decode cL_law 1140 = .ok (.iconst 2, 1) := by decide +kernel
theorem dL_law_1141 : decode cL_law 1141 = .ok (.iadd, 1) := by decide +kernel
theorem dL_law_1142 : decode cL_law 1142 = .ok (.iaload, 1) := by decide +kernel
theorem dL_law_1143 : decode cL_law 1143 = .ok (.aload_n 3, 1) := by decide +kernel
theorem dL_law_1144 : decode cL_law 1144 = .ok (.invokestatic 203, 3) := by decide +kernel
theorem dL_law_1147 : decode cL_law 1147 = .ok (.istore 6, 2) := by decide +kernel
theorem dL_law_1149 : decode cL_law 1149 = .ok (.aload_n 2, 1) := by decide +kernel
theorem dL_law_1150 : decode cL_law 1150 = .ok (.aload_n 0, 1) := by decide +kernel
theorem dL_law_1151 : decode cL_law 1151 = .ok (.iload 5, 2) := by decide +kernel
theorem dL_law_1153 : decode cL_law 1153 = .ok (.iconst 1, 1) := by decide +kernel
theorem dL_law_1154 : decode cL_law 1154 = .ok (.iadd, 1) := by decide +kernel
theorem dL_law_1155 : decode cL_law 1155 = .ok (.iaload, 1) := by decide +kernel
theorem dL_law_1156 : decode cL_law 1156 = .ok (.aload_n 0, 1) := by decide +kernel
theorem dL_law_1157 : decode cL_law 1157 = .ok (.iload 5, 2) := by decide +kernel
theorem dL_law_1159 : decode cL_law 1159 = .ok (.iconst 2, 1) := by decide +kernel
theorem dL_law_1160 : decode cL_law 1160 = .ok (.iadd, 1) := by decide +kernel
theorem dL_law_1161 : decode cL_law 1161 = .ok (.iaload, 1) := by decide +kernel
theorem dL_law_1162 : decode cL_law 1162 = .ok (.invokevirtual 205, 3) := by decide +kernel
theorem dL_law_1165 : decode cL_law 1165 = .ok (.istore 7, 2) := by decide +kernel
theorem dL_law_1167 : decode cL_law 1167 = .ok (.aload_n 2, 1) := by decide +kernel
theorem dL_law_1168 : decode cL_law 1168 = .ok (.invokevirtual 156, 3) := by decide +kernel
theorem dL_law_1171 : decode cL_law 1171 = .ok (.iload 6, 2) := by decide +kernel
theorem dL_law_1173 : decode cL_law 1173 = .ok (.if_icmp .eq 5, 3) := by decide +kernel
theorem dL_law_1178 : decode cL_law 1178 = .ok (.iload 6, 2) := by decide +kernel
theorem dL_law_1180 : decode cL_law 1180 = .ok (.ifCond .ne 15, 3) := by decide +kernel
theorem dL_law_1195 : decode cL_law 1195 = .ok (.goto 1752, 3) := by decide +kernel
theorem dL_law_1198 : decode cL_law 1198 = .ok (.aload_n 1, 1) := by decide +kernel
theorem dL_law_1199 : decode cL_law 1199 = .ok (.aload_n 0, 1) := by decide +kernel
theorem dL_law_1200 : decode cL_law 1200 = .ok (.iload 5, 2) := by decide +kernel
theorem dL_law_1202 : decode cL_law 1202 = .ok (.iconst 1, 1) := by decide +kernel
theorem dL_law_1203 : decode cL_law 1203 = .ok (.iadd, 1) := by decide +kernel
theorem dL_law_1204 : decode cL_law 1204 = .ok (.iaload, 1) := by decide +kernel
theorem dL_law_1205 : decode cL_law 1205 = .ok (.i2c, 1) := by decide +kernel
theorem dL_law_1206 : decode cL_law 1206 = .ok (.aload_n 0, 1) := by decide +kernel
theorem dL_law_1207 : decode cL_law 1207 = .ok (.iload 5, 2) := by decide +kernel
theorem dL_law_1209 : decode cL_law 1209 = .ok (.iconst 2, 1) := by decide +kernel
theorem dL_law_1210 : decode cL_law 1210 = .ok (.iadd, 1) := by decide +kernel
theorem dL_law_1211 : decode cL_law 1211 = .ok (.iaload, 1) := by decide +kernel
theorem dL_law_1212 : decode cL_law 1212 = .ok (.aload_n 0, 1) := by decide +kernel
theorem dL_law_1213 : decode cL_law 1213 = .ok (.iload 5, 2) := by decide +kernel
theorem dL_law_1215 : decode cL_law 1215 = .ok (.iconst 3, 1) := by decide +kernel
theorem dL_law_1216 : decode cL_law 1216 = .ok (.iadd, 1) := by decide +kernel
theorem dL_law_1217 : decode cL_law 1217 = .ok (.iaload, 1) := by decide +kernel
theorem dL_law_1218 : decode cL_law 1218 = .ok (.aload_n 3, 1) := by decide +kernel
theorem dL_law_1219 : decode cL_law 1219 = .ok (.invokestatic 206, 3) := by decide +kernel
theorem dL_law_1222 : decode cL_law 1222 = .ok (.istore 6, 2) := by decide +kernel
theorem dL_law_1224 : decode cL_law 1224 = .ok (.aload_n 2, 1) := by decide +kernel
theorem dL_law_1225 : decode cL_law 1225 = .ok (.aload_n 0, 1) := by decide +kernel
theorem dL_law_1226 : decode cL_law 1226 = .ok (.iload 5, 2) := by decide +kernel
theorem dL_law_1228 : decode cL_law 1228 = .ok (.iconst 1, 1) := by decide +kernel
theorem dL_law_1229 : decode cL_law 1229 = .ok (.iadd, 1) := by decide +kernel
theorem dL_law_1230 : decode cL_law 1230 = .ok (.iaload, 1) := by decide +kernel
theorem dL_law_1231 : decode cL_law 1231 = .ok (.i2c, 1) := by decide +kernel
theorem dL_law_1232 : decode cL_law 1232 = .ok (.aload_n 0, 1) := by decide +kernel
theorem dL_law_1233 : decode cL_law 1233 = .ok (.iload 5, 2) := by decide +kernel
theorem dL_law_1235 : decode cL_law 1235 = .ok (.iconst 2, 1) := by decide +kernel
theorem dL_law_1236 : decode cL_law 1236 = .ok (.iadd, 1) := by decide +kernel
theorem dL_law_1237 : decode cL_law 1237 = .ok (.iaload, 1) := by decide +kernel
theorem dL_law_1238 : decode cL_law 1238 = .ok (.aload_n 0, 1) := by decide +kernel
theorem dL_law_1239 : decode cL_law 1239 = .ok (.iload 5, 2) := by decide +kernel
theorem dL_law_1241 : decode cL_law 1241 = .ok (.iconst 3, 1) := by decide +kernel
theorem dL_law_1242 : decode cL_law 1242 = .ok (.iadd, 1) := by decide +kernel
theorem dL_law_1243 : decode cL_law 1243 = .ok (.iaload, 1) := by decide +kernel
theorem dL_law_1244 : decode cL_law 1244 = .ok (.invokevirtual 209, 3) := by decide +kernel
theorem dL_law_1247 : decode cL_law 1247 = .ok (.istore 7, 2) := by decide +kernel
theorem dL_law_1249 : decode cL_law 1249 = .ok (.aload_n 2, 1) := by decide +kernel
theorem dL_law_1250 : decode cL_law 1250 = .ok (.invokevirtual 156, 3) := by decide +kernel
theorem dL_law_1253 : decode cL_law 1253 = .ok (.iload 6, 2) := by decide +kernel
theorem dL_law_1255 : decode cL_law 1255 = .ok (.if_icmp .eq 5, 3) := by decide +kernel
theorem dL_law_1260 : decode cL_law 1260 = .ok (.iload 6, 2) := by decide +kernel
theorem dL_law_1262 : decode cL_law 1262 = .ok (.ifCond .ne 15, 3) := by decide +kernel
theorem dL_law_1265 : decode cL_law 1265 = .ok (.aload_n 3, 1) := by decide +kernel
theorem dL_law_1266 : decode cL_law 1266 = .ok (.iconst 0, 1) := by decide +kernel
theorem dL_law_1267 : decode cL_law 1267 = .ok (.laload, 1) := by decide +kernel
theorem dL_law_1268 : decode cL_law 1268 = .ok (.iload 7, 2) := by decide +kernel
theorem dL_law_1270 : decode cL_law 1270 = .ok (.i2l, 1) := by decide +kernel
theorem dL_law_1271 : decode cL_law 1271 = .ok (.lcmp, 1) := by decide +kernel
theorem dL_law_1272 : decode cL_law 1272 = .ok (.ifCond .eq 5, 3) := by decide +kernel
theorem dL_law_1277 : decode cL_law 1277 = .ok (.goto 1670, 3) := by decide +kernel
theorem dL_law_1280 : decode cL_law 1280 = .ok (.aload_n 1, 1) := by decide +kernel
theorem dL_law_1281 : decode cL_law 1281 = .ok (.invokevirtual 210, 3) := by decide +kernel
theorem dL_law_1284 : decode cL_law 1284 = .ok (.aload_n 2, 1) := by decide +kernel
theorem dL_law_1285 : decode cL_law 1285 = .ok (.invokevirtual 213, 3) := by decide +kernel
theorem dL_law_1288 : decode cL_law 1288 = .ok (.if_icmp .eq 1659, 3) := by decide +kernel
theorem dL_law_1293 : decode cL_law 1293 = .ok (.aload_n 1, 1) := by decide +kernel
theorem dL_law_1294 : decode cL_law 1294 = .ok (.aload_n 0, 1) := by decide +kernel
theorem dL_law_1295 : decode cL_law 1295 = .ok (.iload 5, 2) := by decide +kernel
theorem dL_law_1297 : decode cL_law 1297 = .ok (.iconst 1, 1) := by decide +kernel
theorem dL_law_1298 : decode cL_law 1298 = .ok (.iadd, 1) := by decide +kernel
theorem dL_law_1299 : decode cL_law 1299 = .ok (.iaload, 1) := by decide +kernel
theorem dL_law_1300 : decode cL_law 1300 = .ok (.aload_n 0, 1) := by decide +kernel
theorem dL_law_1301 : decode cL_law 1301 = .ok (.iload 5, 2) := by decide +kernel
theorem dL_law_1303 : decode cL_law 1303 = .ok (.iconst 2, 1) := by decide +kernel
theorem dL_law_1304 : decode cL_law 1304 = .ok (.iadd, 1) := by decide +kernel
theorem dL_law_1305 : decode cL_law 1305 = .ok (.iaload, 1) := by decide +kernel
theorem dL_law_1306 : decode cL_law 1306 = .ok (.aload_n 3, 1) := by decide +kernel
theorem dL_law_1307 : decode cL_law 1307 = .ok (.invokestatic 214, 3) := by decide +kernel
theorem dL_law_1310 : decode cL_law 1310 = .ok (.istore 6, 2) := by decide +kernel
theorem dL_law_1312 : decode cL_law 1312 = .ok (.aload_n 2, 1) := by decide +kernel
theorem dL_law_1313 : decode cL_law 1313 = .ok (.aload_n 0, 1) := by decide +kernel
theorem dL_law_1314 : decode cL_law 1314 = .ok (.iload 5, 2) := by decide +kernel
theorem dL_law_1316 : decode cL_law 1316 = .ok (.iconst 1, 1) := by decide +kernel
theorem dL_law_1317 : decode cL_law 1317 = .ok (.iadd, 1) := by decide +kernel
theorem dL_law_1318 : decode cL_law 1318 = .ok (.iaload, 1) := by decide +kernel
theorem dL_law_1319 : decode cL_law 1319 = .ok (.aload_n 0, 1) := by decide +kernel
theorem dL_law_1320 : decode cL_law 1320 = .ok (.iload 5, 2) := by decide +kernel
theorem dL_law_1322 : decode cL_law 1322 = .ok (.iconst 2, 1) := by decide +kernel
theorem dL_law_1323 : decode cL_law 1323 = .ok (.iadd, 1) := by decide +kernel
theorem dL_law_1324 : decode cL_law 1324 = .ok (.iaload, 1) := by decide +kernel
theorem dL_law_1325 : decode cL_law 1325 = .ok (.invokevirtual 216, 3) := by decide +kernel
theorem dL_law_1328 : decode cL_law 1328 = .ok (.istore 7, 2) := by decide +kernel
theorem dL_law_1330 : decode cL_law 1330 = .ok (.aload_n 2, 1) := by decide +kernel
theorem dL_law_1331 : decode cL_law 1331 = .ok (.invokevirtual 156, 3) := by decide +kernel
theorem dL_law_1334 : decode cL_law 1334 = .ok (.iload 6, 2) := by decide +kernel
theorem dL_law_1336 : decode cL_law 1336 = .ok (.if_icmp .eq 5, 3) := by decide +kernel
theorem dL_law_1341 : decode cL_law 1341 = .ok (.iload 6, 2) := by decide +kernel
theorem dL_law_1343 : decode cL_law 1343 = .ok (.ifCond .ne 15, 3) := by decide +kernel
theorem dL_law_1358 : decode cL_law 1358 = .ok (.goto 1589, 3) := by decide +kernel
theorem dL_law_1361 : decode cL_law 1361 = .ok (.aload_n 1, 1) := by decide +kernel
theorem dL_law_1362 : decode cL_law 1362 = .ok (.aload_n 0, 1) := by decide +kernel
theorem dL_law_1363 : decode cL_law 1363 = .ok (.iload 5, 2) := by decide +kernel
theorem dL_law_1365 : decode cL_law 1365 = .ok (.iconst 1, 1) := by decide +kernel
theorem dL_law_1366 : decode cL_law 1366 = .ok (.iadd, 1) := by decide +kernel
theorem dL_law_1367 : decode cL_law 1367 = .ok (.iaload, 1) := by decide +kernel
theorem dL_law_1368 : decode cL_law 1368 = .ok (.aload_n 3, 1) := by decide +kernel
theorem dL_law_1369 : decode cL_law 1369 = .ok (.invokestatic 217, 3) := by decide +kernel
theorem dL_law_1372 : decode cL_law 1372 = .ok (.istore 6, 2) := by decide +kernel
theorem dL_law_1374 : decode cL_law 1374 = .ok (.aload_n 2, 1) := by decide +kernel
theorem dL_law_1375 : decode cL_law 1375 = .ok (.aload_n 0, 1) := by decide +kernel
theorem dL_law_1376 : decode cL_law 1376 = .ok (.iload 5, 2) := by decide +kernel
theorem dL_law_1378 : decode cL_law 1378 = .ok (.iconst 1, 1) := by decide +kernel
theorem dL_law_1379 : decode cL_law 1379 = .ok (.iadd, 1) := by decide +kernel
theorem dL_law_1380 : decode cL_law 1380 = .ok (.iaload, 1) := by decide +kernel
theorem dL_law_1381 : decode cL_law 1381 = .ok (.invokevirtual 219, 3) := by decide +kernel
theorem dL_law_1384 : decode cL_law 1384 = .ok (.istore 7, 2) := by decide +kernel
theorem dL_law_1386 : decode cL_law 1386 = .ok (.aload_n 2, 1) := by decide +kernel
theorem dL_law_1387 : decode cL_law 1387 = .ok (.invokevirtual 156, 3) := by decide +kernel
theorem dL_law_1390 : decode cL_law 1390 = .ok (.iload 6, 2) := by decide +kernel
theorem dL_law_1392 : decode cL_law 1392 = .ok (.if_icmp .eq 5, 3) := by decide +kernel
theorem dL_law_1397 : decode cL_law 1397 = .ok (.iload 6, 2) := by decide +kernel
theorem dL_law_1399 : decode cL_law 1399 = .ok (.ifCond .ne 15, 3) := by decide +kernel
theorem dL_law_1414 : decode cL_law 1414 = .ok (.goto 1533, 3) := by decide +kernel
theorem dL_law_1417 : decode cL_law 1417 = .ok (.aload_n 1, 1) := by decide +kernel
theorem dL_law_1418 : decode cL_law 1418 = .ok (.aload_n 0, 1) := by decide +kernel
theorem dL_law_1419 : decode cL_law 1419 = .ok (.iload 5, 2) := by decide +kernel
theorem dL_law_1421 : decode cL_law 1421 = .ok (.iconst 1, 1) := by decide +kernel
theorem dL_law_1422 : decode cL_law 1422 = .ok (.iadd, 1) := by decide +kernel
theorem dL_law_1423 : decode cL_law 1423 = .ok (.iaload, 1) := by decide +kernel
theorem dL_law_1424 : decode cL_law 1424 = .ok (.aload_n 3, 1) := by decide +kernel
theorem dL_law_1425 : decode cL_law 1425 = .ok (.invokestatic 220, 3) := by decide +kernel
theorem dL_law_1428 : decode cL_law 1428 = .ok (.istore 6, 2) := by decide +kernel
theorem dL_law_1430 : decode cL_law 1430 = .ok (.aload_n 2, 1) := by decide +kernel
theorem dL_law_1431 : decode cL_law 1431 = .ok (.aload_n 0, 1) := by decide +kernel
theorem dL_law_1432 : decode cL_law 1432 = .ok (.iload 5, 2) := by decide +kernel
theorem dL_law_1434 : decode cL_law 1434 = .ok (.iconst 1, 1) := by decide +kernel
theorem dL_law_1435 : decode cL_law 1435 = .ok (.iadd, 1) := by decide +kernel
theorem dL_law_1436 : decode cL_law 1436 = .ok (.iaload, 1) := by decide +kernel
theorem dL_law_1437 : decode cL_law 1437 = .ok (.invokevirtual 222, 3) := by decide +kernel
theorem dL_law_1440 : decode cL_law 1440 = .ok (.istore 7, 2) := by decide +kernel
theorem dL_law_1442 : decode cL_law 1442 = .ok (.aload_n 2, 1) := by decide +kernel
theorem dL_law_1443 : decode cL_law 1443 = .ok (.invokevirtual 156, 3) := by decide +kernel
theorem dL_law_1446 : decode cL_law 1446 = .ok (.iload 6, 2) := by decide +kernel
theorem dL_law_1448 : decode cL_law 1448 = .ok (.if_icmp .eq 5, 3) := by decide +kernel
theorem dL_law_1453 : decode cL_law 1453 = .ok (.iload 6, 2) := by decide +kernel
theorem dL_law_1455 : decode cL_law 1455 = .ok (.ifCond .ne 15, 3) := by decide +kernel
theorem dL_law_1470 : decode cL_law 1470 = .ok (.goto 1477, 3) := by decide +kernel
theorem dL_law_1473 : decode cL_law 1473 = .ok (.aload_n 1, 1) := by decide +kernel
theorem dL_law_1474 : decode cL_law 1474 = .ok (.aload_n 0, 1) := by decide +kernel
theorem dL_law_1475 : decode cL_law 1475 = .ok (.iload 5, 2) := by decide +kernel
theorem dL_law_1477 : decode cL_law 1477 = .ok (.iconst 1, 1) := by decide +kernel
theorem dL_law_1478 : decode cL_law 1478 = .ok (.iadd, 1) := by decide +kernel
theorem dL_law_1479 : decode cL_law 1479 = .ok (.iaload, 1) := by decide +kernel
theorem dL_law_1480 : decode cL_law 1480 = .ok (.aload_n 3, 1) := by decide +kernel
theorem dL_law_1481 : decode cL_law 1481 = .ok (.invokestatic 223, 3) := by decide +kernel
theorem dL_law_1484 : decode cL_law 1484 = .ok (.istore 6, 2) := by decide +kernel
theorem dL_law_1486 : decode cL_law 1486 = .ok (.aload_n 2, 1) := by decide +kernel
theorem dL_law_1487 : decode cL_law 1487 = .ok (.aload_n 0, 1) := by decide +kernel
theorem dL_law_1488 : decode cL_law 1488 = .ok (.iload 5, 2) := by decide +kernel
theorem dL_law_1490 : decode cL_law 1490 = .ok (.iconst 1, 1) := by decide +kernel
theorem dL_law_1491 : decode cL_law 1491 = .ok (.iadd, 1) := by decide +kernel
theorem dL_law_1492 : decode cL_law 1492 = .ok (.iaload, 1) := by decide +kernel
theorem dL_law_1493 : decode cL_law 1493 = .ok (.invokevirtual 225, 3) := by decide +kernel
theorem dL_law_1496 : decode cL_law 1496 = .ok (.istore 7, 2) := by decide +kernel
theorem dL_law_1498 : decode cL_law 1498 = .ok (.aload_n 2, 1) := by decide +kernel
theorem dL_law_1499 : decode cL_law 1499 = .ok (.invokevirtual 156, 3) := by decide +kernel
theorem dL_law_1502 : decode cL_law 1502 = .ok (.iload 6, 2) := by decide +kernel
theorem dL_law_1504 : decode cL_law 1504 = .ok (.if_icmp .eq 5, 3) := by decide +kernel
theorem dL_law_1509 : decode cL_law 1509 = .ok (.iload 6, 2) := by decide +kernel
theorem dL_law_1511 : decode cL_law 1511 = .ok (.ifCond .ne 15, 3) := by decide +kernel
theorem dL_law_1526 : decode cL_law 1526 = .ok (.goto 1421, 3) := by decide +kernel
theorem dL_law_1529 : decode cL_law 1529 = .ok (.aload_n 1, 1) := by decide +kernel
theorem dL_law_1530 : decode cL_law 1530 = .ok (.aload_n 0, 1) := by decide +kernel
theorem dL_law_1531 : decode cL_law 1531 = .ok (.iload 5, 2) := by decide +kernel
theorem dL_law_1533 : decode cL_law 1533 = .ok (.iconst 1, 1) := by decide +kernel
theorem dL_law_1534 : decode cL_law 1534 = .ok (.iadd, 1) := by decide +kernel
theorem dL_law_1535 : decode cL_law 1535 = .ok (.iaload, 1) := by decide +kernel
theorem dL_law_1536 : decode cL_law 1536 = .ok (.aload_n 3, 1) := by decide +kernel
theorem dL_law_1537 : decode cL_law 1537 = .ok (.invokestatic 226, 3) := by decide +kernel
theorem dL_law_1540 : decode cL_law 1540 = .ok (.istore 6, 2) := by decide +kernel
theorem dL_law_1542 : decode cL_law 1542 = .ok (.aload_n 2, 1) := by decide +kernel
theorem dL_law_1543 : decode cL_law 1543 = .ok (.aload_n 0, 1) := by decide +kernel
theorem dL_law_1544 : decode cL_law 1544 = .ok (.iload 5, 2) := by decide +kernel
theorem dL_law_1546 : decode cL_law 1546 = .ok (.iconst 1, 1) := by decide +kernel
theorem dL_law_1547 : decode cL_law 1547 = .ok (.iadd, 1) := by decide +kernel
theorem dL_law_1548 : decode cL_law 1548 = .ok (.iaload, 1) := by decide +kernel
theorem dL_law_1549 : decode cL_law 1549 = .ok (.invokevirtual 228, 3) := by decide +kernel
theorem dL_law_1552 : decode cL_law 1552 = .ok (.istore 7, 2) := by decide +kernel
theorem dL_law_1554 : decode cL_law 1554 = .ok (.aload_n 2, 1) := by decide +kernel
theorem dL_law_1555 : decode cL_law 1555 = .ok (.invokevirtual 156, 3) := by decide +kernel
theorem dL_law_1558 : decode cL_law 1558 = .ok (.iload 6, 2) := by decide +kernel
theorem dL_law_1560 : decode cL_law 1560 = .ok (.if_icmp .eq 5, 3) := by decide +kernel
theorem dL_law_1565 : decode cL_law 1565 = .ok (.iload 6, 2) := by decide +kernel
theorem dL_law_1567 : decode cL_law 1567 = .ok (.ifCond .ne 15, 3) := by decide +kernel
theorem dL_law_1582 : decode cL_law 1582 = .ok (.goto 1365, 3) := by decide +kernel
theorem dL_law_1585 : decode cL_law 1585 = .ok (.aload_n 1, 1) := by decide +kernel
theorem dL_law_1586 : decode cL_law 1586 = .ok (.aload_n 0, 1) := by decide +kernel
theorem dL_law_1587 : decode cL_law 1587 = .ok (.iload 5, 2) := by decide +kernel
theorem dL_law_1589 : decode cL_law 1589 = .ok (.iconst 1, 1) := by decide +kernel
theorem dL_law_1590 : decode cL_law 1590 = .ok (.iadd, 1) := by decide +kernel
theorem dL_law_1591 : decode cL_law 1591 = .ok (.iaload, 1) := by decide +kernel
theorem dL_law_1592 : decode cL_law 1592 = .ok (.aload_n 3, 1) := by decide +kernel
theorem dL_law_1593 : decode cL_law 1593 = .ok (.invokestatic 229, 3) := by decide +kernel
theorem dL_law_1596 : decode cL_law 1596 = .ok (.istore 6, 2) := by decide +kernel
theorem dL_law_1598 : decode cL_law 1598 = .ok (.aload_n 2, 1) := by decide +kernel
theorem dL_law_1599 : decode cL_law 1599 = .ok (.aload_n 0, 1) := by decide +kernel
theorem dL_law_1600 : decode cL_law 1600 = .ok (.iload 5, 2) := by decide +kernel
theorem dL_law_1602 : decode cL_law 1602 = .ok (.iconst 1, 1) := by decide +kernel
theorem dL_law_1603 : decode cL_law 1603 = .ok (.iadd, 1) := by decide +kernel
theorem dL_law_1604 : decode cL_law 1604 = .ok (.iaload, 1) := by decide +kernel
theorem dL_law_1605 : decode cL_law 1605 = .ok (.invokevirtual 231, 3) := by decide +kernel
theorem dL_law_1608 : decode cL_law 1608 = .ok (.istore 7, 2) := by decide +kernel
theorem dL_law_1610 : decode cL_law 1610 = .ok (.aload_n 2, 1) := by decide +kernel
theorem dL_law_1611 : decode cL_law 1611 = .ok (.invokevirtual 156, 3) := by decide +kernel
theorem dL_law_1614 : decode cL_law 1614 = .ok (.iload 6, 2) := by decide +kernel
theorem dL_law_1616 : decode cL_law 1616 = .ok (.if_icmp .eq 5, 3) := by decide +kernel
theorem dL_law_1621 : decode cL_law 1621 = .ok (.iload 6, 2) := by decide +kernel
theorem dL_law_1623 : decode cL_law 1623 = .ok (.ifCond .ne 15, 3) := by decide +kernel
theorem dL_law_1638 : decode cL_law 1638 = .ok (.goto 1309, 3) := by decide +kernel
theorem dL_law_1641 : decode cL_law 1641 = .ok (.aload_n 1, 1) := by decide +kernel
theorem dL_law_1642 : decode cL_law 1642 = .ok (.aload_n 3, 1) := by decide +kernel
theorem dL_law_1643 : decode cL_law 1643 = .ok (.invokestatic 232, 3) := by decide +kernel
theorem dL_law_1646 : decode cL_law 1646 = .ok (.istore 6, 2) := by decide +kernel
theorem dL_law_1648 : decode cL_law 1648 = .ok (.aload_n 2, 1) := by decide +kernel
theorem dL_law_1649 : decode cL_law 1649 = .ok (.invokevirtual 235, 3) := by decide +kernel
theorem dL_law_1652 : decode cL_law 1652 = .ok (.istore 7, 2) := by decide +kernel
theorem dL_law_1654 : decode cL_law 1654 = .ok (.aload_n 2, 1) := by decide +kernel
theorem dL_law_1655 : decode cL_law 1655 = .ok (.invokevirtual 156, 3) := by decide +kernel
theorem dL_law_1658 : decode cL_law 1658 = .ok (.iload 6, 2) := by decide +kernel
theorem dL_law_1660 : decode cL_law 1660 = .ok (.if_icmp .eq 5, 3) := by decide +kernel
theorem dL_law_1665 : decode cL_law 1665 = .ok (.iload 6, 2) := by decide +kernel
theorem dL_law_1667 : decode cL_law 1667 = .ok (.ifCond .ne 15, 3) := by decide +kernel
theorem dL_law_1682 : decode cL_law 1682 = .ok (.goto 1265, 3) := by decide +kernel
theorem dL_law_1685 : decode cL_law 1685 = .ok (.aload_n 1, 1) := by decide +kernel
theorem dL_law_1686 : decode cL_law 1686 = .ok (.aload_n 0, 1) := by decide +kernel
theorem dL_law_1687 : decode cL_law 1687 = .ok (.iload 5, 2) := by decide +kernel
theorem dL_law_1689 : decode cL_law 1689 = .ok (.iconst 1, 1) := by decide +kernel
theorem dL_law_1690 : decode cL_law 1690 = .ok (.iadd, 1) := by decide +kernel
theorem dL_law_1691 : decode cL_law 1691 = .ok (.iaload, 1) := by decide +kernel
theorem dL_law_1692 : decode cL_law 1692 = .ok (.aload_n 0, 1) := by decide +kernel
theorem dL_law_1693 : decode cL_law 1693 = .ok (.iload 5, 2) := by decide +kernel
theorem dL_law_1695 : decode cL_law 1695 = .ok (.iconst 2, 1) := by decide +kernel
theorem dL_law_1696 : decode cL_law 1696 = .ok (.iadd, 1) := by decide +kernel
theorem dL_law_1697 : decode cL_law 1697 = .ok (.iaload, 1) := by decide +kernel
theorem dL_law_1698 : decode cL_law 1698 = .ok (.aload_n 0, 1) := by decide +kernel
theorem dL_law_1699 : decode cL_law 1699 = .ok (.iload 5, 2) := by decide +kernel
theorem dL_law_1701 : decode cL_law 1701 = .ok (.iconst 3, 1) := by decide +kernel
theorem dL_law_1702 : decode cL_law 1702 = .ok (.iadd, 1) := by decide +kernel
theorem dL_law_1703 : decode cL_law 1703 = .ok (.iaload, 1) := by decide +kernel
theorem dL_law_1704 : decode cL_law 1704 = .ok (.aload_n 3, 1) := by decide +kernel
theorem dL_law_1705 : decode cL_law 1705 = .ok (.invokestatic 236, 3) := by decide +kernel
theorem dL_law_1708 : decode cL_law 1708 = .ok (.istore 6, 2) := by decide +kernel
theorem dL_law_1710 : decode cL_law 1710 = .ok (.aload_n 2, 1) := by decide +kernel
theorem dL_law_1711 : decode cL_law 1711 = .ok (.aload_n 0, 1) := by decide +kernel
theorem dL_law_1712 : decode cL_law 1712 = .ok (.iload 5, 2) := by decide +kernel
theorem dL_law_1714 : decode cL_law 1714 = .ok (.iconst 1, 1) := by decide +kernel
theorem dL_law_1715 : decode cL_law 1715 = .ok (.iadd, 1) := by decide +kernel
theorem dL_law_1716 : decode cL_law 1716 = .ok (.iaload, 1) := by decide +kernel
theorem dL_law_1717 : decode cL_law 1717 = .ok (.aload_n 0, 1) := by decide +kernel
theorem dL_law_1718 : decode cL_law 1718 = .ok (.iload 5, 2) := by decide +kernel
theorem dL_law_1720 : decode cL_law 1720 = .ok (.iconst 2, 1) := by decide +kernel
theorem dL_law_1721 : decode cL_law 1721 = .ok (.iadd, 1) := by decide +kernel
theorem dL_law_1722 : decode cL_law 1722 = .ok (.iaload, 1) := by decide +kernel
theorem dL_law_1723 : decode cL_law 1723 = .ok (.aload_n 0, 1) := by decide +kernel
theorem dL_law_1724 : decode cL_law 1724 = .ok (.iload 5, 2) := by decide +kernel
theorem dL_law_1726 : decode cL_law 1726 = .ok (.iconst 3, 1) := by decide +kernel
theorem dL_law_1727 : decode cL_law 1727 = .ok (.iadd, 1) := by decide +kernel
theorem dL_law_1728 : decode cL_law 1728 = .ok (.iaload, 1) := by decide +kernel
theorem dL_law_1729 : decode cL_law 1729 = .ok (.invokevirtual 238, 3) := by decide +kernel
theorem dL_law_1732 : decode cL_law 1732 = .ok (.istore 7, 2) := by decide +kernel
theorem dL_law_1734 : decode cL_law 1734 = .ok (.aload_n 2, 1) := by decide +kernel
theorem dL_law_1735 : decode cL_law 1735 = .ok (.invokevirtual 156, 3) := by decide +kernel
theorem dL_law_1738 : decode cL_law 1738 = .ok (.iload 6, 2) := by decide +kernel
theorem dL_law_1740 : decode cL_law 1740 = .ok (.if_icmp .eq 5, 3) := by decide +kernel
theorem dL_law_1745 : decode cL_law 1745 = .ok (.iload 6, 2) := by decide +kernel
theorem dL_law_1747 : decode cL_law 1747 = .ok (.ifCond .ne 15, 3) := by decide +kernel
theorem dL_law_1750 : decode cL_law 1750 = .ok (.aload_n 3, 1) := by decide +kernel
theorem dL_law_1751 : decode cL_law 1751 = .ok (.iconst 0, 1) := by decide +kernel
theorem dL_law_1752 : decode cL_law 1752 = .ok (.laload, 1) := by decide +kernel
theorem dL_law_1753 : decode cL_law 1753 = .ok (.iload 7, 2) := by decide +kernel
theorem dL_law_1755 : decode cL_law 1755 = .ok (.i2l, 1) := by decide +kernel
theorem dL_law_1756 : decode cL_law 1756 = .ok (.lcmp, 1) := by decide +kernel
theorem dL_law_1757 : decode cL_law 1757 = .ok (.ifCond .eq 5, 3) := by decide +kernel
theorem dL_law_1762 : decode cL_law 1762 = .ok (.goto 1185, 3) := by decide +kernel
theorem dL_law_1765 : decode cL_law 1765 = .ok (.aload_n 1, 1) := by decide +kernel
theorem dL_law_1766 : decode cL_law 1766 = .ok (.aload_n 0, 1) := by decide +kernel
theorem dL_law_1767 : decode cL_law 1767 = .ok (.iload 5, 2) := by decide +kernel
theorem dL_law_1769 : decode cL_law 1769 = .ok (.iconst 1, 1) := by decide +kernel
theorem dL_law_1770 : decode cL_law 1770 = .ok (.iadd, 1) := by decide +kernel
theorem dL_law_1771 : decode cL_law 1771 = .ok (.iaload, 1) := by decide +kernel
theorem dL_law_1772 : decode cL_law 1772 = .ok (.i2c, 1) := by decide +kernel
theorem dL_law_1773 : decode cL_law 1773 = .ok (.aload_n 0, 1) := by decide +kernel
theorem dL_law_1774 : decode cL_law 1774 = .ok (.iload 5, 2) := by decide +kernel
theorem dL_law_1776 : decode cL_law 1776 = .ok (.iconst 2, 1) := by decide +kernel
theorem dL_law_1777 : decode cL_law 1777 = .ok (.iadd, 1) := by decide +kernel
theorem dL_law_1778 : decode cL_law 1778 = .ok (.iaload, 1) := by decide +kernel
theorem dL_law_1779 : decode cL_law 1779 = .ok (.aload_n 0, 1) := by decide +kernel
theorem dL_law_1780 : decode cL_law 1780 = .ok (.iload 5, 2) := by decide +kernel
theorem dL_law_1782 : decode cL_law 1782 = .ok (.iconst 3, 1) := by decide +kernel
theorem dL_law_1783 : decode cL_law 1783 = .ok (.iadd, 1) := by decide +kernel
theorem dL_law_1784 : decode cL_law 1784 = .ok (.iaload, 1) := by decide +kernel
theorem dL_law_1785 : decode cL_law 1785 = .ok (.aload_n 3, 1) := by decide +kernel
theorem dL_law_1786 : decode cL_law 1786 = .ok (.invokestatic 239, 3) := by decide +kernel
theorem dL_law_1789 : decode cL_law 1789 = .ok (.istore 6, 2) := by decide +kernel
theorem dL_law_1791 : decode cL_law 1791 = .ok (.aload_n 2, 1) := by decide +kernel
theorem dL_law_1792 : decode cL_law 1792 = .ok (.aload_n 0, 1) := by decide +kernel
theorem dL_law_1793 : decode cL_law 1793 = .ok (.iload 5, 2) := by decide +kernel
theorem dL_law_1795 : decode cL_law 1795 = .ok (.iconst 1, 1) := by decide +kernel
theorem dL_law_1796 : decode cL_law 1796 = .ok (.iadd, 1) := by decide +kernel
theorem dL_law_1797 : decode cL_law 1797 = .ok (.iaload, 1) := by decide +kernel
theorem dL_law_1798 : decode cL_law 1798 = .ok (.i2c, 1) := by decide +kernel
theorem dL_law_1799 : decode cL_law 1799 = .ok (.aload_n 0, 1) := by decide +kernel
theorem dL_law_1800 : decode cL_law 1800 = .ok (.iload 5, 2) := by decide +kernel
theorem dL_law_1802 : decode cL_law 1802 = .ok (.iconst 2, 1) := by decide +kernel
theorem dL_law_1803 : decode cL_law 1803 = .ok (.iadd, 1) := by decide +kernel
theorem dL_law_1804 : decode cL_law 1804 = .ok (.iaload, 1) := by decide +kernel
theorem dL_law_1805 : decode cL_law 1805 = .ok (.aload_n 0, 1) := by decide +kernel
theorem dL_law_1806 : decode cL_law 1806 = .ok (.iload 5, 2) := by decide +kernel
theorem dL_law_1808 : decode cL_law 1808 = .ok (.iconst 3, 1) := by decide +kernel
theorem dL_law_1809 : decode cL_law 1809 = .ok (.iadd, 1) := by decide +kernel
theorem dL_law_1810 : decode cL_law 1810 = .ok (.iaload, 1) := by decide +kernel
theorem dL_law_1811 : decode cL_law 1811 = .ok (.invokevirtual 241, 3) := by decide +kernel
theorem dL_law_1814 : decode cL_law 1814 = .ok (.istore 7, 2) := by decide +kernel
theorem dL_law_1816 : decode cL_law 1816 = .ok (.aload_n 2, 1) := by decide +kernel
theorem dL_law_1817 : decode cL_law 1817 = .ok (.invokevirtual 156, 3) := by decide +kernel
theorem dL_law_1820 : decode cL_law 1820 = .ok (.iload 6, 2) := by decide +kernel
theorem dL_law_1822 : decode cL_law 1822 = .ok (.if_icmp .eq 5, 3) := by decide +kernel
theorem dL_law_1827 : decode cL_law 1827 = .ok (.iload 6, 2) := by decide +kernel
theorem dL_law_1829 : decode cL_law 1829 = .ok (.ifCond .ne 15, 3) := by decide +kernel
theorem dL_law_1832 : decode cL_law 1832 = .ok (.aload_n 3, 1) := by decide +kernel
theorem dL_law_1833 : decode cL_law 1833 = .ok (.iconst 0, 1) := by decide +kernel
theorem dL_law_1834 : decode cL_law 1834 = .ok (.laload, 1) := by decide +kernel
theorem dL_law_1835 : decode cL_law 1835 = .ok (.iload 7, 2) := by decide +kernel
theorem dL_law_1837 : decode cL_law 1837 = .ok (.i2l, 1) := by decide +kernel
theorem dL_law_1838 : decode cL_law 1838 = .ok (.lcmp, 1) := by decide +kernel
theorem dL_law_1839 : decode cL_law 1839 = .ok (.ifCond .eq 5, 3) := by decide +kernel
theorem dL_law_1844 : decode cL_law 1844 = .ok (.goto 1103, 3) := by decide +kernel
theorem dL_law_1847 : decode cL_law 1847 = .ok (.aload_n 1, 1) := by decide +kernel
theorem dL_law_1848 : decode cL_law 1848 = .ok (.invokevirtual 242, 3) := by decide +kernel
theorem dL_law_1851 : decode cL_law 1851 = .ok (.aload_n 2, 1) := by decide +kernel
theorem dL_law_1852 : decode cL_law 1852 = .ok (.invokevirtual 245, 3) := by decide +kernel
theorem dL_law_1855 : decode cL_law 1855 = .ok (.if_icmp .eq 1092, 3) := by decide +kernel
theorem dL_law_1860 : decode cL_law 1860 = .ok (.aload_n 1, 1) := by decide +kernel
theorem dL_law_1861 : decode cL_law 1861 = .ok (.aload_n 0, 1) := by decide +kernel
theorem dL_law_1862 : decode cL_law 1862 = .ok (.iload 5, 2) := by decide +kernel
theorem dL_law_1864 : decode cL_law 1864 = .ok (.iconst 1, 1) := by decide +kernel
theorem dL_law_1865 : decode cL_law 1865 = .ok (.iadd, 1) := by decide +kernel
theorem dL_law_1866 : decode cL_law 1866 = .ok (.iaload, 1) := by decide +kernel
theorem dL_law_1867 : decode cL_law 1867 = .ok (.aload_n 3, 1) := by decide +kernel
theorem dL_law_1868 : decode cL_law 1868 = .ok (.invokestatic 246, 3) := by decide +kernel
theorem dL_law_1871 : decode cL_law 1871 = .ok (.istore 6, 2) := by decide +kernel
theorem dL_law_1873 : decode cL_law 1873 = .ok (.aload_n 2, 1) := by decide +kernel
theorem dL_law_1874 : decode cL_law 1874 = .ok (.aload_n 0, 1) := by decide +kernel
theorem dL_law_1875 : decode cL_law 1875 = .ok (.iload 5, 2) := by decide +kernel
theorem dL_law_1877 : decode cL_law 1877 = .ok (.iconst 1, 1) := by decide +kernel
theorem dL_law_1878 : decode cL_law 1878 = .ok (.iadd, 1) := by decide +kernel
theorem dL_law_1879 : decode cL_law 1879 = .ok (.iaload, 1) := by decide +kernel
theorem dL_law_1880 : decode cL_law 1880 = .ok (.invokevirtual 248, 3) := by decide +kernel
theorem dL_law_1883 : decode cL_law 1883 = .ok (.istore 7, 2) := by decide +kernel
theorem dL_law_1885 : decode cL_law 1885 = .ok (.aload_n 2, 1) := by decide +kernel
theorem dL_law_1886 : decode cL_law 1886 = .ok (.invokevirtual 156, 3) := by decide +kernel
theorem dL_law_1889 : decode cL_law 1889 = .ok (.iload 6, 2) := by decide +kernel
theorem dL_law_1891 : decode cL_law 1891 = .ok (.if_icmp .eq 5, 3) := by decide +kernel
theorem dL_law_1896 : decode cL_law 1896 = .ok (.iload 6, 2) := by decide +kernel
theorem dL_law_1898 : decode cL_law 1898 = .ok (.ifCond .ne 15, 3) := by decide +kernel
theorem dL_law_1913 : decode cL_law 1913 = .ok (.goto 1034, 3) := by decide +kernel
theorem dL_law_1916 : decode cL_law 1916 = .ok (.aload_n 1, 1) := by decide +kernel
theorem dL_law_1917 : decode cL_law 1917 = .ok (.aload_n 3, 1) := by decide +kernel
theorem dL_law_1918 : decode cL_law 1918 = .ok (.invokestatic 249, 3) := by decide +kernel
theorem dL_law_1921 : decode cL_law 1921 = .ok (.istore 6, 2) := by decide +kernel
theorem dL_law_1923 : decode cL_law 1923 = .ok (.aload_n 2, 1) := by decide +kernel
theorem dL_law_1924 : decode cL_law 1924 = .ok (.invokevirtual 251, 3) := by decide +kernel
theorem dL_law_1927 : decode cL_law 1927 = .ok (.istore 7, 2) := by decide +kernel
theorem dL_law_1929 : decode cL_law 1929 = .ok (.aload_n 2, 1) := by decide +kernel
theorem dL_law_1930 : decode cL_law 1930 = .ok (.invokevirtual 156, 3) := by decide +kernel
theorem dL_law_1933 : decode cL_law 1933 = .ok (.iload 6, 2) := by decide +kernel
theorem dL_law_1935 : decode cL_law 1935 = .ok (.if_icmp .eq 5, 3) := by decide +kernel
theorem dL_law_1940 : decode cL_law 1940 = .ok (.iload 6, 2) := by decide +kernel
theorem dL_law_1942 : decode cL_law 1942 = .ok (.ifCond .ne 22, 3) := by decide +kernel
theorem dL_law_1964 : decode cL_law 1964 = .ok (.goto 983, 3) := by decide +kernel
theorem dL_law_1967 : decode cL_law 1967 = .ok (.aload_n 1, 1) := by decide +kernel
theorem dL_law_1968 : decode cL_law 1968 = .ok (.invokevirtual 252, 3) := by decide +kernel
theorem dL_law_1971 : decode cL_law 1971 = .ok (.aload_n 2, 1) := by decide +kernel
theorem dL_law_1972 : decode cL_law 1972 = .ok (.invokevirtual 255, 3) := by decide +kernel
theorem dL_law_1975 : decode cL_law 1975 = .ok (.if_icmp .eq 972, 3) := by decide +kernel
theorem dL_law_1980 : decode cL_law 1980 = .ok (.aload_n 1, 1) := by decide +kernel
theorem dL_law_1981 : decode cL_law 1981 = .ok (.invokevirtual 256, 3) := by decide +kernel
theorem dL_law_1984 : decode cL_law 1984 = .ok (.aload_n 2, 1) := by decide +kernel
theorem dL_law_1985 : decode cL_law 1985 = .ok (.invokevirtual 259, 3) := by decide +kernel
theorem dL_law_1988 : decode cL_law 1988 = .ok (.if_icmp .eq 959, 3) := by decide +kernel
theorem dL_law_1993 : decode cL_law 1993 = .ok (.aload_n 1, 1) := by decide +kernel
theorem dL_law_1994 : decode cL_law 1994 = .ok (.invokevirtual 260, 3) := by decide +kernel
theorem dL_law_1997 : decode cL_law 1997 = .ok (.aload_n 2, 1) := by decide +kernel
theorem dL_law_1998 : decode cL_law 1998 = .ok (.invokevirtual 263, 3) := by decide +kernel
theorem dL_law_2001 : decode cL_law 2001 = .ok (.if_icmp .eq 946, 3) := by decide +kernel
theorem dL_law_2006 : decode cL_law 2006 = .ok (.aload_n 1, 1) := by decide +kernel
theorem dL_law_2007 : decode cL_law 2007 = .ok (.aload_n 0, 1) := by decide +kernel
theorem dL_law_2008 : decode cL_law 2008 = .ok (.iload 5, 2) := by decide +kernel
theorem dL_law_2010 : decode cL_law 2010 = .ok (.iconst 1, 1) := by decide +kernel
theorem dL_law_2011 : decode cL_law 2011 = .ok (.iadd, 1) := by decide +kernel
theorem dL_law_2012 : decode cL_law 2012 = .ok (.iaload, 1) := by decide +kernel
theorem dL_law_2013 : decode cL_law 2013 = .ok (.aload_n 3, 1) := by decide +kernel
theorem dL_law_2014 : decode cL_law 2014 = .ok (.invokestatic 264, 3) := by decide +kernel
theorem dL_law_2017 : decode cL_law 2017 = .ok (.istore 6, 2) := by decide +kernel
theorem dL_law_2019 : decode cL_law 2019 = .ok (.aload_n 2, 1) := by decide +kernel
theorem dL_law_2020 : decode cL_law 2020 = .ok (.aload_n 0, 1) := by decide +kernel
theorem dL_law_2021 : decode cL_law 2021 = .ok (.iload 5, 2) := by decide +kernel
theorem dL_law_2023 : decode cL_law 2023 = .ok (.iconst 1, 1) := by decide +kernel
theorem dL_law_2024 : decode cL_law 2024 = .ok (.iadd, 1) := by decide +kernel
theorem dL_law_2025 : decode cL_law 2025 = .ok (.iaload, 1) := by decide +kernel
theorem dL_law_2026 : decode cL_law 2026 = .ok (.invokevirtual 266, 3) := by decide +kernel
theorem dL_law_2029 : decode cL_law 2029 = .ok (.istore 7, 2) := by decide +kernel
theorem dL_law_2031 : decode cL_law 2031 = .ok (.aload_n 2, 1) := by decide +kernel
theorem dL_law_2032 : decode cL_law 2032 = .ok (.invokevirtual 156, 3) := by decide +kernel
theorem dL_law_2035 : decode cL_law 2035 = .ok (.iload 6, 2) := by decide +kernel
theorem dL_law_2037 : decode cL_law 2037 = .ok (.if_icmp .eq 5, 3) := by decide +kernel
theorem dL_law_2042 : decode cL_law 2042 = .ok (.iload 6, 2) := by decide +kernel
theorem dL_law_2044 : decode cL_law 2044 = .ok (.ifCond .ne 15, 3) := by decide +kernel
theorem dL_law_2059 : decode cL_law 2059 = .ok (.goto 888, 3) := by decide +kernel
theorem dL_law_2062 : decode cL_law 2062 = .ok (.aload_n 1, 1) := by decide +kernel
theorem dL_law_2063 : decode cL_law 2063 = .ok (.aload_n 0, 1) := by decide +kernel
theorem dL_law_2064 : decode cL_law 2064 = .ok (.iload 5, 2) := by decide +kernel
theorem dL_law_2066 : decode cL_law 2066 = .ok (.iconst 1, 1) := by decide +kernel
theorem dL_law_2067 : decode cL_law 2067 = .ok (.iadd, 1) := by decide +kernel
theorem dL_law_2068 : decode cL_law 2068 = .ok (.iaload, 1) := by decide +kernel
theorem dL_law_2069 : decode cL_law 2069 = .ok (.aload_n 0, 1) := by decide +kernel
theorem dL_law_2070 : decode cL_law 2070 = .ok (.iload 5, 2) := by decide +kernel
theorem dL_law_2072 : decode cL_law 2072 = .ok (.iconst 2, 1) := by decide +kernel
theorem dL_law_2073 : decode cL_law 2073 = .ok (.iadd, 1) := by decide +kernel
theorem dL_law_2074 : decode cL_law 2074 = .ok (.iaload, 1) := by decide +kernel
theorem dL_law_2075 : decode cL_law 2075 = .ok (.aload_n 0, 1) := by decide +kernel
theorem dL_law_2076 : decode cL_law 2076 = .ok (.iload 5, 2) := by decide +kernel
theorem dL_law_2078 : decode cL_law 2078 = .ok (.iconst 3, 1) := by decide +kernel
theorem dL_law_2079 : decode cL_law 2079 = .ok (.iadd, 1) := by decide +kernel
theorem dL_law_2080 : decode cL_law 2080 = .ok (.iaload, 1) := by decide +kernel
theorem dL_law_2081 : decode cL_law 2081 = .ok (.aload_n 3, 1) := by decide +kernel
theorem dL_law_2082 : decode cL_law 2082 = .ok (.invokestatic 267, 3) := by decide +kernel
theorem dL_law_2085 : decode cL_law 2085 = .ok (.istore 6, 2) := by decide +kernel
theorem dL_law_2087 : decode cL_law 2087 = .ok (.aload_n 2, 1) := by decide +kernel
theorem dL_law_2088 : decode cL_law 2088 = .ok (.aload_n 0, 1) := by decide +kernel
theorem dL_law_2089 : decode cL_law 2089 = .ok (.iload 5, 2) := by decide +kernel
theorem dL_law_2091 : decode cL_law 2091 = .ok (.iconst 1, 1) := by decide +kernel
theorem dL_law_2092 : decode cL_law 2092 = .ok (.iadd, 1) := by decide +kernel
theorem dL_law_2093 : decode cL_law 2093 = .ok (.iaload, 1) := by decide +kernel
theorem dL_law_2094 : decode cL_law 2094 = .ok (.aload_n 0, 1) := by decide +kernel
theorem dL_law_2095 : decode cL_law 2095 = .ok (.iload 5, 2) := by decide +kernel
theorem dL_law_2097 : decode cL_law 2097 = .ok (.iconst 2, 1) := by decide +kernel
theorem dL_law_2098 : decode cL_law 2098 = .ok (.iadd, 1) := by decide +kernel
theorem dL_law_2099 : decode cL_law 2099 = .ok (.iaload, 1) := by decide +kernel
theorem dL_law_2100 : decode cL_law 2100 = .ok (.aload_n 0, 1) := by decide +kernel
theorem dL_law_2101 : decode cL_law 2101 = .ok (.iload 5, 2) := by decide +kernel
theorem dL_law_2103 : decode cL_law 2103 = .ok (.iconst 3, 1) := by decide +kernel
theorem dL_law_2104 : decode cL_law 2104 = .ok (.iadd, 1) := by decide +kernel
theorem dL_law_2105 : decode cL_law 2105 = .ok (.iaload, 1) := by decide +kernel
theorem dL_law_2106 : decode cL_law 2106 = .ok (.invokevirtual 269, 3) := by decide +kernel
theorem dL_law_2109 : decode cL_law 2109 = .ok (.istore 7, 2) := by decide +kernel
theorem dL_law_2111 : decode cL_law 2111 = .ok (.aload_n 2, 1) := by decide +kernel
theorem dL_law_2112 : decode cL_law 2112 = .ok (.invokevirtual 156, 3) := by decide +kernel
theorem dL_law_2115 : decode cL_law 2115 = .ok (.iload 6, 2) := by decide +kernel
theorem dL_law_2117 : decode cL_law 2117 = .ok (.if_icmp .eq 5, 3) := by decide +kernel
theorem dL_law_2122 : decode cL_law 2122 = .ok (.iload 6, 2) := by decide +kernel
theorem dL_law_2124 : decode cL_law 2124 = .ok (.ifCond .ne 15, 3) := by decide +kernel
theorem dL_law_2127 : decode cL_law 2127 = .ok (.aload_n 3, 1) := by decide +kernel
theorem dL_law_2128 : decode cL_law 2128 = .ok (.iconst 0, 1) := by decide +kernel
theorem dL_law_2129 : decode cL_law 2129 = .ok (.laload, 1) := by decide +kernel
theorem dL_law_2130 : decode cL_law 2130 = .ok (.iload 7, 2) := by decide +kernel
theorem dL_law_2132 : decode cL_law 2132 = .ok (.i2l, 1) := by decide +kernel
theorem dL_law_2133 : decode cL_law 2133 = .ok (.lcmp, 1) := by decide +kernel
theorem dL_law_2134 : decode cL_law 2134 = .ok (.ifCond .eq 5, 3) := by decide +kernel
theorem dL_law_2139 : decode cL_law 2139 = .ok (.goto 808, 3) := by decide +kernel
theorem dL_law_2142 : decode cL_law 2142 = .ok (.aload_n 1, 1) := by decide +kernel
theorem dL_law_2143 : decode cL_law 2143 = .ok (.invokevirtual 270, 3) := by decide +kernel
theorem dL_law_2146 : decode cL_law 2146 = .ok (.aload_n 2, 1) := by decide +kernel
theorem dL_law_2147 : decode cL_law 2147 = .ok (.invokevirtual 273, 3) := by decide +kernel
theorem dL_law_2150 : decode cL_law 2150 = .ok (.if_icmp .eq 797, 3) := by decide +kernel
theorem dL_law_2155 : decode cL_law 2155 = .ok (.aload_n 1, 1) := by decide +kernel
theorem dL_law_2156 : decode cL_law 2156 = .ok (.aload_n 0, 1) := by decide +kernel
theorem dL_law_2157 : decode cL_law 2157 = .ok (.iload 5, 2) := by decide +kernel
theorem dL_law_2159 : decode cL_law 2159 = .ok (.iconst 1, 1) := by decide +kernel
theorem dL_law_2160 : decode cL_law 2160 = .ok (.iadd, 1) := by decide +kernel
theorem dL_law_2161 : decode cL_law 2161 = .ok (.iaload, 1) := by decide +kernel
theorem dL_law_2162 : decode cL_law 2162 = .ok (.aload_n 3, 1) := by decide +kernel
theorem dL_law_2163 : decode cL_law 2163 = .ok (.invokestatic 274, 3) := by decide +kernel
theorem dL_law_2166 : decode cL_law 2166 = .ok (.istore 6, 2) := by decide +kernel
theorem dL_law_2168 : decode cL_law 2168 = .ok (.aload_n 2, 1) := by decide +kernel
theorem dL_law_2169 : decode cL_law 2169 = .ok (.aload_n 0, 1) := by decide +kernel
theorem dL_law_2170 : decode cL_law 2170 = .ok (.iload 5, 2) := by decide +kernel
theorem dL_law_2172 : decode cL_law 2172 = .ok (.iconst 1, 1) := by decide +kernel
theorem dL_law_2173 : decode cL_law 2173 = .ok (.iadd, 1) := by decide +kernel
theorem dL_law_2174 : decode cL_law 2174 = .ok (.iaload, 1) := by decide +kernel
theorem dL_law_2175 : decode cL_law 2175 = .ok (.invokevirtual 276, 3) := by decide +kernel
theorem dL_law_2178 : decode cL_law 2178 = .ok (.istore 7, 2) := by decide +kernel
theorem dL_law_2180 : decode cL_law 2180 = .ok (.aload_n 2, 1) := by decide +kernel
theorem dL_law_2181 : decode cL_law 2181 = .ok (.invokevirtual 156, 3) := by decide +kernel
theorem dL_law_2184 : decode cL_law 2184 = .ok (.iload 6, 2) := by decide +kernel
theorem dL_law_2186 : decode cL_law 2186 = .ok (.if_icmp .eq 5, 3) := by decide +kernel
theorem dL_law_2191 : decode cL_law 2191 = .ok (.iload 6, 2) := by decide +kernel
theorem dL_law_2193 : decode cL_law 2193 = .ok (.ifCond .ne 15, 3) := by decide +kernel
theorem dL_law_2196 : decode cL_law 2196 = .ok (.aload_n 3, 1) := by decide +kernel
theorem dL_law_2197 : decode cL_law 2197 = .ok (.iconst 0, 1) := by decide +kernel
theorem dL_law_2198 : decode cL_law 2198 = .ok (.laload, 1) := by decide +kernel
theorem dL_law_2199 : decode cL_law 2199 = .ok (.iload 7, 2) := by decide +kernel
theorem dL_law_2201 : decode cL_law 2201 = .ok (.i2l, 1) := by decide +kernel
theorem dL_law_2202 : decode cL_law 2202 = .ok (.lcmp, 1) := by decide +kernel
theorem dL_law_2203 : decode cL_law 2203 = .ok (.ifCond .eq 5, 3) := by decide +kernel
theorem dL_law_2208 : decode cL_law 2208 = .ok (.goto 739, 3) := by decide +kernel
theorem dL_law_2211 : decode cL_law 2211 = .ok (.aload_n 1, 1) := by decide +kernel
theorem dL_law_2212 : decode cL_law 2212 = .ok (.aload_n 0, 1) := by decide +kernel
theorem dL_law_2213 : decode cL_law 2213 = .ok (.iload 5, 2) := by decide +kernel
theorem dL_law_2215 : decode cL_law 2215 = .ok (.iconst 1, 1) := by decide +kernel
theorem dL_law_2216 : decode cL_law 2216 = .ok (.iadd, 1) := by decide +kernel
theorem dL_law_2217 : decode cL_law 2217 = .ok (.iaload, 1) := by decide +kernel
theorem dL_law_2218 : decode cL_law 2218 = .ok (.aload_n 3, 1) := by decide +kernel
theorem dL_law_2219 : decode cL_law 2219 = .ok (.invokestatic 277, 3) := by decide +kernel
theorem dL_law_2222 : decode cL_law 2222 = .ok (.istore 6, 2) := by decide +kernel
theorem dL_law_2224 : decode cL_law 2224 = .ok (.aload_n 2, 1) := by decide +kernel
theorem dL_law_2225 : decode cL_law 2225 = .ok (.aload_n 0, 1) := by decide +kernel
theorem dL_law_2226 : decode cL_law 2226 = .ok (.iload 5, 2) := by decide +kernel
theorem dL_law_2228 : decode cL_law 2228 = .ok (.iconst 1, 1) := by decide +kernel
theorem dL_law_2229 : decode cL_law 2229 = .ok (.iadd, 1) := by decide +kernel
theorem dL_law_2230 : decode cL_law 2230 = .ok (.iaload, 1) := by decide +kernel
theorem dL_law_2231 : decode cL_law 2231 = .ok (.invokevirtual 279, 3) := by decide +kernel
theorem dL_law_2234 : decode cL_law 2234 = .ok (.istore 7, 2) := by decide +kernel
theorem dL_law_2236 : decode cL_law 2236 = .ok (.aload_n 2, 1) := by decide +kernel
theorem dL_law_2237 : decode cL_law 2237 = .ok (.invokevirtual 156, 3) := by decide +kernel
theorem dL_law_2240 : decode cL_law 2240 = .ok (.iload 6, 2) := by decide +kernel
theorem dL_law_2242 : decode cL_law 2242 = .ok (.if_icmp .eq 5, 3) := by decide +kernel
theorem dL_law_2247 : decode cL_law 2247 = .ok (.iload 6, 2) := by decide +kernel
theorem dL_law_2249 : decode cL_law 2249 = .ok (.ifCond .ne 15, 3) := by decide +kernel
theorem dL_law_2252 : decode cL_law 2252 = .ok (.aload_n 3, 1) := by decide +kernel
theorem dL_law_2253 : decode cL_law 2253 = .ok (.iconst 0, 1) := by decide +kernel
theorem dL_law_2254 : decode cL_law 2254 = .ok (.laload, 1) := by decide +kernel
theorem dL_law_2255 : decode cL_law 2255 = .ok (.iload 7, 2) := by decide +kernel
theorem dL_law_2257 : decode cL_law 2257 = .ok (.i2l, 1) := by decide +kernel
theorem dL_law_2258 : decode cL_law 2258 = .ok (.lcmp, 1) := by decide +kernel
theorem dL_law_2259 : decode cL_law 2259 = .ok (.ifCond .eq 5, 3) := by decide +kernel
theorem dL_law_2264 : decode cL_law 2264 = .ok (.goto 683, 3) := by decide +kernel
theorem dL_law_2267 : decode cL_law 2267 = .ok (.aload_n 1, 1) := by decide +kernel
theorem dL_law_2268 : decode cL_law 2268 = .ok (.aload_n 0, 1) := by decide +kernel
theorem dL_law_2269 : decode cL_law 2269 = .ok (.iload 5, 2) := by decide +kernel
theorem dL_law_2271 : decode cL_law 2271 = .ok (.iconst 1, 1) := by decide +kernel
theorem dL_law_2272 : decode cL_law 2272 = .ok (.iadd, 1) := by decide +kernel
theorem dL_law_2273 : decode cL_law 2273 = .ok (.iaload, 1) := by decide +kernel
theorem dL_law_2274 : decode cL_law 2274 = .ok (.aload_n 3, 1) := by decide +kernel
theorem dL_law_2275 : decode cL_law 2275 = .ok (.invokestatic 280, 3) := by decide +kernel
theorem dL_law_2278 : decode cL_law 2278 = .ok (.istore 6, 2) := by decide +kernel
theorem dL_law_2280 : decode cL_law 2280 = .ok (.aload_n 2, 1) := by decide +kernel
theorem dL_law_2281 : decode cL_law 2281 = .ok (.aload_n 0, 1) := by decide +kernel
theorem dL_law_2282 : decode cL_law 2282 = .ok (.iload 5, 2) := by decide +kernel
theorem dL_law_2284 : decode cL_law 2284 = .ok (.iconst 1, 1) := by decide +kernel
theorem dL_law_2285 : decode cL_law 2285 = .ok (.iadd, 1) := by decide +kernel
theorem dL_law_2286 : decode cL_law 2286 = .ok (.iaload, 1) := by decide +kernel
theorem dL_law_2287 : decode cL_law 2287 = .ok (.invokevirtual 282, 3) := by decide +kernel
theorem dL_law_2290 : decode cL_law 2290 = .ok (.istore 7, 2) := by decide +kernel
theorem dL_law_2292 : decode cL_law 2292 = .ok (.aload_n 2, 1) := by decide +kernel
theorem dL_law_2293 : decode cL_law 2293 = .ok (.invokevirtual 156, 3) := by decide +kernel
theorem dL_law_2296 : decode cL_law 2296 = .ok (.iload 6, 2) := by decide +kernel
theorem dL_law_2298 : decode cL_law 2298 = .ok (.if_icmp .eq 5, 3) := by decide +kernel
theorem dL_law_2303 : decode cL_law 2303 = .ok (.iload 6, 2) := by decide +kernel
theorem dL_law_2305 : decode cL_law 2305 = .ok (.ifCond .ne 15, 3) := by decide +kernel
theorem dL_law_2320 : decode cL_law 2320 = .ok (.goto 627, 3) := by decide +kernel
theorem dL_law_2323 : decode cL_law 2323 = .ok (.aload_n 1, 1) := by decide +kernel
theorem dL_law_2324 : decode cL_law 2324 = .ok (.aload_n 0, 1) := by decide +kernel
theorem dL_law_2325 : decode cL_law 2325 = .ok (.iload 5, 2) := by decide +kernel
theorem dL_law_2327 : decode cL_law 2327 = .ok (.iconst 1, 1) := by decide +kernel
theorem dL_law_2328 : decode cL_law 2328 = .ok (.iadd, 1) := by decide +kernel
theorem dL_law_2329 : decode cL_law 2329 = .ok (.iaload, 1) := by decide +kernel
theorem dL_law_2330 : decode cL_law 2330 = .ok (.aload_n 0, 1) := by decide +kernel
theorem dL_law_2331 : decode cL_law 2331 = .ok (.iload 5, 2) := by decide +kernel
theorem dL_law_2333 : decode cL_law 2333 = .ok (.iconst 2, 1) := by decide +kernel
theorem dL_law_2334 : decode cL_law 2334 = .ok (.iadd, 1) := by decide +kernel
theorem dL_law_2335 : decode cL_law 2335 = .ok (.iaload, 1) := by decide +kernel
theorem dL_law_2336 : decode cL_law 2336 = .ok (.aload_n 0, 1) := by decide +kernel
theorem dL_law_2337 : decode cL_law 2337 = .ok (.iload 5, 2) := by decide +kernel
theorem dL_law_2339 : decode cL_law 2339 = .ok (.iconst 3, 1) := by decide +kernel
theorem dL_law_2340 : decode cL_law 2340 = .ok (.iadd, 1) := by decide +kernel
theorem dL_law_2341 : decode cL_law 2341 = .ok (.iaload, 1) := by decide +kernel
theorem dL_law_2342 : decode cL_law 2342 = .ok (.aload_n 0, 1) := by decide +kernel
theorem dL_law_2343 : decode cL_law 2343 = .ok (.iload 5, 2) := by decide +kernel
theorem dL_law_2345 : decode cL_law 2345 = .ok (.iconst 4, 1) := by decide +kernel
theorem dL_law_2346 : decode cL_law 2346 = .ok (.iadd, 1) := by decide +kernel
theorem dL_law_2347 : decode cL_law 2347 = .ok (.iaload, 1) := by decide +kernel
theorem dL_law_2348 : decode cL_law 2348 = .ok (.aload_n 3, 1) := by decide +kernel
theorem dL_law_2349 : decode cL_law 2349 = .ok (.invokestatic 283, 3) := by decide +kernel
theorem dL_law_2352 : decode cL_law 2352 = .ok (.istore 6, 2) := by decide +kernel
theorem dL_law_2354 : decode cL_law 2354 = .ok (.aload_n 2, 1) := by decide +kernel
theorem dL_law_2355 : decode cL_law 2355 = .ok (.aload_n 0, 1) := by decide +kernel
theorem dL_law_2356 : decode cL_law 2356 = .ok (.iload 5, 2) := by decide +kernel
theorem dL_law_2358 : decode cL_law 2358 = .ok (.iconst 1, 1) := by decide +kernel
theorem dL_law_2359 : decode cL_law 2359 = .ok (.iadd, 1) := by decide +kernel
theorem dL_law_2360 : decode cL_law 2360 = .ok (.iaload, 1) := by decide +kernel
theorem dL_law_2361 : decode cL_law 2361 = .ok (.aload_n 0, 1) := by decide +kernel
theorem dL_law_2362 : decode cL_law 2362 = .ok (.iload 5, 2) := by decide +kernel
theorem dL_law_2364 : decode cL_law 2364 = .ok (.iconst 2, 1) := by decide +kernel
theorem dL_law_2365 : decode cL_law 2365 = .ok (.iadd, 1) := by decide +kernel
theorem dL_law_2366 : decode cL_law 2366 = .ok (.iaload, 1) := by decide +kernel
theorem dL_law_2367 : decode cL_law 2367 = .ok (.aload_n 0, 1) := by decide +kernel
theorem dL_law_2368 : decode cL_law 2368 = .ok (.iload 5, 2) := by decide +kernel
theorem dL_law_2370 : decode cL_law 2370 = .ok (.iconst 3, 1) := by decide +kernel
theorem dL_law_2371 : decode cL_law 2371 = .ok (.iadd, 1) := by decide +kernel
theorem dL_law_2372 : decode cL_law 2372 = .ok (.iaload, 1) := by decide +kernel
theorem dL_law_2373 : decode cL_law 2373 = .ok (.aload_n 0, 1) := by decide +kernel
theorem dL_law_2374 : decode cL_law 2374 = .ok (.iload 5, 2) := by decide +kernel
theorem dL_law_2376 : decode cL_law 2376 = .ok (.iconst 4, 1) := by decide +kernel
theorem dL_law_2377 : decode cL_law 2377 = .ok (.iadd, 1) := by decide +kernel
theorem dL_law_2378 : decode cL_law 2378 = .ok (.iaload, 1) := by decide +kernel
theorem dL_law_2379 : decode cL_law 2379 = .ok (.invokevirtual 285, 3) := by decide +kernel
theorem dL_law_2382 : decode cL_law 2382 = .ok (.istore 7, 2) := by decide +kernel
theorem dL_law_2384 : decode cL_law 2384 = .ok (.aload_n 2, 1) := by decide +kernel
theorem dL_law_2385 : decode cL_law 2385 = .ok (.invokevirtual 156, 3) := by decide +kernel
theorem dL_law_2388 : decode cL_law 2388 = .ok (.iload 6, 2) := by decide +kernel
theorem dL_law_2390 : decode cL_law 2390 = .ok (.if_icmp .eq 5, 3) := by decide +kernel
theorem dL_law_2395 : decode cL_law 2395 = .ok (.iload 6, 2) := by decide +kernel
theorem dL_law_2397 : decode cL_law 2397 = .ok (.ifCond .ne 15, 3) := by decide +kernel
theorem dL_law_2400 : decode cL_law 2400 = .ok (.aload_n 3, 1) := by decide +kernel
theorem dL_law_2401 : decode cL_law 2401 = .ok (.iconst 0, 1) := by decide +kernel
theorem dL_law_2402 : decode cL_law 2402 = .ok (.laload, 1) := by decide +kernel
theorem dL_law_2403 : decode cL_law 2403 = .ok (.iload 7, 2) := by decide +kernel
theorem dL_law_2405 : decode cL_law 2405 = .ok (.i2l, 1) := by decide +kernel
theorem dL_law_2406 : decode cL_law 2406 = .ok (.lcmp, 1) := by decide +kernel
theorem dL_law_2407 : decode cL_law 2407 = .ok (.ifCond .eq 5, 3) := by decide +kernel
theorem dL_law_2412 : decode cL_law 2412 = .ok (.goto 535, 3) := by decide +kernel
theorem dL_law_2415 : decode cL_law 2415 = .ok (.aload_n 1, 1) := by decide +kernel
theorem dL_law_2416 : decode cL_law 2416 = .ok (.aload_n 0, 1) := by decide +kernel
theorem dL_law_2417 : decode cL_law 2417 = .ok (.iload 5, 2) := by decide +kernel
theorem dL_law_2419 : decode cL_law 2419 = .ok (.iconst 1, 1) := by decide +kernel
theorem dL_law_2420 : decode cL_law 2420 = .ok (.iadd, 1) := by decide +kernel
theorem dL_law_2421 : decode cL_law 2421 = .ok (.iaload, 1) := by decide +kernel
theorem dL_law_2422 : decode cL_law 2422 = .ok (.aload_n 3, 1) := by decide +kernel
theorem dL_law_2423 : decode cL_law 2423 = .ok (.invokestatic 286, 3) := by decide +kernel
theorem dL_law_2426 : decode cL_law 2426 = .ok (.istore 6, 2) := by decide +kernel
theorem dL_law_2428 : decode cL_law 2428 = .ok (.aload_n 2, 1) := by decide +kernel
theorem dL_law_2429 : decode cL_law 2429 = .ok (.aload_n 0, 1) := by decide +kernel
theorem dL_law_2430 : decode cL_law 2430 = .ok (.iload 5, 2) := by decide +kernel
theorem dL_law_2432 : decode cL_law 2432 = .ok (.iconst 1, 1) := by decide +kernel
theorem dL_law_2433 : decode cL_law 2433 = .ok (.iadd, 1) := by decide +kernel
theorem dL_law_2434 : decode cL_law 2434 = .ok (.iaload, 1) := by decide +kernel
theorem dL_law_2435 : decode cL_law 2435 = .ok (.invokevirtual 288, 3) := by decide +kernel
theorem dL_law_2438 : decode cL_law 2438 = .ok (.istore 7, 2) := by decide +kernel
theorem dL_law_2440 : decode cL_law 2440 = .ok (.aload_n 2, 1) := by decide +kernel
theorem dL_law_2441 : decode cL_law 2441 = .ok (.invokevirtual 156, 3) := by decide +kernel
theorem dL_law_2444 : decode cL_law 2444 = .ok (.iload 6, 2) := by decide +kernel
theorem dL_law_2446 : decode cL_law 2446 = .ok (.if_icmp .eq 5, 3) := by decide +kernel
theorem dL_law_2451 : decode cL_law 2451 = .ok (.iload 6, 2) := by decide +kernel
theorem dL_law_2453 : decode cL_law 2453 = .ok (.ifCond .ne 15, 3) := by decide +kernel
theorem dL_law_2456 : decode cL_law 2456 = .ok (.aload_n 3, 1) := by decide +kernel
theorem dL_law_2457 : decode cL_law 2457 = .ok (.iconst 0, 1) := by decide +kernel
theorem dL_law_2458 : decode cL_law 2458 = .ok (.laload, 1) := by decide +kernel
theorem dL_law_2459 : decode cL_law 2459 = .ok (.iload 7, 2) := by decide +kernel
theorem dL_law_2461 : decode cL_law 2461 = .ok (.i2l, 1) := by decide +kernel
theorem dL_law_2462 : decode cL_law 2462 = .ok (.lcmp, 1) := by decide +kernel
theorem dL_law_2463 : decode cL_law 2463 = .ok (.ifCond .eq 5, 3) := by decide +kernel
theorem dL_law_2468 : decode cL_law 2468 = .ok (.goto 479, 3) := by decide +kernel
theorem dL_law_2471 : decode cL_law 2471 = .ok (.aload_n 1, 1) := by decide +kernel
theorem dL_law_2472 : decode cL_law 2472 = .ok (.aload_n 0, 1) := by decide +kernel
theorem dL_law_2473 : decode cL_law 2473 = .ok (.iload 5, 2) := by decide +kernel
theorem dL_law_2475 : decode cL_law 2475 = .ok (.iconst 1, 1) := by decide +kernel
theorem dL_law_2476 : decode cL_law 2476 = .ok (.iadd, 1) := by decide +kernel
theorem dL_law_2477 : decode cL_law 2477 = .ok (.iaload, 1) := by decide +kernel
theorem dL_law_2478 : decode cL_law 2478 = .ok (.aload_n 3, 1) := by decide +kernel
theorem dL_law_2479 : decode cL_law 2479 = .ok (.invokestatic 289, 3) := by decide +kernel
theorem dL_law_2482 : decode cL_law 2482 = .ok (.istore 6, 2) := by decide +kernel
theorem dL_law_2484 : decode cL_law 2484 = .ok (.aload_n 2, 1) := by decide +kernel
theorem dL_law_2485 : decode cL_law 2485 = .ok (.aload_n 0, 1) := by decide +kernel
theorem dL_law_2486 : decode cL_law 2486 = .ok (.iload 5, 2) := by decide +kernel
theorem dL_law_2488 : decode cL_law 2488 = .ok (.iconst 1, 1) := by decide +kernel
theorem dL_law_2489 : decode cL_law 2489 = .ok (.iadd, 1) := by decide +kernel
theorem dL_law_2490 : decode cL_law 2490 = .ok (.iaload, 1) := by decide +kernel
theorem dL_law_2491 : decode cL_law 2491 = .ok (.invokevirtual 291, 3) := by decide +kernel
theorem dL_law_2494 : decode cL_law 2494 = .ok (.istore 7, 2) := by decide +kernel
theorem dL_law_2496 : decode cL_law 2496 = .ok (.aload_n 2, 1) := by decide +kernel
theorem dL_law_2497 : decode cL_law 2497 = .ok (.invokevirtual 156, 3) := by decide +kernel
theorem dL_law_2500 : decode cL_law 2500 = .ok (.iload 6, 2) := by decide +kernel
theorem dL_law_2502 : decode cL_law 2502 = .ok (.if_icmp .eq 5, 3) := by decide +kernel
theorem dL_law_2507 : decode cL_law 2507 = .ok (.iload 6, 2) := by decide +kernel
theorem dL_law_2509 : decode cL_law 2509 = .ok (.ifCond .ne 15, 3) := by decide +kernel
theorem dL_law_2512 : decode cL_law 2512 = .ok (.aload_n 3, 1) := by decide +kernel
theorem dL_law_2513 : decode cL_law 2513 = .ok (.iconst 0, 1) := by decide +kernel
theorem dL_law_2514 : decode cL_law 2514 = .ok (.laload, 1) := by decide +kernel
theorem dL_law_2515 : decode cL_law 2515 = .ok (.iload 7, 2) := by decide +kernel
theorem dL_law_2517 : decode cL_law 2517 = .ok (.i2l, 1) := by decide +kernel
theorem dL_law_2518 : decode cL_law 2518 = .ok (.lcmp, 1) := by decide +kernel
theorem dL_law_2519 : decode cL_law 2519 = .ok (.ifCond .eq 5, 3) := by decide +kernel
theorem dL_law_2524 : decode cL_law 2524 = .ok (.goto 423, 3) := by decide +kernel
theorem dL_law_2527 : decode cL_law 2527 = .ok (.aload_n 1, 1) := by decide +kernel
theorem dL_law_2528 : decode cL_law 2528 = .ok (.invokevirtual 292, 3) := by decide +kernel
theorem dL_law_2531 : decode cL_law 2531 = .ok (.aload_n 2, 1) := by decide +kernel
theorem dL_law_2532 : decode cL_law 2532 = .ok (.invokevirtual 295, 3) := by decide +kernel
theorem dL_law_2535 : decode cL_law 2535 = .ok (.if_icmp .eq 412, 3) := by decide +kernel
theorem dL_law_2540 : decode cL_law 2540 = .ok (.aload_n 1, 1) := by decide +kernel
theorem dL_law_2541 : decode cL_law 2541 = .ok (.invokevirtual 296, 3) := by decide +kernel
theorem dL_law_2544 : decode cL_law 2544 = .ok (.aload_n 2, 1) := by decide +kernel
theorem dL_law_2545 : decode cL_law 2545 = .ok (.invokevirtual 299, 3) := by decide +kernel
theorem dL_law_2548 : decode cL_law 2548 = .ok (.if_icmp .eq 399, 3) := by decide +kernel
theorem dL_law_2553 : decode cL_law 2553 = .ok (.aload_n 1, 1) := by decide +kernel
theorem dL_law_2554 : decode cL_law 2554 = .ok (.invokevirtual 300, 3) := by decide +kernel
theorem dL_law_2557 : decode cL_law 2557 = .ok (.aload_n 2, 1) := by decide +kernel
theorem dL_law_2558 : decode cL_law 2558 = .ok (.invokevirtual 303, 3) := by decide +kernel
theorem dL_law_2561 : decode cL_law 2561 = .ok (.if_icmp .eq 386, 3) := by decide +kernel
theorem dL_law_2566 : decode cL_law 2566 = .ok (.aload_n 1, 1) := by decide +kernel
theorem dL_law_2567 : decode cL_law 2567 = .ok (.aload_n 3, 1) := by decide +kernel
theorem dL_law_2568 : decode cL_law 2568 = .ok (.invokestatic 304, 3) := by decide +kernel
theorem dL_law_2571 : decode cL_law 2571 = .ok (.istore 6, 2) := by decide +kernel
theorem dL_law_2573 : decode cL_law 2573 = .ok (.aload_n 2, 1) := by decide +kernel
theorem dL_law_2574 : decode cL_law 2574 = .ok (.invokevirtual 306, 3) := by decide +kernel
theorem dL_law_2577 : decode cL_law 2577 = .ok (.istore 7, 2) := by decide +kernel
theorem dL_law_2579 : decode cL_law 2579 = .ok (.aload_n 2, 1) := by decide +kernel
theorem dL_law_2580 : decode cL_law 2580 = .ok (.invokevirtual 156, 3) := by decide +kernel
theorem dL_law_2583 : decode cL_law 2583 = .ok (.iload 6, 2) := by decide +kernel
theorem dL_law_2585 : decode cL_law 2585 = .ok (.if_icmp .eq 5, 3) := by decide +kernel
theorem dL_law_2590 : decode cL_law 2590 = .ok (.iload 6, 2) := by decide +kernel
theorem dL_law_2592 : decode cL_law 2592 = .ok (.ifCond .ne 22, 3) := by decide +kernel
theorem dL_law_2595 : decode cL_law 2595 = .ok (.aload_n 3, 1) := by decide +kernel
theorem dL_law_2596 : decode cL_law 2596 = .ok (.iconst 0, 1) := by decide +kernel
theorem dL_law_2597 : decode cL_law 2597 = .ok (.laload, 1) := by decide +kernel
theorem dL_law_2598 : decode cL_law 2598 = .ok (.iload 7, 2) := by decide +kernel
theorem dL_law_2600 : decode cL_law 2600 = .ok (.ifCond .eq 7, 3) := by decide +kernel
theorem dL_law_2607 : decode cL_law 2607 = .ok (.lconst 0, 1) := by decide +kernel
theorem dL_law_2608 : decode cL_law 2608 = .ok (.lcmp, 1) := by decide +kernel
theorem dL_law_2609 : decode cL_law 2609 = .ok (.ifCond .eq 5, 3) := by decide +kernel
theorem dL_law_2614 : decode cL_law 2614 = .ok (.goto 333, 3) := by decide +kernel
theorem dL_law_2617 : decode cL_law 2617 = .ok (.aload_n 1, 1) := by decide +kernel
theorem dL_law_2618 : decode cL_law 2618 = .ok (.aload_n 0, 1) := by decide +kernel
theorem dL_law_2619 : decode cL_law 2619 = .ok (.iload 5, 2) := by decide +kernel
theorem dL_law_2621 : decode cL_law 2621 = .ok (.iconst 1, 1) := by decide +kernel
theorem dL_law_2622 : decode cL_law 2622 = .ok (.iadd, 1) := by decide +kernel
theorem dL_law_2623 : decode cL_law 2623 = .ok (.iaload, 1) := by decide +kernel
theorem dL_law_2624 : decode cL_law 2624 = .ok (.aload_n 0, 1) := by decide +kernel
theorem dL_law_2625 : decode cL_law 2625 = .ok (.iload 5, 2) := by decide +kernel
theorem dL_law_2627 : decode cL_law 2627 = .ok (.iconst 2, 1) := by decide +kernel
theorem dL_law_2628 : decode cL_law 2628 = .ok (.iadd, 1) := by decide +kernel
theorem dL_law_2629 : decode cL_law 2629 = .ok (.iaload, 1) := by decide +kernel
theorem dL_law_2630 : decode cL_law 2630 = .ok (.aload_n 0, 1) := by decide +kernel
theorem dL_law_2631 : decode cL_law 2631 = .ok (.iload 5, 2) := by decide +kernel
theorem dL_law_2633 : decode cL_law 2633 = .ok (.iconst 3, 1) := by decide +kernel
theorem dL_law_2634 : decode cL_law 2634 = .ok (.iadd, 1) := by decide +kernel
theorem dL_law_2635 : decode cL_law 2635 = .ok (.iaload, 1) := by decide +kernel
theorem dL_law_2636 : decode cL_law 2636 = .ok (.aload_n 0, 1) := by decide +kernel
theorem dL_law_2637 : decode cL_law 2637 = .ok (.iload 5, 2) := by decide +kernel
theorem dL_law_2639 : decode cL_law 2639 = .ok (.iconst 4, 1) := by decide +kernel
theorem dL_law_2640 : decode cL_law 2640 = .ok (.iadd, 1) := by decide +kernel
theorem dL_law_2641 : decode cL_law 2641 = .ok (.iaload, 1) := by decide +kernel
theorem dL_law_2642 : decode cL_law 2642 = .ok (.aload_n 3, 1) := by decide +kernel
theorem dL_law_2643 : decode cL_law 2643 = .ok (.invokestatic 307, 3) := by decide +kernel
theorem dL_law_2646 : decode cL_law 2646 = .ok (.istore 6, 2) := by decide +kernel
theorem dL_law_2648 : decode cL_law 2648 = .ok (.aload_n 2, 1) := by decide +kernel
theorem dL_law_2649 : decode cL_law 2649 = .ok (.aload_n 0, 1) := by decide +kernel
theorem dL_law_2650 : decode cL_law 2650 = .ok (.iload 5, 2) := by decide +kernel
theorem dL_law_2652 : decode cL_law 2652 = .ok (.iconst 1, 1) := by decide +kernel
theorem dL_law_2653 : decode cL_law 2653 = .ok (.iadd, 1) := by decide +kernel
theorem dL_law_2654 : decode cL_law 2654 = .ok (.iaload, 1) := by decide +kernel
theorem dL_law_2655 : decode cL_law 2655 = .ok (.aload_n 0, 1) := by decide +kernel
theorem dL_law_2656 : decode cL_law 2656 = .ok (.iload 5, 2) := by decide +kernel
theorem dL_law_2658 : decode cL_law 2658 = .ok (.iconst 2, 1) := by decide +kernel
theorem dL_law_2659 : decode cL_law 2659 = .ok (.iadd, 1) := by decide +kernel
theorem dL_law_2660 : decode cL_law 2660 = .ok (.iaload, 1) := by decide +kernel
theorem dL_law_2661 : decode cL_law 2661 = .ok (.aload_n 0, 1) := by decide +kernel
theorem dL_law_2662 : decode cL_law 2662 = .ok (.iload 5, 2) := by decide +kernel
theorem dL_law_2664 : decode cL_law 2664 = .ok (.iconst 3, 1) := by decide +kernel
theorem dL_law_2665 : decode cL_law 2665 = .ok (.iadd, 1) := by decide +kernel
theorem dL_law_2666 : decode cL_law 2666 = .ok (.iaload, 1) := by decide +kernel
theorem dL_law_2667 : decode cL_law 2667 = .ok (.aload_n 0, 1) := by decide +kernel
theorem dL_law_2668 : decode cL_law 2668 = .ok (.iload 5, 2) := by decide +kernel
theorem dL_law_2670 : decode cL_law 2670 = .ok (.iconst 4, 1) := by decide +kernel
theorem dL_law_2671 : decode cL_law 2671 = .ok (.iadd, 1) := by decide +kernel
theorem dL_law_2672 : decode cL_law 2672 = .ok (.iaload, 1) := by decide +kernel
theorem dL_law_2673 : decode cL_law 2673 = .ok (.invokevirtual 309, 3) := by decide +kernel
theorem dL_law_2676 : decode cL_law 2676 = .ok (.istore 7, 2) := by decide +kernel
theorem dL_law_2678 : decode cL_law 2678 = .ok (.aload_n 2, 1) := by decide +kernel
theorem dL_law_2679 : decode cL_law 2679 = .ok (.invokevirtual 156, 3) := by decide +kernel
theorem dL_law_2682 : decode cL_law 2682 = .ok (.iload 6, 2) := by decide +kernel
theorem dL_law_2684 : decode cL_law 2684 = .ok (.if_icmp .eq 5, 3) := by decide +kernel
theorem dL_law_2689 : decode cL_law 2689 = .ok (.iload 6, 2) := by decide +kernel
theorem dL_law_2691 : decode cL_law 2691 = .ok (.ifCond .ne 15, 3) := by decide +kernel
theorem dL_law_2694 : decode cL_law 2694 = .ok (.aload_n 3, 1) := by decide +kernel
theorem dL_law_2695 : decode cL_law 2695 = .ok (.iconst 0, 1) := by decide +kernel
theorem dL_law_2696 : decode cL_law 2696 = .ok (.laload, 1) := by decide +kernel
theorem dL_law_2697 : decode cL_law 2697 = .ok (.iload 7, 2) := by decide +kernel
theorem dL_law_2699 : decode cL_law 2699 = .ok (.i2l, 1) := by decide +kernel
theorem dL_law_2700 : decode cL_law 2700 = .ok (.lcmp, 1) := by decide +kernel
theorem dL_law_2701 : decode cL_law 2701 = .ok (.ifCond .eq 5, 3) := by decide +kernel
theorem dL_law_2706 : decode cL_law 2706 = .ok (.goto 241, 3) := by decide +kernel
theorem dL_law_2709 : decode cL_law 2709 = .ok (.aload_n 1, 1) := by decide +kernel
theorem dL_law_2710 : decode cL_law 2710 = .ok (.aload_n 0, 1) := by decide +kernel
theorem dL_law_2711 : decode cL_law 2711 = .ok (.iload 5, 2) := by decide +kernel
theorem dL_law_2713 : decode cL_law 2713 = .ok (.iconst 1, 1) := by decide +kernel
theorem dL_law_2714 : decode cL_law 2714 = .ok (.iadd, 1) := by decide +kernel
theorem dL_law_2715 : decode cL_law 2715 = .ok (.iaload, 1) := by decide +kernel
theorem dL_law_2716 : decode cL_law 2716 = .ok (.aload_n 0, 1) := by decide +kernel
theorem dL_law_2717 : decode cL_law 2717 = .ok (.iload 5, 2) := by decide +kernel
theorem dL_law_2719 : decode cL_law 2719 = .ok (.iconst 2, 1) := by decide +kernel
theorem dL_law_2720 : decode cL_law 2720 = .ok (.iadd, 1) := by decide +kernel
theorem dL_law_2721 : decode cL_law 2721 = .ok (.iaload, 1) := by decide +kernel
theorem dL_law_2722 : decode cL_law 2722 = .ok (.aload_n 0, 1) := by decide +kernel
theorem dL_law_2723 : decode cL_law 2723 = .ok (.iload 5, 2) := by decide +kernel
theorem dL_law_2725 : decode cL_law 2725 = .ok (.iconst 3, 1) := by decide +kernel
theorem dL_law_2726 : decode cL_law 2726 = .ok (.iadd, 1) := by decide +kernel
theorem dL_law_2727 : decode cL_law 2727 = .ok (.iaload, 1) := by decide +kernel
theorem dL_law_2728 : decode cL_law 2728 = .ok (.aload_n 3, 1) := by decide +kernel
theorem dL_law_2729 : decode cL_law 2729 = .ok (.invokestatic 310, 3) := by decide +kernel
theorem dL_law_2732 : decode cL_law 2732 = .ok (.istore 6, 2) := by decide +kernel
theorem dL_law_2734 : decode cL_law 2734 = .ok (.aload_n 2, 1) := by decide +kernel
theorem dL_law_2735 : decode cL_law 2735 = .ok (.aload_n 0, 1) := by decide +kernel
theorem dL_law_2736 : decode cL_law 2736 = .ok (.iload 5, 2) := by decide +kernel
theorem dL_law_2738 : decode cL_law 2738 = .ok (.iconst 1, 1) := by decide +kernel
theorem dL_law_2739 : decode cL_law 2739 = .ok (.iadd, 1) := by decide +kernel
theorem dL_law_2740 : decode cL_law 2740 = .ok (.iaload, 1) := by decide +kernel
theorem dL_law_2741 : decode cL_law 2741 = .ok (.aload_n 0, 1) := by decide +kernel
theorem dL_law_2742 : decode cL_law 2742 = .ok (.iload 5, 2) := by decide +kernel
theorem dL_law_2744 : decode cL_law 2744 = .ok (.iconst 2, 1) := by decide +kernel
theorem dL_law_2745 : decode cL_law 2745 = .ok (.iadd, 1) := by decide +kernel
theorem dL_law_2746 : decode cL_law 2746 = .ok (.iaload, 1) := by decide +kernel
theorem dL_law_2747 : decode cL_law 2747 = .ok (.aload_n 0, 1) := by decide +kernel
theorem dL_law_2748 : decode cL_law 2748 = .ok (.iload 5, 2) := by decide +kernel
theorem dL_law_2750 : decode cL_law 2750 = .ok (.iconst 3, 1) := by decide +kernel
theorem dL_law_2751 : decode cL_law 2751 = .ok (.iadd, 1) := by decide +kernel
theorem dL_law_2752 : decode cL_law 2752 = .ok (.iaload, 1) := by decide +kernel
theorem dL_law_2753 : decode cL_law 2753 = .ok (.invokevirtual 312, 3) := by decide +kernel
theorem dL_law_2756 : decode cL_law 2756 = .ok (.istore 7, 2) := by decide +kernel
theorem dL_law_2758 : decode cL_law 2758 = .ok (.aload_n 2, 1) := by decide +kernel
theorem dL_law_2759 : decode cL_law 2759 = .ok (.invokevirtual 156, 3) := by decide +kernel
theorem dL_law_2762 : decode cL_law 2762 = .ok (.iload 6, 2) := by decide +kernel
theorem dL_law_2764 : decode cL_law 2764 = .ok (.if_icmp .eq 5, 3) := by decide +kernel
theorem dL_law_2769 : decode cL_law 2769 = .ok (.iload 6, 2) := by decide +kernel
theorem dL_law_2771 : decode cL_law 2771 = .ok (.ifCond .ne 15, 3) := by decide +kernel
theorem dL_law_2774 : decode cL_law 2774 = .ok (.aload_n 3, 1) := by decide +kernel
theorem dL_law_2775 : decode cL_law 2775 = .ok (.iconst 0, 1) := by decide +kernel
theorem dL_law_2776 : decode cL_law 2776 = .ok (.laload, 1) := by decide +kernel
theorem dL_law_2777 : decode cL_law 2777 = .ok (.iload 7, 2) := by decide +kernel
theorem dL_law_2779 : decode cL_law 2779 = .ok (.i2l, 1) := by decide +kernel
theorem dL_law_2780 : decode cL_law 2780 = .ok (.lcmp, 1) := by decide +kernel
theorem dL_law_2781 : decode cL_law 2781 = .ok (.ifCond .eq 5, 3) := by decide +kernel
theorem dL_law_2786 : decode cL_law 2786 = .ok (.goto 161, 3) := by decide +kernel
theorem dL_law_2789 : decode cL_law 2789 = .ok (.aload_n 1, 1) := by decide +kernel
theorem dL_law_2790 : decode cL_law 2790 = .ok (.invokevirtual 313, 3) := by decide +kernel
theorem dL_law_2793 : decode cL_law 2793 = .ok (.aload_n 2, 1) := by decide +kernel
theorem dL_law_2794 : decode cL_law 2794 = .ok (.invokevirtual 317, 3) := by decide +kernel
theorem dL_law_2797 : decode cL_law 2797 = .ok (.lcmp, 1) := by decide +kernel
theorem dL_law_2798 : decode cL_law 2798 = .ok (.ifCond .eq 149, 3) := by decide +kernel
theorem dL_law_2803 : decode cL_law 2803 = .ok (.aload_n 1, 1) := by decide +kernel
theorem dL_law_2804 : decode cL_law 2804 = .ok (.aload 4, 2) := by decide +kernel
theorem dL_law_2806 : decode cL_law 2806 = .ok (.invokestatic 318, 3) := by decide +kernel
theorem dL_law_2809 : decode cL_law 2809 = .ok (.istore 6, 2) := by decide +kernel
theorem dL_law_2811 : decode cL_law 2811 = .ok (.aload_n 2, 1) := by decide +kernel
theorem dL_law_2812 : decode cL_law 2812 = .ok (.invokevirtual 321, 3) := by decide +kernel
theorem dL_law_2815 : decode cL_law 2815 = .ok (.fstore 7, 2) := by decide +kernel
theorem dL_law_2817 : decode cL_law 2817 = .ok (.aload_n 2, 1) := by decide +kernel
theorem dL_law_2818 : decode cL_law 2818 = .ok (.invokevirtual 156, 3) := by decide +kernel
theorem dL_law_2821 : decode cL_law 2821 = .ok (.iload 6, 2) := by decide +kernel
theorem dL_law_2823 : decode cL_law 2823 = .ok (.if_icmp .eq 5, 3) := by decide +kernel
theorem dL_law_2828 : decode cL_law 2828 = .ok (.iload 6, 2) := by decide +kernel
theorem dL_law_2830 : decode cL_law 2830 = .ok (.ifCond .ne 36, 3) := by decide +kernel
theorem dL_law_2866 : decode cL_law 2866 = .ok (.goto 81, 3) := by decide +kernel
theorem dL_law_2869 : decode cL_law 2869 = .ok (.aload_n 1, 1) := by decide +kernel
theorem dL_law_2870 : decode cL_law 2870 = .ok (.aload 4, 2) := by decide +kernel
theorem dL_law_2872 : decode cL_law 2872 = .ok (.invokestatic 322, 3) := by decide +kernel
theorem dL_law_2875 : decode cL_law 2875 = .ok (.istore 6, 2) := by decide +kernel
theorem dL_law_2877 : decode cL_law 2877 = .ok (.aload_n 2, 1) := by decide +kernel
theorem dL_law_2878 : decode cL_law 2878 = .ok (.invokevirtual 324, 3) := by decide +kernel
theorem dL_law_2881 : decode cL_law 2881 = .ok (.dstore 7, 2) := by decide +kernel
theorem dL_law_2883 : decode cL_law 2883 = .ok (.aload_n 2, 1) := by decide +kernel
theorem dL_law_2884 : decode cL_law 2884 = .ok (.invokevirtual 156, 3) := by decide +kernel
theorem dL_law_2887 : decode cL_law 2887 = .ok (.iload 6, 2) := by decide +kernel
theorem dL_law_2889 : decode cL_law 2889 = .ok (.if_icmp .eq 5, 3) := by decide +kernel
theorem dL_law_2894 : decode cL_law 2894 = .ok (.iload 6, 2) := by decide +kernel
theorem dL_law_2896 : decode cL_law 2896 = .ok (.ifCond .ne 35, 3) := by decide +kernel
theorem dL_law_2930 : decode cL_law 2930 = .ok (.ireturn, 1) := by decide +kernel
theorem dL_law_2931 : decode cL_law 2931 = .ok (.goto 16, 3) := by decide +kernel
theorem dL_law_2934 : decode cL_law 2934 = .ok (.aload_n 1, 1) := by decide +kernel
theorem dL_law_2935 : decode cL_law 2935 = .ok (.invokevirtual 325, 3) := by decide +kernel
theorem dL_law_2938 : decode cL_law 2938 = .ok (.aload_n 2, 1) := by decide +kernel
theorem dL_law_2939 : decode cL_law 2939 = .ok (.invokevirtual 328, 3) := by decide +kernel
theorem dL_law_2942 : decode cL_law 2942 = .ok (.if_icmp .eq 5, 3) := by decide +kernel
theorem dL_law_2945 : decode cL_law 2945 = .ok (.iconst 0, 1) := by decide +kernel
theorem dL_law_2946 : decode cL_law 2946 = .ok (.ireturn, 1) := by decide +kernel
theorem dL_law_2947 : decode cL_law 2947 = .ok (.iinc 5 5, 3) := by decide +kernel
theorem dL_law_2950 : decode cL_law 2950 = .ok (.goto (-2922), 3) := by decide +kernel
theorem dL_law_2953 : decode cL_law 2953 = .ok (.iconst 1, 1) := by decide +kernel
theorem dL_law_2954 : decode cL_law 2954 = .ok (.ireturn, 1) := by decide +kernel
