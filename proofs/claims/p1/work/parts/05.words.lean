theorem tw_0 : Cond.methodLink RX8 3 objectInit ∈ BT := bt_tbl (List.mem_of_getElem? (i := 60) (by decide +kernel)) rfl
theorem tw_1 : Cond.instanceMethod objectInit ∈ BT := bt_tbl (List.mem_of_getElem? (i := 46) (by decide +kernel)) rfl
theorem tw_2 : Cond.code objectInit ⟨#[0xb1]⟩ 1 none ∈ BT := bt_tbl (List.mem_of_getElem? (i := 47) rfl) rfl
theorem tw_3 : Cond.fieldLink RX8 9 "Cycleworks$Whole" "first" "J" ∈ BT := bt_tbl (List.mem_of_getElem? (i := 61) (by decide +kernel)) rfl
theorem tw_4 : Cond.arrayClass .long ∈ BT := bt_tbl (List.mem_of_getElem? (i := 72) (by decide +kernel)) rfl
theorem tw_5 : Cond.fieldLink RX8 13 "Cycleworks$Whole" "others" "[J" ∈ BT := bt_tbl (List.mem_of_getElem? (i := 62) (by decide +kernel)) rfl
theorem tw_6 : Cond.fieldLink RX8 17 "Cycleworks$Whole" "count" "I" ∈ BT := bt_tbl (List.mem_of_getElem? (i := 63) (by decide +kernel)) rfl
theorem tw_7 : Cond.methodLink RX0 3 objectInit ∈ BT := bt_tbl (List.mem_of_getElem? (i := 53) (by decide +kernel)) rfl
theorem tw_8 : Cond.arrayClass .int ∈ BT := bt_tbl (List.mem_of_getElem? (i := 71) (by decide +kernel)) rfl
theorem tw_9 : Cond.fieldLink RX0 11 "Cycleworks$Bodies" "capacities" "[I" ∈ BT := bt_tbl (List.mem_of_getElem? (i := 73) (by decide +kernel)) rfl
theorem tw_10 : Cond.classLink RX0 15 RX8 ∈ BT := bt_tbl (List.mem_of_getElem? (i := 54) (by decide +kernel)) rfl
theorem tw_11 : Cond.fieldLink RX0 17 "Cycleworks$Bodies" "energies" "[LCycleworks$Whole;" ∈ BT := bt_tbl (List.mem_of_getElem? (i := 74) (by decide +kernel)) rfl
theorem tw_12 : Cond.fieldLink RX0 21 "Cycleworks$Bodies" "count" "I" ∈ BT := bt_tbl (List.mem_of_getElem? (i := 75) (by decide +kernel)) rfl
theorem tw_13 : Cond.instantiable RX8 3 ∈ BT := bt_tbl (List.mem_of_getElem? (i := 56) (by decide +kernel)) rfl
theorem tw_14 : Cond.initialized RX8 ∈ BT := bt_tbl (List.mem_of_getElem? (i := 3) (by decide +kernel)) rfl
theorem tw_15 : Cond.methodLinkNest RX0 25 yX8_init "Cycleworks" ∈ BT := bt_tbl (List.mem_of_getElem? (i := 57) (by decide +kernel)) rfl
theorem tw_16 : Cond.instanceMethod yX8_init ∈ BT := bt_tbl (List.mem_of_getElem? (i := 58) (by decide +kernel)) rfl
theorem tw_17 : Cond.code yX8_init cX8_init 1 none ∈ BT := bt_tbl (List.mem_of_getElem? (i := 59) rfl) rfl
theorem tw_18 : Cond.fieldLink RX0 26 "Cycleworks$Bodies" "nothing" "LCycleworks$Whole;" ∈ BT := bt_tbl (List.mem_of_getElem? (i := 77) (by decide +kernel)) rfl
theorem tw_19 : Cond.fieldLink RX0 30 "Cycleworks$Bodies" "degrees" "LCycleworks$Whole;" ∈ BT := bt_tbl (List.mem_of_getElem? (i := 78) (by decide +kernel)) rfl
theorem tw_20 : Cond.fieldLink RX0 33 "Cycleworks$Bodies" "otherDegrees" "LCycleworks$Whole;" ∈ BT := bt_tbl (List.mem_of_getElem? (i := 79) (by decide +kernel)) rfl
theorem tw_21 : Cond.fieldLink RX0 36 "Cycleworks$Bodies" "share" "LCycleworks$Whole;" ∈ BT := bt_tbl (List.mem_of_getElem? (i := 80) (by decide +kernel)) rfl
theorem tw_22 : Cond.fieldLink RX0 39 "Cycleworks$Bodies" "rest" "LCycleworks$Whole;" ∈ BT := bt_tbl (List.mem_of_getElem? (i := 81) (by decide +kernel)) rfl
theorem tw_23 : Cond.methodLink RX7 1 objectInit ∈ BT := bt_tbl (List.mem_of_getElem? (i := 104) (by decide +kernel)) rfl
theorem tw_24 : Cond.fieldLink RX7 9 "Cycleworks$Table" "pressures" "[I" ∈ BT := bt_tbl (List.mem_of_getElem? (i := 105) (by decide +kernel)) rfl
theorem tw_25 : Cond.fieldLink RX7 13 "Cycleworks$Table" "boilings" "[I" ∈ BT := bt_tbl (List.mem_of_getElem? (i := 106) (by decide +kernel)) rfl
theorem tw_26 : Cond.fieldLink RX7 16 "Cycleworks$Table" "liquids" "[I" ∈ BT := bt_tbl (List.mem_of_getElem? (i := 107) (by decide +kernel)) rfl
theorem tw_27 : Cond.fieldLink RX7 19 "Cycleworks$Table" "vapours" "[I" ∈ BT := bt_tbl (List.mem_of_getElem? (i := 108) (by decide +kernel)) rfl
theorem tw_28 : Cond.fieldLink RX7 22 "Cycleworks$Table" "count" "I" ∈ BT := bt_tbl (List.mem_of_getElem? (i := 109) (by decide +kernel)) rfl
theorem tw_29 : Cond.methodLink RX4 1 objectInit ∈ BT := bt_tbl (List.mem_of_getElem? (i := 132) (by decide +kernel)) rfl
theorem tw_30 : Cond.fieldLink RX4 9 "Cycleworks$Round" "works" "[I" ∈ BT := bt_tbl (List.mem_of_getElem? (i := 133) (by decide +kernel)) rfl
theorem tw_31 : Cond.fieldLink RX4 15 "Cycleworks$Round" "heats" "[I" ∈ BT := bt_tbl (List.mem_of_getElem? (i := 134) (by decide +kernel)) rfl
theorem tw_32 : Cond.fieldLink RX4 18 "Cycleworks$Round" "losses" "[I" ∈ BT := bt_tbl (List.mem_of_getElem? (i := 135) (by decide +kernel)) rfl
theorem tw_33 : Cond.fieldLink RX4 21 "Cycleworks$Round" "pressuresAhead" "[I" ∈ BT := bt_tbl (List.mem_of_getElem? (i := 136) (by decide +kernel)) rfl
theorem tw_34 : Cond.fieldLink RX4 24 "Cycleworks$Round" "heatsAhead" "[I" ∈ BT := bt_tbl (List.mem_of_getElem? (i := 137) (by decide +kernel)) rfl
theorem tw_35 : Cond.fieldLink RX4 27 "Cycleworks$Round" "count" "I" ∈ BT := bt_tbl (List.mem_of_getElem? (i := 138) (by decide +kernel)) rfl
theorem tw_36 : Cond.methodLink RX3 3 objectInit ∈ BT := bt_tbl (List.mem_of_getElem? (i := 126) (by decide +kernel)) rfl
theorem tw_37 : Cond.arrayClass .char ∈ BT := bt_tbl (List.mem_of_getElem? (i := 152) (by decide +kernel)) rfl
theorem tw_38 : Cond.fieldLink RX3 11 "Cycleworks$Ring" "kinds" "[C" ∈ BT := bt_tbl (List.mem_of_getElem? (i := 153) (by decide +kernel)) rfl
theorem tw_39 : Cond.fieldLink RX3 15 "Cycleworks$Ring" "goals" "[I" ∈ BT := bt_tbl (List.mem_of_getElem? (i := 154) (by decide +kernel)) rfl
theorem tw_40 : Cond.fieldLink RX3 19 "Cycleworks$Ring" "qualities" "[I" ∈ BT := bt_tbl (List.mem_of_getElem? (i := 155) (by decide +kernel)) rfl
theorem tw_41 : Cond.fieldLink RX3 22 "Cycleworks$Ring" "count" "I" ∈ BT := bt_tbl (List.mem_of_getElem? (i := 156) (by decide +kernel)) rfl
theorem tw_42 : Cond.fieldLink RX3 26 "Cycleworks$Ring" "isSolved" "Z" ∈ BT := bt_tbl (List.mem_of_getElem? (i := 157) (by decide +kernel)) rfl
theorem tw_43 : Cond.classLink RX3 30 RX4 ∈ BT := bt_tbl (List.mem_of_getElem? (i := 127) (by decide +kernel)) rfl
theorem tw_44 : Cond.instantiable RX4 6 ∈ BT := bt_tbl (List.mem_of_getElem? (i := 128) (by decide +kernel)) rfl
theorem tw_45 : Cond.initialized RX4 ∈ BT := bt_tbl (List.mem_of_getElem? (i := 6) (by decide +kernel)) rfl
theorem tw_46 : Cond.methodLinkNest RX3 32 yX4_init "Cycleworks" ∈ BT := bt_tbl (List.mem_of_getElem? (i := 129) (by decide +kernel)) rfl
theorem tw_47 : Cond.instanceMethod yX4_init ∈ BT := bt_tbl (List.mem_of_getElem? (i := 130) (by decide +kernel)) rfl
theorem tw_48 : Cond.code yX4_init cX4_init 1 none ∈ BT := bt_tbl (List.mem_of_getElem? (i := 131) rfl) rfl
theorem tw_49 : Cond.fieldLink RX3 33 "Cycleworks$Ring" "solved" "LCycleworks$Round;" ∈ BT := bt_tbl (List.mem_of_getElem? (i := 159) (by decide +kernel)) rfl
theorem tw_50 : Cond.fieldLink RX3 37 "Cycleworks$Ring" "trial" "LCycleworks$Round;" ∈ BT := bt_tbl (List.mem_of_getElem? (i := 161) (by decide +kernel)) rfl
theorem tw_51 : Cond.fieldLink RX3 40 "Cycleworks$Ring" "pressure" "I" ∈ BT := bt_tbl (List.mem_of_getElem? (i := 162) (by decide +kernel)) rfl
theorem tw_52 : Cond.fieldLink RX3 43 "Cycleworks$Ring" "heat" "I" ∈ BT := bt_tbl (List.mem_of_getElem? (i := 163) (by decide +kernel)) rfl
theorem tw_53 : Cond.constantLong RX8 33 (1125899906842623) ∈ BT := bt_tbl (List.mem_of_getElem? (i := 199) (by decide +kernel)) rfl
theorem tw_54 : Cond.constantLong RX8 35 (1125899906842624) ∈ BT := bt_tbl (List.mem_of_getElem? (i := 200) (by decide +kernel)) rfl
theorem tw_55 : Cond.fieldLink RX1 60 "Cycleworks$Cylinder" "amount" "I" ∈ BT := bt_tbl (List.mem_of_getElem? (i := 210) (by decide +kernel)) rfl
theorem tw_56 : Cond.fieldLink RX1 63 "Cycleworks$Cylinder" "volume" "I" ∈ BT := bt_tbl (List.mem_of_getElem? (i := 211) (by decide +kernel)) rfl
theorem tw_57 : Cond.fieldLink RX1 27 "Cycleworks$Cylinder" "energy" "LCycleworks$Whole;" ∈ BT := bt_tbl (List.mem_of_getElem? (i := 213) (by decide +kernel)) rfl
theorem tw_58 : Cond.methodLink RX1 66 yX8_set ∈ BT := bt_tbl (List.mem_of_getElem? (i := 195) (by decide +kernel)) rfl
theorem tw_59 : Cond.instanceMethod yX8_set ∈ BT := bt_tbl (List.mem_of_getElem? (i := 196) (by decide +kernel)) rfl
theorem tw_60 : Cond.selects RX8 yX8_set yX8_set ∈ BT := bt_tbl (List.mem_of_getElem? (i := 197) (by decide +kernel)) rfl
theorem tw_61 : Cond.code yX8_set cX8_set 3 none ∈ BT := bt_tbl (List.mem_of_getElem? (i := 198) rfl) rfl
theorem tw_62 : Cond.methodLink RX1 1 objectInit ∈ BT := bt_tbl (List.mem_of_getElem? (i := 188) (by decide +kernel)) rfl
theorem tw_63 : Cond.fieldLink RX1 9 "Cycleworks$Cylinder" "kinds" "[C" ∈ BT := bt_tbl (List.mem_of_getElem? (i := 205) (by decide +kernel)) rfl
theorem tw_64 : Cond.fieldLink RX1 13 "Cycleworks$Cylinder" "goals" "[I" ∈ BT := bt_tbl (List.mem_of_getElem? (i := 206) (by decide +kernel)) rfl
theorem tw_65 : Cond.fieldLink RX1 17 "Cycleworks$Cylinder" "partners" "[I" ∈ BT := bt_tbl (List.mem_of_getElem? (i := 207) (by decide +kernel)) rfl
theorem tw_66 : Cond.fieldLink RX1 20 "Cycleworks$Cylinder" "count" "I" ∈ BT := bt_tbl (List.mem_of_getElem? (i := 208) (by decide +kernel)) rfl
theorem tw_67 : Cond.classLink RX1 24 RX8 ∈ BT := bt_tbl (List.mem_of_getElem? (i := 189) (by decide +kernel)) rfl
theorem tw_68 : Cond.methodLinkNest RX1 26 yX8_init "Cycleworks" ∈ BT := bt_tbl (List.mem_of_getElem? (i := 190) (by decide +kernel)) rfl
theorem tw_69 : Cond.fieldLink RX1 31 "Cycleworks$Cylinder" "energyBehind" "LCycleworks$Whole;" ∈ BT := bt_tbl (List.mem_of_getElem? (i := 215) (by decide +kernel)) rfl
theorem tw_70 : Cond.fieldLink RX1 34 "Cycleworks$Cylinder" "pressure" "LCycleworks$Whole;" ∈ BT := bt_tbl (List.mem_of_getElem? (i := 216) (by decide +kernel)) rfl
theorem tw_71 : Cond.fieldLink RX1 37 "Cycleworks$Cylinder" "card" "[I" ∈ BT := bt_tbl (List.mem_of_getElem? (i := 217) (by decide +kernel)) rfl
theorem tw_72 : Cond.fieldLink RX1 40 "Cycleworks$Cylinder" "marks" "I" ∈ BT := bt_tbl (List.mem_of_getElem? (i := 218) (by decide +kernel)) rfl
theorem tw_73 : Cond.fieldLink RX1 43 "Cycleworks$Cylinder" "ran" "Z" ∈ BT := bt_tbl (List.mem_of_getElem? (i := 219) (by decide +kernel)) rfl
theorem tw_74 : Cond.fieldLink RX1 47 "Cycleworks$Cylinder" "ended" "Z" ∈ BT := bt_tbl (List.mem_of_getElem? (i := 221) (by decide +kernel)) rfl
theorem tw_75 : Cond.methodLink RX1 50 yX1_fill ∈ BT := bt_tbl (List.mem_of_getElem? (i := 191) (by decide +kernel)) rfl
theorem tw_76 : Cond.instanceMethod yX1_fill ∈ BT := bt_tbl (List.mem_of_getElem? (i := 192) (by decide +kernel)) rfl
theorem tw_77 : Cond.selects RX1 yX1_fill yX1_fill ∈ BT := bt_tbl (List.mem_of_getElem? (i := 193) (by decide +kernel)) rfl
theorem tw_78 : Cond.initialized RX1 ∈ BT := bt_tbl (List.mem_of_getElem? (i := 7) (by decide +kernel)) rfl
theorem tw_79 : Cond.code yX1_fill cX1_fill 4 none ∈ BT := bt_tbl (List.mem_of_getElem? (i := 194) rfl) rfl
theorem tw_80 : Cond.methodLink RX5 3 objectInit ∈ BT := bt_tbl (List.mem_of_getElem? (i := 255) (by decide +kernel)) rfl
theorem tw_81 : Cond.fieldLink RX5 11 "Cycleworks$Streams" "starts" "[I" ∈ BT := bt_tbl (List.mem_of_getElem? (i := 256) (by decide +kernel)) rfl
theorem tw_82 : Cond.fieldLink RX5 15 "Cycleworks$Streams" "ends" "[I" ∈ BT := bt_tbl (List.mem_of_getElem? (i := 257) (by decide +kernel)) rfl
theorem tw_83 : Cond.fieldLink RX5 18 "Cycleworks$Streams" "flows" "[I" ∈ BT := bt_tbl (List.mem_of_getElem? (i := 258) (by decide +kernel)) rfl
theorem tw_84 : Cond.fieldLink RX5 21 "Cycleworks$Streams" "count" "I" ∈ BT := bt_tbl (List.mem_of_getElem? (i := 259) (by decide +kernel)) rfl
theorem tw_85 : Cond.methodLink RX2 1 objectInit ∈ BT := bt_tbl (List.mem_of_getElem? (i := 274) (by decide +kernel)) rfl
theorem tw_86 : Cond.fieldLink RX2 7 "Cycleworks$Governor" "set" "I" ∈ BT := bt_tbl (List.mem_of_getElem? (i := 275) (by decide +kernel)) rfl
theorem tw_87 : Cond.fieldLink RX2 13 "Cycleworks$Governor" "gain" "I" ∈ BT := bt_tbl (List.mem_of_getElem? (i := 277) (by decide +kernel)) rfl
theorem tw_88 : Cond.fieldLink RX2 16 "Cycleworks$Governor" "stiction" "I" ∈ BT := bt_tbl (List.mem_of_getElem? (i := 278) (by decide +kernel)) rfl
theorem tw_89 : Cond.fieldLink RX2 19 "Cycleworks$Governor" "limit" "I" ∈ BT := bt_tbl (List.mem_of_getElem? (i := 279) (by decide +kernel)) rfl
theorem tw_90 : Cond.fieldLink RX2 22 "Cycleworks$Governor" "load" "I" ∈ BT := bt_tbl (List.mem_of_getElem? (i := 281) (by decide +kernel)) rfl
theorem tw_91 : Cond.fieldLink RX2 25 "Cycleworks$Governor" "speed" "I" ∈ BT := bt_tbl (List.mem_of_getElem? (i := 283) (by decide +kernel)) rfl
theorem tw_92 : Cond.fieldLink RX2 28 "Cycleworks$Governor" "valve" "I" ∈ BT := bt_tbl (List.mem_of_getElem? (i := 285) (by decide +kernel)) rfl
theorem tw_93 : Cond.fieldLink RX2 31 "Cycleworks$Governor" "lastWay" "I" ∈ BT := bt_tbl (List.mem_of_getElem? (i := 287) (by decide +kernel)) rfl
theorem tw_94 : Cond.fieldLink RX2 34 "Cycleworks$Governor" "turns" "I" ∈ BT := bt_tbl (List.mem_of_getElem? (i := 288) (by decide +kernel)) rfl
theorem tw_95 : Cond.fieldLink RX2 37 "Cycleworks$Governor" "tripped" "Z" ∈ BT := bt_tbl (List.mem_of_getElem? (i := 290) (by decide +kernel)) rfl
theorem tw_96 : Cond.methodLink RX6 1 objectInit ∈ BT := bt_tbl (List.mem_of_getElem? (i := 318) (by decide +kernel)) rfl
theorem tw_97 : Cond.fieldLink RX6 7 "Cycleworks$Sums" "work" "J" ∈ BT := bt_tbl (List.mem_of_getElem? (i := 319) (by decide +kernel)) rfl
theorem tw_98 : Cond.fieldLink RX6 13 "Cycleworks$Sums" "made" "I" ∈ BT := bt_tbl (List.mem_of_getElem? (i := 321) (by decide +kernel)) rfl
theorem tw_99 : Cond.fieldLink RX6 17 "Cycleworks$Sums" "moves" "I" ∈ BT := bt_tbl (List.mem_of_getElem? (i := 323) (by decide +kernel)) rfl
theorem tw_100 : Cond.fieldLink RX6 20 "Cycleworks$Sums" "makingMoves" "I" ∈ BT := bt_tbl (List.mem_of_getElem? (i := 325) (by decide +kernel)) rfl
theorem tw_101 : Cond.fieldLink RX6 23 "Cycleworks$Sums" "putIn" "J" ∈ BT := bt_tbl (List.mem_of_getElem? (i := 327) (by decide +kernel)) rfl
theorem tw_102 : Cond.methodLink RX9 1 objectInit ∈ BT := bt_tbl (List.mem_of_getElem? (i := 45) (by decide +kernel)) rfl
theorem tw_103 : Cond.classLink RX9 7 RX0 ∈ BT := bt_tbl (List.mem_of_getElem? (i := 48) (by decide +kernel)) rfl
theorem tw_104 : Cond.instantiable RX0 8 ∈ BT := bt_tbl (List.mem_of_getElem? (i := 49) (by decide +kernel)) rfl
theorem tw_105 : Cond.initialized RX0 ∈ BT := bt_tbl (List.mem_of_getElem? (i := 2) (by decide +kernel)) rfl
theorem tw_106 : Cond.methodLinkNest RX9 9 yX0_init "Cycleworks" ∈ BT := bt_tbl (List.mem_of_getElem? (i := 50) (by decide +kernel)) rfl
theorem tw_107 : Cond.instanceMethod yX0_init ∈ BT := bt_tbl (List.mem_of_getElem? (i := 51) (by decide +kernel)) rfl
theorem tw_108 : Cond.code yX0_init cX0_init 1 none ∈ BT := bt_tbl (List.mem_of_getElem? (i := 52) rfl) rfl
theorem tw_109 : Cond.fieldLink RX9 10 "Cycleworks" "bodies" "LCycleworks$Bodies;" ∈ BT := bt_tbl (List.mem_of_getElem? (i := 348) (by decide +kernel)) rfl
theorem tw_110 : Cond.classLink RX9 16 RX7 ∈ BT := bt_tbl (List.mem_of_getElem? (i := 99) (by decide +kernel)) rfl
theorem tw_111 : Cond.instantiable RX7 5 ∈ BT := bt_tbl (List.mem_of_getElem? (i := 100) (by decide +kernel)) rfl
theorem tw_112 : Cond.initialized RX7 ∈ BT := bt_tbl (List.mem_of_getElem? (i := 4) (by decide +kernel)) rfl
theorem tw_113 : Cond.methodLinkNest RX9 18 yX7_init "Cycleworks" ∈ BT := bt_tbl (List.mem_of_getElem? (i := 101) (by decide +kernel)) rfl
theorem tw_114 : Cond.instanceMethod yX7_init ∈ BT := bt_tbl (List.mem_of_getElem? (i := 102) (by decide +kernel)) rfl
theorem tw_115 : Cond.code yX7_init cX7_init 1 none ∈ BT := bt_tbl (List.mem_of_getElem? (i := 103) rfl) rfl
theorem tw_116 : Cond.fieldLink RX9 19 "Cycleworks" "table" "LCycleworks$Table;" ∈ BT := bt_tbl (List.mem_of_getElem? (i := 349) (by decide +kernel)) rfl
theorem tw_117 : Cond.classLink RX9 23 RX3 ∈ BT := bt_tbl (List.mem_of_getElem? (i := 121) (by decide +kernel)) rfl
theorem tw_118 : Cond.instantiable RX3 9 ∈ BT := bt_tbl (List.mem_of_getElem? (i := 122) (by decide +kernel)) rfl
theorem tw_119 : Cond.initialized RX3 ∈ BT := bt_tbl (List.mem_of_getElem? (i := 5) (by decide +kernel)) rfl
theorem tw_120 : Cond.methodLinkNest RX9 25 yX3_init "Cycleworks" ∈ BT := bt_tbl (List.mem_of_getElem? (i := 123) (by decide +kernel)) rfl
theorem tw_121 : Cond.instanceMethod yX3_init ∈ BT := bt_tbl (List.mem_of_getElem? (i := 124) (by decide +kernel)) rfl
theorem tw_122 : Cond.code yX3_init cX3_init 1 none ∈ BT := bt_tbl (List.mem_of_getElem? (i := 125) rfl) rfl
theorem tw_123 : Cond.fieldLink RX9 26 "Cycleworks" "ring" "LCycleworks$Ring;" ∈ BT := bt_tbl (List.mem_of_getElem? (i := 350) (by decide +kernel)) rfl
theorem tw_124 : Cond.classLink RX9 30 RX1 ∈ BT := bt_tbl (List.mem_of_getElem? (i := 183) (by decide +kernel)) rfl
theorem tw_125 : Cond.instantiable RX1 13 ∈ BT := bt_tbl (List.mem_of_getElem? (i := 184) (by decide +kernel)) rfl
theorem tw_126 : Cond.methodLink RX9 32 yX1_init ∈ BT := bt_tbl (List.mem_of_getElem? (i := 185) (by decide +kernel)) rfl
theorem tw_127 : Cond.instanceMethod yX1_init ∈ BT := bt_tbl (List.mem_of_getElem? (i := 186) (by decide +kernel)) rfl
theorem tw_128 : Cond.code yX1_init cX1_init 1 none ∈ BT := bt_tbl (List.mem_of_getElem? (i := 187) rfl) rfl
theorem tw_129 : Cond.fieldLink RX9 33 "Cycleworks" "cylinder" "LCycleworks$Cylinder;" ∈ BT := bt_tbl (List.mem_of_getElem? (i := 351) (by decide +kernel)) rfl
theorem tw_130 : Cond.classLink RX9 37 RX5 ∈ BT := bt_tbl (List.mem_of_getElem? (i := 250) (by decide +kernel)) rfl
theorem tw_131 : Cond.instantiable RX5 4 ∈ BT := bt_tbl (List.mem_of_getElem? (i := 251) (by decide +kernel)) rfl
theorem tw_132 : Cond.initialized RX5 ∈ BT := bt_tbl (List.mem_of_getElem? (i := 8) (by decide +kernel)) rfl
theorem tw_133 : Cond.methodLinkNest RX9 39 yX5_init "Cycleworks" ∈ BT := bt_tbl (List.mem_of_getElem? (i := 252) (by decide +kernel)) rfl
theorem tw_134 : Cond.instanceMethod yX5_init ∈ BT := bt_tbl (List.mem_of_getElem? (i := 253) (by decide +kernel)) rfl
theorem tw_135 : Cond.code yX5_init cX5_init 1 none ∈ BT := bt_tbl (List.mem_of_getElem? (i := 254) rfl) rfl
theorem tw_136 : Cond.fieldLink RX9 40 "Cycleworks" "streams" "LCycleworks$Streams;" ∈ BT := bt_tbl (List.mem_of_getElem? (i := 352) (by decide +kernel)) rfl
theorem tw_137 : Cond.classLink RX9 44 RX2 ∈ BT := bt_tbl (List.mem_of_getElem? (i := 269) (by decide +kernel)) rfl
theorem tw_138 : Cond.instantiable RX2 10 ∈ BT := bt_tbl (List.mem_of_getElem? (i := 270) (by decide +kernel)) rfl
theorem tw_139 : Cond.initialized RX2 ∈ BT := bt_tbl (List.mem_of_getElem? (i := 9) (by decide +kernel)) rfl
theorem tw_140 : Cond.methodLinkNest RX9 46 yX2_init "Cycleworks" ∈ BT := bt_tbl (List.mem_of_getElem? (i := 271) (by decide +kernel)) rfl
theorem tw_141 : Cond.instanceMethod yX2_init ∈ BT := bt_tbl (List.mem_of_getElem? (i := 272) (by decide +kernel)) rfl
theorem tw_142 : Cond.code yX2_init cX2_init 1 none ∈ BT := bt_tbl (List.mem_of_getElem? (i := 273) rfl) rfl
theorem tw_143 : Cond.fieldLink RX9 47 "Cycleworks" "governor" "LCycleworks$Governor;" ∈ BT := bt_tbl (List.mem_of_getElem? (i := 353) (by decide +kernel)) rfl
theorem tw_144 : Cond.classLink RX9 51 RX6 ∈ BT := bt_tbl (List.mem_of_getElem? (i := 313) (by decide +kernel)) rfl
theorem tw_145 : Cond.instantiable RX6 5 ∈ BT := bt_tbl (List.mem_of_getElem? (i := 314) (by decide +kernel)) rfl
theorem tw_146 : Cond.initialized RX6 ∈ BT := bt_tbl (List.mem_of_getElem? (i := 10) (by decide +kernel)) rfl
theorem tw_147 : Cond.methodLinkNest RX9 53 yX6_init "Cycleworks" ∈ BT := bt_tbl (List.mem_of_getElem? (i := 315) (by decide +kernel)) rfl
theorem tw_148 : Cond.instanceMethod yX6_init ∈ BT := bt_tbl (List.mem_of_getElem? (i := 316) (by decide +kernel)) rfl
theorem tw_149 : Cond.code yX6_init cX6_init 1 none ∈ BT := bt_tbl (List.mem_of_getElem? (i := 317) rfl) rfl
theorem tw_150 : Cond.fieldLink RX9 54 "Cycleworks" "sums" "LCycleworks$Sums;" ∈ BT := bt_tbl (List.mem_of_getElem? (i := 354) (by decide +kernel)) rfl
theorem tw_151 : Cond.fieldLinkNest RX9 58 "Cycleworks$Cylinder" "energy" "LCycleworks$Whole;" "Cycleworks" ∈ BT := bt_tbl (List.mem_of_getElem? (i := 214) (by decide +kernel)) rfl
theorem tw_152 : Cond.methodLink RX9 62 yX8_low ∈ BT := bt_tbl (List.mem_of_getElem? (i := 340) (by decide +kernel)) rfl
theorem tw_153 : Cond.instanceMethod yX8_low ∈ BT := bt_tbl (List.mem_of_getElem? (i := 341) (by decide +kernel)) rfl
theorem tw_154 : Cond.selects RX8 yX8_low yX8_low ∈ BT := bt_tbl (List.mem_of_getElem? (i := 342) (by decide +kernel)) rfl
theorem tw_155 : Cond.code yX8_low cX8_low 1 (some .long) ∈ BT := bt_tbl (List.mem_of_getElem? (i := 343) rfl) rfl
theorem tw_156 : Cond.fieldLinkNest RX9 68 "Cycleworks$Sums" "putIn" "J" "Cycleworks" ∈ BT := bt_tbl (List.mem_of_getElem? (i := 328) (by decide +kernel)) rfl
theorem ax_0 : ∀ w ∈ u_ws RX8 TX8 3, w ∈ BT := fun w hw => bt_tbl ((by decide +kernel : ∀ w ∈ u_ws RX8 TX8 3, w ∈ tables_1) w hw) ((by decide +kernel : ∀ w ∈ u_ws RX8 TX8 3, okw w = true) w hw)
theorem ax_1 : ∀ w ∈ u_ws RX0 TX0 8, w ∈ BT := fun w hw => bt_tbl ((by decide +kernel : ∀ w ∈ u_ws RX0 TX0 8, w ∈ tables_1) w hw) ((by decide +kernel : ∀ w ∈ u_ws RX0 TX0 8, okw w = true) w hw)
theorem ax_2 : (yX8_init).cls ≠ "java/lang/invoke/MethodHandle" ∧ (yX8_init).cls ≠ "java/lang/invoke/VarHandle" ∧ (parseMethodDescriptor (yX8_init).desc).map (fun d => d.parameters.length) = some 0 := by decide +kernel
theorem ax_3 : ∀ w ∈ u_ws RX7 TX7 5, w ∈ BT := fun w hw => bt_tbl ((by decide +kernel : ∀ w ∈ u_ws RX7 TX7 5, w ∈ tables_1) w hw) ((by decide +kernel : ∀ w ∈ u_ws RX7 TX7 5, okw w = true) w hw)
theorem ax_4 : ∀ w ∈ u_ws RX4 TX4 6, w ∈ BT := fun w hw => bt_tbl ((by decide +kernel : ∀ w ∈ u_ws RX4 TX4 6, w ∈ tables_1) w hw) ((by decide +kernel : ∀ w ∈ u_ws RX4 TX4 6, okw w = true) w hw)
theorem ax_5 : ∀ w ∈ u_ws RX3 TX3 9, w ∈ BT := fun w hw => bt_tbl ((by decide +kernel : ∀ w ∈ u_ws RX3 TX3 9, w ∈ tables_1) w hw) ((by decide +kernel : ∀ w ∈ u_ws RX3 TX3 9, okw w = true) w hw)
theorem ax_6 : (yX4_init).cls ≠ "java/lang/invoke/MethodHandle" ∧ (yX4_init).cls ≠ "java/lang/invoke/VarHandle" ∧ (parseMethodDescriptor (yX4_init).desc).map (fun d => d.parameters.length) = some 0 := by decide +kernel
theorem ax_7 : ∀ w ∈ u_ws RX1 TX1 13, w ∈ BT := fun w hw => bt_tbl ((by decide +kernel : ∀ w ∈ u_ws RX1 TX1 13, w ∈ tables_1) w hw) ((by decide +kernel : ∀ w ∈ u_ws RX1 TX1 13, okw w = true) w hw)
theorem ax_8 : GoodIn BT (wsV RX1 66 RX8 yX8_set [.code yX8_set cX8_set 3 none]) := gi_V tw_58 tw_59 tw_60 tw_14 tw_61
theorem ax_9 : (yX8_set).cls = RX8 ∧ (yX8_set).cls ≠ "java/lang/invoke/MethodHandle" ∧ (yX8_set).cls ≠ "java/lang/invoke/VarHandle" ∧ (parseMethodDescriptor (yX8_set).desc).map (fun d => d.parameters.length) = some 1 := by decide +kernel
theorem ax_10 : GoodIn BT (wsV RX1 50 RX1 yX1_fill [.code yX1_fill cX1_fill 4 none]) := gi_V tw_75 tw_76 tw_77 tw_78 tw_79
theorem ax_11 : (yX1_fill).cls = RX1 ∧ (yX1_fill).cls ≠ "java/lang/invoke/MethodHandle" ∧ (yX1_fill).cls ≠ "java/lang/invoke/VarHandle" ∧ (parseMethodDescriptor (yX1_fill).desc).map (fun d => d.parameters.length) = some 3 := by decide +kernel
theorem ax_12 : ∀ w ∈ u_ws RX5 TX5 4, w ∈ BT := fun w hw => bt_tbl ((by decide +kernel : ∀ w ∈ u_ws RX5 TX5 4, w ∈ tables_1) w hw) ((by decide +kernel : ∀ w ∈ u_ws RX5 TX5 4, okw w = true) w hw)
theorem ax_13 : ∀ w ∈ u_ws RX2 TX2 10, w ∈ BT := fun w hw => bt_tbl ((by decide +kernel : ∀ w ∈ u_ws RX2 TX2 10, w ∈ tables_1) w hw) ((by decide +kernel : ∀ w ∈ u_ws RX2 TX2 10, okw w = true) w hw)
theorem ax_14 : ∀ w ∈ u_ws RX6 TX6 5, w ∈ BT := fun w hw => bt_tbl ((by decide +kernel : ∀ w ∈ u_ws RX6 TX6 5, w ∈ tables_1) w hw) ((by decide +kernel : ∀ w ∈ u_ws RX6 TX6 5, okw w = true) w hw)
theorem ax_15 : (yX0_init).cls ≠ "java/lang/invoke/MethodHandle" ∧ (yX0_init).cls ≠ "java/lang/invoke/VarHandle" ∧ (parseMethodDescriptor (yX0_init).desc).map (fun d => d.parameters.length) = some 0 := by decide +kernel
theorem ax_16 : ∀ w ∈ u_ws RX9 TX9 7, w ∈ BT := fun w hw => bt_tbl ((by decide +kernel : ∀ w ∈ u_ws RX9 TX9 7, w ∈ tables_1) w hw) ((by decide +kernel : ∀ w ∈ u_ws RX9 TX9 7, okw w = true) w hw)
theorem ax_17 : (yX7_init).cls ≠ "java/lang/invoke/MethodHandle" ∧ (yX7_init).cls ≠ "java/lang/invoke/VarHandle" ∧ (parseMethodDescriptor (yX7_init).desc).map (fun d => d.parameters.length) = some 0 := by decide +kernel
theorem ax_18 : (yX3_init).cls ≠ "java/lang/invoke/MethodHandle" ∧ (yX3_init).cls ≠ "java/lang/invoke/VarHandle" ∧ (parseMethodDescriptor (yX3_init).desc).map (fun d => d.parameters.length) = some 0 := by decide +kernel
theorem ax_19 : (yX1_init).cls ≠ "java/lang/invoke/MethodHandle" ∧ (yX1_init).cls ≠ "java/lang/invoke/VarHandle" ∧ (parseMethodDescriptor (yX1_init).desc).map (fun d => d.parameters.length) = some 0 := by decide +kernel
theorem ax_20 : (yX5_init).cls ≠ "java/lang/invoke/MethodHandle" ∧ (yX5_init).cls ≠ "java/lang/invoke/VarHandle" ∧ (parseMethodDescriptor (yX5_init).desc).map (fun d => d.parameters.length) = some 0 := by decide +kernel
theorem ax_21 : (yX2_init).cls ≠ "java/lang/invoke/MethodHandle" ∧ (yX2_init).cls ≠ "java/lang/invoke/VarHandle" ∧ (parseMethodDescriptor (yX2_init).desc).map (fun d => d.parameters.length) = some 0 := by decide +kernel
theorem ax_22 : (yX6_init).cls ≠ "java/lang/invoke/MethodHandle" ∧ (yX6_init).cls ≠ "java/lang/invoke/VarHandle" ∧ (parseMethodDescriptor (yX6_init).desc).map (fun d => d.parameters.length) = some 0 := by decide +kernel
theorem ax_23 : GoodIn BT (wsV RX9 62 RX8 yX8_low [.code yX8_low cX8_low 1 (some .long)]) := gi_V tw_152 tw_153 tw_154 tw_14 tw_155
theorem ax_24 : (yX8_low).cls = RX8 ∧ (yX8_low).cls ≠ "java/lang/invoke/MethodHandle" ∧ (yX8_low).cls ≠ "java/lang/invoke/VarHandle" ∧ (parseMethodDescriptor (yX8_low).desc).map (fun d => d.parameters.length) = some 0 := by decide +kernel
