theorem tw_0 : Cond.methodLink RX8 3 objectInit ∈ BT := bt_tbl (tb_1 (List.mem_of_getElem? (i := 60) (by decide +kernel))) rfl
theorem tw_1 : Cond.instanceMethod objectInit ∈ BT := bt_tbl (tb_1 (List.mem_of_getElem? (i := 46) (by decide +kernel))) rfl
theorem tw_2 : Cond.code objectInit ⟨#[0xb1]⟩ 1 none ∈ BT := bt_tbl (tb_1 (List.mem_of_getElem? (i := 47) (by decide +kernel))) rfl
theorem tw_3 : Cond.lays RX8 RX8 "count" "I" ∈ BT := bt_tbl (tb_1 (List.mem_of_getElem? (i := 68) (by decide +kernel))) rfl
theorem tw_4 : Cond.lays RX8 RX8 "others" "[J" ∈ BT := bt_tbl (tb_1 (List.mem_of_getElem? (i := 66) (by decide +kernel))) rfl
theorem tw_5 : Cond.lays RX8 RX8 "first" "J" ∈ BT := bt_tbl (tb_1 (List.mem_of_getElem? (i := 64) (by decide +kernel))) rfl
theorem tw_6 : Cond.fieldLink RX8 9 "Cycleworks$Whole" "first" "J" ∈ BT := bt_tbl (tb_1 (List.mem_of_getElem? (i := 61) (by decide +kernel))) rfl
theorem tw_7 : Cond.arrayClass .long ∈ BT := bt_tbl (tb_1 (List.mem_of_getElem? (i := 72) (by decide +kernel))) rfl
theorem tw_8 : Cond.fieldLink RX8 13 "Cycleworks$Whole" "others" "[J" ∈ BT := bt_tbl (tb_1 (List.mem_of_getElem? (i := 62) (by decide +kernel))) rfl
theorem tw_9 : Cond.fieldLink RX8 17 "Cycleworks$Whole" "count" "I" ∈ BT := bt_tbl (tb_1 (List.mem_of_getElem? (i := 63) (by decide +kernel))) rfl
theorem tw_10 : Cond.methodLink RX0 3 objectInit ∈ BT := bt_tbl (tb_1 (List.mem_of_getElem? (i := 53) (by decide +kernel))) rfl
theorem tw_11 : Cond.arrayClass .int ∈ BT := bt_tbl (tb_1 (List.mem_of_getElem? (i := 71) (by decide +kernel))) rfl
theorem tw_12 : Cond.laysFinal RX0 RX0 "rest" "LCycleworks$Whole;" ∈ BT := bt_tbl (tb_1 (List.mem_of_getElem? (i := 96) (by decide +kernel))) rfl
theorem tw_13 : Cond.laysFinal RX0 RX0 "share" "LCycleworks$Whole;" ∈ BT := bt_tbl (tb_1 (List.mem_of_getElem? (i := 94) (by decide +kernel))) rfl
theorem tw_14 : Cond.laysFinal RX0 RX0 "otherDegrees" "LCycleworks$Whole;" ∈ BT := bt_tbl (tb_1 (List.mem_of_getElem? (i := 92) (by decide +kernel))) rfl
theorem tw_15 : Cond.laysFinal RX0 RX0 "degrees" "LCycleworks$Whole;" ∈ BT := bt_tbl (tb_1 (List.mem_of_getElem? (i := 90) (by decide +kernel))) rfl
theorem tw_16 : Cond.laysFinal RX0 RX0 "nothing" "LCycleworks$Whole;" ∈ BT := bt_tbl (tb_1 (List.mem_of_getElem? (i := 88) (by decide +kernel))) rfl
theorem tw_17 : Cond.lays RX0 RX0 "count" "I" ∈ BT := bt_tbl (tb_1 (List.mem_of_getElem? (i := 86) (by decide +kernel))) rfl
theorem tw_18 : Cond.laysFinal RX0 RX0 "energies" "[LCycleworks$Whole;" ∈ BT := bt_tbl (tb_1 (List.mem_of_getElem? (i := 84) (by decide +kernel))) rfl
theorem tw_19 : Cond.laysFinal RX0 RX0 "capacities" "[I" ∈ BT := bt_tbl (tb_1 (List.mem_of_getElem? (i := 82) (by decide +kernel))) rfl
theorem tw_20 : Cond.fieldLink RX0 11 "Cycleworks$Bodies" "capacities" "[I" ∈ BT := bt_tbl (tb_1 (List.mem_of_getElem? (i := 73) (by decide +kernel))) rfl
theorem tw_21 : Cond.classLink RX0 15 RX8 ∈ BT := bt_tbl (tb_1 (List.mem_of_getElem? (i := 54) (by decide +kernel))) rfl
theorem tw_22 : Cond.fieldLink RX0 17 "Cycleworks$Bodies" "energies" "[LCycleworks$Whole;" ∈ BT := bt_tbl (tb_1 (List.mem_of_getElem? (i := 74) (by decide +kernel))) rfl
theorem tw_23 : Cond.fieldLink RX0 21 "Cycleworks$Bodies" "count" "I" ∈ BT := bt_tbl (tb_1 (List.mem_of_getElem? (i := 75) (by decide +kernel))) rfl
theorem tw_24 : Cond.instantiable RX8 3 ∈ BT := bt_tbl (tb_1 (List.mem_of_getElem? (i := 56) (by decide +kernel))) rfl
theorem tw_25 : Cond.initialized RX8 ∈ BT := bt_tbl (tb_1 (List.mem_of_getElem? (i := 3) (by decide +kernel))) rfl
theorem tw_26 : Cond.methodLinkNest RX0 25 yX8_init "Cycleworks" ∈ BT := bt_tbl (tb_1 (List.mem_of_getElem? (i := 57) (by decide +kernel))) rfl
theorem tw_27 : Cond.instanceMethod yX8_init ∈ BT := bt_tbl (tb_1 (List.mem_of_getElem? (i := 58) (by decide +kernel))) rfl
theorem tw_28 : Cond.code yX8_init cX8_init 1 none ∈ BT := bt_tbl (tb_1 (List.mem_of_getElem? (i := 59) (by decide +kernel))) rfl
theorem tw_29 : Cond.fieldLink RX0 26 "Cycleworks$Bodies" "nothing" "LCycleworks$Whole;" ∈ BT := bt_tbl (tb_1 (List.mem_of_getElem? (i := 77) (by decide +kernel))) rfl
theorem tw_30 : Cond.fieldLink RX0 30 "Cycleworks$Bodies" "degrees" "LCycleworks$Whole;" ∈ BT := bt_tbl (tb_1 (List.mem_of_getElem? (i := 78) (by decide +kernel))) rfl
theorem tw_31 : Cond.fieldLink RX0 33 "Cycleworks$Bodies" "otherDegrees" "LCycleworks$Whole;" ∈ BT := bt_tbl (tb_1 (List.mem_of_getElem? (i := 79) (by decide +kernel))) rfl
theorem tw_32 : Cond.fieldLink RX0 36 "Cycleworks$Bodies" "share" "LCycleworks$Whole;" ∈ BT := bt_tbl (tb_1 (List.mem_of_getElem? (i := 80) (by decide +kernel))) rfl
theorem tw_33 : Cond.fieldLink RX0 39 "Cycleworks$Bodies" "rest" "LCycleworks$Whole;" ∈ BT := bt_tbl (tb_1 (List.mem_of_getElem? (i := 81) (by decide +kernel))) rfl
theorem tw_34 : Cond.methodLink RX7 1 objectInit ∈ BT := bt_tbl (tb_1 (List.mem_of_getElem? (i := 104) (by decide +kernel))) rfl
theorem tw_35 : Cond.lays RX7 RX7 "count" "I" ∈ BT := bt_tbl (tb_1 (List.mem_of_getElem? (i := 118) (by decide +kernel))) rfl
theorem tw_36 : Cond.laysFinal RX7 RX7 "vapours" "[I" ∈ BT := bt_tbl (tb_1 (List.mem_of_getElem? (i := 116) (by decide +kernel))) rfl
theorem tw_37 : Cond.laysFinal RX7 RX7 "liquids" "[I" ∈ BT := bt_tbl (tb_1 (List.mem_of_getElem? (i := 114) (by decide +kernel))) rfl
theorem tw_38 : Cond.laysFinal RX7 RX7 "boilings" "[I" ∈ BT := bt_tbl (tb_1 (List.mem_of_getElem? (i := 112) (by decide +kernel))) rfl
theorem tw_39 : Cond.laysFinal RX7 RX7 "pressures" "[I" ∈ BT := bt_tbl (tb_1 (List.mem_of_getElem? (i := 110) (by decide +kernel))) rfl
theorem tw_40 : Cond.fieldLink RX7 9 "Cycleworks$Table" "pressures" "[I" ∈ BT := bt_tbl (tb_1 (List.mem_of_getElem? (i := 105) (by decide +kernel))) rfl
theorem tw_41 : Cond.fieldLink RX7 13 "Cycleworks$Table" "boilings" "[I" ∈ BT := bt_tbl (tb_1 (List.mem_of_getElem? (i := 106) (by decide +kernel))) rfl
theorem tw_42 : Cond.fieldLink RX7 16 "Cycleworks$Table" "liquids" "[I" ∈ BT := bt_tbl (tb_1 (List.mem_of_getElem? (i := 107) (by decide +kernel))) rfl
theorem tw_43 : Cond.fieldLink RX7 19 "Cycleworks$Table" "vapours" "[I" ∈ BT := bt_tbl (tb_1 (List.mem_of_getElem? (i := 108) (by decide +kernel))) rfl
theorem tw_44 : Cond.fieldLink RX7 22 "Cycleworks$Table" "count" "I" ∈ BT := bt_tbl (tb_1 (List.mem_of_getElem? (i := 109) (by decide +kernel))) rfl
theorem tw_45 : Cond.methodLink RX4 1 objectInit ∈ BT := bt_tbl (tb_1 (List.mem_of_getElem? (i := 132) (by decide +kernel))) rfl
theorem tw_46 : Cond.lays RX4 RX4 "count" "I" ∈ BT := bt_tbl (tb_1 (List.mem_of_getElem? (i := 149) (by decide +kernel))) rfl
theorem tw_47 : Cond.laysFinal RX4 RX4 "heatsAhead" "[I" ∈ BT := bt_tbl (tb_1 (List.mem_of_getElem? (i := 147) (by decide +kernel))) rfl
theorem tw_48 : Cond.laysFinal RX4 RX4 "pressuresAhead" "[I" ∈ BT := bt_tbl (tb_1 (List.mem_of_getElem? (i := 145) (by decide +kernel))) rfl
theorem tw_49 : Cond.laysFinal RX4 RX4 "losses" "[I" ∈ BT := bt_tbl (tb_1 (List.mem_of_getElem? (i := 143) (by decide +kernel))) rfl
theorem tw_50 : Cond.laysFinal RX4 RX4 "heats" "[I" ∈ BT := bt_tbl (tb_1 (List.mem_of_getElem? (i := 141) (by decide +kernel))) rfl
theorem tw_51 : Cond.laysFinal RX4 RX4 "works" "[I" ∈ BT := bt_tbl (tb_1 (List.mem_of_getElem? (i := 139) (by decide +kernel))) rfl
theorem tw_52 : Cond.fieldLink RX4 9 "Cycleworks$Round" "works" "[I" ∈ BT := bt_tbl (tb_1 (List.mem_of_getElem? (i := 133) (by decide +kernel))) rfl
theorem tw_53 : Cond.fieldLink RX4 15 "Cycleworks$Round" "heats" "[I" ∈ BT := bt_tbl (tb_1 (List.mem_of_getElem? (i := 134) (by decide +kernel))) rfl
theorem tw_54 : Cond.fieldLink RX4 18 "Cycleworks$Round" "losses" "[I" ∈ BT := bt_tbl (tb_1 (List.mem_of_getElem? (i := 135) (by decide +kernel))) rfl
theorem tw_55 : Cond.fieldLink RX4 21 "Cycleworks$Round" "pressuresAhead" "[I" ∈ BT := bt_tbl (tb_1 (List.mem_of_getElem? (i := 136) (by decide +kernel))) rfl
theorem tw_56 : Cond.fieldLink RX4 24 "Cycleworks$Round" "heatsAhead" "[I" ∈ BT := bt_tbl (tb_1 (List.mem_of_getElem? (i := 137) (by decide +kernel))) rfl
theorem tw_57 : Cond.fieldLink RX4 27 "Cycleworks$Round" "count" "I" ∈ BT := bt_tbl (tb_1 (List.mem_of_getElem? (i := 138) (by decide +kernel))) rfl
theorem tw_58 : Cond.methodLink RX3 3 objectInit ∈ BT := bt_tbl (tb_1 (List.mem_of_getElem? (i := 126) (by decide +kernel))) rfl
theorem tw_59 : Cond.arrayClass .char ∈ BT := bt_tbl (tb_1 (List.mem_of_getElem? (i := 152) (by decide +kernel))) rfl
theorem tw_60 : Cond.lays RX3 RX3 "heat" "I" ∈ BT := bt_tbl (tb_1 (List.mem_of_getElem? (i := 180) (by decide +kernel))) rfl
theorem tw_61 : Cond.lays RX3 RX3 "pressure" "I" ∈ BT := bt_tbl (tb_1 (List.mem_of_getElem? (i := 178) (by decide +kernel))) rfl
theorem tw_62 : Cond.lays RX3 RX3 "trial" "LCycleworks$Round;" ∈ BT := bt_tbl (tb_1 (List.mem_of_getElem? (i := 176) (by decide +kernel))) rfl
theorem tw_63 : Cond.lays RX3 RX3 "solved" "LCycleworks$Round;" ∈ BT := bt_tbl (tb_1 (List.mem_of_getElem? (i := 174) (by decide +kernel))) rfl
theorem tw_64 : Cond.lays RX3 RX3 "isSolved" "Z" ∈ BT := bt_tbl (tb_1 (List.mem_of_getElem? (i := 172) (by decide +kernel))) rfl
theorem tw_65 : Cond.lays RX3 RX3 "count" "I" ∈ BT := bt_tbl (tb_1 (List.mem_of_getElem? (i := 170) (by decide +kernel))) rfl
theorem tw_66 : Cond.laysFinal RX3 RX3 "qualities" "[I" ∈ BT := bt_tbl (tb_1 (List.mem_of_getElem? (i := 168) (by decide +kernel))) rfl
theorem tw_67 : Cond.laysFinal RX3 RX3 "goals" "[I" ∈ BT := bt_tbl (tb_1 (List.mem_of_getElem? (i := 166) (by decide +kernel))) rfl
theorem tw_68 : Cond.laysFinal RX3 RX3 "kinds" "[C" ∈ BT := bt_tbl (tb_1 (List.mem_of_getElem? (i := 164) (by decide +kernel))) rfl
theorem tw_69 : Cond.fieldLink RX3 11 "Cycleworks$Ring" "kinds" "[C" ∈ BT := bt_tbl (tb_1 (List.mem_of_getElem? (i := 153) (by decide +kernel))) rfl
theorem tw_70 : Cond.fieldLink RX3 15 "Cycleworks$Ring" "goals" "[I" ∈ BT := bt_tbl (tb_1 (List.mem_of_getElem? (i := 154) (by decide +kernel))) rfl
theorem tw_71 : Cond.fieldLink RX3 19 "Cycleworks$Ring" "qualities" "[I" ∈ BT := bt_tbl (tb_1 (List.mem_of_getElem? (i := 155) (by decide +kernel))) rfl
theorem tw_72 : Cond.fieldLink RX3 22 "Cycleworks$Ring" "count" "I" ∈ BT := bt_tbl (tb_1 (List.mem_of_getElem? (i := 156) (by decide +kernel))) rfl
theorem tw_73 : Cond.fieldLink RX3 26 "Cycleworks$Ring" "isSolved" "Z" ∈ BT := bt_tbl (tb_1 (List.mem_of_getElem? (i := 157) (by decide +kernel))) rfl
theorem tw_74 : Cond.classLink RX3 30 RX4 ∈ BT := bt_tbl (tb_1 (List.mem_of_getElem? (i := 127) (by decide +kernel))) rfl
theorem tw_75 : Cond.instantiable RX4 6 ∈ BT := bt_tbl (tb_1 (List.mem_of_getElem? (i := 128) (by decide +kernel))) rfl
theorem tw_76 : Cond.initialized RX4 ∈ BT := bt_tbl (tb_1 (List.mem_of_getElem? (i := 6) (by decide +kernel))) rfl
theorem tw_77 : Cond.methodLinkNest RX3 32 yX4_init "Cycleworks" ∈ BT := bt_tbl (tb_1 (List.mem_of_getElem? (i := 129) (by decide +kernel))) rfl
theorem tw_78 : Cond.instanceMethod yX4_init ∈ BT := bt_tbl (tb_1 (List.mem_of_getElem? (i := 130) (by decide +kernel))) rfl
theorem tw_79 : Cond.code yX4_init cX4_init 1 none ∈ BT := bt_tbl (tb_1 (List.mem_of_getElem? (i := 131) (by decide +kernel))) rfl
theorem tw_80 : Cond.fieldLink RX3 33 "Cycleworks$Ring" "solved" "LCycleworks$Round;" ∈ BT := bt_tbl (tb_1 (List.mem_of_getElem? (i := 159) (by decide +kernel))) rfl
theorem tw_81 : Cond.fieldLink RX3 37 "Cycleworks$Ring" "trial" "LCycleworks$Round;" ∈ BT := bt_tbl (tb_1 (List.mem_of_getElem? (i := 161) (by decide +kernel))) rfl
theorem tw_82 : Cond.fieldLink RX3 40 "Cycleworks$Ring" "pressure" "I" ∈ BT := bt_tbl (tb_1 (List.mem_of_getElem? (i := 162) (by decide +kernel))) rfl
theorem tw_83 : Cond.fieldLink RX3 43 "Cycleworks$Ring" "heat" "I" ∈ BT := bt_tbl (tb_1 (List.mem_of_getElem? (i := 163) (by decide +kernel))) rfl
theorem tw_84 : Cond.constantLong RX8 33 (1125899906842623) ∈ BT := bt_tbl (tb_1 (List.mem_of_getElem? (i := 199) (by decide +kernel))) rfl
theorem tw_85 : Cond.constantLong RX8 35 (1125899906842624) ∈ BT := bt_tbl (tb_1 (List.mem_of_getElem? (i := 200) (by decide +kernel))) rfl
theorem tw_86 : Cond.lays RX1 RX1 "ended" "Z" ∈ BT := bt_tbl (tb_2 (List.mem_of_getElem? (i := 7) (by decide +kernel))) rfl
theorem tw_87 : Cond.lays RX1 RX1 "ran" "Z" ∈ BT := bt_tbl (tb_2 (List.mem_of_getElem? (i := 5) (by decide +kernel))) rfl
theorem tw_88 : Cond.lays RX1 RX1 "marks" "I" ∈ BT := bt_tbl (tb_2 (List.mem_of_getElem? (i := 3) (by decide +kernel))) rfl
theorem tw_89 : Cond.laysFinal RX1 RX1 "card" "[I" ∈ BT := bt_tbl (tb_2 (List.mem_of_getElem? (i := 1) (by decide +kernel))) rfl
theorem tw_90 : Cond.laysFinal RX1 RX1 "pressure" "LCycleworks$Whole;" ∈ BT := bt_tbl (tb_1 (List.mem_of_getElem? (i := 239) (by decide +kernel))) rfl
theorem tw_91 : Cond.lays RX1 RX1 "energyBehind" "LCycleworks$Whole;" ∈ BT := bt_tbl (tb_1 (List.mem_of_getElem? (i := 237) (by decide +kernel))) rfl
theorem tw_92 : Cond.lays RX1 RX1 "energy" "LCycleworks$Whole;" ∈ BT := bt_tbl (tb_1 (List.mem_of_getElem? (i := 235) (by decide +kernel))) rfl
theorem tw_93 : Cond.lays RX1 RX1 "volume" "I" ∈ BT := bt_tbl (tb_1 (List.mem_of_getElem? (i := 233) (by decide +kernel))) rfl
theorem tw_94 : Cond.lays RX1 RX1 "amount" "I" ∈ BT := bt_tbl (tb_1 (List.mem_of_getElem? (i := 231) (by decide +kernel))) rfl
theorem tw_95 : Cond.lays RX1 RX1 "count" "I" ∈ BT := bt_tbl (tb_1 (List.mem_of_getElem? (i := 229) (by decide +kernel))) rfl
theorem tw_96 : Cond.laysFinal RX1 RX1 "partners" "[I" ∈ BT := bt_tbl (tb_1 (List.mem_of_getElem? (i := 227) (by decide +kernel))) rfl
theorem tw_97 : Cond.laysFinal RX1 RX1 "goals" "[I" ∈ BT := bt_tbl (tb_1 (List.mem_of_getElem? (i := 225) (by decide +kernel))) rfl
theorem tw_98 : Cond.laysFinal RX1 RX1 "kinds" "[C" ∈ BT := bt_tbl (tb_1 (List.mem_of_getElem? (i := 223) (by decide +kernel))) rfl
theorem tw_99 : Cond.fieldLink RX1 60 "Cycleworks$Cylinder" "amount" "I" ∈ BT := bt_tbl (tb_1 (List.mem_of_getElem? (i := 210) (by decide +kernel))) rfl
theorem tw_100 : Cond.fieldLink RX1 63 "Cycleworks$Cylinder" "volume" "I" ∈ BT := bt_tbl (tb_1 (List.mem_of_getElem? (i := 211) (by decide +kernel))) rfl
theorem tw_101 : Cond.fieldLink RX1 27 "Cycleworks$Cylinder" "energy" "LCycleworks$Whole;" ∈ BT := bt_tbl (tb_1 (List.mem_of_getElem? (i := 213) (by decide +kernel))) rfl
theorem tw_102 : Cond.methodLink RX1 66 yX8_set ∈ BT := bt_tbl (tb_1 (List.mem_of_getElem? (i := 195) (by decide +kernel))) rfl
theorem tw_103 : Cond.instanceMethod yX8_set ∈ BT := bt_tbl (tb_1 (List.mem_of_getElem? (i := 196) (by decide +kernel))) rfl
theorem tw_104 : Cond.selects RX8 yX8_set yX8_set ∈ BT := bt_tbl (tb_1 (List.mem_of_getElem? (i := 197) (by decide +kernel))) rfl
theorem tw_105 : Cond.code yX8_set cX8_set 3 none ∈ BT := bt_tbl (tb_1 (List.mem_of_getElem? (i := 198) (by decide +kernel))) rfl
theorem tw_106 : Cond.methodLink RX1 1 objectInit ∈ BT := bt_tbl (tb_1 (List.mem_of_getElem? (i := 188) (by decide +kernel))) rfl
theorem tw_107 : Cond.fieldLink RX1 9 "Cycleworks$Cylinder" "kinds" "[C" ∈ BT := bt_tbl (tb_1 (List.mem_of_getElem? (i := 205) (by decide +kernel))) rfl
theorem tw_108 : Cond.fieldLink RX1 13 "Cycleworks$Cylinder" "goals" "[I" ∈ BT := bt_tbl (tb_1 (List.mem_of_getElem? (i := 206) (by decide +kernel))) rfl
theorem tw_109 : Cond.fieldLink RX1 17 "Cycleworks$Cylinder" "partners" "[I" ∈ BT := bt_tbl (tb_1 (List.mem_of_getElem? (i := 207) (by decide +kernel))) rfl
theorem tw_110 : Cond.fieldLink RX1 20 "Cycleworks$Cylinder" "count" "I" ∈ BT := bt_tbl (tb_1 (List.mem_of_getElem? (i := 208) (by decide +kernel))) rfl
theorem tw_111 : Cond.classLink RX1 24 RX8 ∈ BT := bt_tbl (tb_1 (List.mem_of_getElem? (i := 189) (by decide +kernel))) rfl
theorem tw_112 : Cond.methodLinkNest RX1 26 yX8_init "Cycleworks" ∈ BT := bt_tbl (tb_1 (List.mem_of_getElem? (i := 190) (by decide +kernel))) rfl
theorem tw_113 : Cond.fieldLink RX1 31 "Cycleworks$Cylinder" "energyBehind" "LCycleworks$Whole;" ∈ BT := bt_tbl (tb_1 (List.mem_of_getElem? (i := 215) (by decide +kernel))) rfl
theorem tw_114 : Cond.fieldLink RX1 34 "Cycleworks$Cylinder" "pressure" "LCycleworks$Whole;" ∈ BT := bt_tbl (tb_1 (List.mem_of_getElem? (i := 216) (by decide +kernel))) rfl
theorem tw_115 : Cond.fieldLink RX1 37 "Cycleworks$Cylinder" "card" "[I" ∈ BT := bt_tbl (tb_1 (List.mem_of_getElem? (i := 217) (by decide +kernel))) rfl
theorem tw_116 : Cond.fieldLink RX1 40 "Cycleworks$Cylinder" "marks" "I" ∈ BT := bt_tbl (tb_1 (List.mem_of_getElem? (i := 218) (by decide +kernel))) rfl
theorem tw_117 : Cond.fieldLink RX1 43 "Cycleworks$Cylinder" "ran" "Z" ∈ BT := bt_tbl (tb_1 (List.mem_of_getElem? (i := 219) (by decide +kernel))) rfl
theorem tw_118 : Cond.fieldLink RX1 47 "Cycleworks$Cylinder" "ended" "Z" ∈ BT := bt_tbl (tb_1 (List.mem_of_getElem? (i := 221) (by decide +kernel))) rfl
theorem tw_119 : Cond.methodLink RX1 50 yX1_fill ∈ BT := bt_tbl (tb_1 (List.mem_of_getElem? (i := 191) (by decide +kernel))) rfl
theorem tw_120 : Cond.instanceMethod yX1_fill ∈ BT := bt_tbl (tb_1 (List.mem_of_getElem? (i := 192) (by decide +kernel))) rfl
theorem tw_121 : Cond.selects RX1 yX1_fill yX1_fill ∈ BT := bt_tbl (tb_1 (List.mem_of_getElem? (i := 193) (by decide +kernel))) rfl
theorem tw_122 : Cond.initialized RX1 ∈ BT := bt_tbl (tb_1 (List.mem_of_getElem? (i := 7) (by decide +kernel))) rfl
theorem tw_123 : Cond.code yX1_fill cX1_fill 4 none ∈ BT := bt_tbl (tb_1 (List.mem_of_getElem? (i := 194) (by decide +kernel))) rfl
theorem tw_124 : Cond.methodLink RX5 3 objectInit ∈ BT := bt_tbl (tb_2 (List.mem_of_getElem? (i := 15) (by decide +kernel))) rfl
theorem tw_125 : Cond.lays RX5 RX5 "count" "I" ∈ BT := bt_tbl (tb_2 (List.mem_of_getElem? (i := 26) (by decide +kernel))) rfl
theorem tw_126 : Cond.laysFinal RX5 RX5 "flows" "[I" ∈ BT := bt_tbl (tb_2 (List.mem_of_getElem? (i := 24) (by decide +kernel))) rfl
theorem tw_127 : Cond.laysFinal RX5 RX5 "ends" "[I" ∈ BT := bt_tbl (tb_2 (List.mem_of_getElem? (i := 22) (by decide +kernel))) rfl
theorem tw_128 : Cond.laysFinal RX5 RX5 "starts" "[I" ∈ BT := bt_tbl (tb_2 (List.mem_of_getElem? (i := 20) (by decide +kernel))) rfl
theorem tw_129 : Cond.fieldLink RX5 11 "Cycleworks$Streams" "starts" "[I" ∈ BT := bt_tbl (tb_2 (List.mem_of_getElem? (i := 16) (by decide +kernel))) rfl
theorem tw_130 : Cond.fieldLink RX5 15 "Cycleworks$Streams" "ends" "[I" ∈ BT := bt_tbl (tb_2 (List.mem_of_getElem? (i := 17) (by decide +kernel))) rfl
theorem tw_131 : Cond.fieldLink RX5 18 "Cycleworks$Streams" "flows" "[I" ∈ BT := bt_tbl (tb_2 (List.mem_of_getElem? (i := 18) (by decide +kernel))) rfl
theorem tw_132 : Cond.fieldLink RX5 21 "Cycleworks$Streams" "count" "I" ∈ BT := bt_tbl (tb_2 (List.mem_of_getElem? (i := 19) (by decide +kernel))) rfl
theorem tw_133 : Cond.methodLink RX2 1 objectInit ∈ BT := bt_tbl (tb_2 (List.mem_of_getElem? (i := 34) (by decide +kernel))) rfl
theorem tw_134 : Cond.lays RX2 RX2 "tripped" "Z" ∈ BT := bt_tbl (tb_2 (List.mem_of_getElem? (i := 70) (by decide +kernel))) rfl
theorem tw_135 : Cond.lays RX2 RX2 "turns" "I" ∈ BT := bt_tbl (tb_2 (List.mem_of_getElem? (i := 68) (by decide +kernel))) rfl
theorem tw_136 : Cond.lays RX2 RX2 "lastWay" "I" ∈ BT := bt_tbl (tb_2 (List.mem_of_getElem? (i := 66) (by decide +kernel))) rfl
theorem tw_137 : Cond.lays RX2 RX2 "valve" "I" ∈ BT := bt_tbl (tb_2 (List.mem_of_getElem? (i := 64) (by decide +kernel))) rfl
theorem tw_138 : Cond.lays RX2 RX2 "speed" "I" ∈ BT := bt_tbl (tb_2 (List.mem_of_getElem? (i := 62) (by decide +kernel))) rfl
theorem tw_139 : Cond.lays RX2 RX2 "load" "I" ∈ BT := bt_tbl (tb_2 (List.mem_of_getElem? (i := 60) (by decide +kernel))) rfl
theorem tw_140 : Cond.lays RX2 RX2 "limit" "I" ∈ BT := bt_tbl (tb_2 (List.mem_of_getElem? (i := 58) (by decide +kernel))) rfl
theorem tw_141 : Cond.lays RX2 RX2 "stiction" "I" ∈ BT := bt_tbl (tb_2 (List.mem_of_getElem? (i := 56) (by decide +kernel))) rfl
theorem tw_142 : Cond.lays RX2 RX2 "gain" "I" ∈ BT := bt_tbl (tb_2 (List.mem_of_getElem? (i := 54) (by decide +kernel))) rfl
theorem tw_143 : Cond.lays RX2 RX2 "set" "I" ∈ BT := bt_tbl (tb_2 (List.mem_of_getElem? (i := 52) (by decide +kernel))) rfl
theorem tw_144 : Cond.fieldLink RX2 7 "Cycleworks$Governor" "set" "I" ∈ BT := bt_tbl (tb_2 (List.mem_of_getElem? (i := 35) (by decide +kernel))) rfl
theorem tw_145 : Cond.fieldLink RX2 13 "Cycleworks$Governor" "gain" "I" ∈ BT := bt_tbl (tb_2 (List.mem_of_getElem? (i := 37) (by decide +kernel))) rfl
theorem tw_146 : Cond.fieldLink RX2 16 "Cycleworks$Governor" "stiction" "I" ∈ BT := bt_tbl (tb_2 (List.mem_of_getElem? (i := 38) (by decide +kernel))) rfl
theorem tw_147 : Cond.fieldLink RX2 19 "Cycleworks$Governor" "limit" "I" ∈ BT := bt_tbl (tb_2 (List.mem_of_getElem? (i := 39) (by decide +kernel))) rfl
theorem tw_148 : Cond.fieldLink RX2 22 "Cycleworks$Governor" "load" "I" ∈ BT := bt_tbl (tb_2 (List.mem_of_getElem? (i := 41) (by decide +kernel))) rfl
theorem tw_149 : Cond.fieldLink RX2 25 "Cycleworks$Governor" "speed" "I" ∈ BT := bt_tbl (tb_2 (List.mem_of_getElem? (i := 43) (by decide +kernel))) rfl
theorem tw_150 : Cond.fieldLink RX2 28 "Cycleworks$Governor" "valve" "I" ∈ BT := bt_tbl (tb_2 (List.mem_of_getElem? (i := 45) (by decide +kernel))) rfl
theorem tw_151 : Cond.fieldLink RX2 31 "Cycleworks$Governor" "lastWay" "I" ∈ BT := bt_tbl (tb_2 (List.mem_of_getElem? (i := 47) (by decide +kernel))) rfl
theorem tw_152 : Cond.fieldLink RX2 34 "Cycleworks$Governor" "turns" "I" ∈ BT := bt_tbl (tb_2 (List.mem_of_getElem? (i := 48) (by decide +kernel))) rfl
theorem tw_153 : Cond.fieldLink RX2 37 "Cycleworks$Governor" "tripped" "Z" ∈ BT := bt_tbl (tb_2 (List.mem_of_getElem? (i := 50) (by decide +kernel))) rfl
theorem tw_154 : Cond.methodLink RX6 1 objectInit ∈ BT := bt_tbl (tb_2 (List.mem_of_getElem? (i := 78) (by decide +kernel))) rfl
theorem tw_155 : Cond.lays RX6 RX6 "putIn" "J" ∈ BT := bt_tbl (tb_2 (List.mem_of_getElem? (i := 97) (by decide +kernel))) rfl
theorem tw_156 : Cond.lays RX6 RX6 "makingMoves" "I" ∈ BT := bt_tbl (tb_2 (List.mem_of_getElem? (i := 95) (by decide +kernel))) rfl
theorem tw_157 : Cond.lays RX6 RX6 "moves" "I" ∈ BT := bt_tbl (tb_2 (List.mem_of_getElem? (i := 93) (by decide +kernel))) rfl
theorem tw_158 : Cond.lays RX6 RX6 "made" "I" ∈ BT := bt_tbl (tb_2 (List.mem_of_getElem? (i := 91) (by decide +kernel))) rfl
theorem tw_159 : Cond.lays RX6 RX6 "work" "J" ∈ BT := bt_tbl (tb_2 (List.mem_of_getElem? (i := 89) (by decide +kernel))) rfl
theorem tw_160 : Cond.fieldLink RX6 7 "Cycleworks$Sums" "work" "J" ∈ BT := bt_tbl (tb_2 (List.mem_of_getElem? (i := 79) (by decide +kernel))) rfl
theorem tw_161 : Cond.fieldLink RX6 13 "Cycleworks$Sums" "made" "I" ∈ BT := bt_tbl (tb_2 (List.mem_of_getElem? (i := 81) (by decide +kernel))) rfl
theorem tw_162 : Cond.fieldLink RX6 17 "Cycleworks$Sums" "moves" "I" ∈ BT := bt_tbl (tb_2 (List.mem_of_getElem? (i := 83) (by decide +kernel))) rfl
theorem tw_163 : Cond.fieldLink RX6 20 "Cycleworks$Sums" "makingMoves" "I" ∈ BT := bt_tbl (tb_2 (List.mem_of_getElem? (i := 85) (by decide +kernel))) rfl
theorem tw_164 : Cond.fieldLink RX6 23 "Cycleworks$Sums" "putIn" "J" ∈ BT := bt_tbl (tb_2 (List.mem_of_getElem? (i := 87) (by decide +kernel))) rfl
theorem tw_165 : Cond.methodLink RX9 1 objectInit ∈ BT := bt_tbl (tb_1 (List.mem_of_getElem? (i := 45) (by decide +kernel))) rfl
theorem tw_166 : Cond.classLink RX9 7 RX0 ∈ BT := bt_tbl (tb_1 (List.mem_of_getElem? (i := 48) (by decide +kernel))) rfl
theorem tw_167 : Cond.instantiable RX0 8 ∈ BT := bt_tbl (tb_1 (List.mem_of_getElem? (i := 49) (by decide +kernel))) rfl
theorem tw_168 : Cond.initialized RX0 ∈ BT := bt_tbl (tb_1 (List.mem_of_getElem? (i := 2) (by decide +kernel))) rfl
theorem tw_169 : Cond.methodLinkNest RX9 9 yX0_init "Cycleworks" ∈ BT := bt_tbl (tb_1 (List.mem_of_getElem? (i := 50) (by decide +kernel))) rfl
theorem tw_170 : Cond.instanceMethod yX0_init ∈ BT := bt_tbl (tb_1 (List.mem_of_getElem? (i := 51) (by decide +kernel))) rfl
theorem tw_171 : Cond.code yX0_init cX0_init 1 none ∈ BT := bt_tbl (tb_1 (List.mem_of_getElem? (i := 52) (by decide +kernel))) rfl
theorem tw_172 : Cond.laysFinal RX9 RX9 "sums" "LCycleworks$Sums;" ∈ BT := bt_tbl (tb_2 (List.mem_of_getElem? (i := 127) (by decide +kernel))) rfl
theorem tw_173 : Cond.laysFinal RX9 RX9 "governor" "LCycleworks$Governor;" ∈ BT := bt_tbl (tb_2 (List.mem_of_getElem? (i := 125) (by decide +kernel))) rfl
theorem tw_174 : Cond.laysFinal RX9 RX9 "streams" "LCycleworks$Streams;" ∈ BT := bt_tbl (tb_2 (List.mem_of_getElem? (i := 123) (by decide +kernel))) rfl
theorem tw_175 : Cond.laysFinal RX9 RX9 "cylinder" "LCycleworks$Cylinder;" ∈ BT := bt_tbl (tb_2 (List.mem_of_getElem? (i := 121) (by decide +kernel))) rfl
theorem tw_176 : Cond.laysFinal RX9 RX9 "ring" "LCycleworks$Ring;" ∈ BT := bt_tbl (tb_2 (List.mem_of_getElem? (i := 119) (by decide +kernel))) rfl
theorem tw_177 : Cond.laysFinal RX9 RX9 "table" "LCycleworks$Table;" ∈ BT := bt_tbl (tb_2 (List.mem_of_getElem? (i := 117) (by decide +kernel))) rfl
theorem tw_178 : Cond.laysFinal RX9 RX9 "bodies" "LCycleworks$Bodies;" ∈ BT := bt_tbl (tb_2 (List.mem_of_getElem? (i := 115) (by decide +kernel))) rfl
theorem tw_179 : Cond.fieldLink RX9 10 "Cycleworks" "bodies" "LCycleworks$Bodies;" ∈ BT := bt_tbl (tb_2 (List.mem_of_getElem? (i := 108) (by decide +kernel))) rfl
theorem tw_180 : Cond.classLink RX9 16 RX7 ∈ BT := bt_tbl (tb_1 (List.mem_of_getElem? (i := 99) (by decide +kernel))) rfl
theorem tw_181 : Cond.instantiable RX7 5 ∈ BT := bt_tbl (tb_1 (List.mem_of_getElem? (i := 100) (by decide +kernel))) rfl
theorem tw_182 : Cond.initialized RX7 ∈ BT := bt_tbl (tb_1 (List.mem_of_getElem? (i := 4) (by decide +kernel))) rfl
theorem tw_183 : Cond.methodLinkNest RX9 18 yX7_init "Cycleworks" ∈ BT := bt_tbl (tb_1 (List.mem_of_getElem? (i := 101) (by decide +kernel))) rfl
theorem tw_184 : Cond.instanceMethod yX7_init ∈ BT := bt_tbl (tb_1 (List.mem_of_getElem? (i := 102) (by decide +kernel))) rfl
theorem tw_185 : Cond.code yX7_init cX7_init 1 none ∈ BT := bt_tbl (tb_1 (List.mem_of_getElem? (i := 103) (by decide +kernel))) rfl
theorem tw_186 : Cond.fieldLink RX9 19 "Cycleworks" "table" "LCycleworks$Table;" ∈ BT := bt_tbl (tb_2 (List.mem_of_getElem? (i := 109) (by decide +kernel))) rfl
theorem tw_187 : Cond.classLink RX9 23 RX3 ∈ BT := bt_tbl (tb_1 (List.mem_of_getElem? (i := 121) (by decide +kernel))) rfl
theorem tw_188 : Cond.instantiable RX3 9 ∈ BT := bt_tbl (tb_1 (List.mem_of_getElem? (i := 122) (by decide +kernel))) rfl
theorem tw_189 : Cond.initialized RX3 ∈ BT := bt_tbl (tb_1 (List.mem_of_getElem? (i := 5) (by decide +kernel))) rfl
theorem tw_190 : Cond.methodLinkNest RX9 25 yX3_init "Cycleworks" ∈ BT := bt_tbl (tb_1 (List.mem_of_getElem? (i := 123) (by decide +kernel))) rfl
theorem tw_191 : Cond.instanceMethod yX3_init ∈ BT := bt_tbl (tb_1 (List.mem_of_getElem? (i := 124) (by decide +kernel))) rfl
theorem tw_192 : Cond.code yX3_init cX3_init 1 none ∈ BT := bt_tbl (tb_1 (List.mem_of_getElem? (i := 125) (by decide +kernel))) rfl
theorem tw_193 : Cond.fieldLink RX9 26 "Cycleworks" "ring" "LCycleworks$Ring;" ∈ BT := bt_tbl (tb_2 (List.mem_of_getElem? (i := 110) (by decide +kernel))) rfl
theorem tw_194 : Cond.classLink RX9 30 RX1 ∈ BT := bt_tbl (tb_1 (List.mem_of_getElem? (i := 183) (by decide +kernel))) rfl
theorem tw_195 : Cond.instantiable RX1 13 ∈ BT := bt_tbl (tb_1 (List.mem_of_getElem? (i := 184) (by decide +kernel))) rfl
theorem tw_196 : Cond.methodLink RX9 32 yX1_init ∈ BT := bt_tbl (tb_1 (List.mem_of_getElem? (i := 185) (by decide +kernel))) rfl
theorem tw_197 : Cond.instanceMethod yX1_init ∈ BT := bt_tbl (tb_1 (List.mem_of_getElem? (i := 186) (by decide +kernel))) rfl
theorem tw_198 : Cond.code yX1_init cX1_init 1 none ∈ BT := bt_tbl (tb_1 (List.mem_of_getElem? (i := 187) (by decide +kernel))) rfl
theorem tw_199 : Cond.fieldLink RX9 33 "Cycleworks" "cylinder" "LCycleworks$Cylinder;" ∈ BT := bt_tbl (tb_2 (List.mem_of_getElem? (i := 111) (by decide +kernel))) rfl
theorem tw_200 : Cond.classLink RX9 37 RX5 ∈ BT := bt_tbl (tb_2 (List.mem_of_getElem? (i := 10) (by decide +kernel))) rfl
theorem tw_201 : Cond.instantiable RX5 4 ∈ BT := bt_tbl (tb_2 (List.mem_of_getElem? (i := 11) (by decide +kernel))) rfl
theorem tw_202 : Cond.initialized RX5 ∈ BT := bt_tbl (tb_1 (List.mem_of_getElem? (i := 8) (by decide +kernel))) rfl
theorem tw_203 : Cond.methodLinkNest RX9 39 yX5_init "Cycleworks" ∈ BT := bt_tbl (tb_2 (List.mem_of_getElem? (i := 12) (by decide +kernel))) rfl
theorem tw_204 : Cond.instanceMethod yX5_init ∈ BT := bt_tbl (tb_2 (List.mem_of_getElem? (i := 13) (by decide +kernel))) rfl
theorem tw_205 : Cond.code yX5_init cX5_init 1 none ∈ BT := bt_tbl (tb_2 (List.mem_of_getElem? (i := 14) (by decide +kernel))) rfl
theorem tw_206 : Cond.fieldLink RX9 40 "Cycleworks" "streams" "LCycleworks$Streams;" ∈ BT := bt_tbl (tb_2 (List.mem_of_getElem? (i := 112) (by decide +kernel))) rfl
theorem tw_207 : Cond.classLink RX9 44 RX2 ∈ BT := bt_tbl (tb_2 (List.mem_of_getElem? (i := 29) (by decide +kernel))) rfl
theorem tw_208 : Cond.instantiable RX2 10 ∈ BT := bt_tbl (tb_2 (List.mem_of_getElem? (i := 30) (by decide +kernel))) rfl
theorem tw_209 : Cond.initialized RX2 ∈ BT := bt_tbl (tb_1 (List.mem_of_getElem? (i := 9) (by decide +kernel))) rfl
theorem tw_210 : Cond.methodLinkNest RX9 46 yX2_init "Cycleworks" ∈ BT := bt_tbl (tb_2 (List.mem_of_getElem? (i := 31) (by decide +kernel))) rfl
theorem tw_211 : Cond.instanceMethod yX2_init ∈ BT := bt_tbl (tb_2 (List.mem_of_getElem? (i := 32) (by decide +kernel))) rfl
theorem tw_212 : Cond.code yX2_init cX2_init 1 none ∈ BT := bt_tbl (tb_2 (List.mem_of_getElem? (i := 33) (by decide +kernel))) rfl
theorem tw_213 : Cond.fieldLink RX9 47 "Cycleworks" "governor" "LCycleworks$Governor;" ∈ BT := bt_tbl (tb_2 (List.mem_of_getElem? (i := 113) (by decide +kernel))) rfl
theorem tw_214 : Cond.classLink RX9 51 RX6 ∈ BT := bt_tbl (tb_2 (List.mem_of_getElem? (i := 73) (by decide +kernel))) rfl
theorem tw_215 : Cond.instantiable RX6 5 ∈ BT := bt_tbl (tb_2 (List.mem_of_getElem? (i := 74) (by decide +kernel))) rfl
theorem tw_216 : Cond.initialized RX6 ∈ BT := bt_tbl (tb_1 (List.mem_of_getElem? (i := 10) (by decide +kernel))) rfl
theorem tw_217 : Cond.methodLinkNest RX9 53 yX6_init "Cycleworks" ∈ BT := bt_tbl (tb_2 (List.mem_of_getElem? (i := 75) (by decide +kernel))) rfl
theorem tw_218 : Cond.instanceMethod yX6_init ∈ BT := bt_tbl (tb_2 (List.mem_of_getElem? (i := 76) (by decide +kernel))) rfl
theorem tw_219 : Cond.code yX6_init cX6_init 1 none ∈ BT := bt_tbl (tb_2 (List.mem_of_getElem? (i := 77) (by decide +kernel))) rfl
theorem tw_220 : Cond.fieldLink RX9 54 "Cycleworks" "sums" "LCycleworks$Sums;" ∈ BT := bt_tbl (tb_2 (List.mem_of_getElem? (i := 114) (by decide +kernel))) rfl
theorem tw_221 : Cond.fieldLinkNest RX9 58 "Cycleworks$Cylinder" "energy" "LCycleworks$Whole;" "Cycleworks" ∈ BT := bt_tbl (tb_1 (List.mem_of_getElem? (i := 214) (by decide +kernel))) rfl
theorem tw_222 : Cond.methodLink RX9 62 yX8_low ∈ BT := bt_tbl (tb_2 (List.mem_of_getElem? (i := 100) (by decide +kernel))) rfl
theorem tw_223 : Cond.instanceMethod yX8_low ∈ BT := bt_tbl (tb_2 (List.mem_of_getElem? (i := 101) (by decide +kernel))) rfl
theorem tw_224 : Cond.selects RX8 yX8_low yX8_low ∈ BT := bt_tbl (tb_2 (List.mem_of_getElem? (i := 102) (by decide +kernel))) rfl
theorem tw_225 : Cond.code yX8_low cX8_low 1 (some .long) ∈ BT := bt_tbl (tb_2 (List.mem_of_getElem? (i := 103) (by decide +kernel))) rfl
theorem tw_226 : Cond.fieldLinkNest RX9 68 "Cycleworks$Sums" "putIn" "J" "Cycleworks" ∈ BT := bt_tbl (tb_2 (List.mem_of_getElem? (i := 88) (by decide +kernel))) rfl
theorem tw_227 : Cond.methodLink RJxa1e45 1 objectInit ∈ BT := bt_tbl (tb_6 (List.mem_of_getElem? (i := 207) (by decide +kernel))) rfl
theorem tw_228 : Cond.methodLink RJxc12de 1 yJxa1e45_init_da8c8 ∈ BT := bt_tbl (tb_6 (List.mem_of_getElem? (i := 204) (by decide +kernel))) rfl
theorem tw_229 : Cond.instanceMethod yJxa1e45_init_da8c8 ∈ BT := bt_tbl (tb_6 (List.mem_of_getElem? (i := 205) (by decide +kernel))) rfl
theorem tw_230 : Cond.initialized RJxa1e45 ∈ BT := bt_tbl (tb_1 (List.mem_of_getElem? (i := 12) (by decide +kernel))) rfl
theorem tw_231 : Cond.code yJxa1e45_init_da8c8 cJxa1e45_init_da8c8 1 none ∈ BT := bt_tbl (tb_6 (List.mem_of_getElem? (i := 206) (by decide +kernel))) rfl
theorem tw_232 : Cond.lays RJx4a65c RJx4a65c "size" "I" ∈ BT := bt_tbl (tb_6 (List.mem_of_getElem? (i := 220) (by decide +kernel))) rfl
theorem tw_233 : Cond.lays RJx4a65c RJx4a65c "elementData" "[Ljava/lang/Object;" ∈ BT := bt_tbl (tb_6 (List.mem_of_getElem? (i := 218) (by decide +kernel))) rfl
theorem tw_234 : Cond.lays RJx4a65c RJxc12de "modCount" "I" ∈ BT := bt_tbl (tb_6 (List.mem_of_getElem? (i := 222) (by decide +kernel))) rfl
theorem tw_235 : Cond.fieldLink RJxc12de 7 "java/util/AbstractList" "modCount" "I" ∈ BT := bt_tbl (tb_6 (List.mem_of_getElem? (i := 214) (by decide +kernel))) rfl
theorem tw_236 : Cond.methodLink RJx4a65c 1 yJxc12de_init_da8c8 ∈ BT := bt_tbl (tb_6 (List.mem_of_getElem? (i := 201) (by decide +kernel))) rfl
theorem tw_237 : Cond.instanceMethod yJxc12de_init_da8c8 ∈ BT := bt_tbl (tb_6 (List.mem_of_getElem? (i := 202) (by decide +kernel))) rfl
theorem tw_238 : Cond.initialized RJxc12de ∈ BT := bt_tbl (tb_1 (List.mem_of_getElem? (i := 13) (by decide +kernel))) rfl
theorem tw_239 : Cond.code yJxc12de_init_da8c8 cJxc12de_init_da8c8 1 none ∈ BT := bt_tbl (tb_6 (List.mem_of_getElem? (i := 203) (by decide +kernel))) rfl
theorem tw_240 : Cond.fieldLink RJx4a65c 39 "java/util/ArrayList" "DEFAULTCAPACITY_EMPTY_ELEMENTDATA" "[Ljava/lang/Object;" ∈ BT := bt_tbl (tb_6 (List.mem_of_getElem? (i := 208) (by decide +kernel))) rfl
theorem tw_241 : Cond.fieldLink RJx4a65c 9 "java/util/ArrayList" "elementData" "[Ljava/lang/Object;" ∈ BT := bt_tbl (tb_6 (List.mem_of_getElem? (i := 210) (by decide +kernel))) rfl
theorem tw_242 : Cond.methodLink RX10 17 objectInit ∈ BT := bt_tbl (tb_6 (List.mem_of_getElem? (i := 195) (by decide +kernel))) rfl
theorem tw_243 : Cond.classLink RX10 23 RJx4a65c ∈ BT := bt_tbl (tb_6 (List.mem_of_getElem? (i := 196) (by decide +kernel))) rfl
theorem tw_244 : Cond.instantiable RJx4a65c 3 ∈ BT := bt_tbl (tb_6 (List.mem_of_getElem? (i := 197) (by decide +kernel))) rfl
theorem tw_245 : Cond.initialized RJx4a65c ∈ BT := bt_tbl (tb_1 (List.mem_of_getElem? (i := 14) (by decide +kernel))) rfl
theorem tw_246 : Cond.methodLink RX10 25 yJx4a65c_init_da8c8 ∈ BT := bt_tbl (tb_6 (List.mem_of_getElem? (i := 198) (by decide +kernel))) rfl
theorem tw_247 : Cond.instanceMethod yJx4a65c_init_da8c8 ∈ BT := bt_tbl (tb_6 (List.mem_of_getElem? (i := 199) (by decide +kernel))) rfl
theorem tw_248 : Cond.code yJx4a65c_init_da8c8 cJx4a65c_init_da8c8 1 none ∈ BT := bt_tbl (tb_6 (List.mem_of_getElem? (i := 200) (by decide +kernel))) rfl
theorem tw_249 : Cond.lays RX10 RX10 "lastWay" "I" ∈ BT := bt_tbl (tb_7 (List.mem_of_getElem? (i := 67) (by decide +kernel))) rfl
theorem tw_250 : Cond.lays RX10 RX10 "turns" "I" ∈ BT := bt_tbl (tb_7 (List.mem_of_getElem? (i := 65) (by decide +kernel))) rfl
theorem tw_251 : Cond.lays RX10 RX10 "tripped" "Z" ∈ BT := bt_tbl (tb_7 (List.mem_of_getElem? (i := 63) (by decide +kernel))) rfl
theorem tw_252 : Cond.lays RX10 RX10 "limit" "I" ∈ BT := bt_tbl (tb_7 (List.mem_of_getElem? (i := 61) (by decide +kernel))) rfl
theorem tw_253 : Cond.lays RX10 RX10 "stiction" "I" ∈ BT := bt_tbl (tb_7 (List.mem_of_getElem? (i := 59) (by decide +kernel))) rfl
theorem tw_254 : Cond.lays RX10 RX10 "gain" "I" ∈ BT := bt_tbl (tb_7 (List.mem_of_getElem? (i := 57) (by decide +kernel))) rfl
theorem tw_255 : Cond.lays RX10 RX10 "set" "I" ∈ BT := bt_tbl (tb_7 (List.mem_of_getElem? (i := 55) (by decide +kernel))) rfl
theorem tw_256 : Cond.lays RX10 RX10 "load" "I" ∈ BT := bt_tbl (tb_7 (List.mem_of_getElem? (i := 53) (by decide +kernel))) rfl
theorem tw_257 : Cond.lays RX10 RX10 "valve" "I" ∈ BT := bt_tbl (tb_7 (List.mem_of_getElem? (i := 51) (by decide +kernel))) rfl
theorem tw_258 : Cond.lays RX10 RX10 "speed" "I" ∈ BT := bt_tbl (tb_7 (List.mem_of_getElem? (i := 49) (by decide +kernel))) rfl
theorem tw_259 : Cond.laysFinal RX10 RX10 "streams" "Ljava/util/List;" ∈ BT := bt_tbl (tb_7 (List.mem_of_getElem? (i := 47) (by decide +kernel))) rfl
theorem tw_260 : Cond.lays RX10 RX10 "made2" "I" ∈ BT := bt_tbl (tb_7 (List.mem_of_getElem? (i := 45) (by decide +kernel))) rfl
theorem tw_261 : Cond.lays RX10 RX10 "ended" "Z" ∈ BT := bt_tbl (tb_7 (List.mem_of_getElem? (i := 43) (by decide +kernel))) rfl
theorem tw_262 : Cond.lays RX10 RX10 "ran" "Z" ∈ BT := bt_tbl (tb_7 (List.mem_of_getElem? (i := 41) (by decide +kernel))) rfl
theorem tw_263 : Cond.laysFinal RX10 RX10 "card" "Ljava/util/List;" ∈ BT := bt_tbl (tb_7 (List.mem_of_getElem? (i := 39) (by decide +kernel))) rfl
theorem tw_264 : Cond.laysFinal RX10 RX10 "strokes" "Ljava/util/List;" ∈ BT := bt_tbl (tb_7 (List.mem_of_getElem? (i := 37) (by decide +kernel))) rfl
theorem tw_265 : Cond.lays RX10 RX10 "energy" "I" ∈ BT := bt_tbl (tb_7 (List.mem_of_getElem? (i := 35) (by decide +kernel))) rfl
theorem tw_266 : Cond.lays RX10 RX10 "volume" "I" ∈ BT := bt_tbl (tb_7 (List.mem_of_getElem? (i := 33) (by decide +kernel))) rfl
theorem tw_267 : Cond.lays RX10 RX10 "amount" "I" ∈ BT := bt_tbl (tb_7 (List.mem_of_getElem? (i := 31) (by decide +kernel))) rfl
theorem tw_268 : Cond.lays RX10 RX10 "solved" "Ljava/util/List;" ∈ BT := bt_tbl (tb_7 (List.mem_of_getElem? (i := 29) (by decide +kernel))) rfl
theorem tw_269 : Cond.laysFinal RX10 RX10 "parts" "Ljava/util/List;" ∈ BT := bt_tbl (tb_7 (List.mem_of_getElem? (i := 27) (by decide +kernel))) rfl
theorem tw_270 : Cond.laysFinal RX10 RX10 "rows" "Ljava/util/List;" ∈ BT := bt_tbl (tb_7 (List.mem_of_getElem? (i := 25) (by decide +kernel))) rfl
theorem tw_271 : Cond.lays RX10 RX10 "makers" "I" ∈ BT := bt_tbl (tb_7 (List.mem_of_getElem? (i := 23) (by decide +kernel))) rfl
theorem tw_272 : Cond.lays RX10 RX10 "done" "I" ∈ BT := bt_tbl (tb_7 (List.mem_of_getElem? (i := 21) (by decide +kernel))) rfl
theorem tw_273 : Cond.lays RX10 RX10 "made" "I" ∈ BT := bt_tbl (tb_7 (List.mem_of_getElem? (i := 19) (by decide +kernel))) rfl
theorem tw_274 : Cond.lays RX10 RX10 "work" "I" ∈ BT := bt_tbl (tb_7 (List.mem_of_getElem? (i := 17) (by decide +kernel))) rfl
theorem tw_275 : Cond.laysFinal RX10 RX10 "bodies" "Ljava/util/List;" ∈ BT := bt_tbl (tb_7 (List.mem_of_getElem? (i := 15) (by decide +kernel))) rfl
theorem tw_276 : Cond.lays RX10 RX10 "thrown" "I" ∈ BT := bt_tbl (tb_7 (List.mem_of_getElem? (i := 13) (by decide +kernel))) rfl
theorem tw_277 : Cond.fieldLink RX10 26 "CycleworksModel" "bodies" "Ljava/util/List;" ∈ BT := bt_tbl (tb_6 (List.mem_of_getElem? (i := 226) (by decide +kernel))) rfl
theorem tw_278 : Cond.fieldLink RX10 30 "CycleworksModel" "rows" "Ljava/util/List;" ∈ BT := bt_tbl (tb_6 (List.mem_of_getElem? (i := 231) (by decide +kernel))) rfl
theorem tw_279 : Cond.fieldLink RX10 33 "CycleworksModel" "parts" "Ljava/util/List;" ∈ BT := bt_tbl (tb_6 (List.mem_of_getElem? (i := 232) (by decide +kernel))) rfl
theorem tw_280 : Cond.fieldLink RX10 36 "CycleworksModel" "amount" "I" ∈ BT := bt_tbl (tb_6 (List.mem_of_getElem? (i := 234) (by decide +kernel))) rfl
theorem tw_281 : Cond.fieldLink RX10 39 "CycleworksModel" "volume" "I" ∈ BT := bt_tbl (tb_6 (List.mem_of_getElem? (i := 235) (by decide +kernel))) rfl
theorem tw_282 : Cond.fieldLink RX10 42 "CycleworksModel" "energy" "I" ∈ BT := bt_tbl (tb_6 (List.mem_of_getElem? (i := 236) (by decide +kernel))) rfl
theorem tw_283 : Cond.fieldLink RX10 45 "CycleworksModel" "strokes" "Ljava/util/List;" ∈ BT := bt_tbl (tb_6 (List.mem_of_getElem? (i := 237) (by decide +kernel))) rfl
theorem tw_284 : Cond.fieldLink RX10 48 "CycleworksModel" "card" "Ljava/util/List;" ∈ BT := bt_tbl (tb_6 (List.mem_of_getElem? (i := 238) (by decide +kernel))) rfl
theorem tw_285 : Cond.fieldLink RX10 51 "CycleworksModel" "streams" "Ljava/util/List;" ∈ BT := bt_tbl (tb_7 (List.mem_of_getElem? (i := 2) (by decide +kernel))) rfl
theorem tw_286 : Cond.fieldLink RX10 54 "CycleworksModel" "speed" "I" ∈ BT := bt_tbl (tb_7 (List.mem_of_getElem? (i := 3) (by decide +kernel))) rfl
theorem tw_287 : Cond.fieldLink RX10 57 "CycleworksModel" "valve" "I" ∈ BT := bt_tbl (tb_7 (List.mem_of_getElem? (i := 4) (by decide +kernel))) rfl
theorem tw_288 : Cond.fieldLink RX10 60 "CycleworksModel" "load" "I" ∈ BT := bt_tbl (tb_7 (List.mem_of_getElem? (i := 5) (by decide +kernel))) rfl
theorem tw_289 : Cond.fieldLink RX10 63 "CycleworksModel" "set" "I" ∈ BT := bt_tbl (tb_7 (List.mem_of_getElem? (i := 6) (by decide +kernel))) rfl
theorem tw_290 : Cond.fieldLink RX10 66 "CycleworksModel" "gain" "I" ∈ BT := bt_tbl (tb_7 (List.mem_of_getElem? (i := 7) (by decide +kernel))) rfl
theorem tw_291 : Cond.fieldLink RX10 69 "CycleworksModel" "limit" "I" ∈ BT := bt_tbl (tb_7 (List.mem_of_getElem? (i := 9) (by decide +kernel))) rfl
theorem tw_292 : Cond.methodLink RX9 72 yX9_isOutside ∈ BT := bt_tbl (tb_3 (List.mem_of_getElem? (i := 60) (by decide +kernel))) rfl
theorem tw_293 : Cond.static yX9_isOutside ∈ BT := bt_tbl (tb_3 (List.mem_of_getElem? (i := 61) (by decide +kernel))) rfl
theorem tw_294 : Cond.initialized RX9 ∈ BT := bt_tbl (tb_1 (List.mem_of_getElem? (i := 1) (by decide +kernel))) rfl
theorem tw_295 : Cond.code yX9_isOutside cX9_isOutside 3 (some .boolean) ∈ BT := bt_tbl (tb_3 (List.mem_of_getElem? (i := 62) (by decide +kernel))) rfl
theorem tw_296 : Cond.classLink RX9 76 "java/lang/IllegalArgumentException" ∈ BT := bt_tbl (tb_3 (List.mem_of_getElem? (i := 63) (by decide +kernel))) rfl
theorem tw_297 : Cond.initialized "java/lang/IllegalArgumentException" ∈ BT := bt_tbl (tb_1 (List.mem_of_getElem? (i := 18) (by decide +kernel))) rfl
theorem tw_298 : Cond.methodLink RL 7 yX9_addBody ∈ BT := bt_tbl (tb_3 (List.mem_of_getElem? (i := 56) (by decide +kernel))) rfl
theorem tw_299 : Cond.instanceMethod yX9_addBody ∈ BT := bt_tbl (tb_3 (List.mem_of_getElem? (i := 57) (by decide +kernel))) rfl
theorem tw_300 : Cond.selects RX9 yX9_addBody yX9_addBody ∈ BT := bt_tbl (tb_3 (List.mem_of_getElem? (i := 58) (by decide +kernel))) rfl
theorem tw_301 : Cond.code yX9_addBody cX9_addBody 3 (some .int) ∈ BT := bt_tbl (tb_3 (List.mem_of_getElem? (i := 59) (by decide +kernel))) rfl
theorem tw_302 : Cond.classLink RL 13 "java/lang/IllegalArgumentException" ∈ BT := bt_tbl (tb_3 (List.mem_of_getElem? (i := 54) (by decide +kernel))) rfl
theorem tw_303 : Cond.castable "java/lang/IllegalArgumentException" "java/lang/IllegalArgumentException" ∈ BT := bt_tbl (tb_3 (List.mem_of_getElem? (i := 65) (by decide +kernel))) rfl
theorem tw_304 : Cond.methodLink RL 150 yL_addBody ∈ BT := bt_tbl (tb_3 (List.mem_of_getElem? (i := 51) (by decide +kernel))) rfl
theorem tw_305 : Cond.static yL_addBody ∈ BT := bt_tbl (tb_3 (List.mem_of_getElem? (i := 52) (by decide +kernel))) rfl
theorem tw_306 : Cond.initialized RL ∈ BT := bt_tbl (tb_1 (List.mem_of_getElem? (i := 0) (by decide +kernel))) rfl
theorem tw_307 : Cond.codeWith yL_addBody cL_addBody 5 (some .int) [(0, 10, 13, 13), (0, 10, 17, 15)] ∈ BT := bt_tbl (tb_3 (List.mem_of_getElem? (i := 53) (by decide +kernel))) rfl
theorem tw_308 : Cond.fieldLink RX10 1 "CycleworksModel" "thrown" "I" ∈ BT := bt_tbl (tb_6 (List.mem_of_getElem? (i := 225) (by decide +kernel))) rfl
theorem tw_309 : Cond.methodLink RX10 82 yX10_begins ∈ BT := bt_tbl (tb_7 (List.mem_of_getElem? (i := 74) (by decide +kernel))) rfl
theorem tw_310 : Cond.instanceMethod yX10_begins ∈ BT := bt_tbl (tb_7 (List.mem_of_getElem? (i := 76) (by decide +kernel))) rfl
theorem tw_311 : Cond.selects RX10 yX10_begins yX10_begins ∈ BT := bt_sel (List.mem_of_getElem? (i := 34) (by decide +kernel)) rfl
theorem tw_312 : Cond.initialized RX10 ∈ BT := bt_tbl (tb_1 (List.mem_of_getElem? (i := 11) (by decide +kernel))) rfl
theorem tw_313 : Cond.code yX10_begins cX10_begins 1 none ∈ BT := bt_tbl (tb_7 (List.mem_of_getElem? (i := 77) (by decide +kernel))) rfl
theorem tw_314 : Cond.constantLong RX10 85 (50) ∈ BT := bt_tbl (tb_7 (List.mem_of_getElem? (i := 78) (by decide +kernel))) rfl
theorem tw_315 : Cond.constantLong RX10 87 (2000) ∈ BT := bt_tbl (tb_7 (List.mem_of_getElem? (i := 79) (by decide +kernel))) rfl
theorem tw_316 : Cond.methodLink RX10 13 yX10_in ∈ BT := bt_tbl (tb_7 (List.mem_of_getElem? (i := 80) (by decide +kernel))) rfl
theorem tw_317 : Cond.static yX10_in ∈ BT := bt_tbl (tb_7 (List.mem_of_getElem? (i := 81) (by decide +kernel))) rfl
theorem tw_318 : Cond.code yX10_in cX10_in 6 (some .boolean) ∈ BT := bt_tbl (tb_7 (List.mem_of_getElem? (i := 82) (by decide +kernel))) rfl
theorem tw_319 : Cond.methodLink RX10 78 yX10_fails ∈ BT := bt_tbl (tb_7 (List.mem_of_getElem? (i := 84) (by decide +kernel))) rfl
theorem tw_320 : Cond.instanceMethod yX10_fails ∈ BT := bt_tbl (tb_7 (List.mem_of_getElem? (i := 86) (by decide +kernel))) rfl
theorem tw_321 : Cond.selects RX10 yX10_fails yX10_fails ∈ BT := bt_sel (List.mem_of_getElem? (i := 35) (by decide +kernel)) rfl
theorem tw_322 : Cond.code yX10_fails cX10_fails 3 (some .boolean) ∈ BT := bt_tbl (tb_7 (List.mem_of_getElem? (i := 87) (by decide +kernel))) rfl
theorem tw_323 : Cond.methodLink RL 155 yX10_addBody ∈ BT := bt_tbl (tb_7 (List.mem_of_getElem? (i := 70) (by decide +kernel))) rfl
theorem tw_324 : Cond.instanceMethod yX10_addBody ∈ BT := bt_tbl (tb_7 (List.mem_of_getElem? (i := 71) (by decide +kernel))) rfl
theorem tw_325 : Cond.selects RX10 yX10_addBody yX10_addBody ∈ BT := bt_tbl (tb_7 (List.mem_of_getElem? (i := 72) (by decide +kernel))) rfl
theorem tw_326 : Cond.code yX10_addBody cX10_addBody 3 (some .int) ∈ BT := bt_tbl (tb_7 (List.mem_of_getElem? (i := 73) (by decide +kernel))) rfl
theorem tw_327 : Cond.methodLink RL 156 yX10_thrown ∈ BT := bt_tbl (tb_6 (List.mem_of_getElem? (i := 186) (by decide +kernel))) rfl
theorem tw_328 : Cond.instanceMethod yX10_thrown ∈ BT := bt_tbl (tb_6 (List.mem_of_getElem? (i := 187) (by decide +kernel))) rfl
theorem tw_329 : Cond.selects RX10 yX10_thrown yX10_thrown ∈ BT := bt_tbl (tb_6 (List.mem_of_getElem? (i := 188) (by decide +kernel))) rfl
theorem tw_330 : Cond.code yX10_thrown cX10_thrown 1 (some .int) ∈ BT := bt_tbl (tb_6 (List.mem_of_getElem? (i := 189) (by decide +kernel))) rfl
theorem tw_331 : Cond.constantLong RX10 72 (1000) ∈ BT := bt_tbl (tb_7 (List.mem_of_getElem? (i := 83) (by decide +kernel))) rfl
theorem tw_332 : Cond.methodLink RX0 42 yX0_isFull ∈ BT := bt_tbl (tb_3 (List.mem_of_getElem? (i := 159) (by decide +kernel))) rfl
theorem tw_333 : Cond.instanceMethod yX0_isFull ∈ BT := bt_tbl (tb_3 (List.mem_of_getElem? (i := 136) (by decide +kernel))) rfl
theorem tw_334 : Cond.selects RX0 yX0_isFull yX0_isFull ∈ BT := bt_tbl (tb_3 (List.mem_of_getElem? (i := 137) (by decide +kernel))) rfl
theorem tw_335 : Cond.code yX0_isFull cX0_isFull 1 (some .boolean) ∈ BT := bt_tbl (tb_3 (List.mem_of_getElem? (i := 138) (by decide +kernel))) rfl
theorem tw_336 : Cond.methodLink RX0 46 yX8_set ∈ BT := bt_tbl (tb_3 (List.mem_of_getElem? (i := 160) (by decide +kernel))) rfl
theorem tw_337 : Cond.methodLink RX9 83 yX0_isFull ∈ BT := bt_tbl (tb_3 (List.mem_of_getElem? (i := 135) (by decide +kernel))) rfl
theorem tw_338 : Cond.methodLink RX9 92 yX0_append ∈ BT := bt_tbl (tb_3 (List.mem_of_getElem? (i := 155) (by decide +kernel))) rfl
theorem tw_339 : Cond.instanceMethod yX0_append ∈ BT := bt_tbl (tb_3 (List.mem_of_getElem? (i := 156) (by decide +kernel))) rfl
theorem tw_340 : Cond.selects RX0 yX0_append yX0_append ∈ BT := bt_tbl (tb_3 (List.mem_of_getElem? (i := 157) (by decide +kernel))) rfl
theorem tw_341 : Cond.code yX0_append cX0_append 3 (some .int) ∈ BT := bt_tbl (tb_3 (List.mem_of_getElem? (i := 158) (by decide +kernel))) rfl
theorem tw_342 : Cond.fieldLink RJx4a65c 48 "java/util/ArrayList" "size" "I" ∈ BT := bt_tbl (tb_6 (List.mem_of_getElem? (i := 213) (by decide +kernel))) rfl
theorem tw_343 : Cond.methodLink RJx4a65c 79 yJ9_max_7cf53 ∈ BT := bt_tbl (tb_7 (List.mem_of_getElem? (i := 161) (by decide +kernel))) rfl
theorem tw_344 : Cond.static yJ9_max_7cf53 ∈ BT := bt_tbl (tb_2 (List.mem_of_getElem? (i := 176) (by decide +kernel))) rfl
theorem tw_345 : Cond.initialized RJ9 ∈ BT := bt_tbl (tb_1 (List.mem_of_getElem? (i := 21) (by decide +kernel))) rfl
theorem tw_346 : Cond.code yJ9_max_7cf53 cJ9_max_7cf53 2 (some .int) ∈ BT := bt_tbl (tb_2 (List.mem_of_getElem? (i := 177) (by decide +kernel))) rfl
theorem tw_347 : Cond.classLink RJx4a65c 7 "java/lang/Object" ∈ BT := bt_tbl (tb_7 (List.mem_of_getElem? (i := 162) (by decide +kernel))) rfl
theorem tw_348 : Cond.methodLink RJx4a65c 69 yJx4a65c_grow_92f84 ∈ BT := bt_tbl (tb_7 (List.mem_of_getElem? (i := 115) (by decide +kernel))) rfl
theorem tw_349 : Cond.instanceMethod yJx4a65c_grow_92f84 ∈ BT := bt_tbl (tb_7 (List.mem_of_getElem? (i := 117) (by decide +kernel))) rfl
theorem tw_350 : Cond.selects RJx4a65c yJx4a65c_grow_92f84 yJx4a65c_grow_92f84 ∈ BT := bt_sel (List.mem_of_getElem? (i := 38) (by decide +kernel)) rfl
theorem tw_351 : Cond.code yJx4a65c_grow_92f84 cJx4a65c_grow_92f84 4 (some (.array (.object "java/lang/Object"))) ∈ BT := bt_tbl (tb_7 (List.mem_of_getElem? (i := 118) (by decide +kernel))) rfl
theorem tw_352 : Cond.methodLink RJx4a65c 129 yJx4a65c_grow_d5877 ∈ BT := bt_tbl (tb_7 (List.mem_of_getElem? (i := 111) (by decide +kernel))) rfl
theorem tw_353 : Cond.instanceMethod yJx4a65c_grow_d5877 ∈ BT := bt_tbl (tb_7 (List.mem_of_getElem? (i := 113) (by decide +kernel))) rfl
theorem tw_354 : Cond.selects RJx4a65c yJx4a65c_grow_d5877 yJx4a65c_grow_d5877 ∈ BT := bt_sel (List.mem_of_getElem? (i := 37) (by decide +kernel)) rfl
theorem tw_355 : Cond.code yJx4a65c_grow_d5877 cJx4a65c_grow_d5877 1 (some (.array (.object "java/lang/Object"))) ∈ BT := bt_tbl (tb_7 (List.mem_of_getElem? (i := 114) (by decide +kernel))) rfl
theorem tw_356 : Cond.castable "[I" "java/lang/Object" ∈ BT := bt_tbl (tb_9 (List.mem_of_getElem? (i := 227) (by decide +kernel))) rfl
theorem tw_357 : Cond.fieldLink RJx4a65c 63 "java/util/ArrayList" "modCount" "I" ∈ BT := bt_tbl (tb_6 (List.mem_of_getElem? (i := 217) (by decide +kernel))) rfl
theorem tw_358 : Cond.sameField RJx4a65c RJxc12de "modCount" "I" ∈ BT := bt_tbl (tb_6 (List.mem_of_getElem? (i := 216) (by decide +kernel))) rfl
theorem tw_359 : Cond.methodLink RJx4a65c 131 yJx4a65c_add_72be8 ∈ BT := bt_tbl (tb_7 (List.mem_of_getElem? (i := 107) (by decide +kernel))) rfl
theorem tw_360 : Cond.instanceMethod yJx4a65c_add_72be8 ∈ BT := bt_tbl (tb_7 (List.mem_of_getElem? (i := 109) (by decide +kernel))) rfl
theorem tw_361 : Cond.selects RJx4a65c yJx4a65c_add_72be8 yJx4a65c_add_72be8 ∈ BT := bt_sel (List.mem_of_getElem? (i := 36) (by decide +kernel)) rfl
theorem tw_362 : Cond.code yJx4a65c_add_72be8 cJx4a65c_add_72be8 4 none ∈ BT := bt_tbl (tb_7 (List.mem_of_getElem? (i := 110) (by decide +kernel))) rfl
theorem tw_363 : Cond.methodLink RX10 7 (⟨RJxbd725, "size", "()I"⟩ : MethodName) ∈ BT := bt_tbl (tb_7 (List.mem_of_getElem? (i := 89) (by decide +kernel))) rfl
theorem tw_364 : Cond.selects RJx4a65c (⟨RJxbd725, "size", "()I"⟩ : MethodName) yJx4a65c_size_8abf5 ∈ BT := bt_tbl (tb_7 (List.mem_of_getElem? (i := 93) (by decide +kernel))) rfl
theorem tw_365 : Cond.instanceMethod yJx4a65c_size_8abf5 ∈ BT := bt_tbl (tb_7 (List.mem_of_getElem? (i := 95) (by decide +kernel))) rfl
theorem tw_366 : Cond.code yJx4a65c_size_8abf5 cJx4a65c_size_8abf5 1 (some .int) ∈ BT := bt_tbl (tb_7 (List.mem_of_getElem? (i := 97) (by decide +kernel))) rfl
theorem tw_367 : Cond.declares (⟨RJxbd725, "size", "()I"⟩ : MethodName) ∈ BT := bt_tbl (tb_7 (List.mem_of_getElem? (i := 91) (by decide +kernel))) rfl
theorem tw_368 : Cond.interfaceMethod RJxbd725 RJxbd725 "size" "()I" ∈ BT := bt_tbl (tb_7 (List.mem_of_getElem? (i := 90) (by decide +kernel))) rfl
theorem tw_369 : Cond.publicMethod yJx4a65c_size_8abf5 ∈ BT := bt_tbl (tb_7 (List.mem_of_getElem? (i := 96) (by decide +kernel))) rfl
theorem tw_370 : Cond.unhidden RJx4a65c "size" "()I" ∈ BT := bt_tbl (tb_7 (List.mem_of_getElem? (i := 94) (by decide +kernel))) rfl
theorem tw_371 : Cond.castable RJx4a65c RJxbd725 ∈ BT := bt_tbl (tb_7 (List.mem_of_getElem? (i := 92) (by decide +kernel))) rfl
theorem tw_372 : Cond.methodLink RX10 89 (⟨RJxbd725, "add", "(Ljava/lang/Object;)Z"⟩ : MethodName) ∈ BT := bt_tbl (tb_7 (List.mem_of_getElem? (i := 99) (by decide +kernel))) rfl
theorem tw_373 : Cond.selects RJx4a65c (⟨RJxbd725, "add", "(Ljava/lang/Object;)Z"⟩ : MethodName) yJx4a65c_add_9ea2d ∈ BT := bt_tbl (tb_7 (List.mem_of_getElem? (i := 102) (by decide +kernel))) rfl
theorem tw_374 : Cond.instanceMethod yJx4a65c_add_9ea2d ∈ BT := bt_tbl (tb_7 (List.mem_of_getElem? (i := 104) (by decide +kernel))) rfl
theorem tw_375 : Cond.code yJx4a65c_add_9ea2d cJx4a65c_add_9ea2d 2 (some .boolean) ∈ BT := bt_tbl (tb_7 (List.mem_of_getElem? (i := 106) (by decide +kernel))) rfl
theorem tw_376 : Cond.declares (⟨RJxbd725, "add", "(Ljava/lang/Object;)Z"⟩ : MethodName) ∈ BT := bt_tbl (tb_7 (List.mem_of_getElem? (i := 101) (by decide +kernel))) rfl
theorem tw_377 : Cond.interfaceMethod RJxbd725 RJxbd725 "add" "(Ljava/lang/Object;)Z" ∈ BT := bt_tbl (tb_7 (List.mem_of_getElem? (i := 100) (by decide +kernel))) rfl
theorem tw_378 : Cond.publicMethod yJx4a65c_add_9ea2d ∈ BT := bt_tbl (tb_7 (List.mem_of_getElem? (i := 105) (by decide +kernel))) rfl
theorem tw_379 : Cond.unhidden RJx4a65c "add" "(Ljava/lang/Object;)Z" ∈ BT := bt_tbl (tb_7 (List.mem_of_getElem? (i := 103) (by decide +kernel))) rfl
theorem tw_380 : Cond.methodLink RX8 37 yX8_write ∈ BT := bt_tbl (tb_1 (List.mem_of_getElem? (i := 201) (by decide +kernel))) rfl
theorem tw_381 : Cond.instanceMethod yX8_write ∈ BT := bt_tbl (tb_1 (List.mem_of_getElem? (i := 203) (by decide +kernel))) rfl
theorem tw_382 : Cond.selects RX8 yX8_write yX8_write ∈ BT := bt_sel (List.mem_of_getElem? (i := 0) (by decide +kernel)) rfl
theorem tw_383 : Cond.code yX8_write cX8_write 4 none ∈ BT := bt_tbl (tb_1 (List.mem_of_getElem? (i := 204) (by decide +kernel))) rfl
theorem tw_384 : Cond.methodLink RX9 404 yX0_has ∈ BT := bt_tbl (tb_3 (List.mem_of_getElem? (i := 196) (by decide +kernel))) rfl
theorem tw_385 : Cond.instanceMethod yX0_has ∈ BT := bt_tbl (tb_3 (List.mem_of_getElem? (i := 2) (by decide +kernel))) rfl
theorem tw_386 : Cond.selects RX0 yX0_has yX0_has ∈ BT := bt_tbl (tb_3 (List.mem_of_getElem? (i := 3) (by decide +kernel))) rfl
theorem tw_387 : Cond.code yX0_has cX0_has 2 (some .boolean) ∈ BT := bt_tbl (tb_3 (List.mem_of_getElem? (i := 4) (by decide +kernel))) rfl
theorem tw_388 : Cond.classLink RX9 407 "java/lang/IndexOutOfBoundsException" ∈ BT := bt_tbl (tb_3 (List.mem_of_getElem? (i := 197) (by decide +kernel))) rfl
theorem tw_389 : Cond.initialized "java/lang/IndexOutOfBoundsException" ∈ BT := bt_tbl (tb_1 (List.mem_of_getElem? (i := 24) (by decide +kernel))) rfl
theorem tw_390 : Cond.methodLink RX9 96 yX9_requireBody ∈ BT := bt_tbl (tb_3 (List.mem_of_getElem? (i := 192) (by decide +kernel))) rfl
theorem tw_391 : Cond.instanceMethod yX9_requireBody ∈ BT := bt_tbl (tb_3 (List.mem_of_getElem? (i := 194) (by decide +kernel))) rfl
theorem tw_392 : Cond.selects RX9 yX9_requireBody yX9_requireBody ∈ BT := bt_sel (List.mem_of_getElem? (i := 7) (by decide +kernel)) rfl
theorem tw_393 : Cond.code yX9_requireBody cX9_requireBody 2 none ∈ BT := bt_tbl (tb_3 (List.mem_of_getElem? (i := 195) (by decide +kernel))) rfl
theorem tw_394 : Cond.methodLink RL 17 yX9_getTemperature ∈ BT := bt_tbl (tb_3 (List.mem_of_getElem? (i := 188) (by decide +kernel))) rfl
theorem tw_395 : Cond.instanceMethod yX9_getTemperature ∈ BT := bt_tbl (tb_3 (List.mem_of_getElem? (i := 189) (by decide +kernel))) rfl
theorem tw_396 : Cond.selects RX9 yX9_getTemperature yX9_getTemperature ∈ BT := bt_tbl (tb_3 (List.mem_of_getElem? (i := 190) (by decide +kernel))) rfl
theorem tw_397 : Cond.code yX9_getTemperature cX9_getTemperature 2 (some .int) ∈ BT := bt_tbl (tb_3 (List.mem_of_getElem? (i := 191) (by decide +kernel))) rfl
theorem tw_398 : Cond.classLink RL 21 "java/lang/IndexOutOfBoundsException" ∈ BT := bt_tbl (tb_3 (List.mem_of_getElem? (i := 164) (by decide +kernel))) rfl
theorem tw_399 : Cond.castable "java/lang/IndexOutOfBoundsException" "java/lang/IndexOutOfBoundsException" ∈ BT := bt_tbl (tb_3 (List.mem_of_getElem? (i := 199) (by decide +kernel))) rfl
theorem tw_400 : Cond.methodLink RL 159 yL_getTemperature ∈ BT := bt_tbl (tb_3 (List.mem_of_getElem? (i := 161) (by decide +kernel))) rfl
theorem tw_401 : Cond.static yL_getTemperature ∈ BT := bt_tbl (tb_3 (List.mem_of_getElem? (i := 162) (by decide +kernel))) rfl
theorem tw_402 : Cond.codeWith yL_getTemperature cL_getTemperature 4 (some .int) [(0, 9, 12, 21)] ∈ BT := bt_tbl (tb_3 (List.mem_of_getElem? (i := 163) (by decide +kernel))) rfl
theorem tw_403 : Cond.methodLink RX10 74 yX10_isOf ∈ BT := bt_tbl (tb_7 (List.mem_of_getElem? (i := 171) (by decide +kernel))) rfl
theorem tw_404 : Cond.static yX10_isOf ∈ BT := bt_tbl (tb_7 (List.mem_of_getElem? (i := 172) (by decide +kernel))) rfl
theorem tw_405 : Cond.code yX10_isOf cX10_isOf 2 (some .boolean) ∈ BT := bt_tbl (tb_7 (List.mem_of_getElem? (i := 173) (by decide +kernel))) rfl
theorem tw_406 : Cond.methodLink RX10 93 yX10_noBody ∈ BT := bt_tbl (tb_7 (List.mem_of_getElem? (i := 167) (by decide +kernel))) rfl
theorem tw_407 : Cond.instanceMethod yX10_noBody ∈ BT := bt_tbl (tb_7 (List.mem_of_getElem? (i := 169) (by decide +kernel))) rfl
theorem tw_408 : Cond.selects RX10 yX10_noBody yX10_noBody ∈ BT := bt_sel (List.mem_of_getElem? (i := 39) (by decide +kernel)) rfl
theorem tw_409 : Cond.code yX10_noBody cX10_noBody 2 (some .boolean) ∈ BT := bt_tbl (tb_7 (List.mem_of_getElem? (i := 170) (by decide +kernel))) rfl
theorem tw_410 : Cond.methodLink RL 162 yX10_getTemperature ∈ BT := bt_tbl (tb_7 (List.mem_of_getElem? (i := 163) (by decide +kernel))) rfl
theorem tw_411 : Cond.instanceMethod yX10_getTemperature ∈ BT := bt_tbl (tb_7 (List.mem_of_getElem? (i := 164) (by decide +kernel))) rfl
theorem tw_412 : Cond.selects RX10 yX10_getTemperature yX10_getTemperature ∈ BT := bt_tbl (tb_7 (List.mem_of_getElem? (i := 165) (by decide +kernel))) rfl
theorem tw_413 : Cond.code yX10_getTemperature cX10_getTemperature 2 (some .int) ∈ BT := bt_tbl (tb_7 (List.mem_of_getElem? (i := 166) (by decide +kernel))) rfl
theorem tw_414 : Cond.methodLink RL 23 yX9_getEnergy ∈ BT := bt_tbl (tb_3 (List.mem_of_getElem? (i := 218) (by decide +kernel))) rfl
theorem tw_415 : Cond.instanceMethod yX9_getEnergy ∈ BT := bt_tbl (tb_3 (List.mem_of_getElem? (i := 219) (by decide +kernel))) rfl
theorem tw_416 : Cond.selects RX9 yX9_getEnergy yX9_getEnergy ∈ BT := bt_tbl (tb_3 (List.mem_of_getElem? (i := 220) (by decide +kernel))) rfl
theorem tw_417 : Cond.code yX9_getEnergy cX9_getEnergy 2 (some .int) ∈ BT := bt_tbl (tb_3 (List.mem_of_getElem? (i := 221) (by decide +kernel))) rfl
theorem tw_418 : Cond.methodLink RL 163 yL_getEnergy ∈ BT := bt_tbl (tb_3 (List.mem_of_getElem? (i := 215) (by decide +kernel))) rfl
theorem tw_419 : Cond.static yL_getEnergy ∈ BT := bt_tbl (tb_3 (List.mem_of_getElem? (i := 216) (by decide +kernel))) rfl
theorem tw_420 : Cond.codeWith yL_getEnergy cL_getEnergy 4 (some .int) [(0, 9, 12, 21)] ∈ BT := bt_tbl (tb_3 (List.mem_of_getElem? (i := 217) (by decide +kernel))) rfl
theorem tw_421 : Cond.methodLink RL 165 yX10_getEnergy ∈ BT := bt_tbl (tb_7 (List.mem_of_getElem? (i := 197) (by decide +kernel))) rfl
theorem tw_422 : Cond.instanceMethod yX10_getEnergy ∈ BT := bt_tbl (tb_7 (List.mem_of_getElem? (i := 198) (by decide +kernel))) rfl
theorem tw_423 : Cond.selects RX10 yX10_getEnergy yX10_getEnergy ∈ BT := bt_tbl (tb_7 (List.mem_of_getElem? (i := 199) (by decide +kernel))) rfl
theorem tw_424 : Cond.code yX10_getEnergy cX10_getEnergy 2 (some .int) ∈ BT := bt_tbl (tb_7 (List.mem_of_getElem? (i := 200) (by decide +kernel))) rfl
theorem tw_425 : Cond.methodLink RX9 107 yX9_requireTwoBodies ∈ BT := bt_tbl (tb_3 (List.mem_of_getElem? (i := 230) (by decide +kernel))) rfl
theorem tw_426 : Cond.instanceMethod yX9_requireTwoBodies ∈ BT := bt_tbl (tb_3 (List.mem_of_getElem? (i := 232) (by decide +kernel))) rfl
theorem tw_427 : Cond.selects RX9 yX9_requireTwoBodies yX9_requireTwoBodies ∈ BT := bt_sel (List.mem_of_getElem? (i := 8) (by decide +kernel)) rfl
theorem tw_428 : Cond.code yX9_requireTwoBodies cX9_requireTwoBodies 4 none ∈ BT := bt_tbl (tb_3 (List.mem_of_getElem? (i := 233) (by decide +kernel))) rfl
theorem tw_429 : Cond.methodLink RL 26 yX9_conduct ∈ BT := bt_tbl (tb_3 (List.mem_of_getElem? (i := 226) (by decide +kernel))) rfl
theorem tw_430 : Cond.instanceMethod yX9_conduct ∈ BT := bt_tbl (tb_3 (List.mem_of_getElem? (i := 227) (by decide +kernel))) rfl
theorem tw_431 : Cond.selects RX9 yX9_conduct yX9_conduct ∈ BT := bt_tbl (tb_3 (List.mem_of_getElem? (i := 228) (by decide +kernel))) rfl
theorem tw_432 : Cond.code yX9_conduct cX9_conduct 4 (some .int) ∈ BT := bt_tbl (tb_3 (List.mem_of_getElem? (i := 229) (by decide +kernel))) rfl
theorem tw_433 : Cond.methodLink RL 166 yL_conduct ∈ BT := bt_tbl (tb_3 (List.mem_of_getElem? (i := 222) (by decide +kernel))) rfl
theorem tw_434 : Cond.static yL_conduct ∈ BT := bt_tbl (tb_3 (List.mem_of_getElem? (i := 223) (by decide +kernel))) rfl
theorem tw_435 : Cond.codeWith yL_conduct cL_conduct 6 (some .int) [(0, 12, 15, 21), (0, 12, 19, 13), (0, 12, 23, 30)] ∈ BT := bt_tbl (tb_3 (List.mem_of_getElem? (i := 224) (by decide +kernel))) rfl
theorem tw_436 : Cond.methodLink RL 169 yX10_conduct ∈ BT := bt_tbl (tb_7 (List.mem_of_getElem? (i := 201) (by decide +kernel))) rfl
theorem tw_437 : Cond.instanceMethod yX10_conduct ∈ BT := bt_tbl (tb_7 (List.mem_of_getElem? (i := 202) (by decide +kernel))) rfl
theorem tw_438 : Cond.selects RX10 yX10_conduct yX10_conduct ∈ BT := bt_tbl (tb_7 (List.mem_of_getElem? (i := 203) (by decide +kernel))) rfl
theorem tw_439 : Cond.code yX10_conduct cX10_conduct 8 (some .int) ∈ BT := bt_tbl (tb_7 (List.mem_of_getElem? (i := 204) (by decide +kernel))) rfl
theorem tw_440 : Cond.methodLink RL 32 yX9_runEngine ∈ BT := bt_tbl (tb_4 (List.mem_of_getElem? (i := 76) (by decide +kernel))) rfl
theorem tw_441 : Cond.instanceMethod yX9_runEngine ∈ BT := bt_tbl (tb_4 (List.mem_of_getElem? (i := 77) (by decide +kernel))) rfl
theorem tw_442 : Cond.selects RX9 yX9_runEngine yX9_runEngine ∈ BT := bt_tbl (tb_4 (List.mem_of_getElem? (i := 78) (by decide +kernel))) rfl
theorem tw_443 : Cond.code yX9_runEngine cX9_runEngine 5 (some .int) ∈ BT := bt_tbl (tb_4 (List.mem_of_getElem? (i := 79) (by decide +kernel))) rfl
theorem tw_444 : Cond.methodLink RL 170 yL_runEngine ∈ BT := bt_tbl (tb_4 (List.mem_of_getElem? (i := 73) (by decide +kernel))) rfl
theorem tw_445 : Cond.static yL_runEngine ∈ BT := bt_tbl (tb_4 (List.mem_of_getElem? (i := 74) (by decide +kernel))) rfl
theorem tw_446 : Cond.codeWith yL_runEngine cL_runEngine 7 (some .int) [(0, 14, 17, 21), (0, 14, 21, 13), (0, 14, 25, 30)] ∈ BT := bt_tbl (tb_4 (List.mem_of_getElem? (i := 75) (by decide +kernel))) rfl
theorem tw_447 : Cond.methodLink RL 173 yX10_runEngine ∈ BT := bt_tbl (tb_7 (List.mem_of_getElem? (i := 218) (by decide +kernel))) rfl
theorem tw_448 : Cond.instanceMethod yX10_runEngine ∈ BT := bt_tbl (tb_7 (List.mem_of_getElem? (i := 219) (by decide +kernel))) rfl
theorem tw_449 : Cond.selects RX10 yX10_runEngine yX10_runEngine ∈ BT := bt_tbl (tb_7 (List.mem_of_getElem? (i := 220) (by decide +kernel))) rfl
theorem tw_450 : Cond.code yX10_runEngine cX10_runEngine 5 (some .int) ∈ BT := bt_tbl (tb_7 (List.mem_of_getElem? (i := 221) (by decide +kernel))) rfl
theorem tw_451 : Cond.methodLink RL 36 yX9_runPump ∈ BT := bt_tbl (tb_4 (List.mem_of_getElem? (i := 84) (by decide +kernel))) rfl
theorem tw_452 : Cond.instanceMethod yX9_runPump ∈ BT := bt_tbl (tb_4 (List.mem_of_getElem? (i := 85) (by decide +kernel))) rfl
theorem tw_453 : Cond.selects RX9 yX9_runPump yX9_runPump ∈ BT := bt_tbl (tb_4 (List.mem_of_getElem? (i := 86) (by decide +kernel))) rfl
theorem tw_454 : Cond.code yX9_runPump cX9_runPump 5 (some .int) ∈ BT := bt_tbl (tb_4 (List.mem_of_getElem? (i := 87) (by decide +kernel))) rfl
theorem tw_455 : Cond.methodLink RL 174 yL_runPump ∈ BT := bt_tbl (tb_4 (List.mem_of_getElem? (i := 81) (by decide +kernel))) rfl
theorem tw_456 : Cond.static yL_runPump ∈ BT := bt_tbl (tb_4 (List.mem_of_getElem? (i := 82) (by decide +kernel))) rfl
theorem tw_457 : Cond.codeWith yL_runPump cL_runPump 7 (some .int) [(0, 14, 17, 21), (0, 14, 21, 13), (0, 14, 25, 30)] ∈ BT := bt_tbl (tb_4 (List.mem_of_getElem? (i := 83) (by decide +kernel))) rfl
theorem tw_458 : Cond.methodLink RL 176 yX10_runPump ∈ BT := bt_tbl (tb_7 (List.mem_of_getElem? (i := 226) (by decide +kernel))) rfl
theorem tw_459 : Cond.instanceMethod yX10_runPump ∈ BT := bt_tbl (tb_7 (List.mem_of_getElem? (i := 227) (by decide +kernel))) rfl
theorem tw_460 : Cond.selects RX10 yX10_runPump yX10_runPump ∈ BT := bt_tbl (tb_7 (List.mem_of_getElem? (i := 228) (by decide +kernel))) rfl
theorem tw_461 : Cond.code yX10_runPump cX10_runPump 5 (some .int) ∈ BT := bt_tbl (tb_7 (List.mem_of_getElem? (i := 229) (by decide +kernel))) rfl
theorem tw_462 : Cond.fieldLinkNest RX9 139 "Cycleworks$Sums" "work" "J" "Cycleworks" ∈ BT := bt_tbl (tb_2 (List.mem_of_getElem? (i := 80) (by decide +kernel))) rfl
theorem tw_463 : Cond.methodLink RL 177 yX9_getWork ∈ BT := bt_tbl (tb_2 (List.mem_of_getElem? (i := 130) (by decide +kernel))) rfl
theorem tw_464 : Cond.instanceMethod yX9_getWork ∈ BT := bt_tbl (tb_2 (List.mem_of_getElem? (i := 131) (by decide +kernel))) rfl
theorem tw_465 : Cond.selects RX9 yX9_getWork yX9_getWork ∈ BT := bt_tbl (tb_2 (List.mem_of_getElem? (i := 132) (by decide +kernel))) rfl
theorem tw_466 : Cond.code yX9_getWork cX9_getWork 1 (some .int) ∈ BT := bt_tbl (tb_2 (List.mem_of_getElem? (i := 133) (by decide +kernel))) rfl
theorem tw_467 : Cond.fieldLink RX10 136 "CycleworksModel" "work" "I" ∈ BT := bt_tbl (tb_6 (List.mem_of_getElem? (i := 227) (by decide +kernel))) rfl
theorem tw_468 : Cond.methodLink RL 180 yX10_getWork ∈ BT := bt_tbl (tb_7 (List.mem_of_getElem? (i := 230) (by decide +kernel))) rfl
theorem tw_469 : Cond.instanceMethod yX10_getWork ∈ BT := bt_tbl (tb_7 (List.mem_of_getElem? (i := 231) (by decide +kernel))) rfl
theorem tw_470 : Cond.selects RX10 yX10_getWork yX10_getWork ∈ BT := bt_tbl (tb_7 (List.mem_of_getElem? (i := 232) (by decide +kernel))) rfl
theorem tw_471 : Cond.code yX10_getWork cX10_getWork 1 (some .int) ∈ BT := bt_tbl (tb_7 (List.mem_of_getElem? (i := 233) (by decide +kernel))) rfl
theorem tw_472 : Cond.fieldLinkNest RX9 142 "Cycleworks$Sums" "made" "I" "Cycleworks" ∈ BT := bt_tbl (tb_2 (List.mem_of_getElem? (i := 82) (by decide +kernel))) rfl
theorem tw_473 : Cond.methodLink RL 181 yX9_getMade ∈ BT := bt_tbl (tb_2 (List.mem_of_getElem? (i := 134) (by decide +kernel))) rfl
theorem tw_474 : Cond.instanceMethod yX9_getMade ∈ BT := bt_tbl (tb_2 (List.mem_of_getElem? (i := 135) (by decide +kernel))) rfl
theorem tw_475 : Cond.selects RX9 yX9_getMade yX9_getMade ∈ BT := bt_tbl (tb_2 (List.mem_of_getElem? (i := 136) (by decide +kernel))) rfl
theorem tw_476 : Cond.code yX9_getMade cX9_getMade 1 (some .int) ∈ BT := bt_tbl (tb_2 (List.mem_of_getElem? (i := 137) (by decide +kernel))) rfl
theorem tw_477 : Cond.fieldLink RX10 107 "CycleworksModel" "made" "I" ∈ BT := bt_tbl (tb_6 (List.mem_of_getElem? (i := 228) (by decide +kernel))) rfl
theorem tw_478 : Cond.methodLink RL 184 yX10_getMade ∈ BT := bt_tbl (tb_7 (List.mem_of_getElem? (i := 234) (by decide +kernel))) rfl
theorem tw_479 : Cond.instanceMethod yX10_getMade ∈ BT := bt_tbl (tb_7 (List.mem_of_getElem? (i := 235) (by decide +kernel))) rfl
theorem tw_480 : Cond.selects RX10 yX10_getMade yX10_getMade ∈ BT := bt_tbl (tb_7 (List.mem_of_getElem? (i := 236) (by decide +kernel))) rfl
theorem tw_481 : Cond.code yX10_getMade cX10_getMade 1 (some .int) ∈ BT := bt_tbl (tb_7 (List.mem_of_getElem? (i := 237) (by decide +kernel))) rfl
theorem tw_482 : Cond.methodLink RL 39 yX9_addRow ∈ BT := bt_tbl (tb_4 (List.mem_of_getElem? (i := 91) (by decide +kernel))) rfl
theorem tw_483 : Cond.instanceMethod yX9_addRow ∈ BT := bt_tbl (tb_4 (List.mem_of_getElem? (i := 92) (by decide +kernel))) rfl
theorem tw_484 : Cond.selects RX9 yX9_addRow yX9_addRow ∈ BT := bt_tbl (tb_4 (List.mem_of_getElem? (i := 93) (by decide +kernel))) rfl
theorem tw_485 : Cond.code yX9_addRow cX9_addRow 5 (some .int) ∈ BT := bt_tbl (tb_4 (List.mem_of_getElem? (i := 94) (by decide +kernel))) rfl
theorem tw_486 : Cond.methodLink RL 185 yL_addRow ∈ BT := bt_tbl (tb_4 (List.mem_of_getElem? (i := 88) (by decide +kernel))) rfl
theorem tw_487 : Cond.static yL_addRow ∈ BT := bt_tbl (tb_4 (List.mem_of_getElem? (i := 89) (by decide +kernel))) rfl
theorem tw_488 : Cond.codeWith yL_addRow cL_addRow 7 (some .int) [(0, 14, 17, 13), (0, 14, 21, 30), (0, 14, 25, 15)] ∈ BT := bt_tbl (tb_4 (List.mem_of_getElem? (i := 90) (by decide +kernel))) rfl
theorem tw_489 : Cond.methodLink RL 187 yX10_addRow ∈ BT := bt_tbl (tb_7 (List.mem_of_getElem? (i := 238) (by decide +kernel))) rfl
theorem tw_490 : Cond.instanceMethod yX10_addRow ∈ BT := bt_tbl (tb_7 (List.mem_of_getElem? (i := 239) (by decide +kernel))) rfl
theorem tw_491 : Cond.selects RX10 yX10_addRow yX10_addRow ∈ BT := bt_tbl (tb_8 (List.mem_of_getElem? (i := 0) (by decide +kernel))) rfl
theorem tw_492 : Cond.code yX10_addRow cX10_addRow 7 (some .int) ∈ BT := bt_tbl (tb_8 (List.mem_of_getElem? (i := 1) (by decide +kernel))) rfl
theorem tw_493 : Cond.constantLong RX10 142 (999) ∈ BT := bt_tbl (tb_8 (List.mem_of_getElem? (i := 2) (by decide +kernel))) rfl
theorem tw_494 : Cond.constantLong RX10 144 (9999) ∈ BT := bt_tbl (tb_8 (List.mem_of_getElem? (i := 3) (by decide +kernel))) rfl
theorem tw_495 : Cond.methodLink RX7 26 yX7_isFull ∈ BT := bt_tbl (tb_4 (List.mem_of_getElem? (i := 109) (by decide +kernel))) rfl
theorem tw_496 : Cond.instanceMethod yX7_isFull ∈ BT := bt_tbl (tb_4 (List.mem_of_getElem? (i := 101) (by decide +kernel))) rfl
theorem tw_497 : Cond.selects RX7 yX7_isFull yX7_isFull ∈ BT := bt_tbl (tb_4 (List.mem_of_getElem? (i := 102) (by decide +kernel))) rfl
theorem tw_498 : Cond.code yX7_isFull cX7_isFull 1 (some .boolean) ∈ BT := bt_tbl (tb_4 (List.mem_of_getElem? (i := 103) (by decide +kernel))) rfl
theorem tw_499 : Cond.methodLink RX9 146 yX7_isBelow ∈ BT := bt_tbl (tb_4 (List.mem_of_getElem? (i := 95) (by decide +kernel))) rfl
theorem tw_500 : Cond.instanceMethod yX7_isBelow ∈ BT := bt_tbl (tb_4 (List.mem_of_getElem? (i := 96) (by decide +kernel))) rfl
theorem tw_501 : Cond.selects RX7 yX7_isBelow yX7_isBelow ∈ BT := bt_tbl (tb_4 (List.mem_of_getElem? (i := 97) (by decide +kernel))) rfl
theorem tw_502 : Cond.code yX7_isBelow cX7_isBelow 5 (some .boolean) ∈ BT := bt_tbl (tb_4 (List.mem_of_getElem? (i := 98) (by decide +kernel))) rfl
theorem tw_503 : Cond.methodLink RX9 151 yX7_isFull ∈ BT := bt_tbl (tb_4 (List.mem_of_getElem? (i := 100) (by decide +kernel))) rfl
theorem tw_504 : Cond.methodLink RX9 154 yX7_append ∈ BT := bt_tbl (tb_4 (List.mem_of_getElem? (i := 105) (by decide +kernel))) rfl
theorem tw_505 : Cond.instanceMethod yX7_append ∈ BT := bt_tbl (tb_4 (List.mem_of_getElem? (i := 106) (by decide +kernel))) rfl
theorem tw_506 : Cond.selects RX7 yX7_append yX7_append ∈ BT := bt_tbl (tb_4 (List.mem_of_getElem? (i := 107) (by decide +kernel))) rfl
theorem tw_507 : Cond.code yX7_append cX7_append 5 (some .int) ∈ BT := bt_tbl (tb_4 (List.mem_of_getElem? (i := 108) (by decide +kernel))) rfl
theorem tw_508 : Cond.methodLink RX10 146 (⟨RJxbd725, "isEmpty", "()Z"⟩ : MethodName) ∈ BT := bt_tbl (tb_8 (List.mem_of_getElem? (i := 5) (by decide +kernel))) rfl
theorem tw_509 : Cond.selects RJx4a65c (⟨RJxbd725, "isEmpty", "()Z"⟩ : MethodName) yJx4a65c_isEmpty_aae02 ∈ BT := bt_tbl (tb_8 (List.mem_of_getElem? (i := 8) (by decide +kernel))) rfl
theorem tw_510 : Cond.instanceMethod yJx4a65c_isEmpty_aae02 ∈ BT := bt_tbl (tb_8 (List.mem_of_getElem? (i := 10) (by decide +kernel))) rfl
theorem tw_511 : Cond.code yJx4a65c_isEmpty_aae02 cJx4a65c_isEmpty_aae02 1 (some .boolean) ∈ BT := bt_tbl (tb_8 (List.mem_of_getElem? (i := 12) (by decide +kernel))) rfl
theorem tw_512 : Cond.declares (⟨RJxbd725, "isEmpty", "()Z"⟩ : MethodName) ∈ BT := bt_tbl (tb_8 (List.mem_of_getElem? (i := 7) (by decide +kernel))) rfl
theorem tw_513 : Cond.interfaceMethod RJxbd725 RJxbd725 "isEmpty" "()Z" ∈ BT := bt_tbl (tb_8 (List.mem_of_getElem? (i := 6) (by decide +kernel))) rfl
theorem tw_514 : Cond.publicMethod yJx4a65c_isEmpty_aae02 ∈ BT := bt_tbl (tb_8 (List.mem_of_getElem? (i := 11) (by decide +kernel))) rfl
theorem tw_515 : Cond.unhidden RJx4a65c "isEmpty" "()Z" ∈ BT := bt_tbl (tb_8 (List.mem_of_getElem? (i := 9) (by decide +kernel))) rfl
theorem tw_516 : Cond.classLink RX9 118 "java/lang/UnsupportedOperationException" ∈ BT := bt_tbl (tb_4 (List.mem_of_getElem? (i := 21) (by decide +kernel))) rfl
theorem tw_517 : Cond.initialized "java/lang/UnsupportedOperationException" ∈ BT := bt_tbl (tb_1 (List.mem_of_getElem? (i := 29) (by decide +kernel))) rfl
theorem tw_518 : Cond.classLink RL 30 "java/lang/UnsupportedOperationException" ∈ BT := bt_tbl (tb_3 (List.mem_of_getElem? (i := 225) (by decide +kernel))) rfl
theorem tw_519 : Cond.castable "java/lang/UnsupportedOperationException" "java/lang/UnsupportedOperationException" ∈ BT := bt_tbl (tb_4 (List.mem_of_getElem? (i := 23) (by decide +kernel))) rfl
theorem tw_520 : Cond.methodLink RX9 428 yX7_reaches ∈ BT := bt_tbl (tb_4 (List.mem_of_getElem? (i := 122) (by decide +kernel))) rfl
theorem tw_521 : Cond.instanceMethod yX7_reaches ∈ BT := bt_tbl (tb_4 (List.mem_of_getElem? (i := 123) (by decide +kernel))) rfl
theorem tw_522 : Cond.selects RX7 yX7_reaches yX7_reaches ∈ BT := bt_tbl (tb_4 (List.mem_of_getElem? (i := 124) (by decide +kernel))) rfl
theorem tw_523 : Cond.code yX7_reaches cX7_reaches 2 (some .boolean) ∈ BT := bt_tbl (tb_4 (List.mem_of_getElem? (i := 125) (by decide +kernel))) rfl
theorem tw_524 : Cond.classLink RX9 212 "java/util/NoSuchElementException" ∈ BT := bt_tbl (tb_4 (List.mem_of_getElem? (i := 126) (by decide +kernel))) rfl
theorem tw_525 : Cond.initialized "java/util/NoSuchElementException" ∈ BT := bt_tbl (tb_1 (List.mem_of_getElem? (i := 30) (by decide +kernel))) rfl
theorem tw_526 : Cond.methodLink RX9 156 yX9_requireRows ∈ BT := bt_tbl (tb_4 (List.mem_of_getElem? (i := 118) (by decide +kernel))) rfl
theorem tw_527 : Cond.instanceMethod yX9_requireRows ∈ BT := bt_tbl (tb_4 (List.mem_of_getElem? (i := 120) (by decide +kernel))) rfl
theorem tw_528 : Cond.selects RX9 yX9_requireRows yX9_requireRows ∈ BT := bt_sel (List.mem_of_getElem? (i := 11) (by decide +kernel)) rfl
theorem tw_529 : Cond.code yX9_requireRows cX9_requireRows 2 none ∈ BT := bt_tbl (tb_4 (List.mem_of_getElem? (i := 121) (by decide +kernel))) rfl
theorem tw_530 : Cond.methodLink RL 42 yX9_getBoiling ∈ BT := bt_tbl (tb_4 (List.mem_of_getElem? (i := 114) (by decide +kernel))) rfl
theorem tw_531 : Cond.instanceMethod yX9_getBoiling ∈ BT := bt_tbl (tb_4 (List.mem_of_getElem? (i := 115) (by decide +kernel))) rfl
theorem tw_532 : Cond.selects RX9 yX9_getBoiling yX9_getBoiling ∈ BT := bt_tbl (tb_4 (List.mem_of_getElem? (i := 116) (by decide +kernel))) rfl
theorem tw_533 : Cond.code yX9_getBoiling cX9_getBoiling 2 (some .int) ∈ BT := bt_tbl (tb_4 (List.mem_of_getElem? (i := 117) (by decide +kernel))) rfl
theorem tw_534 : Cond.classLink RL 45 "java/util/NoSuchElementException" ∈ BT := bt_tbl (tb_4 (List.mem_of_getElem? (i := 113) (by decide +kernel))) rfl
theorem tw_535 : Cond.castable "java/util/NoSuchElementException" "java/util/NoSuchElementException" ∈ BT := bt_tbl (tb_4 (List.mem_of_getElem? (i := 128) (by decide +kernel))) rfl
theorem tw_536 : Cond.methodLink RL 188 yL_getBoiling ∈ BT := bt_tbl (tb_4 (List.mem_of_getElem? (i := 110) (by decide +kernel))) rfl
theorem tw_537 : Cond.static yL_getBoiling ∈ BT := bt_tbl (tb_4 (List.mem_of_getElem? (i := 111) (by decide +kernel))) rfl
theorem tw_538 : Cond.codeWith yL_getBoiling cL_getBoiling 4 (some .int) [(0, 9, 12, 45)] ∈ BT := bt_tbl (tb_4 (List.mem_of_getElem? (i := 112) (by decide +kernel))) rfl
theorem tw_539 : Cond.methodLink RX10 150 yX10_isIn ∈ BT := bt_tbl (tb_8 (List.mem_of_getElem? (i := 21) (by decide +kernel))) rfl
theorem tw_540 : Cond.instanceMethod yX10_isIn ∈ BT := bt_tbl (tb_8 (List.mem_of_getElem? (i := 23) (by decide +kernel))) rfl
theorem tw_541 : Cond.selects RX10 yX10_isIn yX10_isIn ∈ BT := bt_sel (List.mem_of_getElem? (i := 44) (by decide +kernel)) rfl
theorem tw_542 : Cond.code yX10_isIn cX10_isIn 2 (some .boolean) ∈ BT := bt_tbl (tb_8 (List.mem_of_getElem? (i := 24) (by decide +kernel))) rfl
theorem tw_543 : Cond.methodLink RX10 156 yX10_rowed ∈ BT := bt_tbl (tb_8 (List.mem_of_getElem? (i := 17) (by decide +kernel))) rfl
theorem tw_544 : Cond.instanceMethod yX10_rowed ∈ BT := bt_tbl (tb_8 (List.mem_of_getElem? (i := 19) (by decide +kernel))) rfl
theorem tw_545 : Cond.selects RX10 yX10_rowed yX10_rowed ∈ BT := bt_sel (List.mem_of_getElem? (i := 43) (by decide +kernel)) rfl
theorem tw_546 : Cond.code yX10_rowed cX10_rowed 3 (some .int) ∈ BT := bt_tbl (tb_8 (List.mem_of_getElem? (i := 20) (by decide +kernel))) rfl
theorem tw_547 : Cond.methodLink RL 190 yX10_getBoiling ∈ BT := bt_tbl (tb_8 (List.mem_of_getElem? (i := 13) (by decide +kernel))) rfl
theorem tw_548 : Cond.instanceMethod yX10_getBoiling ∈ BT := bt_tbl (tb_8 (List.mem_of_getElem? (i := 14) (by decide +kernel))) rfl
theorem tw_549 : Cond.selects RX10 yX10_getBoiling yX10_getBoiling ∈ BT := bt_tbl (tb_8 (List.mem_of_getElem? (i := 15) (by decide +kernel))) rfl
theorem tw_550 : Cond.code yX10_getBoiling cX10_getBoiling 2 (some .int) ∈ BT := bt_tbl (tb_8 (List.mem_of_getElem? (i := 16) (by decide +kernel))) rfl
theorem tw_551 : Cond.methodLink RL 47 yX9_getLiquid ∈ BT := bt_tbl (tb_4 (List.mem_of_getElem? (i := 153) (by decide +kernel))) rfl
theorem tw_552 : Cond.instanceMethod yX9_getLiquid ∈ BT := bt_tbl (tb_4 (List.mem_of_getElem? (i := 154) (by decide +kernel))) rfl
theorem tw_553 : Cond.selects RX9 yX9_getLiquid yX9_getLiquid ∈ BT := bt_tbl (tb_4 (List.mem_of_getElem? (i := 155) (by decide +kernel))) rfl
theorem tw_554 : Cond.code yX9_getLiquid cX9_getLiquid 2 (some .int) ∈ BT := bt_tbl (tb_4 (List.mem_of_getElem? (i := 156) (by decide +kernel))) rfl
theorem tw_555 : Cond.methodLink RL 191 yL_getLiquid ∈ BT := bt_tbl (tb_4 (List.mem_of_getElem? (i := 150) (by decide +kernel))) rfl
theorem tw_556 : Cond.static yL_getLiquid ∈ BT := bt_tbl (tb_4 (List.mem_of_getElem? (i := 151) (by decide +kernel))) rfl
theorem tw_557 : Cond.codeWith yL_getLiquid cL_getLiquid 4 (some .int) [(0, 9, 12, 45)] ∈ BT := bt_tbl (tb_4 (List.mem_of_getElem? (i := 152) (by decide +kernel))) rfl
theorem tw_558 : Cond.methodLink RL 193 yX10_getLiquid ∈ BT := bt_tbl (tb_8 (List.mem_of_getElem? (i := 29) (by decide +kernel))) rfl
theorem tw_559 : Cond.instanceMethod yX10_getLiquid ∈ BT := bt_tbl (tb_8 (List.mem_of_getElem? (i := 30) (by decide +kernel))) rfl
theorem tw_560 : Cond.selects RX10 yX10_getLiquid yX10_getLiquid ∈ BT := bt_tbl (tb_8 (List.mem_of_getElem? (i := 31) (by decide +kernel))) rfl
theorem tw_561 : Cond.code yX10_getLiquid cX10_getLiquid 2 (some .int) ∈ BT := bt_tbl (tb_8 (List.mem_of_getElem? (i := 32) (by decide +kernel))) rfl
theorem tw_562 : Cond.methodLink RL 50 yX9_getVapour ∈ BT := bt_tbl (tb_4 (List.mem_of_getElem? (i := 164) (by decide +kernel))) rfl
theorem tw_563 : Cond.instanceMethod yX9_getVapour ∈ BT := bt_tbl (tb_4 (List.mem_of_getElem? (i := 165) (by decide +kernel))) rfl
theorem tw_564 : Cond.selects RX9 yX9_getVapour yX9_getVapour ∈ BT := bt_tbl (tb_4 (List.mem_of_getElem? (i := 166) (by decide +kernel))) rfl
theorem tw_565 : Cond.code yX9_getVapour cX9_getVapour 2 (some .int) ∈ BT := bt_tbl (tb_4 (List.mem_of_getElem? (i := 167) (by decide +kernel))) rfl
theorem tw_566 : Cond.methodLink RL 194 yL_getVapour ∈ BT := bt_tbl (tb_4 (List.mem_of_getElem? (i := 161) (by decide +kernel))) rfl
theorem tw_567 : Cond.static yL_getVapour ∈ BT := bt_tbl (tb_4 (List.mem_of_getElem? (i := 162) (by decide +kernel))) rfl
theorem tw_568 : Cond.codeWith yL_getVapour cL_getVapour 4 (some .int) [(0, 9, 12, 45)] ∈ BT := bt_tbl (tb_4 (List.mem_of_getElem? (i := 163) (by decide +kernel))) rfl
theorem tw_569 : Cond.methodLink RL 196 yX10_getVapour ∈ BT := bt_tbl (tb_8 (List.mem_of_getElem? (i := 33) (by decide +kernel))) rfl
theorem tw_570 : Cond.instanceMethod yX10_getVapour ∈ BT := bt_tbl (tb_8 (List.mem_of_getElem? (i := 34) (by decide +kernel))) rfl
theorem tw_571 : Cond.selects RX10 yX10_getVapour yX10_getVapour ∈ BT := bt_tbl (tb_8 (List.mem_of_getElem? (i := 35) (by decide +kernel))) rfl
theorem tw_572 : Cond.code yX10_getVapour cX10_getVapour 2 (some .int) ∈ BT := bt_tbl (tb_8 (List.mem_of_getElem? (i := 36) (by decide +kernel))) rfl
theorem tw_573 : Cond.methodLink RX9 198 yX9_requireStateHeat ∈ BT := bt_tbl (tb_4 (List.mem_of_getElem? (i := 183) (by decide +kernel))) rfl
theorem tw_574 : Cond.instanceMethod yX9_requireStateHeat ∈ BT := bt_tbl (tb_4 (List.mem_of_getElem? (i := 185) (by decide +kernel))) rfl
theorem tw_575 : Cond.selects RX9 yX9_requireStateHeat yX9_requireStateHeat ∈ BT := bt_sel (List.mem_of_getElem? (i := 14) (by decide +kernel)) rfl
theorem tw_576 : Cond.code yX9_requireStateHeat cX9_requireStateHeat 2 none ∈ BT := bt_tbl (tb_4 (List.mem_of_getElem? (i := 186) (by decide +kernel))) rfl
theorem tw_577 : Cond.methodLink RX9 169 yX9_requireState ∈ BT := bt_tbl (tb_4 (List.mem_of_getElem? (i := 179) (by decide +kernel))) rfl
theorem tw_578 : Cond.instanceMethod yX9_requireState ∈ BT := bt_tbl (tb_4 (List.mem_of_getElem? (i := 181) (by decide +kernel))) rfl
theorem tw_579 : Cond.selects RX9 yX9_requireState yX9_requireState ∈ BT := bt_sel (List.mem_of_getElem? (i := 13) (by decide +kernel)) rfl
theorem tw_580 : Cond.code yX9_requireState cX9_requireState 3 none ∈ BT := bt_tbl (tb_4 (List.mem_of_getElem? (i := 182) (by decide +kernel))) rfl
theorem tw_581 : Cond.methodLink RL 53 yX9_getPhase ∈ BT := bt_tbl (tb_4 (List.mem_of_getElem? (i := 175) (by decide +kernel))) rfl
theorem tw_582 : Cond.instanceMethod yX9_getPhase ∈ BT := bt_tbl (tb_4 (List.mem_of_getElem? (i := 176) (by decide +kernel))) rfl
theorem tw_583 : Cond.selects RX9 yX9_getPhase yX9_getPhase ∈ BT := bt_tbl (tb_4 (List.mem_of_getElem? (i := 177) (by decide +kernel))) rfl
theorem tw_584 : Cond.code yX9_getPhase cX9_getPhase 3 (some .char) ∈ BT := bt_tbl (tb_4 (List.mem_of_getElem? (i := 178) (by decide +kernel))) rfl
theorem tw_585 : Cond.methodLink RL 197 yL_getPhase ∈ BT := bt_tbl (tb_4 (List.mem_of_getElem? (i := 172) (by decide +kernel))) rfl
theorem tw_586 : Cond.static yL_getPhase ∈ BT := bt_tbl (tb_4 (List.mem_of_getElem? (i := 173) (by decide +kernel))) rfl
theorem tw_587 : Cond.codeWith yL_getPhase cL_getPhase 5 (some .int) [(0, 10, 13, 13), (0, 10, 17, 45)] ∈ BT := bt_tbl (tb_4 (List.mem_of_getElem? (i := 174) (by decide +kernel))) rfl
theorem tw_588 : Cond.constantLong RX10 159 (20000) ∈ BT := bt_tbl (tb_8 (List.mem_of_getElem? (i := 45) (by decide +kernel))) rfl
theorem tw_589 : Cond.methodLink RX10 161 yX10_noState ∈ BT := bt_tbl (tb_8 (List.mem_of_getElem? (i := 41) (by decide +kernel))) rfl
theorem tw_590 : Cond.instanceMethod yX10_noState ∈ BT := bt_tbl (tb_8 (List.mem_of_getElem? (i := 43) (by decide +kernel))) rfl
theorem tw_591 : Cond.selects RX10 yX10_noState yX10_noState ∈ BT := bt_sel (List.mem_of_getElem? (i := 46) (by decide +kernel)) rfl
theorem tw_592 : Cond.code yX10_noState cX10_noState 3 (some .boolean) ∈ BT := bt_tbl (tb_8 (List.mem_of_getElem? (i := 44) (by decide +kernel))) rfl
theorem tw_593 : Cond.methodLink RL 199 yX10_getPhase ∈ BT := bt_tbl (tb_8 (List.mem_of_getElem? (i := 37) (by decide +kernel))) rfl
theorem tw_594 : Cond.instanceMethod yX10_getPhase ∈ BT := bt_tbl (tb_8 (List.mem_of_getElem? (i := 38) (by decide +kernel))) rfl
theorem tw_595 : Cond.selects RX10 yX10_getPhase yX10_getPhase ∈ BT := bt_tbl (tb_8 (List.mem_of_getElem? (i := 39) (by decide +kernel))) rfl
theorem tw_596 : Cond.code yX10_getPhase cX10_getPhase 3 (some .char) ∈ BT := bt_tbl (tb_8 (List.mem_of_getElem? (i := 40) (by decide +kernel))) rfl
theorem tw_597 : Cond.methodLink RL 57 yX9_getDryness ∈ BT := bt_tbl (tb_4 (List.mem_of_getElem? (i := 194) (by decide +kernel))) rfl
theorem tw_598 : Cond.instanceMethod yX9_getDryness ∈ BT := bt_tbl (tb_4 (List.mem_of_getElem? (i := 195) (by decide +kernel))) rfl
theorem tw_599 : Cond.selects RX9 yX9_getDryness yX9_getDryness ∈ BT := bt_tbl (tb_4 (List.mem_of_getElem? (i := 196) (by decide +kernel))) rfl
theorem tw_600 : Cond.code yX9_getDryness cX9_getDryness 3 (some .int) ∈ BT := bt_tbl (tb_4 (List.mem_of_getElem? (i := 197) (by decide +kernel))) rfl
theorem tw_601 : Cond.methodLink RL 200 yL_getDryness ∈ BT := bt_tbl (tb_4 (List.mem_of_getElem? (i := 191) (by decide +kernel))) rfl
theorem tw_602 : Cond.static yL_getDryness ∈ BT := bt_tbl (tb_4 (List.mem_of_getElem? (i := 192) (by decide +kernel))) rfl
theorem tw_603 : Cond.codeWith yL_getDryness cL_getDryness 5 (some .int) [(0, 10, 13, 13), (0, 10, 17, 45)] ∈ BT := bt_tbl (tb_4 (List.mem_of_getElem? (i := 193) (by decide +kernel))) rfl
theorem tw_604 : Cond.methodLink RL 202 yX10_getDryness ∈ BT := bt_tbl (tb_8 (List.mem_of_getElem? (i := 50) (by decide +kernel))) rfl
theorem tw_605 : Cond.instanceMethod yX10_getDryness ∈ BT := bt_tbl (tb_8 (List.mem_of_getElem? (i := 51) (by decide +kernel))) rfl
theorem tw_606 : Cond.selects RX10 yX10_getDryness yX10_getDryness ∈ BT := bt_tbl (tb_8 (List.mem_of_getElem? (i := 52) (by decide +kernel))) rfl
theorem tw_607 : Cond.code yX10_getDryness cX10_getDryness 5 (some .int) ∈ BT := bt_tbl (tb_8 (List.mem_of_getElem? (i := 53) (by decide +kernel))) rfl
theorem tw_608 : Cond.methodLink RL 60 yX9_stateTemperature ∈ BT := bt_tbl (tb_4 (List.mem_of_getElem? (i := 205) (by decide +kernel))) rfl
theorem tw_609 : Cond.instanceMethod yX9_stateTemperature ∈ BT := bt_tbl (tb_4 (List.mem_of_getElem? (i := 206) (by decide +kernel))) rfl
theorem tw_610 : Cond.selects RX9 yX9_stateTemperature yX9_stateTemperature ∈ BT := bt_tbl (tb_4 (List.mem_of_getElem? (i := 207) (by decide +kernel))) rfl
theorem tw_611 : Cond.code yX9_stateTemperature cX9_stateTemperature 3 (some .int) ∈ BT := bt_tbl (tb_4 (List.mem_of_getElem? (i := 208) (by decide +kernel))) rfl
theorem tw_612 : Cond.methodLink RL 203 yL_stateTemperature ∈ BT := bt_tbl (tb_4 (List.mem_of_getElem? (i := 202) (by decide +kernel))) rfl
theorem tw_613 : Cond.static yL_stateTemperature ∈ BT := bt_tbl (tb_4 (List.mem_of_getElem? (i := 203) (by decide +kernel))) rfl
theorem tw_614 : Cond.codeWith yL_stateTemperature cL_stateTemperature 5 (some .int) [(0, 10, 13, 13), (0, 10, 17, 45)] ∈ BT := bt_tbl (tb_4 (List.mem_of_getElem? (i := 204) (by decide +kernel))) rfl
theorem tw_615 : Cond.methodLink RL 205 yX10_stateTemperature ∈ BT := bt_tbl (tb_8 (List.mem_of_getElem? (i := 54) (by decide +kernel))) rfl
theorem tw_616 : Cond.instanceMethod yX10_stateTemperature ∈ BT := bt_tbl (tb_8 (List.mem_of_getElem? (i := 55) (by decide +kernel))) rfl
theorem tw_617 : Cond.selects RX10 yX10_stateTemperature yX10_stateTemperature ∈ BT := bt_tbl (tb_8 (List.mem_of_getElem? (i := 56) (by decide +kernel))) rfl
theorem tw_618 : Cond.code yX10_stateTemperature cX10_stateTemperature 3 (some .int) ∈ BT := bt_tbl (tb_8 (List.mem_of_getElem? (i := 57) (by decide +kernel))) rfl
theorem tw_619 : Cond.methodLinkNest RX3 46 yX9_isOutside "Cycleworks" ∈ BT := bt_tbl (tb_4 (List.mem_of_getElem? (i := 223) (by decide +kernel))) rfl
theorem tw_620 : Cond.methodLink RX9 182 yX3_isPart ∈ BT := bt_tbl (tb_4 (List.mem_of_getElem? (i := 220) (by decide +kernel))) rfl
theorem tw_621 : Cond.static yX3_isPart ∈ BT := bt_tbl (tb_4 (List.mem_of_getElem? (i := 221) (by decide +kernel))) rfl
theorem tw_622 : Cond.code yX3_isPart cX3_isPart 3 (some .boolean) ∈ BT := bt_tbl (tb_4 (List.mem_of_getElem? (i := 222) (by decide +kernel))) rfl
theorem tw_623 : Cond.methodLink RL 63 yX9_addPart ∈ BT := bt_tbl (tb_4 (List.mem_of_getElem? (i := 216) (by decide +kernel))) rfl
theorem tw_624 : Cond.instanceMethod yX9_addPart ∈ BT := bt_tbl (tb_4 (List.mem_of_getElem? (i := 217) (by decide +kernel))) rfl
theorem tw_625 : Cond.selects RX9 yX9_addPart yX9_addPart ∈ BT := bt_tbl (tb_4 (List.mem_of_getElem? (i := 218) (by decide +kernel))) rfl
theorem tw_626 : Cond.code yX9_addPart cX9_addPart 4 (some .int) ∈ BT := bt_tbl (tb_4 (List.mem_of_getElem? (i := 219) (by decide +kernel))) rfl
theorem tw_627 : Cond.methodLink RL 206 yL_addPart ∈ BT := bt_tbl (tb_4 (List.mem_of_getElem? (i := 213) (by decide +kernel))) rfl
theorem tw_628 : Cond.static yL_addPart ∈ BT := bt_tbl (tb_4 (List.mem_of_getElem? (i := 214) (by decide +kernel))) rfl
theorem tw_629 : Cond.codeWith yL_addPart cL_addPart 6 (some .int) [(0, 12, 15, 13), (0, 12, 19, 15)] ∈ BT := bt_tbl (tb_4 (List.mem_of_getElem? (i := 215) (by decide +kernel))) rfl
theorem tw_630 : Cond.fieldLink RJ0 38 "java/lang/String" "COMPACT_STRINGS" "Z" ∈ BT := bt_tbl (tb_8 (List.mem_of_getElem? (i := 79) (by decide +kernel))) rfl
theorem tw_631 : Cond.fieldLink RJ0 15 "java/lang/String" "coder" "B" ∈ BT := bt_tbl (tb_9 (List.mem_of_getElem? (i := 233) (by decide +kernel))) rfl
theorem tw_632 : Cond.fieldLink RJ0 9 "java/lang/String" "value" "[B" ∈ BT := bt_tbl (tb_9 (List.mem_of_getElem? (i := 234) (by decide +kernel))) rfl
theorem tw_633 : Cond.methodLink RJ0 335 yJ0_coder_7d493 ∈ BT := bt_tbl (tb_8 (List.mem_of_getElem? (i := 85) (by decide +kernel))) rfl
theorem tw_634 : Cond.instanceMethod yJ0_coder_7d493 ∈ BT := bt_tbl (tb_8 (List.mem_of_getElem? (i := 86) (by decide +kernel))) rfl
theorem tw_635 : Cond.selects RJ0 yJ0_coder_7d493 yJ0_coder_7d493 ∈ BT := bt_tbl (tb_8 (List.mem_of_getElem? (i := 87) (by decide +kernel))) rfl
theorem tw_636 : Cond.initialized RJ0 ∈ BT := bt_tbl (tb_1 (List.mem_of_getElem? (i := 26) (by decide +kernel))) rfl
theorem tw_637 : Cond.code yJ0_coder_7d493 cJ0_coder_7d493 1 (some .byte) ∈ BT := bt_tbl (tb_8 (List.mem_of_getElem? (i := 88) (by decide +kernel))) rfl
theorem tw_638 : Cond.methodLink RJ1 88 yJ1_canEncode_9a6ad ∈ BT := bt_tbl (tb_8 (List.mem_of_getElem? (i := 92) (by decide +kernel))) rfl
theorem tw_639 : Cond.static yJ1_canEncode_9a6ad ∈ BT := bt_tbl (tb_8 (List.mem_of_getElem? (i := 93) (by decide +kernel))) rfl
theorem tw_640 : Cond.initialized RJ1 ∈ BT := bt_tbl (tb_1 (List.mem_of_getElem? (i := 31) (by decide +kernel))) rfl
theorem tw_641 : Cond.code yJ1_canEncode_9a6ad cJ1_canEncode_9a6ad 1 (some .boolean) ∈ BT := bt_tbl (tb_8 (List.mem_of_getElem? (i := 94) (by decide +kernel))) rfl
theorem tw_642 : Cond.methodLink RJ1 92 yJ9_max_7cf53 ∈ BT := bt_tbl (tb_8 (List.mem_of_getElem? (i := 95) (by decide +kernel))) rfl
theorem tw_643 : Cond.methodLink RJ1 38 yJ9_min_7cf53 ∈ BT := bt_tbl (tb_8 (List.mem_of_getElem? (i := 96) (by decide +kernel))) rfl
theorem tw_644 : Cond.static yJ9_min_7cf53 ∈ BT := bt_tbl (tb_2 (List.mem_of_getElem? (i := 183) (by decide +kernel))) rfl
theorem tw_645 : Cond.code yJ9_min_7cf53 cJ9_min_7cf53 2 (some .int) ∈ BT := bt_tbl (tb_2 (List.mem_of_getElem? (i := 184) (by decide +kernel))) rfl
theorem tw_646 : Cond.methodLink RJ1 95 yJ1_indexOfChar_4cfef ∈ BT := bt_tbl (tb_8 (List.mem_of_getElem? (i := 97) (by decide +kernel))) rfl
theorem tw_647 : Cond.static yJ1_indexOfChar_4cfef ∈ BT := bt_tbl (tb_8 (List.mem_of_getElem? (i := 98) (by decide +kernel))) rfl
theorem tw_648 : Cond.code yJ1_indexOfChar_4cfef cJ1_indexOfChar_4cfef 6 (some .int) ∈ BT := bt_tbl (tb_8 (List.mem_of_getElem? (i := 99) (by decide +kernel))) rfl
theorem tw_649 : Cond.methodLink RJ0 492 yJ0_isLatin1_aae02 ∈ BT := bt_tbl (tb_8 (List.mem_of_getElem? (i := 75) (by decide +kernel))) rfl
theorem tw_650 : Cond.instanceMethod yJ0_isLatin1_aae02 ∈ BT := bt_tbl (tb_8 (List.mem_of_getElem? (i := 76) (by decide +kernel))) rfl
theorem tw_651 : Cond.selects RJ0 yJ0_isLatin1_aae02 yJ0_isLatin1_aae02 ∈ BT := bt_tbl (tb_8 (List.mem_of_getElem? (i := 77) (by decide +kernel))) rfl
theorem tw_652 : Cond.code yJ0_isLatin1_aae02 cJ0_isLatin1_aae02 1 (some .boolean) ∈ BT := bt_tbl (tb_8 (List.mem_of_getElem? (i := 78) (by decide +kernel))) rfl
theorem tw_653 : Cond.methodLink RJ0 505 yJ0_length_8abf5 ∈ BT := bt_tbl (tb_8 (List.mem_of_getElem? (i := 81) (by decide +kernel))) rfl
theorem tw_654 : Cond.instanceMethod yJ0_length_8abf5 ∈ BT := bt_tbl (tb_8 (List.mem_of_getElem? (i := 82) (by decide +kernel))) rfl
theorem tw_655 : Cond.selects RJ0 yJ0_length_8abf5 yJ0_length_8abf5 ∈ BT := bt_tbl (tb_8 (List.mem_of_getElem? (i := 83) (by decide +kernel))) rfl
theorem tw_656 : Cond.code yJ0_length_8abf5 cJ0_length_8abf5 1 (some .int) ∈ BT := bt_tbl (tb_8 (List.mem_of_getElem? (i := 84) (by decide +kernel))) rfl
theorem tw_657 : Cond.methodLink RJ0 637 yJ1_indexOf_4cfef ∈ BT := bt_tbl (tb_8 (List.mem_of_getElem? (i := 89) (by decide +kernel))) rfl
theorem tw_658 : Cond.static yJ1_indexOf_4cfef ∈ BT := bt_tbl (tb_8 (List.mem_of_getElem? (i := 90) (by decide +kernel))) rfl
theorem tw_659 : Cond.code yJ1_indexOf_4cfef cJ1_indexOf_4cfef 4 (some .int) ∈ BT := bt_tbl (tb_8 (List.mem_of_getElem? (i := 91) (by decide +kernel))) rfl
theorem tw_660 : Cond.methodLink RJ0 633 yJ0_indexOf_7cf53 ∈ BT := bt_tbl (tb_8 (List.mem_of_getElem? (i := 71) (by decide +kernel))) rfl
theorem tw_661 : Cond.instanceMethod yJ0_indexOf_7cf53 ∈ BT := bt_tbl (tb_8 (List.mem_of_getElem? (i := 72) (by decide +kernel))) rfl
theorem tw_662 : Cond.selects RJ0 yJ0_indexOf_7cf53 yJ0_indexOf_7cf53 ∈ BT := bt_tbl (tb_8 (List.mem_of_getElem? (i := 73) (by decide +kernel))) rfl
theorem tw_663 : Cond.code yJ0_indexOf_7cf53 cJ0_indexOf_7cf53 3 (some .int) ∈ BT := bt_tbl (tb_8 (List.mem_of_getElem? (i := 74) (by decide +kernel))) rfl
theorem tw_664 : Cond.methodLink RX10 174 yJ0_indexOf_0f7a4 ∈ BT := bt_tbl (tb_8 (List.mem_of_getElem? (i := 67) (by decide +kernel))) rfl
theorem tw_665 : Cond.instanceMethod yJ0_indexOf_0f7a4 ∈ BT := bt_tbl (tb_8 (List.mem_of_getElem? (i := 68) (by decide +kernel))) rfl
theorem tw_666 : Cond.selects RJ0 yJ0_indexOf_0f7a4 yJ0_indexOf_0f7a4 ∈ BT := bt_tbl (tb_8 (List.mem_of_getElem? (i := 69) (by decide +kernel))) rfl
theorem tw_667 : Cond.code yJ0_indexOf_0f7a4 cJ0_indexOf_0f7a4 2 (some .int) ∈ BT := bt_tbl (tb_8 (List.mem_of_getElem? (i := 70) (by decide +kernel))) rfl
theorem tw_668 : Cond.methodLink RL 209 yX10_addPart ∈ BT := bt_tbl (tb_8 (List.mem_of_getElem? (i := 62) (by decide +kernel))) rfl
theorem tw_669 : Cond.instanceMethod yX10_addPart ∈ BT := bt_tbl (tb_8 (List.mem_of_getElem? (i := 63) (by decide +kernel))) rfl
theorem tw_670 : Cond.selects RX10 yX10_addPart yX10_addPart ∈ BT := bt_tbl (tb_8 (List.mem_of_getElem? (i := 64) (by decide +kernel))) rfl
theorem tw_671 : Cond.code yX10_addPart cX10_addPart 5 (some .int) ∈ BT := bt_tbl (tb_8 (List.mem_of_getElem? (i := 65) (by decide +kernel))) rfl
theorem tw_672 : Cond.methodLink RX3 50 yX3_isFull ∈ BT := bt_tbl (tb_4 (List.mem_of_getElem? (i := 234) (by decide +kernel))) rfl
theorem tw_673 : Cond.instanceMethod yX3_isFull ∈ BT := bt_tbl (tb_4 (List.mem_of_getElem? (i := 226) (by decide +kernel))) rfl
theorem tw_674 : Cond.selects RX3 yX3_isFull yX3_isFull ∈ BT := bt_tbl (tb_4 (List.mem_of_getElem? (i := 227) (by decide +kernel))) rfl
theorem tw_675 : Cond.code yX3_isFull cX3_isFull 1 (some .boolean) ∈ BT := bt_tbl (tb_4 (List.mem_of_getElem? (i := 228) (by decide +kernel))) rfl
theorem tw_676 : Cond.methodLink RX9 188 yX3_isFull ∈ BT := bt_tbl (tb_4 (List.mem_of_getElem? (i := 225) (by decide +kernel))) rfl
theorem tw_677 : Cond.methodLink RX9 191 yX3_append ∈ BT := bt_tbl (tb_4 (List.mem_of_getElem? (i := 230) (by decide +kernel))) rfl
theorem tw_678 : Cond.instanceMethod yX3_append ∈ BT := bt_tbl (tb_4 (List.mem_of_getElem? (i := 231) (by decide +kernel))) rfl
theorem tw_679 : Cond.selects RX3 yX3_append yX3_append ∈ BT := bt_tbl (tb_4 (List.mem_of_getElem? (i := 232) (by decide +kernel))) rfl
theorem tw_680 : Cond.code yX3_append cX3_append 4 (some .int) ∈ BT := bt_tbl (tb_4 (List.mem_of_getElem? (i := 233) (by decide +kernel))) rfl
theorem tw_681 : Cond.constantLong RX10 179 (100) ∈ BT := bt_tbl (tb_8 (List.mem_of_getElem? (i := 149) (by decide +kernel))) rfl
theorem tw_682 : Cond.methodLink RX9 194 yX3_removeAll ∈ BT := bt_tbl (tb_2 (List.mem_of_getElem? (i := 142) (by decide +kernel))) rfl
theorem tw_683 : Cond.instanceMethod yX3_removeAll ∈ BT := bt_tbl (tb_2 (List.mem_of_getElem? (i := 143) (by decide +kernel))) rfl
theorem tw_684 : Cond.selects RX3 yX3_removeAll yX3_removeAll ∈ BT := bt_tbl (tb_2 (List.mem_of_getElem? (i := 144) (by decide +kernel))) rfl
theorem tw_685 : Cond.code yX3_removeAll cX3_removeAll 2 (some .int) ∈ BT := bt_tbl (tb_2 (List.mem_of_getElem? (i := 145) (by decide +kernel))) rfl
theorem tw_686 : Cond.methodLink RL 210 yX9_clearParts ∈ BT := bt_tbl (tb_2 (List.mem_of_getElem? (i := 138) (by decide +kernel))) rfl
theorem tw_687 : Cond.instanceMethod yX9_clearParts ∈ BT := bt_tbl (tb_2 (List.mem_of_getElem? (i := 139) (by decide +kernel))) rfl
theorem tw_688 : Cond.selects RX9 yX9_clearParts yX9_clearParts ∈ BT := bt_tbl (tb_2 (List.mem_of_getElem? (i := 140) (by decide +kernel))) rfl
theorem tw_689 : Cond.code yX9_clearParts cX9_clearParts 1 (some .int) ∈ BT := bt_tbl (tb_2 (List.mem_of_getElem? (i := 141) (by decide +kernel))) rfl
theorem tw_690 : Cond.methodLink RX10 181 (⟨RJxbd725, "clear", "()V"⟩ : MethodName) ∈ BT := bt_tbl (tb_8 (List.mem_of_getElem? (i := 155) (by decide +kernel))) rfl
theorem tw_691 : Cond.selects RJx4a65c (⟨RJxbd725, "clear", "()V"⟩ : MethodName) yJx4a65c_clear_da8c8 ∈ BT := bt_tbl (tb_8 (List.mem_of_getElem? (i := 158) (by decide +kernel))) rfl
theorem tw_692 : Cond.instanceMethod yJx4a65c_clear_da8c8 ∈ BT := bt_tbl (tb_8 (List.mem_of_getElem? (i := 160) (by decide +kernel))) rfl
theorem tw_693 : Cond.code yJx4a65c_clear_da8c8 cJx4a65c_clear_da8c8 4 none ∈ BT := bt_tbl (tb_8 (List.mem_of_getElem? (i := 162) (by decide +kernel))) rfl
theorem tw_694 : Cond.declares (⟨RJxbd725, "clear", "()V"⟩ : MethodName) ∈ BT := bt_tbl (tb_8 (List.mem_of_getElem? (i := 157) (by decide +kernel))) rfl
theorem tw_695 : Cond.interfaceMethod RJxbd725 RJxbd725 "clear" "()V" ∈ BT := bt_tbl (tb_8 (List.mem_of_getElem? (i := 156) (by decide +kernel))) rfl
theorem tw_696 : Cond.publicMethod yJx4a65c_clear_da8c8 ∈ BT := bt_tbl (tb_8 (List.mem_of_getElem? (i := 161) (by decide +kernel))) rfl
theorem tw_697 : Cond.unhidden RJx4a65c "clear" "()V" ∈ BT := bt_tbl (tb_8 (List.mem_of_getElem? (i := 159) (by decide +kernel))) rfl
theorem tw_698 : Cond.fieldLink RX10 184 "CycleworksModel" "solved" "Ljava/util/List;" ∈ BT := bt_tbl (tb_6 (List.mem_of_getElem? (i := 233) (by decide +kernel))) rfl
theorem tw_699 : Cond.methodLink RL 213 yX10_clearParts ∈ BT := bt_tbl (tb_8 (List.mem_of_getElem? (i := 150) (by decide +kernel))) rfl
theorem tw_700 : Cond.instanceMethod yX10_clearParts ∈ BT := bt_tbl (tb_8 (List.mem_of_getElem? (i := 151) (by decide +kernel))) rfl
theorem tw_701 : Cond.selects RX10 yX10_clearParts yX10_clearParts ∈ BT := bt_tbl (tb_8 (List.mem_of_getElem? (i := 152) (by decide +kernel))) rfl
theorem tw_702 : Cond.code yX10_clearParts cX10_clearParts 2 (some .int) ∈ BT := bt_tbl (tb_8 (List.mem_of_getElem? (i := 153) (by decide +kernel))) rfl
theorem tw_703 : Cond.methodLink RL 67 yX9_solve ∈ BT := bt_tbl (tb_4 (List.mem_of_getElem? (i := 238) (by decide +kernel))) rfl
theorem tw_704 : Cond.instanceMethod yX9_solve ∈ BT := bt_tbl (tb_4 (List.mem_of_getElem? (i := 239) (by decide +kernel))) rfl
theorem tw_705 : Cond.selects RX9 yX9_solve yX9_solve ∈ BT := bt_tbl (tb_5 (List.mem_of_getElem? (i := 0) (by decide +kernel))) rfl
theorem tw_706 : Cond.code yX9_solve cX9_solve 4 (some .int) ∈ BT := bt_tbl (tb_5 (List.mem_of_getElem? (i := 1) (by decide +kernel))) rfl
theorem tw_707 : Cond.methodLink RL 214 yL_solve ∈ BT := bt_tbl (tb_4 (List.mem_of_getElem? (i := 235) (by decide +kernel))) rfl
theorem tw_708 : Cond.static yL_solve ∈ BT := bt_tbl (tb_4 (List.mem_of_getElem? (i := 236) (by decide +kernel))) rfl
theorem tw_709 : Cond.codeWith yL_solve cL_solve 5 (some .int) [(0, 10, 13, 13), (0, 10, 17, 15), (0, 10, 21, 30), (0, 10, 25, 45)] ∈ BT := bt_tbl (tb_4 (List.mem_of_getElem? (i := 237) (by decide +kernel))) rfl
theorem tw_710 : Cond.methodLink RL 216 yX10_solve ∈ BT := bt_tbl (tb_8 (List.mem_of_getElem? (i := 163) (by decide +kernel))) rfl
theorem tw_711 : Cond.instanceMethod yX10_solve ∈ BT := bt_tbl (tb_8 (List.mem_of_getElem? (i := 164) (by decide +kernel))) rfl
theorem tw_712 : Cond.selects RX10 yX10_solve yX10_solve ∈ BT := bt_tbl (tb_8 (List.mem_of_getElem? (i := 165) (by decide +kernel))) rfl
theorem tw_713 : Cond.code yX10_solve cX10_solve 12 (some .int) ∈ BT := bt_tbl (tb_8 (List.mem_of_getElem? (i := 166) (by decide +kernel))) rfl
theorem tw_714 : Cond.methodLink RX9 201 yX3_isEmpty ∈ BT := bt_tbl (tb_5 (List.mem_of_getElem? (i := 2) (by decide +kernel))) rfl
theorem tw_715 : Cond.instanceMethod yX3_isEmpty ∈ BT := bt_tbl (tb_5 (List.mem_of_getElem? (i := 3) (by decide +kernel))) rfl
theorem tw_716 : Cond.selects RX3 yX3_isEmpty yX3_isEmpty ∈ BT := bt_tbl (tb_5 (List.mem_of_getElem? (i := 4) (by decide +kernel))) rfl
theorem tw_717 : Cond.code yX3_isEmpty cX3_isEmpty 1 (some .boolean) ∈ BT := bt_tbl (tb_5 (List.mem_of_getElem? (i := 5) (by decide +kernel))) rfl
theorem tw_718 : Cond.classLink RX9 87 "java/lang/IllegalStateException" ∈ BT := bt_tbl (tb_3 (List.mem_of_getElem? (i := 139) (by decide +kernel))) rfl
theorem tw_719 : Cond.initialized "java/lang/IllegalStateException" ∈ BT := bt_tbl (tb_1 (List.mem_of_getElem? (i := 19) (by decide +kernel))) rfl
theorem tw_720 : Cond.classLink RL 15 "java/lang/IllegalStateException" ∈ BT := bt_tbl (tb_3 (List.mem_of_getElem? (i := 55) (by decide +kernel))) rfl
theorem tw_721 : Cond.castable "java/lang/IllegalStateException" "java/lang/IllegalStateException" ∈ BT := bt_tbl (tb_3 (List.mem_of_getElem? (i := 141) (by decide +kernel))) rfl
theorem tw_722 : Cond.fieldLinkNest RX9 398 "Cycleworks$Ring" "isSolved" "Z" "Cycleworks" ∈ BT := bt_tbl (tb_1 (List.mem_of_getElem? (i := 158) (by decide +kernel))) rfl
theorem tw_723 : Cond.methodLink RX9 241 yX9_requireSolved ∈ BT := bt_tbl (tb_5 (List.mem_of_getElem? (i := 76) (by decide +kernel))) rfl
theorem tw_724 : Cond.instanceMethod yX9_requireSolved ∈ BT := bt_tbl (tb_5 (List.mem_of_getElem? (i := 78) (by decide +kernel))) rfl
theorem tw_725 : Cond.selects RX9 yX9_requireSolved yX9_requireSolved ∈ BT := bt_sel (List.mem_of_getElem? (i := 24) (by decide +kernel)) rfl
theorem tw_726 : Cond.code yX9_requireSolved cX9_requireSolved 1 none ∈ BT := bt_tbl (tb_5 (List.mem_of_getElem? (i := 79) (by decide +kernel))) rfl
theorem tw_727 : Cond.methodLink RX9 217 yX9_requireSolvedPart ∈ BT := bt_tbl (tb_5 (List.mem_of_getElem? (i := 72) (by decide +kernel))) rfl
theorem tw_728 : Cond.instanceMethod yX9_requireSolvedPart ∈ BT := bt_tbl (tb_5 (List.mem_of_getElem? (i := 74) (by decide +kernel))) rfl
theorem tw_729 : Cond.selects RX9 yX9_requireSolvedPart yX9_requireSolvedPart ∈ BT := bt_sel (List.mem_of_getElem? (i := 23) (by decide +kernel)) rfl
theorem tw_730 : Cond.code yX9_requireSolvedPart cX9_requireSolvedPart 2 none ∈ BT := bt_tbl (tb_5 (List.mem_of_getElem? (i := 75) (by decide +kernel))) rfl
theorem tw_731 : Cond.methodLink RL 70 yX9_partWork ∈ BT := bt_tbl (tb_5 (List.mem_of_getElem? (i := 68) (by decide +kernel))) rfl
theorem tw_732 : Cond.instanceMethod yX9_partWork ∈ BT := bt_tbl (tb_5 (List.mem_of_getElem? (i := 69) (by decide +kernel))) rfl
theorem tw_733 : Cond.selects RX9 yX9_partWork yX9_partWork ∈ BT := bt_tbl (tb_5 (List.mem_of_getElem? (i := 70) (by decide +kernel))) rfl
theorem tw_734 : Cond.code yX9_partWork cX9_partWork 2 (some .int) ∈ BT := bt_tbl (tb_5 (List.mem_of_getElem? (i := 71) (by decide +kernel))) rfl
theorem tw_735 : Cond.methodLink RL 217 yL_partWork ∈ BT := bt_tbl (tb_5 (List.mem_of_getElem? (i := 65) (by decide +kernel))) rfl
theorem tw_736 : Cond.static yL_partWork ∈ BT := bt_tbl (tb_5 (List.mem_of_getElem? (i := 66) (by decide +kernel))) rfl
theorem tw_737 : Cond.codeWith yL_partWork cL_partWork 4 (some .int) [(0, 9, 12, 15), (0, 9, 15, 45)] ∈ BT := bt_tbl (tb_5 (List.mem_of_getElem? (i := 67) (by decide +kernel))) rfl
theorem tw_738 : Cond.methodLink RX10 204 yX10_told ∈ BT := bt_tbl (tb_8 (List.mem_of_getElem? (i := 237) (by decide +kernel))) rfl
theorem tw_739 : Cond.instanceMethod yX10_told ∈ BT := bt_tbl (tb_8 (List.mem_of_getElem? (i := 239) (by decide +kernel))) rfl
theorem tw_740 : Cond.selects RX10 yX10_told yX10_told ∈ BT := bt_sel (List.mem_of_getElem? (i := 50) (by decide +kernel)) rfl
theorem tw_741 : Cond.code yX10_told cX10_told 3 (some .int) ∈ BT := bt_tbl (tb_9 (List.mem_of_getElem? (i := 0) (by decide +kernel))) rfl
theorem tw_742 : Cond.methodLink RL 219 yX10_partWork ∈ BT := bt_tbl (tb_8 (List.mem_of_getElem? (i := 233) (by decide +kernel))) rfl
theorem tw_743 : Cond.instanceMethod yX10_partWork ∈ BT := bt_tbl (tb_8 (List.mem_of_getElem? (i := 234) (by decide +kernel))) rfl
theorem tw_744 : Cond.selects RX10 yX10_partWork yX10_partWork ∈ BT := bt_tbl (tb_8 (List.mem_of_getElem? (i := 235) (by decide +kernel))) rfl
theorem tw_745 : Cond.code yX10_partWork cX10_partWork 2 (some .int) ∈ BT := bt_tbl (tb_8 (List.mem_of_getElem? (i := 236) (by decide +kernel))) rfl
theorem tw_746 : Cond.methodLink RL 73 yX9_partHeat ∈ BT := bt_tbl (tb_5 (List.mem_of_getElem? (i := 87) (by decide +kernel))) rfl
theorem tw_747 : Cond.instanceMethod yX9_partHeat ∈ BT := bt_tbl (tb_5 (List.mem_of_getElem? (i := 88) (by decide +kernel))) rfl
theorem tw_748 : Cond.selects RX9 yX9_partHeat yX9_partHeat ∈ BT := bt_tbl (tb_5 (List.mem_of_getElem? (i := 89) (by decide +kernel))) rfl
theorem tw_749 : Cond.code yX9_partHeat cX9_partHeat 2 (some .int) ∈ BT := bt_tbl (tb_5 (List.mem_of_getElem? (i := 90) (by decide +kernel))) rfl
theorem tw_750 : Cond.methodLink RL 220 yL_partHeat ∈ BT := bt_tbl (tb_5 (List.mem_of_getElem? (i := 84) (by decide +kernel))) rfl
theorem tw_751 : Cond.static yL_partHeat ∈ BT := bt_tbl (tb_5 (List.mem_of_getElem? (i := 85) (by decide +kernel))) rfl
theorem tw_752 : Cond.codeWith yL_partHeat cL_partHeat 4 (some .int) [(0, 9, 12, 15), (0, 9, 15, 45)] ∈ BT := bt_tbl (tb_5 (List.mem_of_getElem? (i := 86) (by decide +kernel))) rfl
theorem tw_753 : Cond.methodLink RL 222 yX10_partHeat ∈ BT := bt_tbl (tb_9 (List.mem_of_getElem? (i := 1) (by decide +kernel))) rfl
theorem tw_754 : Cond.instanceMethod yX10_partHeat ∈ BT := bt_tbl (tb_9 (List.mem_of_getElem? (i := 2) (by decide +kernel))) rfl
theorem tw_755 : Cond.selects RX10 yX10_partHeat yX10_partHeat ∈ BT := bt_tbl (tb_9 (List.mem_of_getElem? (i := 3) (by decide +kernel))) rfl
theorem tw_756 : Cond.code yX10_partHeat cX10_partHeat 2 (some .int) ∈ BT := bt_tbl (tb_9 (List.mem_of_getElem? (i := 4) (by decide +kernel))) rfl
theorem tw_757 : Cond.methodLink RL 76 yX9_partLost ∈ BT := bt_tbl (tb_5 (List.mem_of_getElem? (i := 95) (by decide +kernel))) rfl
theorem tw_758 : Cond.instanceMethod yX9_partLost ∈ BT := bt_tbl (tb_5 (List.mem_of_getElem? (i := 96) (by decide +kernel))) rfl
theorem tw_759 : Cond.selects RX9 yX9_partLost yX9_partLost ∈ BT := bt_tbl (tb_5 (List.mem_of_getElem? (i := 97) (by decide +kernel))) rfl
theorem tw_760 : Cond.code yX9_partLost cX9_partLost 2 (some .int) ∈ BT := bt_tbl (tb_5 (List.mem_of_getElem? (i := 98) (by decide +kernel))) rfl
theorem tw_761 : Cond.methodLink RL 223 yL_partLost ∈ BT := bt_tbl (tb_5 (List.mem_of_getElem? (i := 92) (by decide +kernel))) rfl
theorem tw_762 : Cond.static yL_partLost ∈ BT := bt_tbl (tb_5 (List.mem_of_getElem? (i := 93) (by decide +kernel))) rfl
theorem tw_763 : Cond.codeWith yL_partLost cL_partLost 4 (some .int) [(0, 9, 12, 15), (0, 9, 15, 45)] ∈ BT := bt_tbl (tb_5 (List.mem_of_getElem? (i := 94) (by decide +kernel))) rfl
theorem tw_764 : Cond.methodLink RL 225 yX10_partLost ∈ BT := bt_tbl (tb_9 (List.mem_of_getElem? (i := 5) (by decide +kernel))) rfl
theorem tw_765 : Cond.instanceMethod yX10_partLost ∈ BT := bt_tbl (tb_9 (List.mem_of_getElem? (i := 6) (by decide +kernel))) rfl
theorem tw_766 : Cond.selects RX10 yX10_partLost yX10_partLost ∈ BT := bt_tbl (tb_9 (List.mem_of_getElem? (i := 7) (by decide +kernel))) rfl
theorem tw_767 : Cond.code yX10_partLost cX10_partLost 2 (some .int) ∈ BT := bt_tbl (tb_9 (List.mem_of_getElem? (i := 8) (by decide +kernel))) rfl
theorem tw_768 : Cond.methodLink RL 79 yX9_pressureAhead ∈ BT := bt_tbl (tb_5 (List.mem_of_getElem? (i := 106) (by decide +kernel))) rfl
theorem tw_769 : Cond.instanceMethod yX9_pressureAhead ∈ BT := bt_tbl (tb_5 (List.mem_of_getElem? (i := 107) (by decide +kernel))) rfl
theorem tw_770 : Cond.selects RX9 yX9_pressureAhead yX9_pressureAhead ∈ BT := bt_tbl (tb_5 (List.mem_of_getElem? (i := 108) (by decide +kernel))) rfl
theorem tw_771 : Cond.code yX9_pressureAhead cX9_pressureAhead 2 (some .int) ∈ BT := bt_tbl (tb_5 (List.mem_of_getElem? (i := 109) (by decide +kernel))) rfl
theorem tw_772 : Cond.methodLink RL 226 yL_pressureAhead ∈ BT := bt_tbl (tb_5 (List.mem_of_getElem? (i := 103) (by decide +kernel))) rfl
theorem tw_773 : Cond.static yL_pressureAhead ∈ BT := bt_tbl (tb_5 (List.mem_of_getElem? (i := 104) (by decide +kernel))) rfl
theorem tw_774 : Cond.codeWith yL_pressureAhead cL_pressureAhead 4 (some .int) [(0, 9, 12, 15), (0, 9, 15, 45)] ∈ BT := bt_tbl (tb_5 (List.mem_of_getElem? (i := 105) (by decide +kernel))) rfl
theorem tw_775 : Cond.methodLink RL 228 yX10_pressureAhead ∈ BT := bt_tbl (tb_9 (List.mem_of_getElem? (i := 9) (by decide +kernel))) rfl
theorem tw_776 : Cond.instanceMethod yX10_pressureAhead ∈ BT := bt_tbl (tb_9 (List.mem_of_getElem? (i := 10) (by decide +kernel))) rfl
theorem tw_777 : Cond.selects RX10 yX10_pressureAhead yX10_pressureAhead ∈ BT := bt_tbl (tb_9 (List.mem_of_getElem? (i := 11) (by decide +kernel))) rfl
theorem tw_778 : Cond.code yX10_pressureAhead cX10_pressureAhead 2 (some .int) ∈ BT := bt_tbl (tb_9 (List.mem_of_getElem? (i := 12) (by decide +kernel))) rfl
theorem tw_779 : Cond.methodLink RL 82 yX9_heatAhead ∈ BT := bt_tbl (tb_5 (List.mem_of_getElem? (i := 117) (by decide +kernel))) rfl
theorem tw_780 : Cond.instanceMethod yX9_heatAhead ∈ BT := bt_tbl (tb_5 (List.mem_of_getElem? (i := 118) (by decide +kernel))) rfl
theorem tw_781 : Cond.selects RX9 yX9_heatAhead yX9_heatAhead ∈ BT := bt_tbl (tb_5 (List.mem_of_getElem? (i := 119) (by decide +kernel))) rfl
theorem tw_782 : Cond.code yX9_heatAhead cX9_heatAhead 2 (some .int) ∈ BT := bt_tbl (tb_5 (List.mem_of_getElem? (i := 120) (by decide +kernel))) rfl
theorem tw_783 : Cond.methodLink RL 229 yL_heatAhead ∈ BT := bt_tbl (tb_5 (List.mem_of_getElem? (i := 114) (by decide +kernel))) rfl
theorem tw_784 : Cond.static yL_heatAhead ∈ BT := bt_tbl (tb_5 (List.mem_of_getElem? (i := 115) (by decide +kernel))) rfl
theorem tw_785 : Cond.codeWith yL_heatAhead cL_heatAhead 4 (some .int) [(0, 9, 12, 15), (0, 9, 15, 45)] ∈ BT := bt_tbl (tb_5 (List.mem_of_getElem? (i := 116) (by decide +kernel))) rfl
theorem tw_786 : Cond.methodLink RL 231 yX10_heatAhead ∈ BT := bt_tbl (tb_9 (List.mem_of_getElem? (i := 13) (by decide +kernel))) rfl
theorem tw_787 : Cond.instanceMethod yX10_heatAhead ∈ BT := bt_tbl (tb_9 (List.mem_of_getElem? (i := 14) (by decide +kernel))) rfl
theorem tw_788 : Cond.selects RX10 yX10_heatAhead yX10_heatAhead ∈ BT := bt_tbl (tb_9 (List.mem_of_getElem? (i := 15) (by decide +kernel))) rfl
theorem tw_789 : Cond.code yX10_heatAhead cX10_heatAhead 2 (some .int) ∈ BT := bt_tbl (tb_9 (List.mem_of_getElem? (i := 16) (by decide +kernel))) rfl
theorem tw_790 : Cond.methodLink RL 85 yX9_plantWork ∈ BT := bt_tbl (tb_5 (List.mem_of_getElem? (i := 128) (by decide +kernel))) rfl
theorem tw_791 : Cond.instanceMethod yX9_plantWork ∈ BT := bt_tbl (tb_5 (List.mem_of_getElem? (i := 129) (by decide +kernel))) rfl
theorem tw_792 : Cond.selects RX9 yX9_plantWork yX9_plantWork ∈ BT := bt_tbl (tb_5 (List.mem_of_getElem? (i := 130) (by decide +kernel))) rfl
theorem tw_793 : Cond.code yX9_plantWork cX9_plantWork 1 (some .int) ∈ BT := bt_tbl (tb_5 (List.mem_of_getElem? (i := 131) (by decide +kernel))) rfl
theorem tw_794 : Cond.methodLink RL 232 yL_plantWork ∈ BT := bt_tbl (tb_5 (List.mem_of_getElem? (i := 125) (by decide +kernel))) rfl
theorem tw_795 : Cond.static yL_plantWork ∈ BT := bt_tbl (tb_5 (List.mem_of_getElem? (i := 126) (by decide +kernel))) rfl
theorem tw_796 : Cond.codeWith yL_plantWork cL_plantWork 3 (some .int) [(0, 8, 11, 15)] ∈ BT := bt_tbl (tb_5 (List.mem_of_getElem? (i := 127) (by decide +kernel))) rfl
theorem tw_797 : Cond.methodLink RL 235 yX10_plantWork ∈ BT := bt_tbl (tb_9 (List.mem_of_getElem? (i := 17) (by decide +kernel))) rfl
theorem tw_798 : Cond.instanceMethod yX10_plantWork ∈ BT := bt_tbl (tb_9 (List.mem_of_getElem? (i := 18) (by decide +kernel))) rfl
theorem tw_799 : Cond.selects RX10 yX10_plantWork yX10_plantWork ∈ BT := bt_tbl (tb_9 (List.mem_of_getElem? (i := 19) (by decide +kernel))) rfl
theorem tw_800 : Cond.code yX10_plantWork cX10_plantWork 4 (some .int) ∈ BT := bt_tbl (tb_9 (List.mem_of_getElem? (i := 20) (by decide +kernel))) rfl
theorem tw_801 : Cond.methodLink RL 89 yX9_setGas ∈ BT := bt_tbl (tb_5 (List.mem_of_getElem? (i := 135) (by decide +kernel))) rfl
theorem tw_802 : Cond.instanceMethod yX9_setGas ∈ BT := bt_tbl (tb_5 (List.mem_of_getElem? (i := 136) (by decide +kernel))) rfl
theorem tw_803 : Cond.selects RX9 yX9_setGas yX9_setGas ∈ BT := bt_tbl (tb_5 (List.mem_of_getElem? (i := 137) (by decide +kernel))) rfl
theorem tw_804 : Cond.code yX9_setGas cX9_setGas 6 (some .int) ∈ BT := bt_tbl (tb_5 (List.mem_of_getElem? (i := 138) (by decide +kernel))) rfl
theorem tw_805 : Cond.methodLink RL 236 yL_setGas ∈ BT := bt_tbl (tb_5 (List.mem_of_getElem? (i := 132) (by decide +kernel))) rfl
theorem tw_806 : Cond.static yL_setGas ∈ BT := bt_tbl (tb_5 (List.mem_of_getElem? (i := 133) (by decide +kernel))) rfl
theorem tw_807 : Cond.codeWith yL_setGas cL_setGas 6 (some .int) [(0, 12, 15, 13)] ∈ BT := bt_tbl (tb_5 (List.mem_of_getElem? (i := 134) (by decide +kernel))) rfl
theorem tw_808 : Cond.constantLong RX10 207 (20) ∈ BT := bt_tbl (tb_9 (List.mem_of_getElem? (i := 25) (by decide +kernel))) rfl
theorem tw_809 : Cond.methodLink RL 238 yX10_setGas ∈ BT := bt_tbl (tb_9 (List.mem_of_getElem? (i := 21) (by decide +kernel))) rfl
theorem tw_810 : Cond.instanceMethod yX10_setGas ∈ BT := bt_tbl (tb_9 (List.mem_of_getElem? (i := 22) (by decide +kernel))) rfl
theorem tw_811 : Cond.selects RX10 yX10_setGas yX10_setGas ∈ BT := bt_tbl (tb_9 (List.mem_of_getElem? (i := 23) (by decide +kernel))) rfl
theorem tw_812 : Cond.code yX10_setGas cX10_setGas 5 (some .int) ∈ BT := bt_tbl (tb_9 (List.mem_of_getElem? (i := 24) (by decide +kernel))) rfl
theorem tw_813 : Cond.methodLink RX9 247 yX1_fill ∈ BT := bt_tbl (tb_5 (List.mem_of_getElem? (i := 139) (by decide +kernel))) rfl
theorem tw_814 : Cond.methodLink RX8 49 yX8_digitAt ∈ BT := bt_tbl (tb_2 (List.mem_of_getElem? (i := 104) (by decide +kernel))) rfl
theorem tw_815 : Cond.instanceMethod yX8_digitAt ∈ BT := bt_tbl (tb_2 (List.mem_of_getElem? (i := 106) (by decide +kernel))) rfl
theorem tw_816 : Cond.selects RX8 yX8_digitAt yX8_digitAt ∈ BT := bt_sel (List.mem_of_getElem? (i := 1) (by decide +kernel)) rfl
theorem tw_817 : Cond.code yX8_digitAt cX8_digitAt 2 (some .long) ∈ BT := bt_tbl (tb_2 (List.mem_of_getElem? (i := 107) (by decide +kernel))) rfl
theorem tw_818 : Cond.methodLink RX9 250 yX1_isStroke ∈ BT := bt_tbl (tb_5 (List.mem_of_getElem? (i := 147) (by decide +kernel))) rfl
theorem tw_819 : Cond.static yX1_isStroke ∈ BT := bt_tbl (tb_5 (List.mem_of_getElem? (i := 148) (by decide +kernel))) rfl
theorem tw_820 : Cond.code yX1_isStroke cX1_isStroke 2 (some .boolean) ∈ BT := bt_tbl (tb_5 (List.mem_of_getElem? (i := 149) (by decide +kernel))) rfl
theorem tw_821 : Cond.methodLink RX9 256 yX1_needsBody ∈ BT := bt_tbl (tb_5 (List.mem_of_getElem? (i := 152) (by decide +kernel))) rfl
theorem tw_822 : Cond.static yX1_needsBody ∈ BT := bt_tbl (tb_5 (List.mem_of_getElem? (i := 153) (by decide +kernel))) rfl
theorem tw_823 : Cond.code yX1_needsBody cX1_needsBody 1 (some .boolean) ∈ BT := bt_tbl (tb_5 (List.mem_of_getElem? (i := 154) (by decide +kernel))) rfl
theorem tw_824 : Cond.methodLink RL 92 yX9_addStroke ∈ BT := bt_tbl (tb_5 (List.mem_of_getElem? (i := 143) (by decide +kernel))) rfl
theorem tw_825 : Cond.instanceMethod yX9_addStroke ∈ BT := bt_tbl (tb_5 (List.mem_of_getElem? (i := 144) (by decide +kernel))) rfl
theorem tw_826 : Cond.selects RX9 yX9_addStroke yX9_addStroke ∈ BT := bt_tbl (tb_5 (List.mem_of_getElem? (i := 145) (by decide +kernel))) rfl
theorem tw_827 : Cond.code yX9_addStroke cX9_addStroke 4 (some .int) ∈ BT := bt_tbl (tb_5 (List.mem_of_getElem? (i := 146) (by decide +kernel))) rfl
theorem tw_828 : Cond.methodLink RL 239 yL_addStroke ∈ BT := bt_tbl (tb_5 (List.mem_of_getElem? (i := 140) (by decide +kernel))) rfl
theorem tw_829 : Cond.static yL_addStroke ∈ BT := bt_tbl (tb_5 (List.mem_of_getElem? (i := 141) (by decide +kernel))) rfl
theorem tw_830 : Cond.codeWith yL_addStroke cL_addStroke 6 (some .int) [(0, 12, 15, 13), (0, 12, 19, 21), (0, 12, 23, 15)] ∈ BT := bt_tbl (tb_5 (List.mem_of_getElem? (i := 142) (by decide +kernel))) rfl
theorem tw_831 : Cond.methodLink RL 241 yX10_addStroke ∈ BT := bt_tbl (tb_9 (List.mem_of_getElem? (i := 26) (by decide +kernel))) rfl
theorem tw_832 : Cond.instanceMethod yX10_addStroke ∈ BT := bt_tbl (tb_9 (List.mem_of_getElem? (i := 27) (by decide +kernel))) rfl
theorem tw_833 : Cond.selects RX10 yX10_addStroke yX10_addStroke ∈ BT := bt_tbl (tb_9 (List.mem_of_getElem? (i := 28) (by decide +kernel))) rfl
theorem tw_834 : Cond.code yX10_addStroke cX10_addStroke 4 (some .int) ∈ BT := bt_tbl (tb_9 (List.mem_of_getElem? (i := 29) (by decide +kernel))) rfl
theorem tw_835 : Cond.methodLinkNest RX1 54 yX9_isOutside "Cycleworks" ∈ BT := bt_tbl (tb_5 (List.mem_of_getElem? (i := 150) (by decide +kernel))) rfl
theorem tw_836 : Cond.methodLink RX1 70 yX1_isFull ∈ BT := bt_tbl (tb_5 (List.mem_of_getElem? (i := 164) (by decide +kernel))) rfl
theorem tw_837 : Cond.instanceMethod yX1_isFull ∈ BT := bt_tbl (tb_5 (List.mem_of_getElem? (i := 156) (by decide +kernel))) rfl
theorem tw_838 : Cond.selects RX1 yX1_isFull yX1_isFull ∈ BT := bt_tbl (tb_5 (List.mem_of_getElem? (i := 157) (by decide +kernel))) rfl
theorem tw_839 : Cond.code yX1_isFull cX1_isFull 1 (some .boolean) ∈ BT := bt_tbl (tb_5 (List.mem_of_getElem? (i := 158) (by decide +kernel))) rfl
theorem tw_840 : Cond.methodLink RX1 74 yX1_needsBody ∈ BT := bt_tbl (tb_5 (List.mem_of_getElem? (i := 165) (by decide +kernel))) rfl
theorem tw_841 : Cond.methodLink RX9 260 yX1_isFull ∈ BT := bt_tbl (tb_5 (List.mem_of_getElem? (i := 155) (by decide +kernel))) rfl
theorem tw_842 : Cond.methodLink RX9 263 yX1_append ∈ BT := bt_tbl (tb_5 (List.mem_of_getElem? (i := 160) (by decide +kernel))) rfl
theorem tw_843 : Cond.instanceMethod yX1_append ∈ BT := bt_tbl (tb_5 (List.mem_of_getElem? (i := 161) (by decide +kernel))) rfl
theorem tw_844 : Cond.selects RX1 yX1_append yX1_append ∈ BT := bt_tbl (tb_5 (List.mem_of_getElem? (i := 162) (by decide +kernel))) rfl
theorem tw_845 : Cond.code yX1_append cX1_append 4 (some .int) ∈ BT := bt_tbl (tb_5 (List.mem_of_getElem? (i := 163) (by decide +kernel))) rfl
theorem tw_846 : Cond.methodLink RX9 264 yX1_removeAll ∈ BT := bt_tbl (tb_2 (List.mem_of_getElem? (i := 150) (by decide +kernel))) rfl
theorem tw_847 : Cond.instanceMethod yX1_removeAll ∈ BT := bt_tbl (tb_2 (List.mem_of_getElem? (i := 151) (by decide +kernel))) rfl
theorem tw_848 : Cond.selects RX1 yX1_removeAll yX1_removeAll ∈ BT := bt_tbl (tb_2 (List.mem_of_getElem? (i := 152) (by decide +kernel))) rfl
theorem tw_849 : Cond.code yX1_removeAll cX1_removeAll 2 (some .int) ∈ BT := bt_tbl (tb_2 (List.mem_of_getElem? (i := 153) (by decide +kernel))) rfl
theorem tw_850 : Cond.methodLink RL 242 yX9_clearStrokes ∈ BT := bt_tbl (tb_2 (List.mem_of_getElem? (i := 146) (by decide +kernel))) rfl
theorem tw_851 : Cond.instanceMethod yX9_clearStrokes ∈ BT := bt_tbl (tb_2 (List.mem_of_getElem? (i := 147) (by decide +kernel))) rfl
theorem tw_852 : Cond.selects RX9 yX9_clearStrokes yX9_clearStrokes ∈ BT := bt_tbl (tb_2 (List.mem_of_getElem? (i := 148) (by decide +kernel))) rfl
theorem tw_853 : Cond.code yX9_clearStrokes cX9_clearStrokes 1 (some .int) ∈ BT := bt_tbl (tb_2 (List.mem_of_getElem? (i := 149) (by decide +kernel))) rfl
theorem tw_854 : Cond.methodLink RL 245 yX10_clearStrokes ∈ BT := bt_tbl (tb_9 (List.mem_of_getElem? (i := 31) (by decide +kernel))) rfl
theorem tw_855 : Cond.instanceMethod yX10_clearStrokes ∈ BT := bt_tbl (tb_9 (List.mem_of_getElem? (i := 32) (by decide +kernel))) rfl
theorem tw_856 : Cond.selects RX10 yX10_clearStrokes yX10_clearStrokes ∈ BT := bt_tbl (tb_9 (List.mem_of_getElem? (i := 33) (by decide +kernel))) rfl
theorem tw_857 : Cond.code yX10_clearStrokes cX10_clearStrokes 2 (some .int) ∈ BT := bt_tbl (tb_9 (List.mem_of_getElem? (i := 34) (by decide +kernel))) rfl
theorem tw_858 : Cond.methodLink RL 95 yX9_runCycles ∈ BT := bt_tbl (tb_5 (List.mem_of_getElem? (i := 169) (by decide +kernel))) rfl
theorem tw_859 : Cond.instanceMethod yX9_runCycles ∈ BT := bt_tbl (tb_5 (List.mem_of_getElem? (i := 170) (by decide +kernel))) rfl
theorem tw_860 : Cond.selects RX9 yX9_runCycles yX9_runCycles ∈ BT := bt_tbl (tb_5 (List.mem_of_getElem? (i := 171) (by decide +kernel))) rfl
theorem tw_861 : Cond.code yX9_runCycles cX9_runCycles 6 (some .int) ∈ BT := bt_tbl (tb_5 (List.mem_of_getElem? (i := 172) (by decide +kernel))) rfl
theorem tw_862 : Cond.methodLink RL 246 yL_runCycles ∈ BT := bt_tbl (tb_5 (List.mem_of_getElem? (i := 166) (by decide +kernel))) rfl
theorem tw_863 : Cond.static yL_runCycles ∈ BT := bt_tbl (tb_5 (List.mem_of_getElem? (i := 167) (by decide +kernel))) rfl
theorem tw_864 : Cond.codeWith yL_runCycles cL_runCycles 4 (some .int) [(0, 9, 12, 13), (0, 9, 15, 15)] ∈ BT := bt_tbl (tb_5 (List.mem_of_getElem? (i := 168) (by decide +kernel))) rfl
theorem tw_865 : Cond.constantLong RX10 227 (10) ∈ BT := bt_tbl (tb_9 (List.mem_of_getElem? (i := 39) (by decide +kernel))) rfl
theorem tw_866 : Cond.methodLink RL 248 yX10_runCycles ∈ BT := bt_tbl (tb_9 (List.mem_of_getElem? (i := 35) (by decide +kernel))) rfl
theorem tw_867 : Cond.instanceMethod yX10_runCycles ∈ BT := bt_tbl (tb_9 (List.mem_of_getElem? (i := 36) (by decide +kernel))) rfl
theorem tw_868 : Cond.selects RX10 yX10_runCycles yX10_runCycles ∈ BT := bt_tbl (tb_9 (List.mem_of_getElem? (i := 37) (by decide +kernel))) rfl
theorem tw_869 : Cond.code yX10_runCycles cX10_runCycles 3 (some .int) ∈ BT := bt_tbl (tb_9 (List.mem_of_getElem? (i := 38) (by decide +kernel))) rfl
theorem tw_870 : Cond.methodLink RX9 265 yX1_isEmpty ∈ BT := bt_tbl (tb_5 (List.mem_of_getElem? (i := 173) (by decide +kernel))) rfl
theorem tw_871 : Cond.instanceMethod yX1_isEmpty ∈ BT := bt_tbl (tb_5 (List.mem_of_getElem? (i := 174) (by decide +kernel))) rfl
theorem tw_872 : Cond.selects RX1 yX1_isEmpty yX1_isEmpty ∈ BT := bt_tbl (tb_5 (List.mem_of_getElem? (i := 175) (by decide +kernel))) rfl
theorem tw_873 : Cond.code yX1_isEmpty cX1_isEmpty 1 (some .boolean) ∈ BT := bt_tbl (tb_5 (List.mem_of_getElem? (i := 176) (by decide +kernel))) rfl
theorem tw_874 : Cond.fieldLinkNest RX9 278 "Cycleworks$Cylinder" "ran" "Z" "Cycleworks" ∈ BT := bt_tbl (tb_1 (List.mem_of_getElem? (i := 220) (by decide +kernel))) rfl
theorem tw_875 : Cond.methodLink RL 98 yX9_wasEnded ∈ BT := bt_tbl (tb_5 (List.mem_of_getElem? (i := 211) (by decide +kernel))) rfl
theorem tw_876 : Cond.instanceMethod yX9_wasEnded ∈ BT := bt_tbl (tb_5 (List.mem_of_getElem? (i := 212) (by decide +kernel))) rfl
theorem tw_877 : Cond.selects RX9 yX9_wasEnded yX9_wasEnded ∈ BT := bt_tbl (tb_5 (List.mem_of_getElem? (i := 213) (by decide +kernel))) rfl
theorem tw_878 : Cond.code yX9_wasEnded cX9_wasEnded 1 (some .boolean) ∈ BT := bt_tbl (tb_5 (List.mem_of_getElem? (i := 214) (by decide +kernel))) rfl
theorem tw_879 : Cond.methodLink RL 249 yL_wasEnded ∈ BT := bt_tbl (tb_5 (List.mem_of_getElem? (i := 208) (by decide +kernel))) rfl
theorem tw_880 : Cond.static yL_wasEnded ∈ BT := bt_tbl (tb_5 (List.mem_of_getElem? (i := 209) (by decide +kernel))) rfl
theorem tw_881 : Cond.codeWith yL_wasEnded cL_wasEnded 3 (some .int) [(0, 15, 18, 15)] ∈ BT := bt_tbl (tb_5 (List.mem_of_getElem? (i := 210) (by decide +kernel))) rfl
theorem tw_882 : Cond.fieldLink RX10 229 "CycleworksModel" "ran" "Z" ∈ BT := bt_tbl (tb_6 (List.mem_of_getElem? (i := 239) (by decide +kernel))) rfl
theorem tw_883 : Cond.methodLink RL 251 yX10_wasEnded ∈ BT := bt_tbl (tb_9 (List.mem_of_getElem? (i := 72) (by decide +kernel))) rfl
theorem tw_884 : Cond.instanceMethod yX10_wasEnded ∈ BT := bt_tbl (tb_9 (List.mem_of_getElem? (i := 73) (by decide +kernel))) rfl
theorem tw_885 : Cond.selects RX10 yX10_wasEnded yX10_wasEnded ∈ BT := bt_tbl (tb_9 (List.mem_of_getElem? (i := 74) (by decide +kernel))) rfl
theorem tw_886 : Cond.code yX10_wasEnded cX10_wasEnded 1 (some .boolean) ∈ BT := bt_tbl (tb_9 (List.mem_of_getElem? (i := 75) (by decide +kernel))) rfl
theorem tw_887 : Cond.methodLink RL 252 yX9_gasEnergy ∈ BT := bt_tbl (tb_2 (List.mem_of_getElem? (i := 154) (by decide +kernel))) rfl
theorem tw_888 : Cond.instanceMethod yX9_gasEnergy ∈ BT := bt_tbl (tb_2 (List.mem_of_getElem? (i := 155) (by decide +kernel))) rfl
theorem tw_889 : Cond.selects RX9 yX9_gasEnergy yX9_gasEnergy ∈ BT := bt_tbl (tb_2 (List.mem_of_getElem? (i := 156) (by decide +kernel))) rfl
theorem tw_890 : Cond.code yX9_gasEnergy cX9_gasEnergy 1 (some .int) ∈ BT := bt_tbl (tb_2 (List.mem_of_getElem? (i := 157) (by decide +kernel))) rfl
theorem tw_891 : Cond.methodLink RL 255 yX10_gasEnergy ∈ BT := bt_tbl (tb_9 (List.mem_of_getElem? (i := 76) (by decide +kernel))) rfl
theorem tw_892 : Cond.instanceMethod yX10_gasEnergy ∈ BT := bt_tbl (tb_9 (List.mem_of_getElem? (i := 77) (by decide +kernel))) rfl
theorem tw_893 : Cond.selects RX10 yX10_gasEnergy yX10_gasEnergy ∈ BT := bt_tbl (tb_9 (List.mem_of_getElem? (i := 78) (by decide +kernel))) rfl
theorem tw_894 : Cond.code yX10_gasEnergy cX10_gasEnergy 1 (some .int) ∈ BT := bt_tbl (tb_9 (List.mem_of_getElem? (i := 79) (by decide +kernel))) rfl
theorem tw_895 : Cond.methodLink RX8 41 yX8_set ∈ BT := bt_tbl (tb_2 (List.mem_of_getElem? (i := 170) (by decide +kernel))) rfl
theorem tw_896 : Cond.methodLink RX8 56 yX8_setSum ∈ BT := bt_tbl (tb_2 (List.mem_of_getElem? (i := 171) (by decide +kernel))) rfl
theorem tw_897 : Cond.instanceMethod yX8_setSum ∈ BT := bt_tbl (tb_2 (List.mem_of_getElem? (i := 172) (by decide +kernel))) rfl
theorem tw_898 : Cond.selects RX8 yX8_setSum yX8_setSum ∈ BT := bt_tbl (tb_2 (List.mem_of_getElem? (i := 173) (by decide +kernel))) rfl
theorem tw_899 : Cond.code yX8_setSum cX8_setSum 10 none ∈ BT := bt_tbl (tb_2 (List.mem_of_getElem? (i := 174) (by decide +kernel))) rfl
theorem tw_900 : Cond.methodLink RX1 78 yX8_setTimes ∈ BT := bt_tbl (tb_2 (List.mem_of_getElem? (i := 166) (by decide +kernel))) rfl
theorem tw_901 : Cond.instanceMethod yX8_setTimes ∈ BT := bt_tbl (tb_2 (List.mem_of_getElem? (i := 167) (by decide +kernel))) rfl
theorem tw_902 : Cond.selects RX8 yX8_setTimes yX8_setTimes ∈ BT := bt_tbl (tb_2 (List.mem_of_getElem? (i := 168) (by decide +kernel))) rfl
theorem tw_903 : Cond.code yX8_setTimes cX8_setTimes 3 none ∈ BT := bt_tbl (tb_2 (List.mem_of_getElem? (i := 169) (by decide +kernel))) rfl
theorem tw_904 : Cond.methodLink RX1 82 yX8_setQuotient ∈ BT := bt_tbl (tb_2 (List.mem_of_getElem? (i := 203) (by decide +kernel))) rfl
theorem tw_905 : Cond.instanceMethod yX8_setQuotient ∈ BT := bt_tbl (tb_2 (List.mem_of_getElem? (i := 204) (by decide +kernel))) rfl
theorem tw_906 : Cond.selects RX8 yX8_setQuotient yX8_setQuotient ∈ BT := bt_tbl (tb_2 (List.mem_of_getElem? (i := 205) (by decide +kernel))) rfl
theorem tw_907 : Cond.code yX8_setQuotient cX8_setQuotient 9 none ∈ BT := bt_tbl (tb_2 (List.mem_of_getElem? (i := 206) (by decide +kernel))) rfl
theorem tw_908 : Cond.methodLink RX9 287 yX1_pressureNow ∈ BT := bt_tbl (tb_2 (List.mem_of_getElem? (i := 162) (by decide +kernel))) rfl
theorem tw_909 : Cond.instanceMethod yX1_pressureNow ∈ BT := bt_tbl (tb_2 (List.mem_of_getElem? (i := 163) (by decide +kernel))) rfl
theorem tw_910 : Cond.selects RX1 yX1_pressureNow yX1_pressureNow ∈ BT := bt_tbl (tb_2 (List.mem_of_getElem? (i := 164) (by decide +kernel))) rfl
theorem tw_911 : Cond.code yX1_pressureNow cX1_pressureNow 1 (some (.object "Cycleworks$Whole")) ∈ BT := bt_tbl (tb_2 (List.mem_of_getElem? (i := 165) (by decide +kernel))) rfl
theorem tw_912 : Cond.methodLink RL 256 yX9_gasPressure ∈ BT := bt_tbl (tb_2 (List.mem_of_getElem? (i := 158) (by decide +kernel))) rfl
theorem tw_913 : Cond.instanceMethod yX9_gasPressure ∈ BT := bt_tbl (tb_2 (List.mem_of_getElem? (i := 159) (by decide +kernel))) rfl
theorem tw_914 : Cond.selects RX9 yX9_gasPressure yX9_gasPressure ∈ BT := bt_tbl (tb_2 (List.mem_of_getElem? (i := 160) (by decide +kernel))) rfl
theorem tw_915 : Cond.code yX9_gasPressure cX9_gasPressure 1 (some .int) ∈ BT := bt_tbl (tb_2 (List.mem_of_getElem? (i := 161) (by decide +kernel))) rfl
theorem tw_916 : Cond.methodLink RX10 211 yX10_push ∈ BT := bt_tbl (tb_9 (List.mem_of_getElem? (i := 48) (by decide +kernel))) rfl
theorem tw_917 : Cond.instanceMethod yX10_push ∈ BT := bt_tbl (tb_9 (List.mem_of_getElem? (i := 50) (by decide +kernel))) rfl
theorem tw_918 : Cond.selects RX10 yX10_push yX10_push ∈ BT := bt_sel (List.mem_of_getElem? (i := 53) (by decide +kernel)) rfl
theorem tw_919 : Cond.code yX10_push cX10_push 1 (some .int) ∈ BT := bt_tbl (tb_9 (List.mem_of_getElem? (i := 51) (by decide +kernel))) rfl
theorem tw_920 : Cond.methodLink RL 259 yX10_gasPressure ∈ BT := bt_tbl (tb_9 (List.mem_of_getElem? (i := 80) (by decide +kernel))) rfl
theorem tw_921 : Cond.instanceMethod yX10_gasPressure ∈ BT := bt_tbl (tb_9 (List.mem_of_getElem? (i := 81) (by decide +kernel))) rfl
theorem tw_922 : Cond.selects RX10 yX10_gasPressure yX10_gasPressure ∈ BT := bt_tbl (tb_9 (List.mem_of_getElem? (i := 82) (by decide +kernel))) rfl
theorem tw_923 : Cond.code yX10_gasPressure cX10_gasPressure 1 (some .int) ∈ BT := bt_tbl (tb_9 (List.mem_of_getElem? (i := 83) (by decide +kernel))) rfl
theorem tw_924 : Cond.fieldLinkNest RX9 291 "Cycleworks$Cylinder" "volume" "I" "Cycleworks" ∈ BT := bt_tbl (tb_1 (List.mem_of_getElem? (i := 212) (by decide +kernel))) rfl
theorem tw_925 : Cond.methodLink RL 260 yX9_gasVolume ∈ BT := bt_tbl (tb_2 (List.mem_of_getElem? (i := 207) (by decide +kernel))) rfl
theorem tw_926 : Cond.instanceMethod yX9_gasVolume ∈ BT := bt_tbl (tb_2 (List.mem_of_getElem? (i := 208) (by decide +kernel))) rfl
theorem tw_927 : Cond.selects RX9 yX9_gasVolume yX9_gasVolume ∈ BT := bt_tbl (tb_2 (List.mem_of_getElem? (i := 209) (by decide +kernel))) rfl
theorem tw_928 : Cond.code yX9_gasVolume cX9_gasVolume 1 (some .int) ∈ BT := bt_tbl (tb_2 (List.mem_of_getElem? (i := 210) (by decide +kernel))) rfl
theorem tw_929 : Cond.methodLink RL 263 yX10_gasVolume ∈ BT := bt_tbl (tb_9 (List.mem_of_getElem? (i := 84) (by decide +kernel))) rfl
theorem tw_930 : Cond.instanceMethod yX10_gasVolume ∈ BT := bt_tbl (tb_9 (List.mem_of_getElem? (i := 85) (by decide +kernel))) rfl
theorem tw_931 : Cond.selects RX10 yX10_gasVolume yX10_gasVolume ∈ BT := bt_tbl (tb_9 (List.mem_of_getElem? (i := 86) (by decide +kernel))) rfl
theorem tw_932 : Cond.code yX10_gasVolume cX10_gasVolume 1 (some .int) ∈ BT := bt_tbl (tb_9 (List.mem_of_getElem? (i := 87) (by decide +kernel))) rfl
theorem tw_933 : Cond.methodLink RX9 294 yX1_hasMark ∈ BT := bt_tbl (tb_5 (List.mem_of_getElem? (i := 223) (by decide +kernel))) rfl
theorem tw_934 : Cond.instanceMethod yX1_hasMark ∈ BT := bt_tbl (tb_5 (List.mem_of_getElem? (i := 224) (by decide +kernel))) rfl
theorem tw_935 : Cond.selects RX1 yX1_hasMark yX1_hasMark ∈ BT := bt_tbl (tb_5 (List.mem_of_getElem? (i := 225) (by decide +kernel))) rfl
theorem tw_936 : Cond.code yX1_hasMark cX1_hasMark 2 (some .boolean) ∈ BT := bt_tbl (tb_5 (List.mem_of_getElem? (i := 226) (by decide +kernel))) rfl
theorem tw_937 : Cond.methodLink RL 102 yX9_cardAt ∈ BT := bt_tbl (tb_5 (List.mem_of_getElem? (i := 219) (by decide +kernel))) rfl
theorem tw_938 : Cond.instanceMethod yX9_cardAt ∈ BT := bt_tbl (tb_5 (List.mem_of_getElem? (i := 220) (by decide +kernel))) rfl
theorem tw_939 : Cond.selects RX9 yX9_cardAt yX9_cardAt ∈ BT := bt_tbl (tb_5 (List.mem_of_getElem? (i := 221) (by decide +kernel))) rfl
theorem tw_940 : Cond.code yX9_cardAt cX9_cardAt 2 (some .int) ∈ BT := bt_tbl (tb_5 (List.mem_of_getElem? (i := 222) (by decide +kernel))) rfl
theorem tw_941 : Cond.methodLink RL 264 yL_cardAt ∈ BT := bt_tbl (tb_5 (List.mem_of_getElem? (i := 216) (by decide +kernel))) rfl
theorem tw_942 : Cond.static yL_cardAt ∈ BT := bt_tbl (tb_5 (List.mem_of_getElem? (i := 217) (by decide +kernel))) rfl
theorem tw_943 : Cond.codeWith yL_cardAt cL_cardAt 4 (some .int) [(0, 9, 12, 45)] ∈ BT := bt_tbl (tb_5 (List.mem_of_getElem? (i := 218) (by decide +kernel))) rfl
theorem tw_944 : Cond.methodLink RL 266 yX10_cardAt ∈ BT := bt_tbl (tb_9 (List.mem_of_getElem? (i := 88) (by decide +kernel))) rfl
theorem tw_945 : Cond.instanceMethod yX10_cardAt ∈ BT := bt_tbl (tb_9 (List.mem_of_getElem? (i := 89) (by decide +kernel))) rfl
theorem tw_946 : Cond.selects RX10 yX10_cardAt yX10_cardAt ∈ BT := bt_tbl (tb_9 (List.mem_of_getElem? (i := 90) (by decide +kernel))) rfl
theorem tw_947 : Cond.code yX10_cardAt cX10_cardAt 2 (some .int) ∈ BT := bt_tbl (tb_9 (List.mem_of_getElem? (i := 91) (by decide +kernel))) rfl
theorem tw_948 : Cond.methodLink RL 105 yX9_addStream ∈ BT := bt_tbl (tb_5 (List.mem_of_getElem? (i := 236) (by decide +kernel))) rfl
theorem tw_949 : Cond.instanceMethod yX9_addStream ∈ BT := bt_tbl (tb_5 (List.mem_of_getElem? (i := 237) (by decide +kernel))) rfl
theorem tw_950 : Cond.selects RX9 yX9_addStream yX9_addStream ∈ BT := bt_tbl (tb_5 (List.mem_of_getElem? (i := 238) (by decide +kernel))) rfl
theorem tw_951 : Cond.code yX9_addStream cX9_addStream 4 (some .int) ∈ BT := bt_tbl (tb_5 (List.mem_of_getElem? (i := 239) (by decide +kernel))) rfl
theorem tw_952 : Cond.methodLink RL 267 yL_addStream ∈ BT := bt_tbl (tb_5 (List.mem_of_getElem? (i := 233) (by decide +kernel))) rfl
theorem tw_953 : Cond.static yL_addStream ∈ BT := bt_tbl (tb_5 (List.mem_of_getElem? (i := 234) (by decide +kernel))) rfl
theorem tw_954 : Cond.codeWith yL_addStream cL_addStream 6 (some .int) [(0, 12, 15, 13), (0, 12, 19, 15)] ∈ BT := bt_tbl (tb_5 (List.mem_of_getElem? (i := 235) (by decide +kernel))) rfl
theorem tw_955 : Cond.methodLink RL 269 yX10_addStream ∈ BT := bt_tbl (tb_9 (List.mem_of_getElem? (i := 97) (by decide +kernel))) rfl
theorem tw_956 : Cond.instanceMethod yX10_addStream ∈ BT := bt_tbl (tb_9 (List.mem_of_getElem? (i := 98) (by decide +kernel))) rfl
theorem tw_957 : Cond.selects RX10 yX10_addStream yX10_addStream ∈ BT := bt_tbl (tb_9 (List.mem_of_getElem? (i := 99) (by decide +kernel))) rfl
theorem tw_958 : Cond.code yX10_addStream cX10_addStream 4 (some .int) ∈ BT := bt_tbl (tb_9 (List.mem_of_getElem? (i := 100) (by decide +kernel))) rfl
theorem tw_959 : Cond.methodLink RX5 25 yX5_isFull ∈ BT := bt_tbl (tb_6 (List.mem_of_getElem? (i := 9) (by decide +kernel))) rfl
theorem tw_960 : Cond.instanceMethod yX5_isFull ∈ BT := bt_tbl (tb_6 (List.mem_of_getElem? (i := 1) (by decide +kernel))) rfl
theorem tw_961 : Cond.selects RX5 yX5_isFull yX5_isFull ∈ BT := bt_tbl (tb_6 (List.mem_of_getElem? (i := 2) (by decide +kernel))) rfl
theorem tw_962 : Cond.code yX5_isFull cX5_isFull 1 (some .boolean) ∈ BT := bt_tbl (tb_6 (List.mem_of_getElem? (i := 3) (by decide +kernel))) rfl
theorem tw_963 : Cond.methodLink RX9 303 yX5_isFull ∈ BT := bt_tbl (tb_6 (List.mem_of_getElem? (i := 0) (by decide +kernel))) rfl
theorem tw_964 : Cond.methodLink RX9 306 yX5_append ∈ BT := bt_tbl (tb_6 (List.mem_of_getElem? (i := 5) (by decide +kernel))) rfl
theorem tw_965 : Cond.instanceMethod yX5_append ∈ BT := bt_tbl (tb_6 (List.mem_of_getElem? (i := 6) (by decide +kernel))) rfl
theorem tw_966 : Cond.selects RX5 yX5_append yX5_append ∈ BT := bt_tbl (tb_6 (List.mem_of_getElem? (i := 7) (by decide +kernel))) rfl
theorem tw_967 : Cond.code yX5_append cX5_append 4 (some .int) ∈ BT := bt_tbl (tb_6 (List.mem_of_getElem? (i := 8) (by decide +kernel))) rfl
theorem tw_968 : Cond.methodLink RX9 309 yX5_removeAll ∈ BT := bt_tbl (tb_2 (List.mem_of_getElem? (i := 215) (by decide +kernel))) rfl
theorem tw_969 : Cond.instanceMethod yX5_removeAll ∈ BT := bt_tbl (tb_2 (List.mem_of_getElem? (i := 216) (by decide +kernel))) rfl
theorem tw_970 : Cond.selects RX5 yX5_removeAll yX5_removeAll ∈ BT := bt_tbl (tb_2 (List.mem_of_getElem? (i := 217) (by decide +kernel))) rfl
theorem tw_971 : Cond.code yX5_removeAll cX5_removeAll 2 (some .int) ∈ BT := bt_tbl (tb_2 (List.mem_of_getElem? (i := 218) (by decide +kernel))) rfl
theorem tw_972 : Cond.methodLink RL 270 yX9_clearStreams ∈ BT := bt_tbl (tb_2 (List.mem_of_getElem? (i := 211) (by decide +kernel))) rfl
theorem tw_973 : Cond.instanceMethod yX9_clearStreams ∈ BT := bt_tbl (tb_2 (List.mem_of_getElem? (i := 212) (by decide +kernel))) rfl
theorem tw_974 : Cond.selects RX9 yX9_clearStreams yX9_clearStreams ∈ BT := bt_tbl (tb_2 (List.mem_of_getElem? (i := 213) (by decide +kernel))) rfl
theorem tw_975 : Cond.code yX9_clearStreams cX9_clearStreams 1 (some .int) ∈ BT := bt_tbl (tb_2 (List.mem_of_getElem? (i := 214) (by decide +kernel))) rfl
theorem tw_976 : Cond.methodLink RL 273 yX10_clearStreams ∈ BT := bt_tbl (tb_9 (List.mem_of_getElem? (i := 101) (by decide +kernel))) rfl
theorem tw_977 : Cond.instanceMethod yX10_clearStreams ∈ BT := bt_tbl (tb_9 (List.mem_of_getElem? (i := 102) (by decide +kernel))) rfl
theorem tw_978 : Cond.selects RX10 yX10_clearStreams yX10_clearStreams ∈ BT := bt_tbl (tb_9 (List.mem_of_getElem? (i := 103) (by decide +kernel))) rfl
theorem tw_979 : Cond.code yX10_clearStreams cX10_clearStreams 2 (some .int) ∈ BT := bt_tbl (tb_9 (List.mem_of_getElem? (i := 104) (by decide +kernel))) rfl
theorem tw_980 : Cond.methodLink RX9 310 yX9_requireApproach ∈ BT := bt_tbl (tb_6 (List.mem_of_getElem? (i := 17) (by decide +kernel))) rfl
theorem tw_981 : Cond.instanceMethod yX9_requireApproach ∈ BT := bt_tbl (tb_6 (List.mem_of_getElem? (i := 19) (by decide +kernel))) rfl
theorem tw_982 : Cond.selects RX9 yX9_requireApproach yX9_requireApproach ∈ BT := bt_sel (List.mem_of_getElem? (i := 27) (by decide +kernel)) rfl
theorem tw_983 : Cond.code yX9_requireApproach cX9_requireApproach 2 none ∈ BT := bt_tbl (tb_6 (List.mem_of_getElem? (i := 20) (by decide +kernel))) rfl
theorem tw_984 : Cond.methodLink RL 108 yX9_heatNeeded ∈ BT := bt_tbl (tb_6 (List.mem_of_getElem? (i := 13) (by decide +kernel))) rfl
theorem tw_985 : Cond.instanceMethod yX9_heatNeeded ∈ BT := bt_tbl (tb_6 (List.mem_of_getElem? (i := 14) (by decide +kernel))) rfl
theorem tw_986 : Cond.selects RX9 yX9_heatNeeded yX9_heatNeeded ∈ BT := bt_tbl (tb_6 (List.mem_of_getElem? (i := 15) (by decide +kernel))) rfl
theorem tw_987 : Cond.code yX9_heatNeeded cX9_heatNeeded 2 (some .int) ∈ BT := bt_tbl (tb_6 (List.mem_of_getElem? (i := 16) (by decide +kernel))) rfl
theorem tw_988 : Cond.methodLink RL 274 yL_heatNeeded ∈ BT := bt_tbl (tb_6 (List.mem_of_getElem? (i := 10) (by decide +kernel))) rfl
theorem tw_989 : Cond.static yL_heatNeeded ∈ BT := bt_tbl (tb_6 (List.mem_of_getElem? (i := 11) (by decide +kernel))) rfl
theorem tw_990 : Cond.codeWith yL_heatNeeded cL_heatNeeded 4 (some .int) [(0, 9, 12, 13)] ∈ BT := bt_tbl (tb_6 (List.mem_of_getElem? (i := 12) (by decide +kernel))) rfl
theorem tw_991 : Cond.methodLink RX10 247 yX10_noApproach ∈ BT := bt_tbl (tb_9 (List.mem_of_getElem? (i := 109) (by decide +kernel))) rfl
theorem tw_992 : Cond.instanceMethod yX10_noApproach ∈ BT := bt_tbl (tb_9 (List.mem_of_getElem? (i := 111) (by decide +kernel))) rfl
theorem tw_993 : Cond.selects RX10 yX10_noApproach yX10_noApproach ∈ BT := bt_sel (List.mem_of_getElem? (i := 54) (by decide +kernel)) rfl
theorem tw_994 : Cond.code yX10_noApproach cX10_noApproach 2 (some .boolean) ∈ BT := bt_tbl (tb_9 (List.mem_of_getElem? (i := 112) (by decide +kernel))) rfl
theorem tw_995 : Cond.methodLink RL 276 yX10_heatNeeded ∈ BT := bt_tbl (tb_9 (List.mem_of_getElem? (i := 105) (by decide +kernel))) rfl
theorem tw_996 : Cond.instanceMethod yX10_heatNeeded ∈ BT := bt_tbl (tb_9 (List.mem_of_getElem? (i := 106) (by decide +kernel))) rfl
theorem tw_997 : Cond.selects RX10 yX10_heatNeeded yX10_heatNeeded ∈ BT := bt_tbl (tb_9 (List.mem_of_getElem? (i := 107) (by decide +kernel))) rfl
theorem tw_998 : Cond.code yX10_heatNeeded cX10_heatNeeded 2 (some .int) ∈ BT := bt_tbl (tb_9 (List.mem_of_getElem? (i := 108) (by decide +kernel))) rfl
theorem tw_999 : Cond.methodLink RX5 29 yX5_narrowest ∈ BT := bt_tbl (tb_6 (List.mem_of_getElem? (i := 26) (by decide +kernel))) rfl
theorem tw_1000 : Cond.instanceMethod yX5_narrowest ∈ BT := bt_tbl (tb_6 (List.mem_of_getElem? (i := 27) (by decide +kernel))) rfl
theorem tw_1001 : Cond.selects RX5 yX5_narrowest yX5_narrowest ∈ BT := bt_tbl (tb_6 (List.mem_of_getElem? (i := 28) (by decide +kernel))) rfl
theorem tw_1002 : Cond.code yX5_narrowest cX5_narrowest 8 (some .int) ∈ BT := bt_tbl (tb_6 (List.mem_of_getElem? (i := 29) (by decide +kernel))) rfl
theorem tw_1003 : Cond.methodLink RX5 33 yX5_sumAt ∈ BT := bt_tbl (tb_6 (List.mem_of_getElem? (i := 38) (by decide +kernel))) rfl
theorem tw_1004 : Cond.instanceMethod yX5_sumAt ∈ BT := bt_tbl (tb_6 (List.mem_of_getElem? (i := 40) (by decide +kernel))) rfl
theorem tw_1005 : Cond.selects RX5 yX5_sumAt yX5_sumAt ∈ BT := bt_sel (List.mem_of_getElem? (i := 30) (by decide +kernel)) rfl
theorem tw_1006 : Cond.code yX5_sumAt cX5_sumAt 9 (some .int) ∈ BT := bt_tbl (tb_6 (List.mem_of_getElem? (i := 41) (by decide +kernel))) rfl
theorem tw_1007 : Cond.methodLink RX9 313 yX5_leastHeat ∈ BT := bt_tbl (tb_6 (List.mem_of_getElem? (i := 22) (by decide +kernel))) rfl
theorem tw_1008 : Cond.instanceMethod yX5_leastHeat ∈ BT := bt_tbl (tb_6 (List.mem_of_getElem? (i := 23) (by decide +kernel))) rfl
theorem tw_1009 : Cond.selects RX5 yX5_leastHeat yX5_leastHeat ∈ BT := bt_tbl (tb_6 (List.mem_of_getElem? (i := 24) (by decide +kernel))) rfl
theorem tw_1010 : Cond.code yX5_leastHeat cX5_leastHeat 2 (some .int) ∈ BT := bt_tbl (tb_6 (List.mem_of_getElem? (i := 25) (by decide +kernel))) rfl
theorem tw_1011 : Cond.laysFinal RJx35411 RJx35411 "this$0" "Ljava/util/ArrayList;" ∈ BT := bt_tbl (tb_8 (List.mem_of_getElem? (i := 192) (by decide +kernel))) rfl
theorem tw_1012 : Cond.lays RJx35411 RJx35411 "expectedModCount" "I" ∈ BT := bt_tbl (tb_8 (List.mem_of_getElem? (i := 190) (by decide +kernel))) rfl
theorem tw_1013 : Cond.lays RJx35411 RJx35411 "lastRet" "I" ∈ BT := bt_tbl (tb_8 (List.mem_of_getElem? (i := 188) (by decide +kernel))) rfl
theorem tw_1014 : Cond.lays RJx35411 RJx35411 "cursor" "I" ∈ BT := bt_tbl (tb_8 (List.mem_of_getElem? (i := 186) (by decide +kernel))) rfl
theorem tw_1015 : Cond.fieldLink RJx35411 1 "java/util/ArrayList$Itr" "this$0" "Ljava/util/ArrayList;" ∈ BT := bt_tbl (tb_8 (List.mem_of_getElem? (i := 185) (by decide +kernel))) rfl
theorem tw_1016 : Cond.methodLink RJx35411 7 objectInit ∈ BT := bt_tbl (tb_8 (List.mem_of_getElem? (i := 181) (by decide +kernel))) rfl
theorem tw_1017 : Cond.fieldLink RJx35411 13 "java/util/ArrayList$Itr" "lastRet" "I" ∈ BT := bt_tbl (tb_8 (List.mem_of_getElem? (i := 183) (by decide +kernel))) rfl
theorem tw_1018 : Cond.fieldLink RJx35411 17 "java/util/ArrayList" "modCount" "I" ∈ BT := bt_tbl (tb_6 (List.mem_of_getElem? (i := 215) (by decide +kernel))) rfl
theorem tw_1019 : Cond.fieldLink RJx35411 22 "java/util/ArrayList$Itr" "expectedModCount" "I" ∈ BT := bt_tbl (tb_8 (List.mem_of_getElem? (i := 184) (by decide +kernel))) rfl
theorem tw_1020 : Cond.classLink RJx4a65c 267 RJx35411 ∈ BT := bt_tbl (tb_8 (List.mem_of_getElem? (i := 176) (by decide +kernel))) rfl
theorem tw_1021 : Cond.instantiable RJx35411 4 ∈ BT := bt_tbl (tb_8 (List.mem_of_getElem? (i := 177) (by decide +kernel))) rfl
theorem tw_1022 : Cond.initialized RJx35411 ∈ BT := bt_tbl (tb_1 (List.mem_of_getElem? (i := 34) (by decide +kernel))) rfl
theorem tw_1023 : Cond.methodLink RJx4a65c 269 yJx35411_init_45d68 ∈ BT := bt_tbl (tb_8 (List.mem_of_getElem? (i := 178) (by decide +kernel))) rfl
theorem tw_1024 : Cond.instanceMethod yJx35411_init_45d68 ∈ BT := bt_tbl (tb_8 (List.mem_of_getElem? (i := 179) (by decide +kernel))) rfl
theorem tw_1025 : Cond.code yJx35411_init_45d68 cJx35411_init_45d68 2 none ∈ BT := bt_tbl (tb_8 (List.mem_of_getElem? (i := 180) (by decide +kernel))) rfl
theorem tw_1026 : Cond.fieldLink RJx35411 25 "java/util/ArrayList$Itr" "cursor" "I" ∈ BT := bt_tbl (tb_8 (List.mem_of_getElem? (i := 182) (by decide +kernel))) rfl
theorem tw_1027 : Cond.fieldLinkNest RJx35411 28 "java/util/ArrayList" "size" "I" "java/util/ArrayList" ∈ BT := bt_tbl (tb_6 (List.mem_of_getElem? (i := 212) (by decide +kernel))) rfl
theorem tw_1028 : Cond.methodLink RX10 187 (⟨RJxbd725, "iterator", "()Ljava/util/Iterator;"⟩ : MethodName) ∈ BT := bt_tbl (tb_8 (List.mem_of_getElem? (i := 168) (by decide +kernel))) rfl
theorem tw_1029 : Cond.selects RJx4a65c (⟨RJxbd725, "iterator", "()Ljava/util/Iterator;"⟩ : MethodName) yJx4a65c_iterator_32c93 ∈ BT := bt_tbl (tb_8 (List.mem_of_getElem? (i := 171) (by decide +kernel))) rfl
theorem tw_1030 : Cond.instanceMethod yJx4a65c_iterator_32c93 ∈ BT := bt_tbl (tb_8 (List.mem_of_getElem? (i := 173) (by decide +kernel))) rfl
theorem tw_1031 : Cond.code yJx4a65c_iterator_32c93 cJx4a65c_iterator_32c93 1 (some (.object "java/util/Iterator")) ∈ BT := bt_tbl (tb_8 (List.mem_of_getElem? (i := 175) (by decide +kernel))) rfl
theorem tw_1032 : Cond.declares (⟨RJxbd725, "iterator", "()Ljava/util/Iterator;"⟩ : MethodName) ∈ BT := bt_tbl (tb_8 (List.mem_of_getElem? (i := 170) (by decide +kernel))) rfl
theorem tw_1033 : Cond.interfaceMethod RJxbd725 RJxbd725 "iterator" "()Ljava/util/Iterator;" ∈ BT := bt_tbl (tb_8 (List.mem_of_getElem? (i := 169) (by decide +kernel))) rfl
theorem tw_1034 : Cond.publicMethod yJx4a65c_iterator_32c93 ∈ BT := bt_tbl (tb_8 (List.mem_of_getElem? (i := 174) (by decide +kernel))) rfl
theorem tw_1035 : Cond.unhidden RJx4a65c "iterator" "()Ljava/util/Iterator;" ∈ BT := bt_tbl (tb_8 (List.mem_of_getElem? (i := 172) (by decide +kernel))) rfl
theorem tw_1036 : Cond.methodLink RX10 191 (⟨RJx4d0d8, "hasNext", "()Z"⟩ : MethodName) ∈ BT := bt_tbl (tb_8 (List.mem_of_getElem? (i := 196) (by decide +kernel))) rfl
theorem tw_1037 : Cond.selects RJx35411 (⟨RJx4d0d8, "hasNext", "()Z"⟩ : MethodName) yJx35411_hasNext_aae02 ∈ BT := bt_tbl (tb_8 (List.mem_of_getElem? (i := 200) (by decide +kernel))) rfl
theorem tw_1038 : Cond.instanceMethod yJx35411_hasNext_aae02 ∈ BT := bt_tbl (tb_8 (List.mem_of_getElem? (i := 202) (by decide +kernel))) rfl
theorem tw_1039 : Cond.code yJx35411_hasNext_aae02 cJx35411_hasNext_aae02 1 (some .boolean) ∈ BT := bt_tbl (tb_8 (List.mem_of_getElem? (i := 204) (by decide +kernel))) rfl
theorem tw_1040 : Cond.declares (⟨RJx4d0d8, "hasNext", "()Z"⟩ : MethodName) ∈ BT := bt_tbl (tb_8 (List.mem_of_getElem? (i := 198) (by decide +kernel))) rfl
theorem tw_1041 : Cond.interfaceMethod RJx4d0d8 RJx4d0d8 "hasNext" "()Z" ∈ BT := bt_tbl (tb_8 (List.mem_of_getElem? (i := 197) (by decide +kernel))) rfl
theorem tw_1042 : Cond.publicMethod yJx35411_hasNext_aae02 ∈ BT := bt_tbl (tb_8 (List.mem_of_getElem? (i := 203) (by decide +kernel))) rfl
theorem tw_1043 : Cond.unhidden RJx35411 "hasNext" "()Z" ∈ BT := bt_tbl (tb_8 (List.mem_of_getElem? (i := 201) (by decide +kernel))) rfl
theorem tw_1044 : Cond.castable RJx35411 RJx4d0d8 ∈ BT := bt_tbl (tb_8 (List.mem_of_getElem? (i := 199) (by decide +kernel))) rfl
theorem tw_1045 : Cond.methodLink RX10 244 yX10_gives ∈ BT := bt_tbl (tb_9 (List.mem_of_getElem? (i := 117) (by decide +kernel))) rfl
theorem tw_1046 : Cond.instanceMethod yX10_gives ∈ BT := bt_tbl (tb_9 (List.mem_of_getElem? (i := 119) (by decide +kernel))) rfl
theorem tw_1047 : Cond.selects RX10 yX10_gives yX10_gives ∈ BT := bt_sel (List.mem_of_getElem? (i := 56) (by decide +kernel)) rfl
theorem tw_1048 : Cond.code yX10_gives cX10_gives 10 (some .int) ∈ BT := bt_tbl (tb_9 (List.mem_of_getElem? (i := 120) (by decide +kernel))) rfl
theorem tw_1049 : Cond.methodLink RX10 241 yJ9_min_7cf53 ∈ BT := bt_tbl (tb_9 (List.mem_of_getElem? (i := 121) (by decide +kernel))) rfl
theorem tw_1050 : Cond.methodLink RX10 250 yX10_cascade ∈ BT := bt_tbl (tb_9 (List.mem_of_getElem? (i := 113) (by decide +kernel))) rfl
theorem tw_1051 : Cond.instanceMethod yX10_cascade ∈ BT := bt_tbl (tb_9 (List.mem_of_getElem? (i := 115) (by decide +kernel))) rfl
theorem tw_1052 : Cond.selects RX10 yX10_cascade yX10_cascade ∈ BT := bt_sel (List.mem_of_getElem? (i := 55) (by decide +kernel)) rfl
theorem tw_1053 : Cond.code yX10_cascade cX10_cascade 6 (some (.array .int)) ∈ BT := bt_tbl (tb_9 (List.mem_of_getElem? (i := 116) (by decide +kernel))) rfl
theorem tw_1054 : Cond.methodLink RL 111 yX9_coldNeeded ∈ BT := bt_tbl (tb_6 (List.mem_of_getElem? (i := 47) (by decide +kernel))) rfl
theorem tw_1055 : Cond.instanceMethod yX9_coldNeeded ∈ BT := bt_tbl (tb_6 (List.mem_of_getElem? (i := 48) (by decide +kernel))) rfl
theorem tw_1056 : Cond.selects RX9 yX9_coldNeeded yX9_coldNeeded ∈ BT := bt_tbl (tb_6 (List.mem_of_getElem? (i := 49) (by decide +kernel))) rfl
theorem tw_1057 : Cond.code yX9_coldNeeded cX9_coldNeeded 2 (some .int) ∈ BT := bt_tbl (tb_6 (List.mem_of_getElem? (i := 50) (by decide +kernel))) rfl
theorem tw_1058 : Cond.methodLink RL 277 yL_coldNeeded ∈ BT := bt_tbl (tb_6 (List.mem_of_getElem? (i := 44) (by decide +kernel))) rfl
theorem tw_1059 : Cond.static yL_coldNeeded ∈ BT := bt_tbl (tb_6 (List.mem_of_getElem? (i := 45) (by decide +kernel))) rfl
theorem tw_1060 : Cond.codeWith yL_coldNeeded cL_coldNeeded 4 (some .int) [(0, 9, 12, 13)] ∈ BT := bt_tbl (tb_6 (List.mem_of_getElem? (i := 46) (by decide +kernel))) rfl
theorem tw_1061 : Cond.methodLink RL 279 yX10_coldNeeded ∈ BT := bt_tbl (tb_9 (List.mem_of_getElem? (i := 122) (by decide +kernel))) rfl
theorem tw_1062 : Cond.instanceMethod yX10_coldNeeded ∈ BT := bt_tbl (tb_9 (List.mem_of_getElem? (i := 123) (by decide +kernel))) rfl
theorem tw_1063 : Cond.selects RX10 yX10_coldNeeded yX10_coldNeeded ∈ BT := bt_tbl (tb_9 (List.mem_of_getElem? (i := 124) (by decide +kernel))) rfl
theorem tw_1064 : Cond.code yX10_coldNeeded cX10_coldNeeded 2 (some .int) ∈ BT := bt_tbl (tb_9 (List.mem_of_getElem? (i := 125) (by decide +kernel))) rfl
theorem tw_1065 : Cond.methodLink RX5 37 yX5_leastHeat ∈ BT := bt_tbl (tb_6 (List.mem_of_getElem? (i := 55) (by decide +kernel))) rfl
theorem tw_1066 : Cond.methodLink RX9 316 yX5_leastCold ∈ BT := bt_tbl (tb_6 (List.mem_of_getElem? (i := 51) (by decide +kernel))) rfl
theorem tw_1067 : Cond.instanceMethod yX5_leastCold ∈ BT := bt_tbl (tb_6 (List.mem_of_getElem? (i := 52) (by decide +kernel))) rfl
theorem tw_1068 : Cond.selects RX5 yX5_leastCold yX5_leastCold ∈ BT := bt_tbl (tb_6 (List.mem_of_getElem? (i := 53) (by decide +kernel))) rfl
theorem tw_1069 : Cond.code yX5_leastCold cX5_leastCold 2 (some .int) ∈ BT := bt_tbl (tb_6 (List.mem_of_getElem? (i := 54) (by decide +kernel))) rfl
theorem tw_1070 : Cond.methodLink RL 114 yX9_pinch ∈ BT := bt_tbl (tb_6 (List.mem_of_getElem? (i := 59) (by decide +kernel))) rfl
theorem tw_1071 : Cond.instanceMethod yX9_pinch ∈ BT := bt_tbl (tb_6 (List.mem_of_getElem? (i := 60) (by decide +kernel))) rfl
theorem tw_1072 : Cond.selects RX9 yX9_pinch yX9_pinch ∈ BT := bt_tbl (tb_6 (List.mem_of_getElem? (i := 61) (by decide +kernel))) rfl
theorem tw_1073 : Cond.code yX9_pinch cX9_pinch 2 (some .int) ∈ BT := bt_tbl (tb_6 (List.mem_of_getElem? (i := 62) (by decide +kernel))) rfl
theorem tw_1074 : Cond.methodLink RL 280 yL_pinch ∈ BT := bt_tbl (tb_6 (List.mem_of_getElem? (i := 56) (by decide +kernel))) rfl
theorem tw_1075 : Cond.static yL_pinch ∈ BT := bt_tbl (tb_6 (List.mem_of_getElem? (i := 57) (by decide +kernel))) rfl
theorem tw_1076 : Cond.codeWith yL_pinch cL_pinch 4 (some .int) [(0, 9, 12, 13), (0, 9, 15, 45)] ∈ BT := bt_tbl (tb_6 (List.mem_of_getElem? (i := 58) (by decide +kernel))) rfl
theorem tw_1077 : Cond.methodLink RL 282 yX10_pinch ∈ BT := bt_tbl (tb_9 (List.mem_of_getElem? (i := 126) (by decide +kernel))) rfl
theorem tw_1078 : Cond.instanceMethod yX10_pinch ∈ BT := bt_tbl (tb_9 (List.mem_of_getElem? (i := 127) (by decide +kernel))) rfl
theorem tw_1079 : Cond.selects RX10 yX10_pinch yX10_pinch ∈ BT := bt_tbl (tb_9 (List.mem_of_getElem? (i := 128) (by decide +kernel))) rfl
theorem tw_1080 : Cond.code yX10_pinch cX10_pinch 2 (some .int) ∈ BT := bt_tbl (tb_9 (List.mem_of_getElem? (i := 129) (by decide +kernel))) rfl
theorem tw_1081 : Cond.methodLink RL 117 yX9_setGovernor ∈ BT := bt_tbl (tb_6 (List.mem_of_getElem? (i := 68) (by decide +kernel))) rfl
theorem tw_1082 : Cond.instanceMethod yX9_setGovernor ∈ BT := bt_tbl (tb_6 (List.mem_of_getElem? (i := 69) (by decide +kernel))) rfl
theorem tw_1083 : Cond.selects RX9 yX9_setGovernor yX9_setGovernor ∈ BT := bt_tbl (tb_6 (List.mem_of_getElem? (i := 70) (by decide +kernel))) rfl
theorem tw_1084 : Cond.code yX9_setGovernor cX9_setGovernor 6 (some .int) ∈ BT := bt_tbl (tb_6 (List.mem_of_getElem? (i := 71) (by decide +kernel))) rfl
theorem tw_1085 : Cond.methodLink RL 283 yL_setGovernor ∈ BT := bt_tbl (tb_6 (List.mem_of_getElem? (i := 65) (by decide +kernel))) rfl
theorem tw_1086 : Cond.static yL_setGovernor ∈ BT := bt_tbl (tb_6 (List.mem_of_getElem? (i := 66) (by decide +kernel))) rfl
theorem tw_1087 : Cond.codeWith yL_setGovernor cL_setGovernor 7 (some .int) [(0, 14, 17, 13)] ∈ BT := bt_tbl (tb_6 (List.mem_of_getElem? (i := 67) (by decide +kernel))) rfl
theorem tw_1088 : Cond.constantLong RX10 254 (3000) ∈ BT := bt_tbl (tb_9 (List.mem_of_getElem? (i := 134) (by decide +kernel))) rfl
theorem tw_1089 : Cond.methodLink RL 285 yX10_setGovernor ∈ BT := bt_tbl (tb_9 (List.mem_of_getElem? (i := 130) (by decide +kernel))) rfl
theorem tw_1090 : Cond.instanceMethod yX10_setGovernor ∈ BT := bt_tbl (tb_9 (List.mem_of_getElem? (i := 131) (by decide +kernel))) rfl
theorem tw_1091 : Cond.selects RX10 yX10_setGovernor yX10_setGovernor ∈ BT := bt_tbl (tb_9 (List.mem_of_getElem? (i := 132) (by decide +kernel))) rfl
theorem tw_1092 : Cond.code yX10_setGovernor cX10_setGovernor 6 (some .int) ∈ BT := bt_tbl (tb_9 (List.mem_of_getElem? (i := 133) (by decide +kernel))) rfl
theorem tw_1093 : Cond.constantLong RX10 256 (5000) ∈ BT := bt_tbl (tb_9 (List.mem_of_getElem? (i := 135) (by decide +kernel))) rfl
theorem tw_1094 : Cond.fieldLinkNest RX9 324 "Cycleworks$Governor" "set" "I" "Cycleworks" ∈ BT := bt_tbl (tb_2 (List.mem_of_getElem? (i := 36) (by decide +kernel))) rfl
theorem tw_1095 : Cond.methodLink RX9 327 yX2_adjust ∈ BT := bt_tbl (tb_6 (List.mem_of_getElem? (i := 72) (by decide +kernel))) rfl
theorem tw_1096 : Cond.instanceMethod yX2_adjust ∈ BT := bt_tbl (tb_6 (List.mem_of_getElem? (i := 73) (by decide +kernel))) rfl
theorem tw_1097 : Cond.selects RX2 yX2_adjust yX2_adjust ∈ BT := bt_tbl (tb_6 (List.mem_of_getElem? (i := 74) (by decide +kernel))) rfl
theorem tw_1098 : Cond.code yX2_adjust cX2_adjust 5 none ∈ BT := bt_tbl (tb_6 (List.mem_of_getElem? (i := 75) (by decide +kernel))) rfl
theorem tw_1099 : Cond.fieldLink RX10 258 "CycleworksModel" "stiction" "I" ∈ BT := bt_tbl (tb_7 (List.mem_of_getElem? (i := 8) (by decide +kernel))) rfl
theorem tw_1100 : Cond.methodLink RL 120 yX9_setLoad ∈ BT := bt_tbl (tb_6 (List.mem_of_getElem? (i := 79) (by decide +kernel))) rfl
theorem tw_1101 : Cond.instanceMethod yX9_setLoad ∈ BT := bt_tbl (tb_6 (List.mem_of_getElem? (i := 80) (by decide +kernel))) rfl
theorem tw_1102 : Cond.selects RX9 yX9_setLoad yX9_setLoad ∈ BT := bt_tbl (tb_6 (List.mem_of_getElem? (i := 81) (by decide +kernel))) rfl
theorem tw_1103 : Cond.code yX9_setLoad cX9_setLoad 3 (some .int) ∈ BT := bt_tbl (tb_6 (List.mem_of_getElem? (i := 82) (by decide +kernel))) rfl
theorem tw_1104 : Cond.methodLink RL 286 yL_setLoad ∈ BT := bt_tbl (tb_6 (List.mem_of_getElem? (i := 76) (by decide +kernel))) rfl
theorem tw_1105 : Cond.static yL_setLoad ∈ BT := bt_tbl (tb_6 (List.mem_of_getElem? (i := 77) (by decide +kernel))) rfl
theorem tw_1106 : Cond.codeWith yL_setLoad cL_setLoad 4 (some .int) [(0, 9, 12, 13)] ∈ BT := bt_tbl (tb_6 (List.mem_of_getElem? (i := 78) (by decide +kernel))) rfl
theorem tw_1107 : Cond.methodLink RL 288 yX10_setLoad ∈ BT := bt_tbl (tb_9 (List.mem_of_getElem? (i := 136) (by decide +kernel))) rfl
theorem tw_1108 : Cond.instanceMethod yX10_setLoad ∈ BT := bt_tbl (tb_9 (List.mem_of_getElem? (i := 137) (by decide +kernel))) rfl
theorem tw_1109 : Cond.selects RX10 yX10_setLoad yX10_setLoad ∈ BT := bt_tbl (tb_9 (List.mem_of_getElem? (i := 138) (by decide +kernel))) rfl
theorem tw_1110 : Cond.code yX10_setLoad cX10_setLoad 3 (some .int) ∈ BT := bt_tbl (tb_9 (List.mem_of_getElem? (i := 139) (by decide +kernel))) rfl
theorem tw_1111 : Cond.fieldLinkNest RX9 331 "Cycleworks$Governor" "load" "I" "Cycleworks" ∈ BT := bt_tbl (tb_2 (List.mem_of_getElem? (i := 42) (by decide +kernel))) rfl
theorem tw_1112 : Cond.methodLink RL 123 yX9_runSeconds ∈ BT := bt_tbl (tb_6 (List.mem_of_getElem? (i := 86) (by decide +kernel))) rfl
theorem tw_1113 : Cond.instanceMethod yX9_runSeconds ∈ BT := bt_tbl (tb_6 (List.mem_of_getElem? (i := 87) (by decide +kernel))) rfl
theorem tw_1114 : Cond.selects RX9 yX9_runSeconds yX9_runSeconds ∈ BT := bt_tbl (tb_6 (List.mem_of_getElem? (i := 88) (by decide +kernel))) rfl
theorem tw_1115 : Cond.code yX9_runSeconds cX9_runSeconds 3 (some .int) ∈ BT := bt_tbl (tb_6 (List.mem_of_getElem? (i := 89) (by decide +kernel))) rfl
theorem tw_1116 : Cond.methodLink RL 289 yL_runSeconds ∈ BT := bt_tbl (tb_6 (List.mem_of_getElem? (i := 83) (by decide +kernel))) rfl
theorem tw_1117 : Cond.static yL_runSeconds ∈ BT := bt_tbl (tb_6 (List.mem_of_getElem? (i := 84) (by decide +kernel))) rfl
theorem tw_1118 : Cond.codeWith yL_runSeconds cL_runSeconds 4 (some .int) [(0, 9, 12, 13)] ∈ BT := bt_tbl (tb_6 (List.mem_of_getElem? (i := 85) (by decide +kernel))) rfl
theorem tw_1119 : Cond.constantLong RX10 273 (500) ∈ BT := bt_tbl (tb_9 (List.mem_of_getElem? (i := 144) (by decide +kernel))) rfl
theorem tw_1120 : Cond.methodLink RL 291 yX10_runSeconds ∈ BT := bt_tbl (tb_9 (List.mem_of_getElem? (i := 140) (by decide +kernel))) rfl
theorem tw_1121 : Cond.instanceMethod yX10_runSeconds ∈ BT := bt_tbl (tb_9 (List.mem_of_getElem? (i := 141) (by decide +kernel))) rfl
theorem tw_1122 : Cond.selects RX10 yX10_runSeconds yX10_runSeconds ∈ BT := bt_tbl (tb_9 (List.mem_of_getElem? (i := 142) (by decide +kernel))) rfl
theorem tw_1123 : Cond.code yX10_runSeconds cX10_runSeconds 3 (some .int) ∈ BT := bt_tbl (tb_9 (List.mem_of_getElem? (i := 143) (by decide +kernel))) rfl
theorem tw_1124 : Cond.methodLink RX2 41 yJ9_min_7cf53 ∈ BT := bt_tbl (tb_6 (List.mem_of_getElem? (i := 94) (by decide +kernel))) rfl
theorem tw_1125 : Cond.methodLink RX2 47 yJ9_max_7cf53 ∈ BT := bt_tbl (tb_6 (List.mem_of_getElem? (i := 95) (by decide +kernel))) rfl
theorem tw_1126 : Cond.methodLink RX2 50 yJ9_abs_0f7a4 ∈ BT := bt_tbl (tb_6 (List.mem_of_getElem? (i := 96) (by decide +kernel))) rfl
theorem tw_1127 : Cond.static yJ9_abs_0f7a4 ∈ BT := bt_tbl (tb_6 (List.mem_of_getElem? (i := 97) (by decide +kernel))) rfl
theorem tw_1128 : Cond.code yJ9_abs_0f7a4 cJ9_abs_0f7a4 1 (some .int) ∈ BT := bt_tbl (tb_6 (List.mem_of_getElem? (i := 98) (by decide +kernel))) rfl
theorem tw_1129 : Cond.methodLink RX9 334 yX2_passSecond ∈ BT := bt_tbl (tb_6 (List.mem_of_getElem? (i := 90) (by decide +kernel))) rfl
theorem tw_1130 : Cond.instanceMethod yX2_passSecond ∈ BT := bt_tbl (tb_6 (List.mem_of_getElem? (i := 91) (by decide +kernel))) rfl
theorem tw_1131 : Cond.selects RX2 yX2_passSecond yX2_passSecond ∈ BT := bt_tbl (tb_6 (List.mem_of_getElem? (i := 92) (by decide +kernel))) rfl
theorem tw_1132 : Cond.code yX2_passSecond cX2_passSecond 3 none ∈ BT := bt_tbl (tb_6 (List.mem_of_getElem? (i := 93) (by decide +kernel))) rfl
theorem tw_1133 : Cond.fieldLinkNest RX9 337 "Cycleworks$Governor" "speed" "I" "Cycleworks" ∈ BT := bt_tbl (tb_2 (List.mem_of_getElem? (i := 44) (by decide +kernel))) rfl
theorem tw_1134 : Cond.methodLink RX10 126 yJ9_max_7cf53 ∈ BT := bt_tbl (tb_7 (List.mem_of_getElem? (i := 213) (by decide +kernel))) rfl
theorem tw_1135 : Cond.methodLink RX10 261 yJ9_abs_0f7a4 ∈ BT := bt_tbl (tb_9 (List.mem_of_getElem? (i := 149) (by decide +kernel))) rfl
theorem tw_1136 : Cond.fieldLink RX10 270 "CycleworksModel" "tripped" "Z" ∈ BT := bt_tbl (tb_7 (List.mem_of_getElem? (i := 10) (by decide +kernel))) rfl
theorem tw_1137 : Cond.methodLink RX10 275 yX10_second ∈ BT := bt_tbl (tb_9 (List.mem_of_getElem? (i := 145) (by decide +kernel))) rfl
theorem tw_1138 : Cond.instanceMethod yX10_second ∈ BT := bt_tbl (tb_9 (List.mem_of_getElem? (i := 147) (by decide +kernel))) rfl
theorem tw_1139 : Cond.selects RX10 yX10_second yX10_second ∈ BT := bt_sel (List.mem_of_getElem? (i := 57) (by decide +kernel)) rfl
theorem tw_1140 : Cond.code yX10_second cX10_second 3 none ∈ BT := bt_tbl (tb_9 (List.mem_of_getElem? (i := 148) (by decide +kernel))) rfl
theorem tw_1141 : Cond.fieldLinkNest RX9 340 "Cycleworks$Governor" "valve" "I" "Cycleworks" ∈ BT := bt_tbl (tb_2 (List.mem_of_getElem? (i := 46) (by decide +kernel))) rfl
theorem tw_1142 : Cond.methodLink RL 292 yX9_getValve ∈ BT := bt_tbl (tb_2 (List.mem_of_getElem? (i := 219) (by decide +kernel))) rfl
theorem tw_1143 : Cond.instanceMethod yX9_getValve ∈ BT := bt_tbl (tb_2 (List.mem_of_getElem? (i := 220) (by decide +kernel))) rfl
theorem tw_1144 : Cond.selects RX9 yX9_getValve yX9_getValve ∈ BT := bt_tbl (tb_2 (List.mem_of_getElem? (i := 221) (by decide +kernel))) rfl
theorem tw_1145 : Cond.code yX9_getValve cX9_getValve 1 (some .int) ∈ BT := bt_tbl (tb_2 (List.mem_of_getElem? (i := 222) (by decide +kernel))) rfl
theorem tw_1146 : Cond.methodLink RL 295 yX10_getValve ∈ BT := bt_tbl (tb_9 (List.mem_of_getElem? (i := 150) (by decide +kernel))) rfl
theorem tw_1147 : Cond.instanceMethod yX10_getValve ∈ BT := bt_tbl (tb_9 (List.mem_of_getElem? (i := 151) (by decide +kernel))) rfl
theorem tw_1148 : Cond.selects RX10 yX10_getValve yX10_getValve ∈ BT := bt_tbl (tb_9 (List.mem_of_getElem? (i := 152) (by decide +kernel))) rfl
theorem tw_1149 : Cond.code yX10_getValve cX10_getValve 1 (some .int) ∈ BT := bt_tbl (tb_9 (List.mem_of_getElem? (i := 153) (by decide +kernel))) rfl
theorem tw_1150 : Cond.fieldLinkNest RX9 343 "Cycleworks$Governor" "turns" "I" "Cycleworks" ∈ BT := bt_tbl (tb_2 (List.mem_of_getElem? (i := 49) (by decide +kernel))) rfl
theorem tw_1151 : Cond.methodLink RL 296 yX9_countTurns ∈ BT := bt_tbl (tb_2 (List.mem_of_getElem? (i := 223) (by decide +kernel))) rfl
theorem tw_1152 : Cond.instanceMethod yX9_countTurns ∈ BT := bt_tbl (tb_2 (List.mem_of_getElem? (i := 224) (by decide +kernel))) rfl
theorem tw_1153 : Cond.selects RX9 yX9_countTurns yX9_countTurns ∈ BT := bt_tbl (tb_2 (List.mem_of_getElem? (i := 225) (by decide +kernel))) rfl
theorem tw_1154 : Cond.code yX9_countTurns cX9_countTurns 1 (some .int) ∈ BT := bt_tbl (tb_2 (List.mem_of_getElem? (i := 226) (by decide +kernel))) rfl
theorem tw_1155 : Cond.fieldLink RX10 264 "CycleworksModel" "turns" "I" ∈ BT := bt_tbl (tb_7 (List.mem_of_getElem? (i := 11) (by decide +kernel))) rfl
theorem tw_1156 : Cond.methodLink RL 299 yX10_countTurns ∈ BT := bt_tbl (tb_9 (List.mem_of_getElem? (i := 154) (by decide +kernel))) rfl
theorem tw_1157 : Cond.instanceMethod yX10_countTurns ∈ BT := bt_tbl (tb_9 (List.mem_of_getElem? (i := 155) (by decide +kernel))) rfl
theorem tw_1158 : Cond.selects RX10 yX10_countTurns yX10_countTurns ∈ BT := bt_tbl (tb_9 (List.mem_of_getElem? (i := 156) (by decide +kernel))) rfl
theorem tw_1159 : Cond.code yX10_countTurns cX10_countTurns 1 (some .int) ∈ BT := bt_tbl (tb_9 (List.mem_of_getElem? (i := 157) (by decide +kernel))) rfl
theorem tw_1160 : Cond.fieldLinkNest RX9 346 "Cycleworks$Governor" "tripped" "Z" "Cycleworks" ∈ BT := bt_tbl (tb_2 (List.mem_of_getElem? (i := 51) (by decide +kernel))) rfl
theorem tw_1161 : Cond.methodLink RL 300 yX9_isTripped ∈ BT := bt_tbl (tb_2 (List.mem_of_getElem? (i := 227) (by decide +kernel))) rfl
theorem tw_1162 : Cond.instanceMethod yX9_isTripped ∈ BT := bt_tbl (tb_2 (List.mem_of_getElem? (i := 228) (by decide +kernel))) rfl
theorem tw_1163 : Cond.selects RX9 yX9_isTripped yX9_isTripped ∈ BT := bt_tbl (tb_2 (List.mem_of_getElem? (i := 229) (by decide +kernel))) rfl
theorem tw_1164 : Cond.code yX9_isTripped cX9_isTripped 1 (some .boolean) ∈ BT := bt_tbl (tb_2 (List.mem_of_getElem? (i := 230) (by decide +kernel))) rfl
theorem tw_1165 : Cond.methodLink RL 303 yX10_isTripped ∈ BT := bt_tbl (tb_9 (List.mem_of_getElem? (i := 158) (by decide +kernel))) rfl
theorem tw_1166 : Cond.instanceMethod yX10_isTripped ∈ BT := bt_tbl (tb_9 (List.mem_of_getElem? (i := 159) (by decide +kernel))) rfl
theorem tw_1167 : Cond.selects RX10 yX10_isTripped yX10_isTripped ∈ BT := bt_tbl (tb_9 (List.mem_of_getElem? (i := 160) (by decide +kernel))) rfl
theorem tw_1168 : Cond.code yX10_isTripped cX10_isTripped 1 (some .boolean) ∈ BT := bt_tbl (tb_9 (List.mem_of_getElem? (i := 161) (by decide +kernel))) rfl
theorem tw_1169 : Cond.fieldLinkNest RX9 349 "Cycleworks$Governor" "limit" "I" "Cycleworks" ∈ BT := bt_tbl (tb_2 (List.mem_of_getElem? (i := 40) (by decide +kernel))) rfl
theorem tw_1170 : Cond.methodLink RL 126 yX9_resetTrip ∈ BT := bt_tbl (tb_6 (List.mem_of_getElem? (i := 106) (by decide +kernel))) rfl
theorem tw_1171 : Cond.instanceMethod yX9_resetTrip ∈ BT := bt_tbl (tb_6 (List.mem_of_getElem? (i := 107) (by decide +kernel))) rfl
theorem tw_1172 : Cond.selects RX9 yX9_resetTrip yX9_resetTrip ∈ BT := bt_tbl (tb_6 (List.mem_of_getElem? (i := 108) (by decide +kernel))) rfl
theorem tw_1173 : Cond.code yX9_resetTrip cX9_resetTrip 2 (some .boolean) ∈ BT := bt_tbl (tb_6 (List.mem_of_getElem? (i := 109) (by decide +kernel))) rfl
theorem tw_1174 : Cond.methodLink RL 304 yL_resetTrip ∈ BT := bt_tbl (tb_6 (List.mem_of_getElem? (i := 103) (by decide +kernel))) rfl
theorem tw_1175 : Cond.static yL_resetTrip ∈ BT := bt_tbl (tb_6 (List.mem_of_getElem? (i := 104) (by decide +kernel))) rfl
theorem tw_1176 : Cond.codeWith yL_resetTrip cL_resetTrip 3 (some .int) [(0, 15, 18, 30)] ∈ BT := bt_tbl (tb_6 (List.mem_of_getElem? (i := 105) (by decide +kernel))) rfl
theorem tw_1177 : Cond.methodLink RL 306 yX10_resetTrip ∈ BT := bt_tbl (tb_9 (List.mem_of_getElem? (i := 162) (by decide +kernel))) rfl
theorem tw_1178 : Cond.instanceMethod yX10_resetTrip ∈ BT := bt_tbl (tb_9 (List.mem_of_getElem? (i := 163) (by decide +kernel))) rfl
theorem tw_1179 : Cond.selects RX10 yX10_resetTrip yX10_resetTrip ∈ BT := bt_tbl (tb_9 (List.mem_of_getElem? (i := 164) (by decide +kernel))) rfl
theorem tw_1180 : Cond.code yX10_resetTrip cX10_resetTrip 2 (some .boolean) ∈ BT := bt_tbl (tb_9 (List.mem_of_getElem? (i := 165) (by decide +kernel))) rfl
theorem tw_1181 : Cond.constant RX9 138 (100000) ∈ BT := bt_tbl (tb_3 (List.mem_of_getElem? (i := 235) (by decide +kernel))) rfl
theorem tw_1182 : Cond.methodLink RX9 354 yX9_requireClaim ∈ BT := bt_tbl (tb_6 (List.mem_of_getElem? (i := 118) (by decide +kernel))) rfl
theorem tw_1183 : Cond.instanceMethod yX9_requireClaim ∈ BT := bt_tbl (tb_6 (List.mem_of_getElem? (i := 120) (by decide +kernel))) rfl
theorem tw_1184 : Cond.selects RX9 yX9_requireClaim yX9_requireClaim ∈ BT := bt_sel (List.mem_of_getElem? (i := 32) (by decide +kernel)) rfl
theorem tw_1185 : Cond.code yX9_requireClaim cX9_requireClaim 4 none ∈ BT := bt_tbl (tb_6 (List.mem_of_getElem? (i := 121) (by decide +kernel))) rfl
theorem tw_1186 : Cond.methodLink RL 129 yX9_claim ∈ BT := bt_tbl (tb_6 (List.mem_of_getElem? (i := 114) (by decide +kernel))) rfl
theorem tw_1187 : Cond.instanceMethod yX9_claim ∈ BT := bt_tbl (tb_6 (List.mem_of_getElem? (i := 115) (by decide +kernel))) rfl
theorem tw_1188 : Cond.selects RX9 yX9_claim yX9_claim ∈ BT := bt_tbl (tb_6 (List.mem_of_getElem? (i := 116) (by decide +kernel))) rfl
theorem tw_1189 : Cond.code yX9_claim cX9_claim 5 (some .char) ∈ BT := bt_tbl (tb_6 (List.mem_of_getElem? (i := 117) (by decide +kernel))) rfl
theorem tw_1190 : Cond.methodLink RL 307 yL_claim ∈ BT := bt_tbl (tb_6 (List.mem_of_getElem? (i := 111) (by decide +kernel))) rfl
theorem tw_1191 : Cond.static yL_claim ∈ BT := bt_tbl (tb_6 (List.mem_of_getElem? (i := 112) (by decide +kernel))) rfl
theorem tw_1192 : Cond.codeWith yL_claim cL_claim 7 (some .int) [(0, 14, 17, 13)] ∈ BT := bt_tbl (tb_6 (List.mem_of_getElem? (i := 113) (by decide +kernel))) rfl
theorem tw_1193 : Cond.constantLong RX10 278 (200000) ∈ BT := bt_tbl (tb_9 (List.mem_of_getElem? (i := 170) (by decide +kernel))) rfl
theorem tw_1194 : Cond.methodLink RL 309 yX10_claim ∈ BT := bt_tbl (tb_9 (List.mem_of_getElem? (i := 166) (by decide +kernel))) rfl
theorem tw_1195 : Cond.instanceMethod yX10_claim ∈ BT := bt_tbl (tb_9 (List.mem_of_getElem? (i := 167) (by decide +kernel))) rfl
theorem tw_1196 : Cond.selects RX10 yX10_claim yX10_claim ∈ BT := bt_tbl (tb_9 (List.mem_of_getElem? (i := 168) (by decide +kernel))) rfl
theorem tw_1197 : Cond.code yX10_claim cX10_claim 5 (some .char) ∈ BT := bt_tbl (tb_9 (List.mem_of_getElem? (i := 169) (by decide +kernel))) rfl
theorem tw_1198 : Cond.constantLong RX10 116 (100000) ∈ BT := bt_tbl (tb_7 (List.mem_of_getElem? (i := 205) (by decide +kernel))) rfl
theorem tw_1199 : Cond.methodLink RX10 280 yX10_noClaim ∈ BT := bt_tbl (tb_9 (List.mem_of_getElem? (i := 171) (by decide +kernel))) rfl
theorem tw_1200 : Cond.instanceMethod yX10_noClaim ∈ BT := bt_tbl (tb_9 (List.mem_of_getElem? (i := 173) (by decide +kernel))) rfl
theorem tw_1201 : Cond.selects RX10 yX10_noClaim yX10_noClaim ∈ BT := bt_sel (List.mem_of_getElem? (i := 58) (by decide +kernel)) rfl
theorem tw_1202 : Cond.code yX10_noClaim cX10_noClaim 4 (some .boolean) ∈ BT := bt_tbl (tb_9 (List.mem_of_getElem? (i := 174) (by decide +kernel))) rfl
theorem tw_1203 : Cond.constant RX9 357 (200000) ∈ BT := bt_tbl (tb_6 (List.mem_of_getElem? (i := 122) (by decide +kernel))) rfl
theorem tw_1204 : Cond.constantLong RX9 440 (1073741824) ∈ BT := bt_tbl (tb_4 (List.mem_of_getElem? (i := 45) (by decide +kernel))) rfl
theorem tw_1205 : Cond.methodLink RX9 442 yJ9_min_f86c9 ∈ BT := bt_tbl (tb_4 (List.mem_of_getElem? (i := 46) (by decide +kernel))) rfl
theorem tw_1206 : Cond.static yJ9_min_f86c9 ∈ BT := bt_tbl (tb_4 (List.mem_of_getElem? (i := 47) (by decide +kernel))) rfl
theorem tw_1207 : Cond.code yJ9_min_f86c9 cJ9_min_f86c9 4 (some .long) ∈ BT := bt_tbl (tb_4 (List.mem_of_getElem? (i := 48) (by decide +kernel))) rfl
theorem tw_1208 : Cond.methodLink RX9 446 yX9_dividedDown ∈ BT := bt_tbl (tb_4 (List.mem_of_getElem? (i := 49) (by decide +kernel))) rfl
theorem tw_1209 : Cond.static yX9_dividedDown ∈ BT := bt_tbl (tb_4 (List.mem_of_getElem? (i := 50) (by decide +kernel))) rfl
theorem tw_1210 : Cond.code yX9_dividedDown cX9_dividedDown 2 (some .int) ∈ BT := bt_tbl (tb_4 (List.mem_of_getElem? (i := 51) (by decide +kernel))) rfl
theorem tw_1211 : Cond.methodLink RX9 362 yX9_dividedUp ∈ BT := bt_tbl (tb_4 (List.mem_of_getElem? (i := 52) (by decide +kernel))) rfl
theorem tw_1212 : Cond.static yX9_dividedUp ∈ BT := bt_tbl (tb_4 (List.mem_of_getElem? (i := 53) (by decide +kernel))) rfl
theorem tw_1213 : Cond.code yX9_dividedUp cX9_dividedUp 3 (some .int) ∈ BT := bt_tbl (tb_4 (List.mem_of_getElem? (i := 54) (by decide +kernel))) rfl
theorem tw_1214 : Cond.methodLink RX9 358 yX9_disorderMade ∈ BT := bt_tbl (tb_6 (List.mem_of_getElem? (i := 123) (by decide +kernel))) rfl
theorem tw_1215 : Cond.static yX9_disorderMade ∈ BT := bt_tbl (tb_4 (List.mem_of_getElem? (i := 43) (by decide +kernel))) rfl
theorem tw_1216 : Cond.code yX9_disorderMade cX9_disorderMade 8 (some .int) ∈ BT := bt_tbl (tb_4 (List.mem_of_getElem? (i := 44) (by decide +kernel))) rfl
theorem tw_1217 : Cond.methodLink RX10 122 yX10_disorder ∈ BT := bt_tbl (tb_7 (List.mem_of_getElem? (i := 210) (by decide +kernel))) rfl
theorem tw_1218 : Cond.static yX10_disorder ∈ BT := bt_tbl (tb_7 (List.mem_of_getElem? (i := 211) (by decide +kernel))) rfl
theorem tw_1219 : Cond.code yX10_disorder cX10_disorder 6 (some .int) ∈ BT := bt_tbl (tb_7 (List.mem_of_getElem? (i := 212) (by decide +kernel))) rfl
theorem tw_1220 : Cond.methodLink RL 133 yX9_bestWork ∈ BT := bt_tbl (tb_6 (List.mem_of_getElem? (i := 127) (by decide +kernel))) rfl
theorem tw_1221 : Cond.instanceMethod yX9_bestWork ∈ BT := bt_tbl (tb_6 (List.mem_of_getElem? (i := 128) (by decide +kernel))) rfl
theorem tw_1222 : Cond.selects RX9 yX9_bestWork yX9_bestWork ∈ BT := bt_tbl (tb_6 (List.mem_of_getElem? (i := 129) (by decide +kernel))) rfl
theorem tw_1223 : Cond.code yX9_bestWork cX9_bestWork 5 (some .int) ∈ BT := bt_tbl (tb_6 (List.mem_of_getElem? (i := 130) (by decide +kernel))) rfl
theorem tw_1224 : Cond.methodLink RL 310 yL_bestWork ∈ BT := bt_tbl (tb_6 (List.mem_of_getElem? (i := 124) (by decide +kernel))) rfl
theorem tw_1225 : Cond.static yL_bestWork ∈ BT := bt_tbl (tb_6 (List.mem_of_getElem? (i := 125) (by decide +kernel))) rfl
theorem tw_1226 : Cond.codeWith yL_bestWork cL_bestWork 6 (some .int) [(0, 12, 15, 13), (0, 12, 19, 45)] ∈ BT := bt_tbl (tb_6 (List.mem_of_getElem? (i := 126) (by decide +kernel))) rfl
theorem tw_1227 : Cond.methodLink RL 312 yX10_bestWork ∈ BT := bt_tbl (tb_9 (List.mem_of_getElem? (i := 175) (by decide +kernel))) rfl
theorem tw_1228 : Cond.instanceMethod yX10_bestWork ∈ BT := bt_tbl (tb_9 (List.mem_of_getElem? (i := 176) (by decide +kernel))) rfl
theorem tw_1229 : Cond.selects RX10 yX10_bestWork yX10_bestWork ∈ BT := bt_tbl (tb_9 (List.mem_of_getElem? (i := 177) (by decide +kernel))) rfl
theorem tw_1230 : Cond.code yX10_bestWork cX10_bestWork 5 (some .int) ∈ BT := bt_tbl (tb_9 (List.mem_of_getElem? (i := 178) (by decide +kernel))) rfl
theorem tw_1231 : Cond.constantLong RX9 367 (7) ∈ BT := bt_tbl (tb_2 (List.mem_of_getElem? (i := 235) (by decide +kernel))) rfl
theorem tw_1232 : Cond.fieldLinkNest RX9 369 "Cycleworks$Bodies" "count" "I" "Cycleworks" ∈ BT := bt_tbl (tb_1 (List.mem_of_getElem? (i := 76) (by decide +kernel))) rfl
theorem tw_1233 : Cond.constantLong RX9 370 (31) ∈ BT := bt_tbl (tb_2 (List.mem_of_getElem? (i := 236) (by decide +kernel))) rfl
theorem tw_1234 : Cond.methodLink RL 313 yX9_checksum ∈ BT := bt_tbl (tb_2 (List.mem_of_getElem? (i := 231) (by decide +kernel))) rfl
theorem tw_1235 : Cond.instanceMethod yX9_checksum ∈ BT := bt_tbl (tb_2 (List.mem_of_getElem? (i := 232) (by decide +kernel))) rfl
theorem tw_1236 : Cond.selects RX9 yX9_checksum yX9_checksum ∈ BT := bt_tbl (tb_2 (List.mem_of_getElem? (i := 233) (by decide +kernel))) rfl
theorem tw_1237 : Cond.code yX9_checksum cX9_checksum 4 (some .long) ∈ BT := bt_tbl (tb_2 (List.mem_of_getElem? (i := 234) (by decide +kernel))) rfl
theorem tw_1238 : Cond.constantLong RX10 284 (7) ∈ BT := bt_tbl (tb_9 (List.mem_of_getElem? (i := 183) (by decide +kernel))) rfl
theorem tw_1239 : Cond.constantLong RX10 286 (31) ∈ BT := bt_tbl (tb_9 (List.mem_of_getElem? (i := 184) (by decide +kernel))) rfl
theorem tw_1240 : Cond.methodLink RL 317 yX10_checksum ∈ BT := bt_tbl (tb_9 (List.mem_of_getElem? (i := 179) (by decide +kernel))) rfl
theorem tw_1241 : Cond.instanceMethod yX10_checksum ∈ BT := bt_tbl (tb_9 (List.mem_of_getElem? (i := 180) (by decide +kernel))) rfl
theorem tw_1242 : Cond.selects RX10 yX10_checksum yX10_checksum ∈ BT := bt_tbl (tb_9 (List.mem_of_getElem? (i := 181) (by decide +kernel))) rfl
theorem tw_1243 : Cond.code yX10_checksum cX10_checksum 5 (some .long) ∈ BT := bt_tbl (tb_9 (List.mem_of_getElem? (i := 182) (by decide +kernel))) rfl
theorem tw_1244 : Cond.fieldLinkNest RX9 372 "Cycleworks$Sums" "moves" "I" "Cycleworks" ∈ BT := bt_tbl (tb_2 (List.mem_of_getElem? (i := 84) (by decide +kernel))) rfl
theorem tw_1245 : Cond.classLink RX9 375 "java/lang/ArithmeticException" ∈ BT := bt_tbl (tb_6 (List.mem_of_getElem? (i := 153) (by decide +kernel))) rfl
theorem tw_1246 : Cond.initialized "java/lang/ArithmeticException" ∈ BT := bt_tbl (tb_1 (List.mem_of_getElem? (i := 38) (by decide +kernel))) rfl
theorem tw_1247 : Cond.methodLink RL 136 yX9_makingShare ∈ BT := bt_tbl (tb_6 (List.mem_of_getElem? (i := 149) (by decide +kernel))) rfl
theorem tw_1248 : Cond.instanceMethod yX9_makingShare ∈ BT := bt_tbl (tb_6 (List.mem_of_getElem? (i := 150) (by decide +kernel))) rfl
theorem tw_1249 : Cond.selects RX9 yX9_makingShare yX9_makingShare ∈ BT := bt_tbl (tb_6 (List.mem_of_getElem? (i := 151) (by decide +kernel))) rfl
theorem tw_1250 : Cond.code yX9_makingShare cX9_makingShare 1 (some .float) ∈ BT := bt_tbl (tb_6 (List.mem_of_getElem? (i := 152) (by decide +kernel))) rfl
theorem tw_1251 : Cond.classLink RL 140 "java/lang/ArithmeticException" ∈ BT := bt_tbl (tb_6 (List.mem_of_getElem? (i := 135) (by decide +kernel))) rfl
theorem tw_1252 : Cond.castable "java/lang/ArithmeticException" "java/lang/ArithmeticException" ∈ BT := bt_tbl (tb_6 (List.mem_of_getElem? (i := 147) (by decide +kernel))) rfl
theorem tw_1253 : Cond.methodLink RL 318 yL_makingShare ∈ BT := bt_tbl (tb_6 (List.mem_of_getElem? (i := 132) (by decide +kernel))) rfl
theorem tw_1254 : Cond.static yL_makingShare ∈ BT := bt_tbl (tb_6 (List.mem_of_getElem? (i := 133) (by decide +kernel))) rfl
theorem tw_1255 : Cond.codeWith yL_makingShare cL_makingShare 3 (some .int) [(0, 8, 11, 140)] ∈ BT := bt_tbl (tb_6 (List.mem_of_getElem? (i := 134) (by decide +kernel))) rfl
theorem tw_1256 : Cond.fieldLink RX10 110 "CycleworksModel" "done" "I" ∈ BT := bt_tbl (tb_6 (List.mem_of_getElem? (i := 229) (by decide +kernel))) rfl
theorem tw_1257 : Cond.methodLink RL 321 yX10_makingShare ∈ BT := bt_tbl (tb_9 (List.mem_of_getElem? (i := 185) (by decide +kernel))) rfl
theorem tw_1258 : Cond.instanceMethod yX10_makingShare ∈ BT := bt_tbl (tb_9 (List.mem_of_getElem? (i := 186) (by decide +kernel))) rfl
theorem tw_1259 : Cond.selects RX10 yX10_makingShare yX10_makingShare ∈ BT := bt_tbl (tb_9 (List.mem_of_getElem? (i := 187) (by decide +kernel))) rfl
theorem tw_1260 : Cond.code yX10_makingShare cX10_makingShare 1 (some .float) ∈ BT := bt_tbl (tb_9 (List.mem_of_getElem? (i := 188) (by decide +kernel))) rfl
theorem tw_1261 : Cond.methodLink RL 142 yX9_meanTemperature ∈ BT := bt_tbl (tb_6 (List.mem_of_getElem? (i := 159) (by decide +kernel))) rfl
theorem tw_1262 : Cond.instanceMethod yX9_meanTemperature ∈ BT := bt_tbl (tb_6 (List.mem_of_getElem? (i := 160) (by decide +kernel))) rfl
theorem tw_1263 : Cond.selects RX9 yX9_meanTemperature yX9_meanTemperature ∈ BT := bt_tbl (tb_6 (List.mem_of_getElem? (i := 161) (by decide +kernel))) rfl
theorem tw_1264 : Cond.code yX9_meanTemperature cX9_meanTemperature 1 (some .double) ∈ BT := bt_tbl (tb_6 (List.mem_of_getElem? (i := 162) (by decide +kernel))) rfl
theorem tw_1265 : Cond.methodLink RL 322 yL_meanTemperature ∈ BT := bt_tbl (tb_6 (List.mem_of_getElem? (i := 156) (by decide +kernel))) rfl
theorem tw_1266 : Cond.static yL_meanTemperature ∈ BT := bt_tbl (tb_6 (List.mem_of_getElem? (i := 157) (by decide +kernel))) rfl
theorem tw_1267 : Cond.codeWith yL_meanTemperature cL_meanTemperature 3 (some .int) [(0, 7, 10, 140)] ∈ BT := bt_tbl (tb_6 (List.mem_of_getElem? (i := 158) (by decide +kernel))) rfl
theorem tw_1268 : Cond.methodLink RL 324 yX10_meanTemperature ∈ BT := bt_tbl (tb_9 (List.mem_of_getElem? (i := 189) (by decide +kernel))) rfl
theorem tw_1269 : Cond.instanceMethod yX10_meanTemperature ∈ BT := bt_tbl (tb_9 (List.mem_of_getElem? (i := 190) (by decide +kernel))) rfl
theorem tw_1270 : Cond.selects RX10 yX10_meanTemperature yX10_meanTemperature ∈ BT := bt_tbl (tb_9 (List.mem_of_getElem? (i := 191) (by decide +kernel))) rfl
theorem tw_1271 : Cond.code yX10_meanTemperature cX10_meanTemperature 4 (some .double) ∈ BT := bt_tbl (tb_9 (List.mem_of_getElem? (i := 192) (by decide +kernel))) rfl
theorem tw_1272 : Cond.methodLink RX9 392 yX0_lowOfEnergies ∈ BT := bt_tbl (tb_3 (List.mem_of_getElem? (i := 9) (by decide +kernel))) rfl
theorem tw_1273 : Cond.instanceMethod yX0_lowOfEnergies ∈ BT := bt_tbl (tb_3 (List.mem_of_getElem? (i := 10) (by decide +kernel))) rfl
theorem tw_1274 : Cond.selects RX0 yX0_lowOfEnergies yX0_lowOfEnergies ∈ BT := bt_tbl (tb_3 (List.mem_of_getElem? (i := 11) (by decide +kernel))) rfl
theorem tw_1275 : Cond.code yX0_lowOfEnergies cX0_lowOfEnergies 4 (some .long) ∈ BT := bt_tbl (tb_3 (List.mem_of_getElem? (i := 12) (by decide +kernel))) rfl
theorem tw_1276 : Cond.methodLink RX9 395 yX0_areWarm ∈ BT := bt_tbl (tb_3 (List.mem_of_getElem? (i := 15) (by decide +kernel))) rfl
theorem tw_1277 : Cond.instanceMethod yX0_areWarm ∈ BT := bt_tbl (tb_3 (List.mem_of_getElem? (i := 16) (by decide +kernel))) rfl
theorem tw_1278 : Cond.selects RX0 yX0_areWarm yX0_areWarm ∈ BT := bt_tbl (tb_3 (List.mem_of_getElem? (i := 17) (by decide +kernel))) rfl
theorem tw_1279 : Cond.code yX0_areWarm cX0_areWarm 3 (some .boolean) ∈ BT := bt_tbl (tb_3 (List.mem_of_getElem? (i := 18) (by decide +kernel))) rfl
theorem tw_1280 : Cond.methodLink RL 325 yX9_isSound ∈ BT := bt_tbl (tb_3 (List.mem_of_getElem? (i := 5) (by decide +kernel))) rfl
theorem tw_1281 : Cond.instanceMethod yX9_isSound ∈ BT := bt_tbl (tb_3 (List.mem_of_getElem? (i := 6) (by decide +kernel))) rfl
theorem tw_1282 : Cond.selects RX9 yX9_isSound yX9_isSound ∈ BT := bt_tbl (tb_3 (List.mem_of_getElem? (i := 7) (by decide +kernel))) rfl
theorem tw_1283 : Cond.code yX9_isSound cX9_isSound 1 (some .boolean) ∈ BT := bt_tbl (tb_3 (List.mem_of_getElem? (i := 8) (by decide +kernel))) rfl
theorem tw_1284 : Cond.methodLink RL 328 yX10_isSound ∈ BT := bt_tbl (tb_9 (List.mem_of_getElem? (i := 193) (by decide +kernel))) rfl
theorem tw_1285 : Cond.instanceMethod yX10_isSound ∈ BT := bt_tbl (tb_9 (List.mem_of_getElem? (i := 194) (by decide +kernel))) rfl
theorem tw_1286 : Cond.selects RX10 yX10_isSound yX10_isSound ∈ BT := bt_tbl (tb_9 (List.mem_of_getElem? (i := 195) (by decide +kernel))) rfl
theorem tw_1287 : Cond.code yX10_isSound cX10_isSound 1 (some .boolean) ∈ BT := bt_tbl (tb_9 (List.mem_of_getElem? (i := 196) (by decide +kernel))) rfl
theorem tw_1288 : Cond.laysFinal RJ0 RJ0 "coder" "B" ∈ BT := bt_tbl (tb_3 (List.mem_of_getElem? (i := 186) (by decide +kernel))) rfl
theorem tw_1289 : Cond.laysFinal RJ0 RJ0 "value" "[B" ∈ BT := bt_tbl (tb_3 (List.mem_of_getElem? (i := 184) (by decide +kernel))) rfl
theorem tw_1290 : Cond.instantiable RJ0 4 ∈ BT := bt_tbl (tb_3 (List.mem_of_getElem? (i := 183) (by decide +kernel))) rfl
theorem tw_1291 : Cond.laysFinal RJ6 RJ6 "value" "I" ∈ BT := bt_tbl (tb_9 (List.mem_of_getElem? (i := 69) (by decide +kernel))) rfl
theorem tw_1292 : Cond.instantiable RJ6 1 ∈ BT := bt_tbl (tb_9 (List.mem_of_getElem? (i := 60) (by decide +kernel))) rfl
theorem tw_1293 : Cond.lays RJx00060 "java/lang/Throwable" "suppressedExceptions" "Ljava/util/List;" ∈ BT := bt_tbl (tb_3 (List.mem_of_getElem? (i := 177) (by decide +kernel))) rfl
theorem tw_1294 : Cond.lays RJx00060 "java/lang/Throwable" "depth" "I" ∈ BT := bt_tbl (tb_3 (List.mem_of_getElem? (i := 176) (by decide +kernel))) rfl
theorem tw_1295 : Cond.lays RJx00060 "java/lang/Throwable" "stackTrace" "[Ljava/lang/StackTraceElement;" ∈ BT := bt_tbl (tb_3 (List.mem_of_getElem? (i := 175) (by decide +kernel))) rfl
theorem tw_1296 : Cond.lays RJx00060 "java/lang/Throwable" "cause" "Ljava/lang/Throwable;" ∈ BT := bt_tbl (tb_3 (List.mem_of_getElem? (i := 174) (by decide +kernel))) rfl
theorem tw_1297 : Cond.lays RJx00060 "java/lang/Throwable" "detailMessage" "Ljava/lang/String;" ∈ BT := bt_tbl (tb_3 (List.mem_of_getElem? (i := 173) (by decide +kernel))) rfl
theorem tw_1298 : Cond.lays RJx00060 "java/lang/Throwable" "backtrace" "Ljava/lang/Object;" ∈ BT := bt_tbl (tb_3 (List.mem_of_getElem? (i := 172) (by decide +kernel))) rfl
theorem tw_1299 : Cond.instantiable RJx00060 6 ∈ BT := bt_tbl (tb_3 (List.mem_of_getElem? (i := 165) (by decide +kernel))) rfl
theorem tw_1300 : Cond.instantiable RX9 7 ∈ BT := bt_tbl (tb_1 (List.mem_of_getElem? (i := 41) (by decide +kernel))) rfl
theorem tw_1301 : Cond.instantiable RX10 28 ∈ BT := bt_tbl (tb_6 (List.mem_of_getElem? (i := 191) (by decide +kernel))) rfl
theorem tw_1302 : Cond.arrayClass .double ∈ BT := bt_tbl (tb_9 (List.mem_of_getElem? (i := 197) (by decide +kernel))) rfl
theorem tw_1303 : Cond.initialized "java/lang/Throwable" ∈ BT := bt_tbl (tb_1 (List.mem_of_getElem? (i := 15) (by decide +kernel))) rfl
theorem tw_1304 : Cond.classLink RL 8 RX9 ∈ BT := bt_tbl (tb_1 (List.mem_of_getElem? (i := 40) (by decide +kernel))) rfl
theorem tw_1305 : Cond.methodLink RL 146 yX9_init ∈ BT := bt_tbl (tb_1 (List.mem_of_getElem? (i := 42) (by decide +kernel))) rfl
theorem tw_1306 : Cond.instanceMethod yX9_init ∈ BT := bt_tbl (tb_1 (List.mem_of_getElem? (i := 43) (by decide +kernel))) rfl
theorem tw_1307 : Cond.code yX9_init cX9_init 1 none ∈ BT := bt_tbl (tb_1 (List.mem_of_getElem? (i := 44) (by decide +kernel))) rfl
theorem tw_1308 : Cond.classLink RL 147 RX10 ∈ BT := bt_tbl (tb_6 (List.mem_of_getElem? (i := 190) (by decide +kernel))) rfl
theorem tw_1309 : Cond.methodLink RL 149 yX10_init ∈ BT := bt_tbl (tb_6 (List.mem_of_getElem? (i := 192) (by decide +kernel))) rfl
theorem tw_1310 : Cond.instanceMethod yX10_init ∈ BT := bt_tbl (tb_6 (List.mem_of_getElem? (i := 193) (by decide +kernel))) rfl
theorem tw_1311 : Cond.code yX10_init cX10_init 1 none ∈ BT := bt_tbl (tb_6 (List.mem_of_getElem? (i := 194) (by decide +kernel))) rfl
theorem ax_0 : ∀ w ∈ u_ws RX8 TX8 3, w ∈ BT := List.forall_mem_cons.mpr ⟨tw_5, List.forall_mem_cons.mpr ⟨tw_4, List.forall_mem_cons.mpr ⟨tw_3, fun _ h => absurd h List.not_mem_nil⟩⟩⟩
theorem ax_1 : ∀ w ∈ u_ws RX0 TX0 8, w ∈ BT := List.forall_mem_cons.mpr ⟨tw_19, List.forall_mem_cons.mpr ⟨tw_18, List.forall_mem_cons.mpr ⟨tw_17, List.forall_mem_cons.mpr ⟨tw_16, List.forall_mem_cons.mpr ⟨tw_15, List.forall_mem_cons.mpr ⟨tw_14, List.forall_mem_cons.mpr ⟨tw_13, List.forall_mem_cons.mpr ⟨tw_12, fun _ h => absurd h List.not_mem_nil⟩⟩⟩⟩⟩⟩⟩⟩
theorem ax_2 : (yX8_init).cls ≠ "java/lang/invoke/MethodHandle" ∧ (yX8_init).cls ≠ "java/lang/invoke/VarHandle" ∧ (parseMethodDescriptor (yX8_init).desc).map (fun d => d.parameters.length) = some 0 := by decide +kernel
theorem ax_3 : ∀ w ∈ u_ws RX7 TX7 5, w ∈ BT := List.forall_mem_cons.mpr ⟨tw_39, List.forall_mem_cons.mpr ⟨tw_38, List.forall_mem_cons.mpr ⟨tw_37, List.forall_mem_cons.mpr ⟨tw_36, List.forall_mem_cons.mpr ⟨tw_35, fun _ h => absurd h List.not_mem_nil⟩⟩⟩⟩⟩
theorem ax_4 : ∀ w ∈ u_ws RX4 TX4 6, w ∈ BT := List.forall_mem_cons.mpr ⟨tw_51, List.forall_mem_cons.mpr ⟨tw_50, List.forall_mem_cons.mpr ⟨tw_49, List.forall_mem_cons.mpr ⟨tw_48, List.forall_mem_cons.mpr ⟨tw_47, List.forall_mem_cons.mpr ⟨tw_46, fun _ h => absurd h List.not_mem_nil⟩⟩⟩⟩⟩⟩
theorem ax_5 : ∀ w ∈ u_ws RX3 TX3 9, w ∈ BT := List.forall_mem_cons.mpr ⟨tw_68, List.forall_mem_cons.mpr ⟨tw_67, List.forall_mem_cons.mpr ⟨tw_66, List.forall_mem_cons.mpr ⟨tw_65, List.forall_mem_cons.mpr ⟨tw_64, List.forall_mem_cons.mpr ⟨tw_63, List.forall_mem_cons.mpr ⟨tw_62, List.forall_mem_cons.mpr ⟨tw_61, List.forall_mem_cons.mpr ⟨tw_60, fun _ h => absurd h List.not_mem_nil⟩⟩⟩⟩⟩⟩⟩⟩⟩
theorem ax_6 : (yX4_init).cls ≠ "java/lang/invoke/MethodHandle" ∧ (yX4_init).cls ≠ "java/lang/invoke/VarHandle" ∧ (parseMethodDescriptor (yX4_init).desc).map (fun d => d.parameters.length) = some 0 := by decide +kernel
theorem ax_7 : ∀ w ∈ u_ws RX1 TX1 13, w ∈ BT := List.forall_mem_cons.mpr ⟨tw_98, List.forall_mem_cons.mpr ⟨tw_97, List.forall_mem_cons.mpr ⟨tw_96, List.forall_mem_cons.mpr ⟨tw_95, List.forall_mem_cons.mpr ⟨tw_94, List.forall_mem_cons.mpr ⟨tw_93, List.forall_mem_cons.mpr ⟨tw_92, List.forall_mem_cons.mpr ⟨tw_91, List.forall_mem_cons.mpr ⟨tw_90, List.forall_mem_cons.mpr ⟨tw_89, List.forall_mem_cons.mpr ⟨tw_88, List.forall_mem_cons.mpr ⟨tw_87, List.forall_mem_cons.mpr ⟨tw_86, fun _ h => absurd h List.not_mem_nil⟩⟩⟩⟩⟩⟩⟩⟩⟩⟩⟩⟩⟩
theorem ax_8 : GoodIn BT (wsV RX1 66 RX8 yX8_set [.code yX8_set cX8_set 3 none]) := gi_V tw_102 tw_103 tw_104 tw_25 tw_105
theorem ax_9 : (yX8_set).cls = RX8 ∧ (yX8_set).cls ≠ "java/lang/invoke/MethodHandle" ∧ (yX8_set).cls ≠ "java/lang/invoke/VarHandle" ∧ (parseMethodDescriptor (yX8_set).desc).map (fun d => d.parameters.length) = some 1 := by decide +kernel
theorem ax_10 : GoodIn BT (wsV RX1 50 RX1 yX1_fill [.code yX1_fill cX1_fill 4 none]) := gi_V tw_119 tw_120 tw_121 tw_122 tw_123
theorem ax_11 : (yX1_fill).cls = RX1 ∧ (yX1_fill).cls ≠ "java/lang/invoke/MethodHandle" ∧ (yX1_fill).cls ≠ "java/lang/invoke/VarHandle" ∧ (parseMethodDescriptor (yX1_fill).desc).map (fun d => d.parameters.length) = some 3 := by decide +kernel
theorem ax_12 : ∀ w ∈ u_ws RX5 TX5 4, w ∈ BT := List.forall_mem_cons.mpr ⟨tw_128, List.forall_mem_cons.mpr ⟨tw_127, List.forall_mem_cons.mpr ⟨tw_126, List.forall_mem_cons.mpr ⟨tw_125, fun _ h => absurd h List.not_mem_nil⟩⟩⟩⟩
theorem ax_13 : ∀ w ∈ u_ws RX2 TX2 10, w ∈ BT := List.forall_mem_cons.mpr ⟨tw_143, List.forall_mem_cons.mpr ⟨tw_142, List.forall_mem_cons.mpr ⟨tw_141, List.forall_mem_cons.mpr ⟨tw_140, List.forall_mem_cons.mpr ⟨tw_139, List.forall_mem_cons.mpr ⟨tw_138, List.forall_mem_cons.mpr ⟨tw_137, List.forall_mem_cons.mpr ⟨tw_136, List.forall_mem_cons.mpr ⟨tw_135, List.forall_mem_cons.mpr ⟨tw_134, fun _ h => absurd h List.not_mem_nil⟩⟩⟩⟩⟩⟩⟩⟩⟩⟩
theorem ax_14 : ∀ w ∈ u_ws RX6 TX6 5, w ∈ BT := List.forall_mem_cons.mpr ⟨tw_159, List.forall_mem_cons.mpr ⟨tw_158, List.forall_mem_cons.mpr ⟨tw_157, List.forall_mem_cons.mpr ⟨tw_156, List.forall_mem_cons.mpr ⟨tw_155, fun _ h => absurd h List.not_mem_nil⟩⟩⟩⟩⟩
theorem ax_15 : (yX0_init).cls ≠ "java/lang/invoke/MethodHandle" ∧ (yX0_init).cls ≠ "java/lang/invoke/VarHandle" ∧ (parseMethodDescriptor (yX0_init).desc).map (fun d => d.parameters.length) = some 0 := by decide +kernel
theorem ax_16 : ∀ w ∈ u_ws RX9 TX9 7, w ∈ BT := List.forall_mem_cons.mpr ⟨tw_178, List.forall_mem_cons.mpr ⟨tw_177, List.forall_mem_cons.mpr ⟨tw_176, List.forall_mem_cons.mpr ⟨tw_175, List.forall_mem_cons.mpr ⟨tw_174, List.forall_mem_cons.mpr ⟨tw_173, List.forall_mem_cons.mpr ⟨tw_172, fun _ h => absurd h List.not_mem_nil⟩⟩⟩⟩⟩⟩⟩
theorem ax_17 : (yX7_init).cls ≠ "java/lang/invoke/MethodHandle" ∧ (yX7_init).cls ≠ "java/lang/invoke/VarHandle" ∧ (parseMethodDescriptor (yX7_init).desc).map (fun d => d.parameters.length) = some 0 := by decide +kernel
theorem ax_18 : (yX3_init).cls ≠ "java/lang/invoke/MethodHandle" ∧ (yX3_init).cls ≠ "java/lang/invoke/VarHandle" ∧ (parseMethodDescriptor (yX3_init).desc).map (fun d => d.parameters.length) = some 0 := by decide +kernel
theorem ax_19 : (yX1_init).cls ≠ "java/lang/invoke/MethodHandle" ∧ (yX1_init).cls ≠ "java/lang/invoke/VarHandle" ∧ (parseMethodDescriptor (yX1_init).desc).map (fun d => d.parameters.length) = some 0 := by decide +kernel
theorem ax_20 : (yX5_init).cls ≠ "java/lang/invoke/MethodHandle" ∧ (yX5_init).cls ≠ "java/lang/invoke/VarHandle" ∧ (parseMethodDescriptor (yX5_init).desc).map (fun d => d.parameters.length) = some 0 := by decide +kernel
theorem ax_21 : (yX2_init).cls ≠ "java/lang/invoke/MethodHandle" ∧ (yX2_init).cls ≠ "java/lang/invoke/VarHandle" ∧ (parseMethodDescriptor (yX2_init).desc).map (fun d => d.parameters.length) = some 0 := by decide +kernel
theorem ax_22 : (yX6_init).cls ≠ "java/lang/invoke/MethodHandle" ∧ (yX6_init).cls ≠ "java/lang/invoke/VarHandle" ∧ (parseMethodDescriptor (yX6_init).desc).map (fun d => d.parameters.length) = some 0 := by decide +kernel
theorem ax_23 : GoodIn BT (wsV RX9 62 RX8 yX8_low [.code yX8_low cX8_low 1 (some .long)]) := gi_V tw_222 tw_223 tw_224 tw_25 tw_225
theorem ax_24 : (yX8_low).cls = RX8 ∧ (yX8_low).cls ≠ "java/lang/invoke/MethodHandle" ∧ (yX8_low).cls ≠ "java/lang/invoke/VarHandle" ∧ (parseMethodDescriptor (yX8_low).desc).map (fun d => d.parameters.length) = some 0 := by decide +kernel
theorem ax_25 : (yJxa1e45_init_da8c8).cls ≠ "java/lang/invoke/MethodHandle" ∧ (yJxa1e45_init_da8c8).cls ≠ "java/lang/invoke/VarHandle" ∧ (parseMethodDescriptor (yJxa1e45_init_da8c8).desc).map (fun d => d.parameters.length) = some 0 := by decide +kernel
theorem ax_26 : ∀ w ∈ u_ws RJx4a65c TJx4a65c 3, w ∈ BT := List.forall_mem_cons.mpr ⟨tw_234, List.forall_mem_cons.mpr ⟨tw_233, List.forall_mem_cons.mpr ⟨tw_232, fun _ h => absurd h List.not_mem_nil⟩⟩⟩
theorem ax_27 : (yJxc12de_init_da8c8).cls ≠ "java/lang/invoke/MethodHandle" ∧ (yJxc12de_init_da8c8).cls ≠ "java/lang/invoke/VarHandle" ∧ (parseMethodDescriptor (yJxc12de_init_da8c8).desc).map (fun d => d.parameters.length) = some 0 := by decide +kernel
theorem ax_28 : (yJx4a65c_init_da8c8).cls ≠ "java/lang/invoke/MethodHandle" ∧ (yJx4a65c_init_da8c8).cls ≠ "java/lang/invoke/VarHandle" ∧ (parseMethodDescriptor (yJx4a65c_init_da8c8).desc).map (fun d => d.parameters.length) = some 0 := by decide +kernel
theorem ax_29 : ∀ w ∈ u_ws RX10 TX10 28, w ∈ BT := List.forall_mem_cons.mpr ⟨tw_276, List.forall_mem_cons.mpr ⟨tw_275, List.forall_mem_cons.mpr ⟨tw_274, List.forall_mem_cons.mpr ⟨tw_273, List.forall_mem_cons.mpr ⟨tw_272, List.forall_mem_cons.mpr ⟨tw_271, List.forall_mem_cons.mpr ⟨tw_270, List.forall_mem_cons.mpr ⟨tw_269, List.forall_mem_cons.mpr ⟨tw_268, List.forall_mem_cons.mpr ⟨tw_267, List.forall_mem_cons.mpr ⟨tw_266, List.forall_mem_cons.mpr ⟨tw_265, List.forall_mem_cons.mpr ⟨tw_264, List.forall_mem_cons.mpr ⟨tw_263, List.forall_mem_cons.mpr ⟨tw_262, List.forall_mem_cons.mpr ⟨tw_261, List.forall_mem_cons.mpr ⟨tw_260, List.forall_mem_cons.mpr ⟨tw_259, List.forall_mem_cons.mpr ⟨tw_258, List.forall_mem_cons.mpr ⟨tw_257, List.forall_mem_cons.mpr ⟨tw_256, List.forall_mem_cons.mpr ⟨tw_255, List.forall_mem_cons.mpr ⟨tw_254, List.forall_mem_cons.mpr ⟨tw_253, List.forall_mem_cons.mpr ⟨tw_252, List.forall_mem_cons.mpr ⟨tw_251, List.forall_mem_cons.mpr ⟨tw_250, List.forall_mem_cons.mpr ⟨tw_249, fun _ h => absurd h List.not_mem_nil⟩⟩⟩⟩⟩⟩⟩⟩⟩⟩⟩⟩⟩⟩⟩⟩⟩⟩⟩⟩⟩⟩⟩⟩⟩⟩⟩⟩
theorem ax_30 : GoodIn BT (va_wsS RX9 72 yX9_isOutside [.code yX9_isOutside cX9_isOutside 3 (some .boolean)]) := gi_S tw_292 tw_293 tw_294 tw_295
theorem ax_31 : (yX9_isOutside).cls ≠ "java/lang/invoke/MethodHandle" ∧ (yX9_isOutside).cls ≠ "java/lang/invoke/VarHandle" ∧ (parseMethodDescriptor (yX9_isOutside).desc).map (fun d => d.parameters.length) = some 3 := by decide +kernel
theorem ax_32 : ∀ w ∈ vx_atS RX9 80 "java/lang/IllegalArgumentException" ["java/lang/RuntimeException", "java/lang/Exception"], w ∈ BT := fun w hw => bt_tbl ((by decide +kernel : ∀ w ∈ vx_atS RX9 80 "java/lang/IllegalArgumentException" ["java/lang/RuntimeException", "java/lang/Exception"], w ∈ tables_1) w hw) ((by decide +kernel : ∀ w ∈ vx_atS RX9 80 "java/lang/IllegalArgumentException" ["java/lang/RuntimeException", "java/lang/Exception"], okw w = true) w hw)
theorem ax_33 : GoodIn BT (wsV RL 7 RX9 yX9_addBody [.code yX9_addBody cX9_addBody 3 (some .int)]) := gi_V tw_298 tw_299 tw_300 tw_294 tw_301
theorem ax_34 : (yX9_addBody).cls = RX9 ∧ (yX9_addBody).cls ≠ "java/lang/invoke/MethodHandle" ∧ (yX9_addBody).cls ≠ "java/lang/invoke/VarHandle" ∧ (parseMethodDescriptor (yX9_addBody).desc).map (fun d => d.parameters.length) = some 2 := by decide +kernel
theorem ax_35 : GoodIn BT (va_wsS RL 150 yL_addBody [.codeWith yL_addBody cL_addBody 5 (some .int) [(0, 10, 13, 13), (0, 10, 17, 15)]]) := gi_SW tw_304 tw_305 tw_306 tw_307
theorem ax_36 : (yL_addBody).cls ≠ "java/lang/invoke/MethodHandle" ∧ (yL_addBody).cls ≠ "java/lang/invoke/VarHandle" ∧ (parseMethodDescriptor (yL_addBody).desc).map (fun d => d.parameters.length) = some 4 := by decide +kernel
theorem ax_37 : GoodIn BT (wsV RX10 82 RX10 yX10_begins [.code yX10_begins cX10_begins 1 none]) := gi_V tw_309 tw_310 tw_311 tw_312 tw_313
theorem ax_38 : (yX10_begins).cls = RX10 ∧ (yX10_begins).cls ≠ "java/lang/invoke/MethodHandle" ∧ (yX10_begins).cls ≠ "java/lang/invoke/VarHandle" ∧ (parseMethodDescriptor (yX10_begins).desc).map (fun d => d.parameters.length) = some 0 := by decide +kernel
theorem ax_39 : GoodIn BT (va_wsS RX10 13 yX10_in [.code yX10_in cX10_in 6 (some .boolean)]) := gi_S tw_316 tw_317 tw_312 tw_318
theorem ax_40 : (yX10_in).cls ≠ "java/lang/invoke/MethodHandle" ∧ (yX10_in).cls ≠ "java/lang/invoke/VarHandle" ∧ (parseMethodDescriptor (yX10_in).desc).map (fun d => d.parameters.length) = some 3 := by decide +kernel
theorem ax_41 : GoodIn BT (wsV RX10 78 RX10 yX10_fails [.code yX10_fails cX10_fails 3 (some .boolean)]) := gi_V tw_319 tw_320 tw_321 tw_312 tw_322
theorem ax_42 : (yX10_fails).cls = RX10 ∧ (yX10_fails).cls ≠ "java/lang/invoke/MethodHandle" ∧ (yX10_fails).cls ≠ "java/lang/invoke/VarHandle" ∧ (parseMethodDescriptor (yX10_fails).desc).map (fun d => d.parameters.length) = some 2 := by decide +kernel
theorem ax_43 : GoodIn BT (wsV RL 155 RX10 yX10_addBody [.code yX10_addBody cX10_addBody 3 (some .int)]) := gi_V tw_323 tw_324 tw_325 tw_312 tw_326
theorem ax_44 : (yX10_addBody).cls = RX10 ∧ (yX10_addBody).cls ≠ "java/lang/invoke/MethodHandle" ∧ (yX10_addBody).cls ≠ "java/lang/invoke/VarHandle" ∧ (parseMethodDescriptor (yX10_addBody).desc).map (fun d => d.parameters.length) = some 2 := by decide +kernel
theorem ax_45 : GoodIn BT (wsV RL 156 RX10 yX10_thrown [.code yX10_thrown cX10_thrown 1 (some .int)]) := gi_V tw_327 tw_328 tw_329 tw_312 tw_330
theorem ax_46 : (yX10_thrown).cls = RX10 ∧ (yX10_thrown).cls ≠ "java/lang/invoke/MethodHandle" ∧ (yX10_thrown).cls ≠ "java/lang/invoke/VarHandle" ∧ (parseMethodDescriptor (yX10_thrown).desc).map (fun d => d.parameters.length) = some 0 := by decide +kernel
theorem ax_47 : GoodIn BT (wsV RX0 42 RX0 yX0_isFull [.code yX0_isFull cX0_isFull 1 (some .boolean)]) := gi_V tw_332 tw_333 tw_334 tw_168 tw_335
theorem ax_48 : (yX0_isFull).cls = RX0 ∧ (yX0_isFull).cls ≠ "java/lang/invoke/MethodHandle" ∧ (yX0_isFull).cls ≠ "java/lang/invoke/VarHandle" ∧ (parseMethodDescriptor (yX0_isFull).desc).map (fun d => d.parameters.length) = some 0 := by decide +kernel
theorem ax_49 : GoodIn BT (wsV RX0 46 RX8 yX8_set [.code yX8_set cX8_set 3 none]) := gi_V tw_336 tw_103 tw_104 tw_25 tw_105
theorem ax_50 : GoodIn BT (wsV RX9 83 RX0 yX0_isFull [.code yX0_isFull cX0_isFull 1 (some .boolean)]) := gi_V tw_337 tw_333 tw_334 tw_168 tw_335
theorem ax_51 : GoodIn BT (wsV RX9 92 RX0 yX0_append [.code yX0_append cX0_append 3 (some .int)]) := gi_V tw_338 tw_339 tw_340 tw_168 tw_341
theorem ax_52 : (yX0_append).cls = RX0 ∧ (yX0_append).cls ≠ "java/lang/invoke/MethodHandle" ∧ (yX0_append).cls ≠ "java/lang/invoke/VarHandle" ∧ (parseMethodDescriptor (yX0_append).desc).map (fun d => d.parameters.length) = some 2 := by decide +kernel
theorem ax_53 : GoodIn BT (wsV RJx4a65c 69 RJx4a65c yJx4a65c_grow_92f84 [.code yJx4a65c_grow_92f84 cJx4a65c_grow_92f84 4 (some (.array (.object "java/lang/Object")))]) := gi_V tw_348 tw_349 tw_350 tw_245 tw_351
theorem ax_54 : (yJx4a65c_grow_92f84).cls = RJx4a65c ∧ (yJx4a65c_grow_92f84).cls ≠ "java/lang/invoke/MethodHandle" ∧ (yJx4a65c_grow_92f84).cls ≠ "java/lang/invoke/VarHandle" ∧ (parseMethodDescriptor (yJx4a65c_grow_92f84).desc).map (fun d => d.parameters.length) = some 1 := by decide +kernel
theorem ax_55 : GoodIn BT (wsV RJx4a65c 129 RJx4a65c yJx4a65c_grow_d5877 [.code yJx4a65c_grow_d5877 cJx4a65c_grow_d5877 1 (some (.array (.object "java/lang/Object")))]) := gi_V tw_352 tw_353 tw_354 tw_245 tw_355
theorem ax_56 : (yJx4a65c_grow_d5877).cls = RJx4a65c ∧ (yJx4a65c_grow_d5877).cls ≠ "java/lang/invoke/MethodHandle" ∧ (yJx4a65c_grow_d5877).cls ≠ "java/lang/invoke/VarHandle" ∧ (parseMethodDescriptor (yJx4a65c_grow_d5877).desc).map (fun d => d.parameters.length) = some 0 := by decide +kernel
theorem ax_57 : GoodIn BT (wsV RJx4a65c 131 RJx4a65c yJx4a65c_add_72be8 [.code yJx4a65c_add_72be8 cJx4a65c_add_72be8 4 none]) := gi_V tw_359 tw_360 tw_361 tw_245 tw_362
theorem ax_58 : (yJx4a65c_add_72be8).cls = RJx4a65c ∧ (yJx4a65c_add_72be8).cls ≠ "java/lang/invoke/MethodHandle" ∧ (yJx4a65c_add_72be8).cls ≠ "java/lang/invoke/VarHandle" ∧ (parseMethodDescriptor (yJx4a65c_add_72be8).desc).map (fun d => d.parameters.length) = some 3 := by decide +kernel
theorem ax_59 : GoodIn BT (va_wsF RX10 7 RJx4a65c (⟨RJxbd725, "size", "()I"⟩ : MethodName) yJx4a65c_size_8abf5 [.code yJx4a65c_size_8abf5 cJx4a65c_size_8abf5 1 (some .int)]) := gi_F tw_363 tw_364 tw_365 tw_245 tw_366
theorem ax_60 : ((⟨RJxbd725, "size", "()I"⟩ : MethodName)).cls ≠ "java/lang/invoke/MethodHandle" ∧ ((⟨RJxbd725, "size", "()I"⟩ : MethodName)).cls ≠ "java/lang/invoke/VarHandle" ∧ (parseMethodDescriptor ((⟨RJxbd725, "size", "()I"⟩ : MethodName)).desc).map (fun d => d.parameters.length) = some 0 := by decide +kernel
theorem ax_61 : GoodIn BT (va_wsF RX10 89 RJx4a65c (⟨RJxbd725, "add", "(Ljava/lang/Object;)Z"⟩ : MethodName) yJx4a65c_add_9ea2d [.code yJx4a65c_add_9ea2d cJx4a65c_add_9ea2d 2 (some .boolean)]) := gi_F tw_372 tw_373 tw_374 tw_245 tw_375
theorem ax_62 : ((⟨RJxbd725, "add", "(Ljava/lang/Object;)Z"⟩ : MethodName)).cls ≠ "java/lang/invoke/MethodHandle" ∧ ((⟨RJxbd725, "add", "(Ljava/lang/Object;)Z"⟩ : MethodName)).cls ≠ "java/lang/invoke/VarHandle" ∧ (parseMethodDescriptor ((⟨RJxbd725, "add", "(Ljava/lang/Object;)Z"⟩ : MethodName)).desc).map (fun d => d.parameters.length) = some 1 := by decide +kernel
theorem ax_63 : GoodIn BT (wsV RX8 37 RX8 yX8_write [.code yX8_write cX8_write 4 none]) := gi_V tw_380 tw_381 tw_382 tw_25 tw_383
theorem ax_64 : (yX8_write).cls = RX8 ∧ (yX8_write).cls ≠ "java/lang/invoke/MethodHandle" ∧ (yX8_write).cls ≠ "java/lang/invoke/VarHandle" ∧ (parseMethodDescriptor (yX8_write).desc).map (fun d => d.parameters.length) = some 2 := by decide +kernel
theorem ax_65 : GoodIn BT (wsV RX9 404 RX0 yX0_has [.code yX0_has cX0_has 2 (some .boolean)]) := gi_V tw_384 tw_385 tw_386 tw_168 tw_387
theorem ax_66 : (yX0_has).cls = RX0 ∧ (yX0_has).cls ≠ "java/lang/invoke/MethodHandle" ∧ (yX0_has).cls ≠ "java/lang/invoke/VarHandle" ∧ (parseMethodDescriptor (yX0_has).desc).map (fun d => d.parameters.length) = some 1 := by decide +kernel
theorem ax_67 : ∀ w ∈ vx_atS RX9 411 "java/lang/IndexOutOfBoundsException" ["java/lang/RuntimeException", "java/lang/Exception"], w ∈ BT := fun w hw => bt_tbl ((by decide +kernel : ∀ w ∈ vx_atS RX9 411 "java/lang/IndexOutOfBoundsException" ["java/lang/RuntimeException", "java/lang/Exception"], w ∈ tables_1) w hw) ((by decide +kernel : ∀ w ∈ vx_atS RX9 411 "java/lang/IndexOutOfBoundsException" ["java/lang/RuntimeException", "java/lang/Exception"], okw w = true) w hw)
theorem ax_68 : GoodIn BT (wsV RX9 96 RX9 yX9_requireBody [.code yX9_requireBody cX9_requireBody 2 none]) := gi_V tw_390 tw_391 tw_392 tw_294 tw_393
theorem ax_69 : (yX9_requireBody).cls = RX9 ∧ (yX9_requireBody).cls ≠ "java/lang/invoke/MethodHandle" ∧ (yX9_requireBody).cls ≠ "java/lang/invoke/VarHandle" ∧ (parseMethodDescriptor (yX9_requireBody).desc).map (fun d => d.parameters.length) = some 1 := by decide +kernel
theorem ax_70 : GoodIn BT (wsV RL 17 RX9 yX9_getTemperature [.code yX9_getTemperature cX9_getTemperature 2 (some .int)]) := gi_V tw_394 tw_395 tw_396 tw_294 tw_397
theorem ax_71 : (yX9_getTemperature).cls = RX9 ∧ (yX9_getTemperature).cls ≠ "java/lang/invoke/MethodHandle" ∧ (yX9_getTemperature).cls ≠ "java/lang/invoke/VarHandle" ∧ (parseMethodDescriptor (yX9_getTemperature).desc).map (fun d => d.parameters.length) = some 1 := by decide +kernel
theorem ax_72 : GoodIn BT (va_wsS RL 159 yL_getTemperature [.codeWith yL_getTemperature cL_getTemperature 4 (some .int) [(0, 9, 12, 21)]]) := gi_SW tw_400 tw_401 tw_306 tw_402
theorem ax_73 : (yL_getTemperature).cls ≠ "java/lang/invoke/MethodHandle" ∧ (yL_getTemperature).cls ≠ "java/lang/invoke/VarHandle" ∧ (parseMethodDescriptor (yL_getTemperature).desc).map (fun d => d.parameters.length) = some 3 := by decide +kernel
theorem ax_74 : GoodIn BT (va_wsS RX10 74 yX10_isOf [.code yX10_isOf cX10_isOf 2 (some .boolean)]) := gi_S tw_403 tw_404 tw_312 tw_405
theorem ax_75 : (yX10_isOf).cls ≠ "java/lang/invoke/MethodHandle" ∧ (yX10_isOf).cls ≠ "java/lang/invoke/VarHandle" ∧ (parseMethodDescriptor (yX10_isOf).desc).map (fun d => d.parameters.length) = some 2 := by decide +kernel
theorem ax_76 : GoodIn BT (wsV RX10 93 RX10 yX10_noBody [.code yX10_noBody cX10_noBody 2 (some .boolean)]) := gi_V tw_406 tw_407 tw_408 tw_312 tw_409
theorem ax_77 : (yX10_noBody).cls = RX10 ∧ (yX10_noBody).cls ≠ "java/lang/invoke/MethodHandle" ∧ (yX10_noBody).cls ≠ "java/lang/invoke/VarHandle" ∧ (parseMethodDescriptor (yX10_noBody).desc).map (fun d => d.parameters.length) = some 1 := by decide +kernel
theorem ax_78 : GoodIn BT (wsV RL 162 RX10 yX10_getTemperature [.code yX10_getTemperature cX10_getTemperature 2 (some .int)]) := gi_V tw_410 tw_411 tw_412 tw_312 tw_413
theorem ax_79 : (yX10_getTemperature).cls = RX10 ∧ (yX10_getTemperature).cls ≠ "java/lang/invoke/MethodHandle" ∧ (yX10_getTemperature).cls ≠ "java/lang/invoke/VarHandle" ∧ (parseMethodDescriptor (yX10_getTemperature).desc).map (fun d => d.parameters.length) = some 1 := by decide +kernel
theorem ax_80 : GoodIn BT (wsV RL 23 RX9 yX9_getEnergy [.code yX9_getEnergy cX9_getEnergy 2 (some .int)]) := gi_V tw_414 tw_415 tw_416 tw_294 tw_417
theorem ax_81 : (yX9_getEnergy).cls = RX9 ∧ (yX9_getEnergy).cls ≠ "java/lang/invoke/MethodHandle" ∧ (yX9_getEnergy).cls ≠ "java/lang/invoke/VarHandle" ∧ (parseMethodDescriptor (yX9_getEnergy).desc).map (fun d => d.parameters.length) = some 1 := by decide +kernel
theorem ax_82 : GoodIn BT (va_wsS RL 163 yL_getEnergy [.codeWith yL_getEnergy cL_getEnergy 4 (some .int) [(0, 9, 12, 21)]]) := gi_SW tw_418 tw_419 tw_306 tw_420
theorem ax_83 : (yL_getEnergy).cls ≠ "java/lang/invoke/MethodHandle" ∧ (yL_getEnergy).cls ≠ "java/lang/invoke/VarHandle" ∧ (parseMethodDescriptor (yL_getEnergy).desc).map (fun d => d.parameters.length) = some 3 := by decide +kernel
theorem ax_84 : GoodIn BT (wsV RL 165 RX10 yX10_getEnergy [.code yX10_getEnergy cX10_getEnergy 2 (some .int)]) := gi_V tw_421 tw_422 tw_423 tw_312 tw_424
theorem ax_85 : (yX10_getEnergy).cls = RX10 ∧ (yX10_getEnergy).cls ≠ "java/lang/invoke/MethodHandle" ∧ (yX10_getEnergy).cls ≠ "java/lang/invoke/VarHandle" ∧ (parseMethodDescriptor (yX10_getEnergy).desc).map (fun d => d.parameters.length) = some 1 := by decide +kernel
theorem ax_86 : GoodIn BT (wsV RX9 107 RX9 yX9_requireTwoBodies [.code yX9_requireTwoBodies cX9_requireTwoBodies 4 none]) := gi_V tw_425 tw_426 tw_427 tw_294 tw_428
theorem ax_87 : (yX9_requireTwoBodies).cls = RX9 ∧ (yX9_requireTwoBodies).cls ≠ "java/lang/invoke/MethodHandle" ∧ (yX9_requireTwoBodies).cls ≠ "java/lang/invoke/VarHandle" ∧ (parseMethodDescriptor (yX9_requireTwoBodies).desc).map (fun d => d.parameters.length) = some 3 := by decide +kernel
theorem ax_88 : GoodIn BT (wsV RL 26 RX9 yX9_conduct [.code yX9_conduct cX9_conduct 4 (some .int)]) := gi_V tw_429 tw_430 tw_431 tw_294 tw_432
theorem ax_89 : (yX9_conduct).cls = RX9 ∧ (yX9_conduct).cls ≠ "java/lang/invoke/MethodHandle" ∧ (yX9_conduct).cls ≠ "java/lang/invoke/VarHandle" ∧ (parseMethodDescriptor (yX9_conduct).desc).map (fun d => d.parameters.length) = some 3 := by decide +kernel
theorem ax_90 : GoodIn BT (va_wsS RL 166 yL_conduct [.codeWith yL_conduct cL_conduct 6 (some .int) [(0, 12, 15, 21), (0, 12, 19, 13), (0, 12, 23, 30)]]) := gi_SW tw_433 tw_434 tw_306 tw_435
theorem ax_91 : (yL_conduct).cls ≠ "java/lang/invoke/MethodHandle" ∧ (yL_conduct).cls ≠ "java/lang/invoke/VarHandle" ∧ (parseMethodDescriptor (yL_conduct).desc).map (fun d => d.parameters.length) = some 5 := by decide +kernel
theorem ax_92 : GoodIn BT (wsV RL 169 RX10 yX10_conduct [.code yX10_conduct cX10_conduct 8 (some .int)]) := gi_V tw_436 tw_437 tw_438 tw_312 tw_439
theorem ax_93 : (yX10_conduct).cls = RX10 ∧ (yX10_conduct).cls ≠ "java/lang/invoke/MethodHandle" ∧ (yX10_conduct).cls ≠ "java/lang/invoke/VarHandle" ∧ (parseMethodDescriptor (yX10_conduct).desc).map (fun d => d.parameters.length) = some 3 := by decide +kernel
theorem ax_94 : GoodIn BT (wsV RL 32 RX9 yX9_runEngine [.code yX9_runEngine cX9_runEngine 5 (some .int)]) := gi_V tw_440 tw_441 tw_442 tw_294 tw_443
theorem ax_95 : (yX9_runEngine).cls = RX9 ∧ (yX9_runEngine).cls ≠ "java/lang/invoke/MethodHandle" ∧ (yX9_runEngine).cls ≠ "java/lang/invoke/VarHandle" ∧ (parseMethodDescriptor (yX9_runEngine).desc).map (fun d => d.parameters.length) = some 4 := by decide +kernel
theorem ax_96 : GoodIn BT (va_wsS RL 170 yL_runEngine [.codeWith yL_runEngine cL_runEngine 7 (some .int) [(0, 14, 17, 21), (0, 14, 21, 13), (0, 14, 25, 30)]]) := gi_SW tw_444 tw_445 tw_306 tw_446
theorem ax_97 : (yL_runEngine).cls ≠ "java/lang/invoke/MethodHandle" ∧ (yL_runEngine).cls ≠ "java/lang/invoke/VarHandle" ∧ (parseMethodDescriptor (yL_runEngine).desc).map (fun d => d.parameters.length) = some 6 := by decide +kernel
theorem ax_98 : GoodIn BT (wsV RL 173 RX10 yX10_runEngine [.code yX10_runEngine cX10_runEngine 5 (some .int)]) := gi_V tw_447 tw_448 tw_449 tw_312 tw_450
theorem ax_99 : (yX10_runEngine).cls = RX10 ∧ (yX10_runEngine).cls ≠ "java/lang/invoke/MethodHandle" ∧ (yX10_runEngine).cls ≠ "java/lang/invoke/VarHandle" ∧ (parseMethodDescriptor (yX10_runEngine).desc).map (fun d => d.parameters.length) = some 4 := by decide +kernel
theorem ax_100 : GoodIn BT (wsV RL 36 RX9 yX9_runPump [.code yX9_runPump cX9_runPump 5 (some .int)]) := gi_V tw_451 tw_452 tw_453 tw_294 tw_454
theorem ax_101 : (yX9_runPump).cls = RX9 ∧ (yX9_runPump).cls ≠ "java/lang/invoke/MethodHandle" ∧ (yX9_runPump).cls ≠ "java/lang/invoke/VarHandle" ∧ (parseMethodDescriptor (yX9_runPump).desc).map (fun d => d.parameters.length) = some 4 := by decide +kernel
theorem ax_102 : GoodIn BT (va_wsS RL 174 yL_runPump [.codeWith yL_runPump cL_runPump 7 (some .int) [(0, 14, 17, 21), (0, 14, 21, 13), (0, 14, 25, 30)]]) := gi_SW tw_455 tw_456 tw_306 tw_457
theorem ax_103 : (yL_runPump).cls ≠ "java/lang/invoke/MethodHandle" ∧ (yL_runPump).cls ≠ "java/lang/invoke/VarHandle" ∧ (parseMethodDescriptor (yL_runPump).desc).map (fun d => d.parameters.length) = some 6 := by decide +kernel
theorem ax_104 : GoodIn BT (wsV RL 176 RX10 yX10_runPump [.code yX10_runPump cX10_runPump 5 (some .int)]) := gi_V tw_458 tw_459 tw_460 tw_312 tw_461
theorem ax_105 : (yX10_runPump).cls = RX10 ∧ (yX10_runPump).cls ≠ "java/lang/invoke/MethodHandle" ∧ (yX10_runPump).cls ≠ "java/lang/invoke/VarHandle" ∧ (parseMethodDescriptor (yX10_runPump).desc).map (fun d => d.parameters.length) = some 4 := by decide +kernel
theorem ax_106 : GoodIn BT (wsV RL 177 RX9 yX9_getWork [.code yX9_getWork cX9_getWork 1 (some .int)]) := gi_V tw_463 tw_464 tw_465 tw_294 tw_466
theorem ax_107 : (yX9_getWork).cls = RX9 ∧ (yX9_getWork).cls ≠ "java/lang/invoke/MethodHandle" ∧ (yX9_getWork).cls ≠ "java/lang/invoke/VarHandle" ∧ (parseMethodDescriptor (yX9_getWork).desc).map (fun d => d.parameters.length) = some 0 := by decide +kernel
theorem ax_108 : GoodIn BT (wsV RL 180 RX10 yX10_getWork [.code yX10_getWork cX10_getWork 1 (some .int)]) := gi_V tw_468 tw_469 tw_470 tw_312 tw_471
theorem ax_109 : (yX10_getWork).cls = RX10 ∧ (yX10_getWork).cls ≠ "java/lang/invoke/MethodHandle" ∧ (yX10_getWork).cls ≠ "java/lang/invoke/VarHandle" ∧ (parseMethodDescriptor (yX10_getWork).desc).map (fun d => d.parameters.length) = some 0 := by decide +kernel
theorem ax_110 : GoodIn BT (wsV RL 181 RX9 yX9_getMade [.code yX9_getMade cX9_getMade 1 (some .int)]) := gi_V tw_473 tw_474 tw_475 tw_294 tw_476
theorem ax_111 : (yX9_getMade).cls = RX9 ∧ (yX9_getMade).cls ≠ "java/lang/invoke/MethodHandle" ∧ (yX9_getMade).cls ≠ "java/lang/invoke/VarHandle" ∧ (parseMethodDescriptor (yX9_getMade).desc).map (fun d => d.parameters.length) = some 0 := by decide +kernel
theorem ax_112 : GoodIn BT (wsV RL 184 RX10 yX10_getMade [.code yX10_getMade cX10_getMade 1 (some .int)]) := gi_V tw_478 tw_479 tw_480 tw_312 tw_481
theorem ax_113 : (yX10_getMade).cls = RX10 ∧ (yX10_getMade).cls ≠ "java/lang/invoke/MethodHandle" ∧ (yX10_getMade).cls ≠ "java/lang/invoke/VarHandle" ∧ (parseMethodDescriptor (yX10_getMade).desc).map (fun d => d.parameters.length) = some 0 := by decide +kernel
theorem ax_114 : GoodIn BT (wsV RL 39 RX9 yX9_addRow [.code yX9_addRow cX9_addRow 5 (some .int)]) := gi_V tw_482 tw_483 tw_484 tw_294 tw_485
theorem ax_115 : (yX9_addRow).cls = RX9 ∧ (yX9_addRow).cls ≠ "java/lang/invoke/MethodHandle" ∧ (yX9_addRow).cls ≠ "java/lang/invoke/VarHandle" ∧ (parseMethodDescriptor (yX9_addRow).desc).map (fun d => d.parameters.length) = some 4 := by decide +kernel
theorem ax_116 : GoodIn BT (va_wsS RL 185 yL_addRow [.codeWith yL_addRow cL_addRow 7 (some .int) [(0, 14, 17, 13), (0, 14, 21, 30), (0, 14, 25, 15)]]) := gi_SW tw_486 tw_487 tw_306 tw_488
theorem ax_117 : (yL_addRow).cls ≠ "java/lang/invoke/MethodHandle" ∧ (yL_addRow).cls ≠ "java/lang/invoke/VarHandle" ∧ (parseMethodDescriptor (yL_addRow).desc).map (fun d => d.parameters.length) = some 6 := by decide +kernel
theorem ax_118 : GoodIn BT (wsV RL 187 RX10 yX10_addRow [.code yX10_addRow cX10_addRow 7 (some .int)]) := gi_V tw_489 tw_490 tw_491 tw_312 tw_492
theorem ax_119 : (yX10_addRow).cls = RX10 ∧ (yX10_addRow).cls ≠ "java/lang/invoke/MethodHandle" ∧ (yX10_addRow).cls ≠ "java/lang/invoke/VarHandle" ∧ (parseMethodDescriptor (yX10_addRow).desc).map (fun d => d.parameters.length) = some 4 := by decide +kernel
theorem ax_120 : GoodIn BT (wsV RX7 26 RX7 yX7_isFull [.code yX7_isFull cX7_isFull 1 (some .boolean)]) := gi_V tw_495 tw_496 tw_497 tw_182 tw_498
theorem ax_121 : (yX7_isFull).cls = RX7 ∧ (yX7_isFull).cls ≠ "java/lang/invoke/MethodHandle" ∧ (yX7_isFull).cls ≠ "java/lang/invoke/VarHandle" ∧ (parseMethodDescriptor (yX7_isFull).desc).map (fun d => d.parameters.length) = some 0 := by decide +kernel
theorem ax_122 : GoodIn BT (wsV RX9 146 RX7 yX7_isBelow [.code yX7_isBelow cX7_isBelow 5 (some .boolean)]) := gi_V tw_499 tw_500 tw_501 tw_182 tw_502
theorem ax_123 : (yX7_isBelow).cls = RX7 ∧ (yX7_isBelow).cls ≠ "java/lang/invoke/MethodHandle" ∧ (yX7_isBelow).cls ≠ "java/lang/invoke/VarHandle" ∧ (parseMethodDescriptor (yX7_isBelow).desc).map (fun d => d.parameters.length) = some 3 := by decide +kernel
theorem ax_124 : GoodIn BT (wsV RX9 151 RX7 yX7_isFull [.code yX7_isFull cX7_isFull 1 (some .boolean)]) := gi_V tw_503 tw_496 tw_497 tw_182 tw_498
theorem ax_125 : GoodIn BT (wsV RX9 154 RX7 yX7_append [.code yX7_append cX7_append 5 (some .int)]) := gi_V tw_504 tw_505 tw_506 tw_182 tw_507
theorem ax_126 : (yX7_append).cls = RX7 ∧ (yX7_append).cls ≠ "java/lang/invoke/MethodHandle" ∧ (yX7_append).cls ≠ "java/lang/invoke/VarHandle" ∧ (parseMethodDescriptor (yX7_append).desc).map (fun d => d.parameters.length) = some 4 := by decide +kernel
theorem ax_127 : GoodIn BT (va_wsF RX10 146 RJx4a65c (⟨RJxbd725, "isEmpty", "()Z"⟩ : MethodName) yJx4a65c_isEmpty_aae02 [.code yJx4a65c_isEmpty_aae02 cJx4a65c_isEmpty_aae02 1 (some .boolean)]) := gi_F tw_508 tw_509 tw_510 tw_245 tw_511
theorem ax_128 : ((⟨RJxbd725, "isEmpty", "()Z"⟩ : MethodName)).cls ≠ "java/lang/invoke/MethodHandle" ∧ ((⟨RJxbd725, "isEmpty", "()Z"⟩ : MethodName)).cls ≠ "java/lang/invoke/VarHandle" ∧ (parseMethodDescriptor ((⟨RJxbd725, "isEmpty", "()Z"⟩ : MethodName)).desc).map (fun d => d.parameters.length) = some 0 := by decide +kernel
theorem ax_129 : ∀ w ∈ vx_atS RX9 122 "java/lang/UnsupportedOperationException" ["java/lang/RuntimeException", "java/lang/Exception"], w ∈ BT := fun w hw => bt_tbl ((by decide +kernel : ∀ w ∈ vx_atS RX9 122 "java/lang/UnsupportedOperationException" ["java/lang/RuntimeException", "java/lang/Exception"], w ∈ tables_1) w hw) ((by decide +kernel : ∀ w ∈ vx_atS RX9 122 "java/lang/UnsupportedOperationException" ["java/lang/RuntimeException", "java/lang/Exception"], okw w = true) w hw)
theorem ax_130 : GoodIn BT (wsV RX9 428 RX7 yX7_reaches [.code yX7_reaches cX7_reaches 2 (some .boolean)]) := gi_V tw_520 tw_521 tw_522 tw_182 tw_523
theorem ax_131 : (yX7_reaches).cls = RX7 ∧ (yX7_reaches).cls ≠ "java/lang/invoke/MethodHandle" ∧ (yX7_reaches).cls ≠ "java/lang/invoke/VarHandle" ∧ (parseMethodDescriptor (yX7_reaches).desc).map (fun d => d.parameters.length) = some 1 := by decide +kernel
theorem ax_132 : GoodIn BT (wsV RX9 156 RX9 yX9_requireRows [.code yX9_requireRows cX9_requireRows 2 none]) := gi_V tw_526 tw_527 tw_528 tw_294 tw_529
theorem ax_133 : (yX9_requireRows).cls = RX9 ∧ (yX9_requireRows).cls ≠ "java/lang/invoke/MethodHandle" ∧ (yX9_requireRows).cls ≠ "java/lang/invoke/VarHandle" ∧ (parseMethodDescriptor (yX9_requireRows).desc).map (fun d => d.parameters.length) = some 1 := by decide +kernel
theorem ax_134 : GoodIn BT (wsV RL 42 RX9 yX9_getBoiling [.code yX9_getBoiling cX9_getBoiling 2 (some .int)]) := gi_V tw_530 tw_531 tw_532 tw_294 tw_533
theorem ax_135 : (yX9_getBoiling).cls = RX9 ∧ (yX9_getBoiling).cls ≠ "java/lang/invoke/MethodHandle" ∧ (yX9_getBoiling).cls ≠ "java/lang/invoke/VarHandle" ∧ (parseMethodDescriptor (yX9_getBoiling).desc).map (fun d => d.parameters.length) = some 1 := by decide +kernel
theorem ax_136 : GoodIn BT (va_wsS RL 188 yL_getBoiling [.codeWith yL_getBoiling cL_getBoiling 4 (some .int) [(0, 9, 12, 45)]]) := gi_SW tw_536 tw_537 tw_306 tw_538
theorem ax_137 : (yL_getBoiling).cls ≠ "java/lang/invoke/MethodHandle" ∧ (yL_getBoiling).cls ≠ "java/lang/invoke/VarHandle" ∧ (parseMethodDescriptor (yL_getBoiling).desc).map (fun d => d.parameters.length) = some 3 := by decide +kernel
theorem ax_138 : GoodIn BT (wsV RX10 150 RX10 yX10_isIn [.code yX10_isIn cX10_isIn 2 (some .boolean)]) := gi_V tw_539 tw_540 tw_541 tw_312 tw_542
theorem ax_139 : (yX10_isIn).cls = RX10 ∧ (yX10_isIn).cls ≠ "java/lang/invoke/MethodHandle" ∧ (yX10_isIn).cls ≠ "java/lang/invoke/VarHandle" ∧ (parseMethodDescriptor (yX10_isIn).desc).map (fun d => d.parameters.length) = some 1 := by decide +kernel
theorem ax_140 : GoodIn BT (wsV RX10 156 RX10 yX10_rowed [.code yX10_rowed cX10_rowed 3 (some .int)]) := gi_V tw_543 tw_544 tw_545 tw_312 tw_546
theorem ax_141 : (yX10_rowed).cls = RX10 ∧ (yX10_rowed).cls ≠ "java/lang/invoke/MethodHandle" ∧ (yX10_rowed).cls ≠ "java/lang/invoke/VarHandle" ∧ (parseMethodDescriptor (yX10_rowed).desc).map (fun d => d.parameters.length) = some 2 := by decide +kernel
theorem ax_142 : GoodIn BT (wsV RL 190 RX10 yX10_getBoiling [.code yX10_getBoiling cX10_getBoiling 2 (some .int)]) := gi_V tw_547 tw_548 tw_549 tw_312 tw_550
theorem ax_143 : (yX10_getBoiling).cls = RX10 ∧ (yX10_getBoiling).cls ≠ "java/lang/invoke/MethodHandle" ∧ (yX10_getBoiling).cls ≠ "java/lang/invoke/VarHandle" ∧ (parseMethodDescriptor (yX10_getBoiling).desc).map (fun d => d.parameters.length) = some 1 := by decide +kernel
theorem ax_144 : GoodIn BT (wsV RL 47 RX9 yX9_getLiquid [.code yX9_getLiquid cX9_getLiquid 2 (some .int)]) := gi_V tw_551 tw_552 tw_553 tw_294 tw_554
theorem ax_145 : (yX9_getLiquid).cls = RX9 ∧ (yX9_getLiquid).cls ≠ "java/lang/invoke/MethodHandle" ∧ (yX9_getLiquid).cls ≠ "java/lang/invoke/VarHandle" ∧ (parseMethodDescriptor (yX9_getLiquid).desc).map (fun d => d.parameters.length) = some 1 := by decide +kernel
theorem ax_146 : GoodIn BT (va_wsS RL 191 yL_getLiquid [.codeWith yL_getLiquid cL_getLiquid 4 (some .int) [(0, 9, 12, 45)]]) := gi_SW tw_555 tw_556 tw_306 tw_557
theorem ax_147 : (yL_getLiquid).cls ≠ "java/lang/invoke/MethodHandle" ∧ (yL_getLiquid).cls ≠ "java/lang/invoke/VarHandle" ∧ (parseMethodDescriptor (yL_getLiquid).desc).map (fun d => d.parameters.length) = some 3 := by decide +kernel
theorem ax_148 : GoodIn BT (wsV RL 193 RX10 yX10_getLiquid [.code yX10_getLiquid cX10_getLiquid 2 (some .int)]) := gi_V tw_558 tw_559 tw_560 tw_312 tw_561
theorem ax_149 : (yX10_getLiquid).cls = RX10 ∧ (yX10_getLiquid).cls ≠ "java/lang/invoke/MethodHandle" ∧ (yX10_getLiquid).cls ≠ "java/lang/invoke/VarHandle" ∧ (parseMethodDescriptor (yX10_getLiquid).desc).map (fun d => d.parameters.length) = some 1 := by decide +kernel
theorem ax_150 : GoodIn BT (wsV RL 50 RX9 yX9_getVapour [.code yX9_getVapour cX9_getVapour 2 (some .int)]) := gi_V tw_562 tw_563 tw_564 tw_294 tw_565
theorem ax_151 : (yX9_getVapour).cls = RX9 ∧ (yX9_getVapour).cls ≠ "java/lang/invoke/MethodHandle" ∧ (yX9_getVapour).cls ≠ "java/lang/invoke/VarHandle" ∧ (parseMethodDescriptor (yX9_getVapour).desc).map (fun d => d.parameters.length) = some 1 := by decide +kernel
theorem ax_152 : GoodIn BT (va_wsS RL 194 yL_getVapour [.codeWith yL_getVapour cL_getVapour 4 (some .int) [(0, 9, 12, 45)]]) := gi_SW tw_566 tw_567 tw_306 tw_568
theorem ax_153 : (yL_getVapour).cls ≠ "java/lang/invoke/MethodHandle" ∧ (yL_getVapour).cls ≠ "java/lang/invoke/VarHandle" ∧ (parseMethodDescriptor (yL_getVapour).desc).map (fun d => d.parameters.length) = some 3 := by decide +kernel
theorem ax_154 : GoodIn BT (wsV RL 196 RX10 yX10_getVapour [.code yX10_getVapour cX10_getVapour 2 (some .int)]) := gi_V tw_569 tw_570 tw_571 tw_312 tw_572
theorem ax_155 : (yX10_getVapour).cls = RX10 ∧ (yX10_getVapour).cls ≠ "java/lang/invoke/MethodHandle" ∧ (yX10_getVapour).cls ≠ "java/lang/invoke/VarHandle" ∧ (parseMethodDescriptor (yX10_getVapour).desc).map (fun d => d.parameters.length) = some 1 := by decide +kernel
theorem ax_156 : GoodIn BT (wsV RX9 198 RX9 yX9_requireStateHeat [.code yX9_requireStateHeat cX9_requireStateHeat 2 none]) := gi_V tw_573 tw_574 tw_575 tw_294 tw_576
theorem ax_157 : (yX9_requireStateHeat).cls = RX9 ∧ (yX9_requireStateHeat).cls ≠ "java/lang/invoke/MethodHandle" ∧ (yX9_requireStateHeat).cls ≠ "java/lang/invoke/VarHandle" ∧ (parseMethodDescriptor (yX9_requireStateHeat).desc).map (fun d => d.parameters.length) = some 1 := by decide +kernel
theorem ax_158 : GoodIn BT (wsV RX9 169 RX9 yX9_requireState [.code yX9_requireState cX9_requireState 3 none]) := gi_V tw_577 tw_578 tw_579 tw_294 tw_580
theorem ax_159 : (yX9_requireState).cls = RX9 ∧ (yX9_requireState).cls ≠ "java/lang/invoke/MethodHandle" ∧ (yX9_requireState).cls ≠ "java/lang/invoke/VarHandle" ∧ (parseMethodDescriptor (yX9_requireState).desc).map (fun d => d.parameters.length) = some 2 := by decide +kernel
theorem ax_160 : GoodIn BT (wsV RL 53 RX9 yX9_getPhase [.code yX9_getPhase cX9_getPhase 3 (some .char)]) := gi_V tw_581 tw_582 tw_583 tw_294 tw_584
theorem ax_161 : (yX9_getPhase).cls = RX9 ∧ (yX9_getPhase).cls ≠ "java/lang/invoke/MethodHandle" ∧ (yX9_getPhase).cls ≠ "java/lang/invoke/VarHandle" ∧ (parseMethodDescriptor (yX9_getPhase).desc).map (fun d => d.parameters.length) = some 2 := by decide +kernel
theorem ax_162 : GoodIn BT (va_wsS RL 197 yL_getPhase [.codeWith yL_getPhase cL_getPhase 5 (some .int) [(0, 10, 13, 13), (0, 10, 17, 45)]]) := gi_SW tw_585 tw_586 tw_306 tw_587
theorem ax_163 : (yL_getPhase).cls ≠ "java/lang/invoke/MethodHandle" ∧ (yL_getPhase).cls ≠ "java/lang/invoke/VarHandle" ∧ (parseMethodDescriptor (yL_getPhase).desc).map (fun d => d.parameters.length) = some 4 := by decide +kernel
theorem ax_164 : GoodIn BT (wsV RX10 161 RX10 yX10_noState [.code yX10_noState cX10_noState 3 (some .boolean)]) := gi_V tw_589 tw_590 tw_591 tw_312 tw_592
theorem ax_165 : (yX10_noState).cls = RX10 ∧ (yX10_noState).cls ≠ "java/lang/invoke/MethodHandle" ∧ (yX10_noState).cls ≠ "java/lang/invoke/VarHandle" ∧ (parseMethodDescriptor (yX10_noState).desc).map (fun d => d.parameters.length) = some 2 := by decide +kernel
theorem ax_166 : GoodIn BT (wsV RL 199 RX10 yX10_getPhase [.code yX10_getPhase cX10_getPhase 3 (some .char)]) := gi_V tw_593 tw_594 tw_595 tw_312 tw_596
theorem ax_167 : (yX10_getPhase).cls = RX10 ∧ (yX10_getPhase).cls ≠ "java/lang/invoke/MethodHandle" ∧ (yX10_getPhase).cls ≠ "java/lang/invoke/VarHandle" ∧ (parseMethodDescriptor (yX10_getPhase).desc).map (fun d => d.parameters.length) = some 2 := by decide +kernel
theorem ax_168 : GoodIn BT (wsV RL 57 RX9 yX9_getDryness [.code yX9_getDryness cX9_getDryness 3 (some .int)]) := gi_V tw_597 tw_598 tw_599 tw_294 tw_600
theorem ax_169 : (yX9_getDryness).cls = RX9 ∧ (yX9_getDryness).cls ≠ "java/lang/invoke/MethodHandle" ∧ (yX9_getDryness).cls ≠ "java/lang/invoke/VarHandle" ∧ (parseMethodDescriptor (yX9_getDryness).desc).map (fun d => d.parameters.length) = some 2 := by decide +kernel
theorem ax_170 : GoodIn BT (va_wsS RL 200 yL_getDryness [.codeWith yL_getDryness cL_getDryness 5 (some .int) [(0, 10, 13, 13), (0, 10, 17, 45)]]) := gi_SW tw_601 tw_602 tw_306 tw_603
theorem ax_171 : (yL_getDryness).cls ≠ "java/lang/invoke/MethodHandle" ∧ (yL_getDryness).cls ≠ "java/lang/invoke/VarHandle" ∧ (parseMethodDescriptor (yL_getDryness).desc).map (fun d => d.parameters.length) = some 4 := by decide +kernel
theorem ax_172 : GoodIn BT (wsV RL 202 RX10 yX10_getDryness [.code yX10_getDryness cX10_getDryness 5 (some .int)]) := gi_V tw_604 tw_605 tw_606 tw_312 tw_607
theorem ax_173 : (yX10_getDryness).cls = RX10 ∧ (yX10_getDryness).cls ≠ "java/lang/invoke/MethodHandle" ∧ (yX10_getDryness).cls ≠ "java/lang/invoke/VarHandle" ∧ (parseMethodDescriptor (yX10_getDryness).desc).map (fun d => d.parameters.length) = some 2 := by decide +kernel
theorem ax_174 : GoodIn BT (wsV RL 60 RX9 yX9_stateTemperature [.code yX9_stateTemperature cX9_stateTemperature 3 (some .int)]) := gi_V tw_608 tw_609 tw_610 tw_294 tw_611
theorem ax_175 : (yX9_stateTemperature).cls = RX9 ∧ (yX9_stateTemperature).cls ≠ "java/lang/invoke/MethodHandle" ∧ (yX9_stateTemperature).cls ≠ "java/lang/invoke/VarHandle" ∧ (parseMethodDescriptor (yX9_stateTemperature).desc).map (fun d => d.parameters.length) = some 2 := by decide +kernel
theorem ax_176 : GoodIn BT (va_wsS RL 203 yL_stateTemperature [.codeWith yL_stateTemperature cL_stateTemperature 5 (some .int) [(0, 10, 13, 13), (0, 10, 17, 45)]]) := gi_SW tw_612 tw_613 tw_306 tw_614
theorem ax_177 : (yL_stateTemperature).cls ≠ "java/lang/invoke/MethodHandle" ∧ (yL_stateTemperature).cls ≠ "java/lang/invoke/VarHandle" ∧ (parseMethodDescriptor (yL_stateTemperature).desc).map (fun d => d.parameters.length) = some 4 := by decide +kernel
theorem ax_178 : GoodIn BT (wsV RL 205 RX10 yX10_stateTemperature [.code yX10_stateTemperature cX10_stateTemperature 3 (some .int)]) := gi_V tw_615 tw_616 tw_617 tw_312 tw_618
theorem ax_179 : (yX10_stateTemperature).cls = RX10 ∧ (yX10_stateTemperature).cls ≠ "java/lang/invoke/MethodHandle" ∧ (yX10_stateTemperature).cls ≠ "java/lang/invoke/VarHandle" ∧ (parseMethodDescriptor (yX10_stateTemperature).desc).map (fun d => d.parameters.length) = some 2 := by decide +kernel
theorem ax_180 : GoodIn BT (va_wsS RX9 182 yX3_isPart [.code yX3_isPart cX3_isPart 3 (some .boolean)]) := gi_S tw_620 tw_621 tw_189 tw_622
theorem ax_181 : (yX3_isPart).cls ≠ "java/lang/invoke/MethodHandle" ∧ (yX3_isPart).cls ≠ "java/lang/invoke/VarHandle" ∧ (parseMethodDescriptor (yX3_isPart).desc).map (fun d => d.parameters.length) = some 3 := by decide +kernel
theorem ax_182 : GoodIn BT (wsV RL 63 RX9 yX9_addPart [.code yX9_addPart cX9_addPart 4 (some .int)]) := gi_V tw_623 tw_624 tw_625 tw_294 tw_626
theorem ax_183 : (yX9_addPart).cls = RX9 ∧ (yX9_addPart).cls ≠ "java/lang/invoke/MethodHandle" ∧ (yX9_addPart).cls ≠ "java/lang/invoke/VarHandle" ∧ (parseMethodDescriptor (yX9_addPart).desc).map (fun d => d.parameters.length) = some 3 := by decide +kernel
theorem ax_184 : GoodIn BT (va_wsS RL 206 yL_addPart [.codeWith yL_addPart cL_addPart 6 (some .int) [(0, 12, 15, 13), (0, 12, 19, 15)]]) := gi_SW tw_627 tw_628 tw_306 tw_629
theorem ax_185 : (yL_addPart).cls ≠ "java/lang/invoke/MethodHandle" ∧ (yL_addPart).cls ≠ "java/lang/invoke/VarHandle" ∧ (parseMethodDescriptor (yL_addPart).desc).map (fun d => d.parameters.length) = some 5 := by decide +kernel
theorem ax_186 : GoodIn BT (wsV RJ0 335 RJ0 yJ0_coder_7d493 [.code yJ0_coder_7d493 cJ0_coder_7d493 1 (some .byte)]) := gi_V tw_633 tw_634 tw_635 tw_636 tw_637
theorem ax_187 : (yJ0_coder_7d493).cls = RJ0 ∧ (yJ0_coder_7d493).cls ≠ "java/lang/invoke/MethodHandle" ∧ (yJ0_coder_7d493).cls ≠ "java/lang/invoke/VarHandle" ∧ (parseMethodDescriptor (yJ0_coder_7d493).desc).map (fun d => d.parameters.length) = some 0 := by decide +kernel
theorem ax_188 : GoodIn BT (va_wsS RJ1 88 yJ1_canEncode_9a6ad [.code yJ1_canEncode_9a6ad cJ1_canEncode_9a6ad 1 (some .boolean)]) := gi_S tw_638 tw_639 tw_640 tw_641
theorem ax_189 : (yJ1_canEncode_9a6ad).cls ≠ "java/lang/invoke/MethodHandle" ∧ (yJ1_canEncode_9a6ad).cls ≠ "java/lang/invoke/VarHandle" ∧ (parseMethodDescriptor (yJ1_canEncode_9a6ad).desc).map (fun d => d.parameters.length) = some 1 := by decide +kernel
theorem ax_190 : GoodIn BT (va_wsS RJ1 95 yJ1_indexOfChar_4cfef [.code yJ1_indexOfChar_4cfef cJ1_indexOfChar_4cfef 6 (some .int)]) := gi_S tw_646 tw_647 tw_640 tw_648
theorem ax_191 : (yJ1_indexOfChar_4cfef).cls ≠ "java/lang/invoke/MethodHandle" ∧ (yJ1_indexOfChar_4cfef).cls ≠ "java/lang/invoke/VarHandle" ∧ (parseMethodDescriptor (yJ1_indexOfChar_4cfef).desc).map (fun d => d.parameters.length) = some 4 := by decide +kernel
theorem ax_192 : GoodIn BT (wsV RJ0 492 RJ0 yJ0_isLatin1_aae02 [.code yJ0_isLatin1_aae02 cJ0_isLatin1_aae02 1 (some .boolean)]) := gi_V tw_649 tw_650 tw_651 tw_636 tw_652
theorem ax_193 : (yJ0_isLatin1_aae02).cls = RJ0 ∧ (yJ0_isLatin1_aae02).cls ≠ "java/lang/invoke/MethodHandle" ∧ (yJ0_isLatin1_aae02).cls ≠ "java/lang/invoke/VarHandle" ∧ (parseMethodDescriptor (yJ0_isLatin1_aae02).desc).map (fun d => d.parameters.length) = some 0 := by decide +kernel
theorem ax_194 : GoodIn BT (wsV RJ0 505 RJ0 yJ0_length_8abf5 [.code yJ0_length_8abf5 cJ0_length_8abf5 1 (some .int)]) := gi_V tw_653 tw_654 tw_655 tw_636 tw_656
theorem ax_195 : (yJ0_length_8abf5).cls = RJ0 ∧ (yJ0_length_8abf5).cls ≠ "java/lang/invoke/MethodHandle" ∧ (yJ0_length_8abf5).cls ≠ "java/lang/invoke/VarHandle" ∧ (parseMethodDescriptor (yJ0_length_8abf5).desc).map (fun d => d.parameters.length) = some 0 := by decide +kernel
theorem ax_196 : GoodIn BT (va_wsS RJ0 637 yJ1_indexOf_4cfef [.code yJ1_indexOf_4cfef cJ1_indexOf_4cfef 4 (some .int)]) := gi_S tw_657 tw_658 tw_640 tw_659
theorem ax_197 : (yJ1_indexOf_4cfef).cls ≠ "java/lang/invoke/MethodHandle" ∧ (yJ1_indexOf_4cfef).cls ≠ "java/lang/invoke/VarHandle" ∧ (parseMethodDescriptor (yJ1_indexOf_4cfef).desc).map (fun d => d.parameters.length) = some 4 := by decide +kernel
theorem ax_198 : GoodIn BT (wsV RJ0 633 RJ0 yJ0_indexOf_7cf53 [.code yJ0_indexOf_7cf53 cJ0_indexOf_7cf53 3 (some .int)]) := gi_V tw_660 tw_661 tw_662 tw_636 tw_663
theorem ax_199 : (yJ0_indexOf_7cf53).cls = RJ0 ∧ (yJ0_indexOf_7cf53).cls ≠ "java/lang/invoke/MethodHandle" ∧ (yJ0_indexOf_7cf53).cls ≠ "java/lang/invoke/VarHandle" ∧ (parseMethodDescriptor (yJ0_indexOf_7cf53).desc).map (fun d => d.parameters.length) = some 2 := by decide +kernel
theorem ax_200 : GoodIn BT (wsV RX10 174 RJ0 yJ0_indexOf_0f7a4 [.code yJ0_indexOf_0f7a4 cJ0_indexOf_0f7a4 2 (some .int)]) := gi_V tw_664 tw_665 tw_666 tw_636 tw_667
theorem ax_201 : (yJ0_indexOf_0f7a4).cls = RJ0 ∧ (yJ0_indexOf_0f7a4).cls ≠ "java/lang/invoke/MethodHandle" ∧ (yJ0_indexOf_0f7a4).cls ≠ "java/lang/invoke/VarHandle" ∧ (parseMethodDescriptor (yJ0_indexOf_0f7a4).desc).map (fun d => d.parameters.length) = some 1 := by decide +kernel
theorem ax_202 : GoodIn BT (wsV RL 209 RX10 yX10_addPart [.code yX10_addPart cX10_addPart 5 (some .int)]) := gi_V tw_668 tw_669 tw_670 tw_312 tw_671
theorem ax_203 : (yX10_addPart).cls = RX10 ∧ (yX10_addPart).cls ≠ "java/lang/invoke/MethodHandle" ∧ (yX10_addPart).cls ≠ "java/lang/invoke/VarHandle" ∧ (parseMethodDescriptor (yX10_addPart).desc).map (fun d => d.parameters.length) = some 3 := by decide +kernel
theorem ax_204 : GoodIn BT (wsV RX3 50 RX3 yX3_isFull [.code yX3_isFull cX3_isFull 1 (some .boolean)]) := gi_V tw_672 tw_673 tw_674 tw_189 tw_675
theorem ax_205 : (yX3_isFull).cls = RX3 ∧ (yX3_isFull).cls ≠ "java/lang/invoke/MethodHandle" ∧ (yX3_isFull).cls ≠ "java/lang/invoke/VarHandle" ∧ (parseMethodDescriptor (yX3_isFull).desc).map (fun d => d.parameters.length) = some 0 := by decide +kernel
theorem ax_206 : GoodIn BT (wsV RX9 188 RX3 yX3_isFull [.code yX3_isFull cX3_isFull 1 (some .boolean)]) := gi_V tw_676 tw_673 tw_674 tw_189 tw_675
theorem ax_207 : GoodIn BT (wsV RX9 191 RX3 yX3_append [.code yX3_append cX3_append 4 (some .int)]) := gi_V tw_677 tw_678 tw_679 tw_189 tw_680
theorem ax_208 : (yX3_append).cls = RX3 ∧ (yX3_append).cls ≠ "java/lang/invoke/MethodHandle" ∧ (yX3_append).cls ≠ "java/lang/invoke/VarHandle" ∧ (parseMethodDescriptor (yX3_append).desc).map (fun d => d.parameters.length) = some 3 := by decide +kernel
theorem ax_209 : GoodIn BT (wsV RX9 194 RX3 yX3_removeAll [.code yX3_removeAll cX3_removeAll 2 (some .int)]) := gi_V tw_682 tw_683 tw_684 tw_189 tw_685
theorem ax_210 : (yX3_removeAll).cls = RX3 ∧ (yX3_removeAll).cls ≠ "java/lang/invoke/MethodHandle" ∧ (yX3_removeAll).cls ≠ "java/lang/invoke/VarHandle" ∧ (parseMethodDescriptor (yX3_removeAll).desc).map (fun d => d.parameters.length) = some 0 := by decide +kernel
theorem ax_211 : GoodIn BT (wsV RL 210 RX9 yX9_clearParts [.code yX9_clearParts cX9_clearParts 1 (some .int)]) := gi_V tw_686 tw_687 tw_688 tw_294 tw_689
theorem ax_212 : (yX9_clearParts).cls = RX9 ∧ (yX9_clearParts).cls ≠ "java/lang/invoke/MethodHandle" ∧ (yX9_clearParts).cls ≠ "java/lang/invoke/VarHandle" ∧ (parseMethodDescriptor (yX9_clearParts).desc).map (fun d => d.parameters.length) = some 0 := by decide +kernel
theorem ax_213 : GoodIn BT (va_wsF RX10 181 RJx4a65c (⟨RJxbd725, "clear", "()V"⟩ : MethodName) yJx4a65c_clear_da8c8 [.code yJx4a65c_clear_da8c8 cJx4a65c_clear_da8c8 4 none]) := gi_F tw_690 tw_691 tw_692 tw_245 tw_693
theorem ax_214 : ((⟨RJxbd725, "clear", "()V"⟩ : MethodName)).cls ≠ "java/lang/invoke/MethodHandle" ∧ ((⟨RJxbd725, "clear", "()V"⟩ : MethodName)).cls ≠ "java/lang/invoke/VarHandle" ∧ (parseMethodDescriptor ((⟨RJxbd725, "clear", "()V"⟩ : MethodName)).desc).map (fun d => d.parameters.length) = some 0 := by decide +kernel
theorem ax_215 : GoodIn BT (wsV RL 213 RX10 yX10_clearParts [.code yX10_clearParts cX10_clearParts 2 (some .int)]) := gi_V tw_699 tw_700 tw_701 tw_312 tw_702
theorem ax_216 : (yX10_clearParts).cls = RX10 ∧ (yX10_clearParts).cls ≠ "java/lang/invoke/MethodHandle" ∧ (yX10_clearParts).cls ≠ "java/lang/invoke/VarHandle" ∧ (parseMethodDescriptor (yX10_clearParts).desc).map (fun d => d.parameters.length) = some 0 := by decide +kernel
theorem ax_217 : GoodIn BT (wsV RL 67 RX9 yX9_solve [.code yX9_solve cX9_solve 4 (some .int)]) := gi_V tw_703 tw_704 tw_705 tw_294 tw_706
theorem ax_218 : (yX9_solve).cls = RX9 ∧ (yX9_solve).cls ≠ "java/lang/invoke/MethodHandle" ∧ (yX9_solve).cls ≠ "java/lang/invoke/VarHandle" ∧ (parseMethodDescriptor (yX9_solve).desc).map (fun d => d.parameters.length) = some 2 := by decide +kernel
theorem ax_219 : GoodIn BT (va_wsS RL 214 yL_solve [.codeWith yL_solve cL_solve 5 (some .int) [(0, 10, 13, 13), (0, 10, 17, 15), (0, 10, 21, 30), (0, 10, 25, 45)]]) := gi_SW tw_707 tw_708 tw_306 tw_709
theorem ax_220 : (yL_solve).cls ≠ "java/lang/invoke/MethodHandle" ∧ (yL_solve).cls ≠ "java/lang/invoke/VarHandle" ∧ (parseMethodDescriptor (yL_solve).desc).map (fun d => d.parameters.length) = some 4 := by decide +kernel
theorem ax_221 : GoodIn BT (wsV RL 216 RX10 yX10_solve [.code yX10_solve cX10_solve 12 (some .int)]) := gi_V tw_710 tw_711 tw_712 tw_312 tw_713
theorem ax_222 : (yX10_solve).cls = RX10 ∧ (yX10_solve).cls ≠ "java/lang/invoke/MethodHandle" ∧ (yX10_solve).cls ≠ "java/lang/invoke/VarHandle" ∧ (parseMethodDescriptor (yX10_solve).desc).map (fun d => d.parameters.length) = some 2 := by decide +kernel
theorem ax_223 : GoodIn BT (wsV RX9 201 RX3 yX3_isEmpty [.code yX3_isEmpty cX3_isEmpty 1 (some .boolean)]) := gi_V tw_714 tw_715 tw_716 tw_189 tw_717
theorem ax_224 : (yX3_isEmpty).cls = RX3 ∧ (yX3_isEmpty).cls ≠ "java/lang/invoke/MethodHandle" ∧ (yX3_isEmpty).cls ≠ "java/lang/invoke/VarHandle" ∧ (parseMethodDescriptor (yX3_isEmpty).desc).map (fun d => d.parameters.length) = some 0 := by decide +kernel
theorem ax_225 : ∀ w ∈ vx_atS RX9 91 "java/lang/IllegalStateException" ["java/lang/RuntimeException", "java/lang/Exception"], w ∈ BT := fun w hw => bt_tbl ((by decide +kernel : ∀ w ∈ vx_atS RX9 91 "java/lang/IllegalStateException" ["java/lang/RuntimeException", "java/lang/Exception"], w ∈ tables_1) w hw) ((by decide +kernel : ∀ w ∈ vx_atS RX9 91 "java/lang/IllegalStateException" ["java/lang/RuntimeException", "java/lang/Exception"], okw w = true) w hw)
theorem ax_226 : GoodIn BT (wsV RX9 241 RX9 yX9_requireSolved [.code yX9_requireSolved cX9_requireSolved 1 none]) := gi_V tw_723 tw_724 tw_725 tw_294 tw_726
theorem ax_227 : (yX9_requireSolved).cls = RX9 ∧ (yX9_requireSolved).cls ≠ "java/lang/invoke/MethodHandle" ∧ (yX9_requireSolved).cls ≠ "java/lang/invoke/VarHandle" ∧ (parseMethodDescriptor (yX9_requireSolved).desc).map (fun d => d.parameters.length) = some 0 := by decide +kernel
theorem ax_228 : GoodIn BT (wsV RX9 217 RX9 yX9_requireSolvedPart [.code yX9_requireSolvedPart cX9_requireSolvedPart 2 none]) := gi_V tw_727 tw_728 tw_729 tw_294 tw_730
theorem ax_229 : (yX9_requireSolvedPart).cls = RX9 ∧ (yX9_requireSolvedPart).cls ≠ "java/lang/invoke/MethodHandle" ∧ (yX9_requireSolvedPart).cls ≠ "java/lang/invoke/VarHandle" ∧ (parseMethodDescriptor (yX9_requireSolvedPart).desc).map (fun d => d.parameters.length) = some 1 := by decide +kernel
theorem ax_230 : GoodIn BT (wsV RL 70 RX9 yX9_partWork [.code yX9_partWork cX9_partWork 2 (some .int)]) := gi_V tw_731 tw_732 tw_733 tw_294 tw_734
theorem ax_231 : (yX9_partWork).cls = RX9 ∧ (yX9_partWork).cls ≠ "java/lang/invoke/MethodHandle" ∧ (yX9_partWork).cls ≠ "java/lang/invoke/VarHandle" ∧ (parseMethodDescriptor (yX9_partWork).desc).map (fun d => d.parameters.length) = some 1 := by decide +kernel
theorem ax_232 : GoodIn BT (va_wsS RL 217 yL_partWork [.codeWith yL_partWork cL_partWork 4 (some .int) [(0, 9, 12, 15), (0, 9, 15, 45)]]) := gi_SW tw_735 tw_736 tw_306 tw_737
theorem ax_233 : (yL_partWork).cls ≠ "java/lang/invoke/MethodHandle" ∧ (yL_partWork).cls ≠ "java/lang/invoke/VarHandle" ∧ (parseMethodDescriptor (yL_partWork).desc).map (fun d => d.parameters.length) = some 3 := by decide +kernel
theorem ax_234 : GoodIn BT (wsV RX10 204 RX10 yX10_told [.code yX10_told cX10_told 3 (some .int)]) := gi_V tw_738 tw_739 tw_740 tw_312 tw_741
theorem ax_235 : (yX10_told).cls = RX10 ∧ (yX10_told).cls ≠ "java/lang/invoke/MethodHandle" ∧ (yX10_told).cls ≠ "java/lang/invoke/VarHandle" ∧ (parseMethodDescriptor (yX10_told).desc).map (fun d => d.parameters.length) = some 2 := by decide +kernel
theorem ax_236 : GoodIn BT (wsV RL 219 RX10 yX10_partWork [.code yX10_partWork cX10_partWork 2 (some .int)]) := gi_V tw_742 tw_743 tw_744 tw_312 tw_745
theorem ax_237 : (yX10_partWork).cls = RX10 ∧ (yX10_partWork).cls ≠ "java/lang/invoke/MethodHandle" ∧ (yX10_partWork).cls ≠ "java/lang/invoke/VarHandle" ∧ (parseMethodDescriptor (yX10_partWork).desc).map (fun d => d.parameters.length) = some 1 := by decide +kernel
theorem ax_238 : GoodIn BT (wsV RL 73 RX9 yX9_partHeat [.code yX9_partHeat cX9_partHeat 2 (some .int)]) := gi_V tw_746 tw_747 tw_748 tw_294 tw_749
theorem ax_239 : (yX9_partHeat).cls = RX9 ∧ (yX9_partHeat).cls ≠ "java/lang/invoke/MethodHandle" ∧ (yX9_partHeat).cls ≠ "java/lang/invoke/VarHandle" ∧ (parseMethodDescriptor (yX9_partHeat).desc).map (fun d => d.parameters.length) = some 1 := by decide +kernel
theorem ax_240 : GoodIn BT (va_wsS RL 220 yL_partHeat [.codeWith yL_partHeat cL_partHeat 4 (some .int) [(0, 9, 12, 15), (0, 9, 15, 45)]]) := gi_SW tw_750 tw_751 tw_306 tw_752
theorem ax_241 : (yL_partHeat).cls ≠ "java/lang/invoke/MethodHandle" ∧ (yL_partHeat).cls ≠ "java/lang/invoke/VarHandle" ∧ (parseMethodDescriptor (yL_partHeat).desc).map (fun d => d.parameters.length) = some 3 := by decide +kernel
theorem ax_242 : GoodIn BT (wsV RL 222 RX10 yX10_partHeat [.code yX10_partHeat cX10_partHeat 2 (some .int)]) := gi_V tw_753 tw_754 tw_755 tw_312 tw_756
theorem ax_243 : (yX10_partHeat).cls = RX10 ∧ (yX10_partHeat).cls ≠ "java/lang/invoke/MethodHandle" ∧ (yX10_partHeat).cls ≠ "java/lang/invoke/VarHandle" ∧ (parseMethodDescriptor (yX10_partHeat).desc).map (fun d => d.parameters.length) = some 1 := by decide +kernel
theorem ax_244 : GoodIn BT (wsV RL 76 RX9 yX9_partLost [.code yX9_partLost cX9_partLost 2 (some .int)]) := gi_V tw_757 tw_758 tw_759 tw_294 tw_760
theorem ax_245 : (yX9_partLost).cls = RX9 ∧ (yX9_partLost).cls ≠ "java/lang/invoke/MethodHandle" ∧ (yX9_partLost).cls ≠ "java/lang/invoke/VarHandle" ∧ (parseMethodDescriptor (yX9_partLost).desc).map (fun d => d.parameters.length) = some 1 := by decide +kernel
theorem ax_246 : GoodIn BT (va_wsS RL 223 yL_partLost [.codeWith yL_partLost cL_partLost 4 (some .int) [(0, 9, 12, 15), (0, 9, 15, 45)]]) := gi_SW tw_761 tw_762 tw_306 tw_763
theorem ax_247 : (yL_partLost).cls ≠ "java/lang/invoke/MethodHandle" ∧ (yL_partLost).cls ≠ "java/lang/invoke/VarHandle" ∧ (parseMethodDescriptor (yL_partLost).desc).map (fun d => d.parameters.length) = some 3 := by decide +kernel
theorem ax_248 : GoodIn BT (wsV RL 225 RX10 yX10_partLost [.code yX10_partLost cX10_partLost 2 (some .int)]) := gi_V tw_764 tw_765 tw_766 tw_312 tw_767
theorem ax_249 : (yX10_partLost).cls = RX10 ∧ (yX10_partLost).cls ≠ "java/lang/invoke/MethodHandle" ∧ (yX10_partLost).cls ≠ "java/lang/invoke/VarHandle" ∧ (parseMethodDescriptor (yX10_partLost).desc).map (fun d => d.parameters.length) = some 1 := by decide +kernel
theorem ax_250 : GoodIn BT (wsV RL 79 RX9 yX9_pressureAhead [.code yX9_pressureAhead cX9_pressureAhead 2 (some .int)]) := gi_V tw_768 tw_769 tw_770 tw_294 tw_771
theorem ax_251 : (yX9_pressureAhead).cls = RX9 ∧ (yX9_pressureAhead).cls ≠ "java/lang/invoke/MethodHandle" ∧ (yX9_pressureAhead).cls ≠ "java/lang/invoke/VarHandle" ∧ (parseMethodDescriptor (yX9_pressureAhead).desc).map (fun d => d.parameters.length) = some 1 := by decide +kernel
theorem ax_252 : GoodIn BT (va_wsS RL 226 yL_pressureAhead [.codeWith yL_pressureAhead cL_pressureAhead 4 (some .int) [(0, 9, 12, 15), (0, 9, 15, 45)]]) := gi_SW tw_772 tw_773 tw_306 tw_774
theorem ax_253 : (yL_pressureAhead).cls ≠ "java/lang/invoke/MethodHandle" ∧ (yL_pressureAhead).cls ≠ "java/lang/invoke/VarHandle" ∧ (parseMethodDescriptor (yL_pressureAhead).desc).map (fun d => d.parameters.length) = some 3 := by decide +kernel
theorem ax_254 : GoodIn BT (wsV RL 228 RX10 yX10_pressureAhead [.code yX10_pressureAhead cX10_pressureAhead 2 (some .int)]) := gi_V tw_775 tw_776 tw_777 tw_312 tw_778
theorem ax_255 : (yX10_pressureAhead).cls = RX10 ∧ (yX10_pressureAhead).cls ≠ "java/lang/invoke/MethodHandle" ∧ (yX10_pressureAhead).cls ≠ "java/lang/invoke/VarHandle" ∧ (parseMethodDescriptor (yX10_pressureAhead).desc).map (fun d => d.parameters.length) = some 1 := by decide +kernel
theorem ax_256 : GoodIn BT (wsV RL 82 RX9 yX9_heatAhead [.code yX9_heatAhead cX9_heatAhead 2 (some .int)]) := gi_V tw_779 tw_780 tw_781 tw_294 tw_782
theorem ax_257 : (yX9_heatAhead).cls = RX9 ∧ (yX9_heatAhead).cls ≠ "java/lang/invoke/MethodHandle" ∧ (yX9_heatAhead).cls ≠ "java/lang/invoke/VarHandle" ∧ (parseMethodDescriptor (yX9_heatAhead).desc).map (fun d => d.parameters.length) = some 1 := by decide +kernel
theorem ax_258 : GoodIn BT (va_wsS RL 229 yL_heatAhead [.codeWith yL_heatAhead cL_heatAhead 4 (some .int) [(0, 9, 12, 15), (0, 9, 15, 45)]]) := gi_SW tw_783 tw_784 tw_306 tw_785
theorem ax_259 : (yL_heatAhead).cls ≠ "java/lang/invoke/MethodHandle" ∧ (yL_heatAhead).cls ≠ "java/lang/invoke/VarHandle" ∧ (parseMethodDescriptor (yL_heatAhead).desc).map (fun d => d.parameters.length) = some 3 := by decide +kernel
theorem ax_260 : GoodIn BT (wsV RL 231 RX10 yX10_heatAhead [.code yX10_heatAhead cX10_heatAhead 2 (some .int)]) := gi_V tw_786 tw_787 tw_788 tw_312 tw_789
theorem ax_261 : (yX10_heatAhead).cls = RX10 ∧ (yX10_heatAhead).cls ≠ "java/lang/invoke/MethodHandle" ∧ (yX10_heatAhead).cls ≠ "java/lang/invoke/VarHandle" ∧ (parseMethodDescriptor (yX10_heatAhead).desc).map (fun d => d.parameters.length) = some 1 := by decide +kernel
theorem ax_262 : GoodIn BT (wsV RL 85 RX9 yX9_plantWork [.code yX9_plantWork cX9_plantWork 1 (some .int)]) := gi_V tw_790 tw_791 tw_792 tw_294 tw_793
theorem ax_263 : (yX9_plantWork).cls = RX9 ∧ (yX9_plantWork).cls ≠ "java/lang/invoke/MethodHandle" ∧ (yX9_plantWork).cls ≠ "java/lang/invoke/VarHandle" ∧ (parseMethodDescriptor (yX9_plantWork).desc).map (fun d => d.parameters.length) = some 0 := by decide +kernel
theorem ax_264 : GoodIn BT (va_wsS RL 232 yL_plantWork [.codeWith yL_plantWork cL_plantWork 3 (some .int) [(0, 8, 11, 15)]]) := gi_SW tw_794 tw_795 tw_306 tw_796
theorem ax_265 : (yL_plantWork).cls ≠ "java/lang/invoke/MethodHandle" ∧ (yL_plantWork).cls ≠ "java/lang/invoke/VarHandle" ∧ (parseMethodDescriptor (yL_plantWork).desc).map (fun d => d.parameters.length) = some 2 := by decide +kernel
theorem ax_266 : GoodIn BT (wsV RL 235 RX10 yX10_plantWork [.code yX10_plantWork cX10_plantWork 4 (some .int)]) := gi_V tw_797 tw_798 tw_799 tw_312 tw_800
theorem ax_267 : (yX10_plantWork).cls = RX10 ∧ (yX10_plantWork).cls ≠ "java/lang/invoke/MethodHandle" ∧ (yX10_plantWork).cls ≠ "java/lang/invoke/VarHandle" ∧ (parseMethodDescriptor (yX10_plantWork).desc).map (fun d => d.parameters.length) = some 0 := by decide +kernel
theorem ax_268 : GoodIn BT (wsV RL 89 RX9 yX9_setGas [.code yX9_setGas cX9_setGas 6 (some .int)]) := gi_V tw_801 tw_802 tw_803 tw_294 tw_804
theorem ax_269 : (yX9_setGas).cls = RX9 ∧ (yX9_setGas).cls ≠ "java/lang/invoke/MethodHandle" ∧ (yX9_setGas).cls ≠ "java/lang/invoke/VarHandle" ∧ (parseMethodDescriptor (yX9_setGas).desc).map (fun d => d.parameters.length) = some 3 := by decide +kernel
theorem ax_270 : GoodIn BT (va_wsS RL 236 yL_setGas [.codeWith yL_setGas cL_setGas 6 (some .int) [(0, 12, 15, 13)]]) := gi_SW tw_805 tw_806 tw_306 tw_807
theorem ax_271 : (yL_setGas).cls ≠ "java/lang/invoke/MethodHandle" ∧ (yL_setGas).cls ≠ "java/lang/invoke/VarHandle" ∧ (parseMethodDescriptor (yL_setGas).desc).map (fun d => d.parameters.length) = some 5 := by decide +kernel
theorem ax_272 : GoodIn BT (wsV RL 238 RX10 yX10_setGas [.code yX10_setGas cX10_setGas 5 (some .int)]) := gi_V tw_809 tw_810 tw_811 tw_312 tw_812
theorem ax_273 : (yX10_setGas).cls = RX10 ∧ (yX10_setGas).cls ≠ "java/lang/invoke/MethodHandle" ∧ (yX10_setGas).cls ≠ "java/lang/invoke/VarHandle" ∧ (parseMethodDescriptor (yX10_setGas).desc).map (fun d => d.parameters.length) = some 3 := by decide +kernel
theorem ax_274 : GoodIn BT (wsV RX9 247 RX1 yX1_fill [.code yX1_fill cX1_fill 4 none]) := gi_V tw_813 tw_120 tw_121 tw_122 tw_123
theorem ax_275 : GoodIn BT (wsV RX8 49 RX8 yX8_digitAt [.code yX8_digitAt cX8_digitAt 2 (some .long)]) := gi_V tw_814 tw_815 tw_816 tw_25 tw_817
theorem ax_276 : (yX8_digitAt).cls = RX8 ∧ (yX8_digitAt).cls ≠ "java/lang/invoke/MethodHandle" ∧ (yX8_digitAt).cls ≠ "java/lang/invoke/VarHandle" ∧ (parseMethodDescriptor (yX8_digitAt).desc).map (fun d => d.parameters.length) = some 1 := by decide +kernel
theorem ax_277 : GoodIn BT (va_wsS RX9 250 yX1_isStroke [.code yX1_isStroke cX1_isStroke 2 (some .boolean)]) := gi_S tw_818 tw_819 tw_122 tw_820
theorem ax_278 : (yX1_isStroke).cls ≠ "java/lang/invoke/MethodHandle" ∧ (yX1_isStroke).cls ≠ "java/lang/invoke/VarHandle" ∧ (parseMethodDescriptor (yX1_isStroke).desc).map (fun d => d.parameters.length) = some 2 := by decide +kernel
theorem ax_279 : GoodIn BT (va_wsS RX9 256 yX1_needsBody [.code yX1_needsBody cX1_needsBody 1 (some .boolean)]) := gi_S tw_821 tw_822 tw_122 tw_823
theorem ax_280 : (yX1_needsBody).cls ≠ "java/lang/invoke/MethodHandle" ∧ (yX1_needsBody).cls ≠ "java/lang/invoke/VarHandle" ∧ (parseMethodDescriptor (yX1_needsBody).desc).map (fun d => d.parameters.length) = some 1 := by decide +kernel
theorem ax_281 : GoodIn BT (wsV RL 92 RX9 yX9_addStroke [.code yX9_addStroke cX9_addStroke 4 (some .int)]) := gi_V tw_824 tw_825 tw_826 tw_294 tw_827
theorem ax_282 : (yX9_addStroke).cls = RX9 ∧ (yX9_addStroke).cls ≠ "java/lang/invoke/MethodHandle" ∧ (yX9_addStroke).cls ≠ "java/lang/invoke/VarHandle" ∧ (parseMethodDescriptor (yX9_addStroke).desc).map (fun d => d.parameters.length) = some 3 := by decide +kernel
theorem ax_283 : GoodIn BT (va_wsS RL 239 yL_addStroke [.codeWith yL_addStroke cL_addStroke 6 (some .int) [(0, 12, 15, 13), (0, 12, 19, 21), (0, 12, 23, 15)]]) := gi_SW tw_828 tw_829 tw_306 tw_830
theorem ax_284 : (yL_addStroke).cls ≠ "java/lang/invoke/MethodHandle" ∧ (yL_addStroke).cls ≠ "java/lang/invoke/VarHandle" ∧ (parseMethodDescriptor (yL_addStroke).desc).map (fun d => d.parameters.length) = some 5 := by decide +kernel
theorem ax_285 : GoodIn BT (wsV RL 241 RX10 yX10_addStroke [.code yX10_addStroke cX10_addStroke 4 (some .int)]) := gi_V tw_831 tw_832 tw_833 tw_312 tw_834
theorem ax_286 : (yX10_addStroke).cls = RX10 ∧ (yX10_addStroke).cls ≠ "java/lang/invoke/MethodHandle" ∧ (yX10_addStroke).cls ≠ "java/lang/invoke/VarHandle" ∧ (parseMethodDescriptor (yX10_addStroke).desc).map (fun d => d.parameters.length) = some 3 := by decide +kernel
theorem ax_287 : GoodIn BT (wsV RX1 70 RX1 yX1_isFull [.code yX1_isFull cX1_isFull 1 (some .boolean)]) := gi_V tw_836 tw_837 tw_838 tw_122 tw_839
theorem ax_288 : (yX1_isFull).cls = RX1 ∧ (yX1_isFull).cls ≠ "java/lang/invoke/MethodHandle" ∧ (yX1_isFull).cls ≠ "java/lang/invoke/VarHandle" ∧ (parseMethodDescriptor (yX1_isFull).desc).map (fun d => d.parameters.length) = some 0 := by decide +kernel
theorem ax_289 : GoodIn BT (va_wsS RX1 74 yX1_needsBody [.code yX1_needsBody cX1_needsBody 1 (some .boolean)]) := gi_S tw_840 tw_822 tw_122 tw_823
theorem ax_290 : GoodIn BT (wsV RX9 260 RX1 yX1_isFull [.code yX1_isFull cX1_isFull 1 (some .boolean)]) := gi_V tw_841 tw_837 tw_838 tw_122 tw_839
theorem ax_291 : GoodIn BT (wsV RX9 263 RX1 yX1_append [.code yX1_append cX1_append 4 (some .int)]) := gi_V tw_842 tw_843 tw_844 tw_122 tw_845
theorem ax_292 : (yX1_append).cls = RX1 ∧ (yX1_append).cls ≠ "java/lang/invoke/MethodHandle" ∧ (yX1_append).cls ≠ "java/lang/invoke/VarHandle" ∧ (parseMethodDescriptor (yX1_append).desc).map (fun d => d.parameters.length) = some 3 := by decide +kernel
theorem ax_293 : GoodIn BT (wsV RX9 264 RX1 yX1_removeAll [.code yX1_removeAll cX1_removeAll 2 (some .int)]) := gi_V tw_846 tw_847 tw_848 tw_122 tw_849
theorem ax_294 : (yX1_removeAll).cls = RX1 ∧ (yX1_removeAll).cls ≠ "java/lang/invoke/MethodHandle" ∧ (yX1_removeAll).cls ≠ "java/lang/invoke/VarHandle" ∧ (parseMethodDescriptor (yX1_removeAll).desc).map (fun d => d.parameters.length) = some 0 := by decide +kernel
theorem ax_295 : GoodIn BT (wsV RL 242 RX9 yX9_clearStrokes [.code yX9_clearStrokes cX9_clearStrokes 1 (some .int)]) := gi_V tw_850 tw_851 tw_852 tw_294 tw_853
theorem ax_296 : (yX9_clearStrokes).cls = RX9 ∧ (yX9_clearStrokes).cls ≠ "java/lang/invoke/MethodHandle" ∧ (yX9_clearStrokes).cls ≠ "java/lang/invoke/VarHandle" ∧ (parseMethodDescriptor (yX9_clearStrokes).desc).map (fun d => d.parameters.length) = some 0 := by decide +kernel
theorem ax_297 : GoodIn BT (wsV RL 245 RX10 yX10_clearStrokes [.code yX10_clearStrokes cX10_clearStrokes 2 (some .int)]) := gi_V tw_854 tw_855 tw_856 tw_312 tw_857
theorem ax_298 : (yX10_clearStrokes).cls = RX10 ∧ (yX10_clearStrokes).cls ≠ "java/lang/invoke/MethodHandle" ∧ (yX10_clearStrokes).cls ≠ "java/lang/invoke/VarHandle" ∧ (parseMethodDescriptor (yX10_clearStrokes).desc).map (fun d => d.parameters.length) = some 0 := by decide +kernel
theorem ax_299 : GoodIn BT (wsV RL 95 RX9 yX9_runCycles [.code yX9_runCycles cX9_runCycles 6 (some .int)]) := gi_V tw_858 tw_859 tw_860 tw_294 tw_861
theorem ax_300 : (yX9_runCycles).cls = RX9 ∧ (yX9_runCycles).cls ≠ "java/lang/invoke/MethodHandle" ∧ (yX9_runCycles).cls ≠ "java/lang/invoke/VarHandle" ∧ (parseMethodDescriptor (yX9_runCycles).desc).map (fun d => d.parameters.length) = some 1 := by decide +kernel
theorem ax_301 : GoodIn BT (va_wsS RL 246 yL_runCycles [.codeWith yL_runCycles cL_runCycles 4 (some .int) [(0, 9, 12, 13), (0, 9, 15, 15)]]) := gi_SW tw_862 tw_863 tw_306 tw_864
theorem ax_302 : (yL_runCycles).cls ≠ "java/lang/invoke/MethodHandle" ∧ (yL_runCycles).cls ≠ "java/lang/invoke/VarHandle" ∧ (parseMethodDescriptor (yL_runCycles).desc).map (fun d => d.parameters.length) = some 3 := by decide +kernel
theorem ax_303 : GoodIn BT (wsV RL 248 RX10 yX10_runCycles [.code yX10_runCycles cX10_runCycles 3 (some .int)]) := gi_V tw_866 tw_867 tw_868 tw_312 tw_869
theorem ax_304 : (yX10_runCycles).cls = RX10 ∧ (yX10_runCycles).cls ≠ "java/lang/invoke/MethodHandle" ∧ (yX10_runCycles).cls ≠ "java/lang/invoke/VarHandle" ∧ (parseMethodDescriptor (yX10_runCycles).desc).map (fun d => d.parameters.length) = some 1 := by decide +kernel
theorem ax_305 : GoodIn BT (wsV RX9 265 RX1 yX1_isEmpty [.code yX1_isEmpty cX1_isEmpty 1 (some .boolean)]) := gi_V tw_870 tw_871 tw_872 tw_122 tw_873
theorem ax_306 : (yX1_isEmpty).cls = RX1 ∧ (yX1_isEmpty).cls ≠ "java/lang/invoke/MethodHandle" ∧ (yX1_isEmpty).cls ≠ "java/lang/invoke/VarHandle" ∧ (parseMethodDescriptor (yX1_isEmpty).desc).map (fun d => d.parameters.length) = some 0 := by decide +kernel
theorem ax_307 : GoodIn BT (wsV RL 98 RX9 yX9_wasEnded [.code yX9_wasEnded cX9_wasEnded 1 (some .boolean)]) := gi_V tw_875 tw_876 tw_877 tw_294 tw_878
theorem ax_308 : (yX9_wasEnded).cls = RX9 ∧ (yX9_wasEnded).cls ≠ "java/lang/invoke/MethodHandle" ∧ (yX9_wasEnded).cls ≠ "java/lang/invoke/VarHandle" ∧ (parseMethodDescriptor (yX9_wasEnded).desc).map (fun d => d.parameters.length) = some 0 := by decide +kernel
theorem ax_309 : GoodIn BT (va_wsS RL 249 yL_wasEnded [.codeWith yL_wasEnded cL_wasEnded 3 (some .int) [(0, 15, 18, 15)]]) := gi_SW tw_879 tw_880 tw_306 tw_881
theorem ax_310 : (yL_wasEnded).cls ≠ "java/lang/invoke/MethodHandle" ∧ (yL_wasEnded).cls ≠ "java/lang/invoke/VarHandle" ∧ (parseMethodDescriptor (yL_wasEnded).desc).map (fun d => d.parameters.length) = some 2 := by decide +kernel
theorem ax_311 : GoodIn BT (wsV RL 251 RX10 yX10_wasEnded [.code yX10_wasEnded cX10_wasEnded 1 (some .boolean)]) := gi_V tw_883 tw_884 tw_885 tw_312 tw_886
theorem ax_312 : (yX10_wasEnded).cls = RX10 ∧ (yX10_wasEnded).cls ≠ "java/lang/invoke/MethodHandle" ∧ (yX10_wasEnded).cls ≠ "java/lang/invoke/VarHandle" ∧ (parseMethodDescriptor (yX10_wasEnded).desc).map (fun d => d.parameters.length) = some 0 := by decide +kernel
theorem ax_313 : GoodIn BT (wsV RL 252 RX9 yX9_gasEnergy [.code yX9_gasEnergy cX9_gasEnergy 1 (some .int)]) := gi_V tw_887 tw_888 tw_889 tw_294 tw_890
theorem ax_314 : (yX9_gasEnergy).cls = RX9 ∧ (yX9_gasEnergy).cls ≠ "java/lang/invoke/MethodHandle" ∧ (yX9_gasEnergy).cls ≠ "java/lang/invoke/VarHandle" ∧ (parseMethodDescriptor (yX9_gasEnergy).desc).map (fun d => d.parameters.length) = some 0 := by decide +kernel
theorem ax_315 : GoodIn BT (wsV RL 255 RX10 yX10_gasEnergy [.code yX10_gasEnergy cX10_gasEnergy 1 (some .int)]) := gi_V tw_891 tw_892 tw_893 tw_312 tw_894
theorem ax_316 : (yX10_gasEnergy).cls = RX10 ∧ (yX10_gasEnergy).cls ≠ "java/lang/invoke/MethodHandle" ∧ (yX10_gasEnergy).cls ≠ "java/lang/invoke/VarHandle" ∧ (parseMethodDescriptor (yX10_gasEnergy).desc).map (fun d => d.parameters.length) = some 0 := by decide +kernel
theorem ax_317 : GoodIn BT (wsV RX8 41 RX8 yX8_set [.code yX8_set cX8_set 3 none]) := gi_V tw_895 tw_103 tw_104 tw_25 tw_105
theorem ax_318 : GoodIn BT (wsV RX8 56 RX8 yX8_setSum [.code yX8_setSum cX8_setSum 10 none]) := gi_V tw_896 tw_897 tw_898 tw_25 tw_899
theorem ax_319 : (yX8_setSum).cls = RX8 ∧ (yX8_setSum).cls ≠ "java/lang/invoke/MethodHandle" ∧ (yX8_setSum).cls ≠ "java/lang/invoke/VarHandle" ∧ (parseMethodDescriptor (yX8_setSum).desc).map (fun d => d.parameters.length) = some 3 := by decide +kernel
theorem ax_320 : GoodIn BT (wsV RX1 78 RX8 yX8_setTimes [.code yX8_setTimes cX8_setTimes 3 none]) := gi_V tw_900 tw_901 tw_902 tw_25 tw_903
theorem ax_321 : (yX8_setTimes).cls = RX8 ∧ (yX8_setTimes).cls ≠ "java/lang/invoke/MethodHandle" ∧ (yX8_setTimes).cls ≠ "java/lang/invoke/VarHandle" ∧ (parseMethodDescriptor (yX8_setTimes).desc).map (fun d => d.parameters.length) = some 2 := by decide +kernel
theorem ax_322 : GoodIn BT (wsV RX1 82 RX8 yX8_setQuotient [.code yX8_setQuotient cX8_setQuotient 9 none]) := gi_V tw_904 tw_905 tw_906 tw_25 tw_907
theorem ax_323 : (yX8_setQuotient).cls = RX8 ∧ (yX8_setQuotient).cls ≠ "java/lang/invoke/MethodHandle" ∧ (yX8_setQuotient).cls ≠ "java/lang/invoke/VarHandle" ∧ (parseMethodDescriptor (yX8_setQuotient).desc).map (fun d => d.parameters.length) = some 2 := by decide +kernel
theorem ax_324 : GoodIn BT (wsV RX9 287 RX1 yX1_pressureNow [.code yX1_pressureNow cX1_pressureNow 1 (some (.object "Cycleworks$Whole"))]) := gi_V tw_908 tw_909 tw_910 tw_122 tw_911
theorem ax_325 : (yX1_pressureNow).cls = RX1 ∧ (yX1_pressureNow).cls ≠ "java/lang/invoke/MethodHandle" ∧ (yX1_pressureNow).cls ≠ "java/lang/invoke/VarHandle" ∧ (parseMethodDescriptor (yX1_pressureNow).desc).map (fun d => d.parameters.length) = some 0 := by decide +kernel
theorem ax_326 : GoodIn BT (wsV RL 256 RX9 yX9_gasPressure [.code yX9_gasPressure cX9_gasPressure 1 (some .int)]) := gi_V tw_912 tw_913 tw_914 tw_294 tw_915
theorem ax_327 : (yX9_gasPressure).cls = RX9 ∧ (yX9_gasPressure).cls ≠ "java/lang/invoke/MethodHandle" ∧ (yX9_gasPressure).cls ≠ "java/lang/invoke/VarHandle" ∧ (parseMethodDescriptor (yX9_gasPressure).desc).map (fun d => d.parameters.length) = some 0 := by decide +kernel
theorem ax_328 : GoodIn BT (wsV RX10 211 RX10 yX10_push [.code yX10_push cX10_push 1 (some .int)]) := gi_V tw_916 tw_917 tw_918 tw_312 tw_919
theorem ax_329 : (yX10_push).cls = RX10 ∧ (yX10_push).cls ≠ "java/lang/invoke/MethodHandle" ∧ (yX10_push).cls ≠ "java/lang/invoke/VarHandle" ∧ (parseMethodDescriptor (yX10_push).desc).map (fun d => d.parameters.length) = some 0 := by decide +kernel
theorem ax_330 : GoodIn BT (wsV RL 259 RX10 yX10_gasPressure [.code yX10_gasPressure cX10_gasPressure 1 (some .int)]) := gi_V tw_920 tw_921 tw_922 tw_312 tw_923
theorem ax_331 : (yX10_gasPressure).cls = RX10 ∧ (yX10_gasPressure).cls ≠ "java/lang/invoke/MethodHandle" ∧ (yX10_gasPressure).cls ≠ "java/lang/invoke/VarHandle" ∧ (parseMethodDescriptor (yX10_gasPressure).desc).map (fun d => d.parameters.length) = some 0 := by decide +kernel
theorem ax_332 : GoodIn BT (wsV RL 260 RX9 yX9_gasVolume [.code yX9_gasVolume cX9_gasVolume 1 (some .int)]) := gi_V tw_925 tw_926 tw_927 tw_294 tw_928
theorem ax_333 : (yX9_gasVolume).cls = RX9 ∧ (yX9_gasVolume).cls ≠ "java/lang/invoke/MethodHandle" ∧ (yX9_gasVolume).cls ≠ "java/lang/invoke/VarHandle" ∧ (parseMethodDescriptor (yX9_gasVolume).desc).map (fun d => d.parameters.length) = some 0 := by decide +kernel
theorem ax_334 : GoodIn BT (wsV RL 263 RX10 yX10_gasVolume [.code yX10_gasVolume cX10_gasVolume 1 (some .int)]) := gi_V tw_929 tw_930 tw_931 tw_312 tw_932
theorem ax_335 : (yX10_gasVolume).cls = RX10 ∧ (yX10_gasVolume).cls ≠ "java/lang/invoke/MethodHandle" ∧ (yX10_gasVolume).cls ≠ "java/lang/invoke/VarHandle" ∧ (parseMethodDescriptor (yX10_gasVolume).desc).map (fun d => d.parameters.length) = some 0 := by decide +kernel
theorem ax_336 : GoodIn BT (wsV RX9 294 RX1 yX1_hasMark [.code yX1_hasMark cX1_hasMark 2 (some .boolean)]) := gi_V tw_933 tw_934 tw_935 tw_122 tw_936
theorem ax_337 : (yX1_hasMark).cls = RX1 ∧ (yX1_hasMark).cls ≠ "java/lang/invoke/MethodHandle" ∧ (yX1_hasMark).cls ≠ "java/lang/invoke/VarHandle" ∧ (parseMethodDescriptor (yX1_hasMark).desc).map (fun d => d.parameters.length) = some 1 := by decide +kernel
theorem ax_338 : GoodIn BT (wsV RL 102 RX9 yX9_cardAt [.code yX9_cardAt cX9_cardAt 2 (some .int)]) := gi_V tw_937 tw_938 tw_939 tw_294 tw_940
theorem ax_339 : (yX9_cardAt).cls = RX9 ∧ (yX9_cardAt).cls ≠ "java/lang/invoke/MethodHandle" ∧ (yX9_cardAt).cls ≠ "java/lang/invoke/VarHandle" ∧ (parseMethodDescriptor (yX9_cardAt).desc).map (fun d => d.parameters.length) = some 1 := by decide +kernel
theorem ax_340 : GoodIn BT (va_wsS RL 264 yL_cardAt [.codeWith yL_cardAt cL_cardAt 4 (some .int) [(0, 9, 12, 45)]]) := gi_SW tw_941 tw_942 tw_306 tw_943
theorem ax_341 : (yL_cardAt).cls ≠ "java/lang/invoke/MethodHandle" ∧ (yL_cardAt).cls ≠ "java/lang/invoke/VarHandle" ∧ (parseMethodDescriptor (yL_cardAt).desc).map (fun d => d.parameters.length) = some 3 := by decide +kernel
theorem ax_342 : GoodIn BT (wsV RL 266 RX10 yX10_cardAt [.code yX10_cardAt cX10_cardAt 2 (some .int)]) := gi_V tw_944 tw_945 tw_946 tw_312 tw_947
theorem ax_343 : (yX10_cardAt).cls = RX10 ∧ (yX10_cardAt).cls ≠ "java/lang/invoke/MethodHandle" ∧ (yX10_cardAt).cls ≠ "java/lang/invoke/VarHandle" ∧ (parseMethodDescriptor (yX10_cardAt).desc).map (fun d => d.parameters.length) = some 1 := by decide +kernel
theorem ax_344 : GoodIn BT (wsV RL 105 RX9 yX9_addStream [.code yX9_addStream cX9_addStream 4 (some .int)]) := gi_V tw_948 tw_949 tw_950 tw_294 tw_951
theorem ax_345 : (yX9_addStream).cls = RX9 ∧ (yX9_addStream).cls ≠ "java/lang/invoke/MethodHandle" ∧ (yX9_addStream).cls ≠ "java/lang/invoke/VarHandle" ∧ (parseMethodDescriptor (yX9_addStream).desc).map (fun d => d.parameters.length) = some 3 := by decide +kernel
theorem ax_346 : GoodIn BT (va_wsS RL 267 yL_addStream [.codeWith yL_addStream cL_addStream 6 (some .int) [(0, 12, 15, 13), (0, 12, 19, 15)]]) := gi_SW tw_952 tw_953 tw_306 tw_954
theorem ax_347 : (yL_addStream).cls ≠ "java/lang/invoke/MethodHandle" ∧ (yL_addStream).cls ≠ "java/lang/invoke/VarHandle" ∧ (parseMethodDescriptor (yL_addStream).desc).map (fun d => d.parameters.length) = some 5 := by decide +kernel
theorem ax_348 : GoodIn BT (wsV RL 269 RX10 yX10_addStream [.code yX10_addStream cX10_addStream 4 (some .int)]) := gi_V tw_955 tw_956 tw_957 tw_312 tw_958
theorem ax_349 : (yX10_addStream).cls = RX10 ∧ (yX10_addStream).cls ≠ "java/lang/invoke/MethodHandle" ∧ (yX10_addStream).cls ≠ "java/lang/invoke/VarHandle" ∧ (parseMethodDescriptor (yX10_addStream).desc).map (fun d => d.parameters.length) = some 3 := by decide +kernel
theorem ax_350 : GoodIn BT (wsV RX5 25 RX5 yX5_isFull [.code yX5_isFull cX5_isFull 1 (some .boolean)]) := gi_V tw_959 tw_960 tw_961 tw_202 tw_962
theorem ax_351 : (yX5_isFull).cls = RX5 ∧ (yX5_isFull).cls ≠ "java/lang/invoke/MethodHandle" ∧ (yX5_isFull).cls ≠ "java/lang/invoke/VarHandle" ∧ (parseMethodDescriptor (yX5_isFull).desc).map (fun d => d.parameters.length) = some 0 := by decide +kernel
theorem ax_352 : GoodIn BT (wsV RX9 303 RX5 yX5_isFull [.code yX5_isFull cX5_isFull 1 (some .boolean)]) := gi_V tw_963 tw_960 tw_961 tw_202 tw_962
theorem ax_353 : GoodIn BT (wsV RX9 306 RX5 yX5_append [.code yX5_append cX5_append 4 (some .int)]) := gi_V tw_964 tw_965 tw_966 tw_202 tw_967
theorem ax_354 : (yX5_append).cls = RX5 ∧ (yX5_append).cls ≠ "java/lang/invoke/MethodHandle" ∧ (yX5_append).cls ≠ "java/lang/invoke/VarHandle" ∧ (parseMethodDescriptor (yX5_append).desc).map (fun d => d.parameters.length) = some 3 := by decide +kernel
theorem ax_355 : GoodIn BT (wsV RX9 309 RX5 yX5_removeAll [.code yX5_removeAll cX5_removeAll 2 (some .int)]) := gi_V tw_968 tw_969 tw_970 tw_202 tw_971
theorem ax_356 : (yX5_removeAll).cls = RX5 ∧ (yX5_removeAll).cls ≠ "java/lang/invoke/MethodHandle" ∧ (yX5_removeAll).cls ≠ "java/lang/invoke/VarHandle" ∧ (parseMethodDescriptor (yX5_removeAll).desc).map (fun d => d.parameters.length) = some 0 := by decide +kernel
theorem ax_357 : GoodIn BT (wsV RL 270 RX9 yX9_clearStreams [.code yX9_clearStreams cX9_clearStreams 1 (some .int)]) := gi_V tw_972 tw_973 tw_974 tw_294 tw_975
theorem ax_358 : (yX9_clearStreams).cls = RX9 ∧ (yX9_clearStreams).cls ≠ "java/lang/invoke/MethodHandle" ∧ (yX9_clearStreams).cls ≠ "java/lang/invoke/VarHandle" ∧ (parseMethodDescriptor (yX9_clearStreams).desc).map (fun d => d.parameters.length) = some 0 := by decide +kernel
theorem ax_359 : GoodIn BT (wsV RL 273 RX10 yX10_clearStreams [.code yX10_clearStreams cX10_clearStreams 2 (some .int)]) := gi_V tw_976 tw_977 tw_978 tw_312 tw_979
theorem ax_360 : (yX10_clearStreams).cls = RX10 ∧ (yX10_clearStreams).cls ≠ "java/lang/invoke/MethodHandle" ∧ (yX10_clearStreams).cls ≠ "java/lang/invoke/VarHandle" ∧ (parseMethodDescriptor (yX10_clearStreams).desc).map (fun d => d.parameters.length) = some 0 := by decide +kernel
theorem ax_361 : GoodIn BT (wsV RX9 310 RX9 yX9_requireApproach [.code yX9_requireApproach cX9_requireApproach 2 none]) := gi_V tw_980 tw_981 tw_982 tw_294 tw_983
theorem ax_362 : (yX9_requireApproach).cls = RX9 ∧ (yX9_requireApproach).cls ≠ "java/lang/invoke/MethodHandle" ∧ (yX9_requireApproach).cls ≠ "java/lang/invoke/VarHandle" ∧ (parseMethodDescriptor (yX9_requireApproach).desc).map (fun d => d.parameters.length) = some 1 := by decide +kernel
theorem ax_363 : GoodIn BT (wsV RL 108 RX9 yX9_heatNeeded [.code yX9_heatNeeded cX9_heatNeeded 2 (some .int)]) := gi_V tw_984 tw_985 tw_986 tw_294 tw_987
theorem ax_364 : (yX9_heatNeeded).cls = RX9 ∧ (yX9_heatNeeded).cls ≠ "java/lang/invoke/MethodHandle" ∧ (yX9_heatNeeded).cls ≠ "java/lang/invoke/VarHandle" ∧ (parseMethodDescriptor (yX9_heatNeeded).desc).map (fun d => d.parameters.length) = some 1 := by decide +kernel
theorem ax_365 : GoodIn BT (va_wsS RL 274 yL_heatNeeded [.codeWith yL_heatNeeded cL_heatNeeded 4 (some .int) [(0, 9, 12, 13)]]) := gi_SW tw_988 tw_989 tw_306 tw_990
theorem ax_366 : (yL_heatNeeded).cls ≠ "java/lang/invoke/MethodHandle" ∧ (yL_heatNeeded).cls ≠ "java/lang/invoke/VarHandle" ∧ (parseMethodDescriptor (yL_heatNeeded).desc).map (fun d => d.parameters.length) = some 3 := by decide +kernel
theorem ax_367 : GoodIn BT (wsV RX10 247 RX10 yX10_noApproach [.code yX10_noApproach cX10_noApproach 2 (some .boolean)]) := gi_V tw_991 tw_992 tw_993 tw_312 tw_994
theorem ax_368 : (yX10_noApproach).cls = RX10 ∧ (yX10_noApproach).cls ≠ "java/lang/invoke/MethodHandle" ∧ (yX10_noApproach).cls ≠ "java/lang/invoke/VarHandle" ∧ (parseMethodDescriptor (yX10_noApproach).desc).map (fun d => d.parameters.length) = some 1 := by decide +kernel
theorem ax_369 : GoodIn BT (wsV RL 276 RX10 yX10_heatNeeded [.code yX10_heatNeeded cX10_heatNeeded 2 (some .int)]) := gi_V tw_995 tw_996 tw_997 tw_312 tw_998
theorem ax_370 : (yX10_heatNeeded).cls = RX10 ∧ (yX10_heatNeeded).cls ≠ "java/lang/invoke/MethodHandle" ∧ (yX10_heatNeeded).cls ≠ "java/lang/invoke/VarHandle" ∧ (parseMethodDescriptor (yX10_heatNeeded).desc).map (fun d => d.parameters.length) = some 1 := by decide +kernel
theorem ax_371 : GoodIn BT (wsV RX5 29 RX5 yX5_narrowest [.code yX5_narrowest cX5_narrowest 8 (some .int)]) := gi_V tw_999 tw_1000 tw_1001 tw_202 tw_1002
theorem ax_372 : (yX5_narrowest).cls = RX5 ∧ (yX5_narrowest).cls ≠ "java/lang/invoke/MethodHandle" ∧ (yX5_narrowest).cls ≠ "java/lang/invoke/VarHandle" ∧ (parseMethodDescriptor (yX5_narrowest).desc).map (fun d => d.parameters.length) = some 1 := by decide +kernel
theorem ax_373 : GoodIn BT (wsV RX5 33 RX5 yX5_sumAt [.code yX5_sumAt cX5_sumAt 9 (some .int)]) := gi_V tw_1003 tw_1004 tw_1005 tw_202 tw_1006
theorem ax_374 : (yX5_sumAt).cls = RX5 ∧ (yX5_sumAt).cls ≠ "java/lang/invoke/MethodHandle" ∧ (yX5_sumAt).cls ≠ "java/lang/invoke/VarHandle" ∧ (parseMethodDescriptor (yX5_sumAt).desc).map (fun d => d.parameters.length) = some 2 := by decide +kernel
theorem ax_375 : GoodIn BT (wsV RX9 313 RX5 yX5_leastHeat [.code yX5_leastHeat cX5_leastHeat 2 (some .int)]) := gi_V tw_1007 tw_1008 tw_1009 tw_202 tw_1010
theorem ax_376 : (yX5_leastHeat).cls = RX5 ∧ (yX5_leastHeat).cls ≠ "java/lang/invoke/MethodHandle" ∧ (yX5_leastHeat).cls ≠ "java/lang/invoke/VarHandle" ∧ (parseMethodDescriptor (yX5_leastHeat).desc).map (fun d => d.parameters.length) = some 1 := by decide +kernel
theorem ax_377 : ∀ w ∈ u_ws RJx35411 TJx35411 4, w ∈ BT := List.forall_mem_cons.mpr ⟨tw_1014, List.forall_mem_cons.mpr ⟨tw_1013, List.forall_mem_cons.mpr ⟨tw_1012, List.forall_mem_cons.mpr ⟨tw_1011, fun _ h => absurd h List.not_mem_nil⟩⟩⟩⟩
theorem ax_378 : (yJx35411_init_45d68).cls ≠ "java/lang/invoke/MethodHandle" ∧ (yJx35411_init_45d68).cls ≠ "java/lang/invoke/VarHandle" ∧ (parseMethodDescriptor (yJx35411_init_45d68).desc).map (fun d => d.parameters.length) = some 1 := by decide +kernel
theorem ax_379 : GoodIn BT (va_wsF RX10 187 RJx4a65c (⟨RJxbd725, "iterator", "()Ljava/util/Iterator;"⟩ : MethodName) yJx4a65c_iterator_32c93 [.code yJx4a65c_iterator_32c93 cJx4a65c_iterator_32c93 1 (some (.object "java/util/Iterator"))]) := gi_F tw_1028 tw_1029 tw_1030 tw_245 tw_1031
theorem ax_380 : ((⟨RJxbd725, "iterator", "()Ljava/util/Iterator;"⟩ : MethodName)).cls ≠ "java/lang/invoke/MethodHandle" ∧ ((⟨RJxbd725, "iterator", "()Ljava/util/Iterator;"⟩ : MethodName)).cls ≠ "java/lang/invoke/VarHandle" ∧ (parseMethodDescriptor ((⟨RJxbd725, "iterator", "()Ljava/util/Iterator;"⟩ : MethodName)).desc).map (fun d => d.parameters.length) = some 0 := by decide +kernel
theorem ax_381 : GoodIn BT (va_wsF RX10 191 RJx35411 (⟨RJx4d0d8, "hasNext", "()Z"⟩ : MethodName) yJx35411_hasNext_aae02 [.code yJx35411_hasNext_aae02 cJx35411_hasNext_aae02 1 (some .boolean)]) := gi_F tw_1036 tw_1037 tw_1038 tw_1022 tw_1039
theorem ax_382 : ((⟨RJx4d0d8, "hasNext", "()Z"⟩ : MethodName)).cls ≠ "java/lang/invoke/MethodHandle" ∧ ((⟨RJx4d0d8, "hasNext", "()Z"⟩ : MethodName)).cls ≠ "java/lang/invoke/VarHandle" ∧ (parseMethodDescriptor ((⟨RJx4d0d8, "hasNext", "()Z"⟩ : MethodName)).desc).map (fun d => d.parameters.length) = some 0 := by decide +kernel
theorem ax_383 : GoodIn BT (wsV RX10 244 RX10 yX10_gives [.code yX10_gives cX10_gives 10 (some .int)]) := gi_V tw_1045 tw_1046 tw_1047 tw_312 tw_1048
theorem ax_384 : (yX10_gives).cls = RX10 ∧ (yX10_gives).cls ≠ "java/lang/invoke/MethodHandle" ∧ (yX10_gives).cls ≠ "java/lang/invoke/VarHandle" ∧ (parseMethodDescriptor (yX10_gives).desc).map (fun d => d.parameters.length) = some 2 := by decide +kernel
theorem ax_385 : GoodIn BT (wsV RX10 250 RX10 yX10_cascade [.code yX10_cascade cX10_cascade 6 (some (.array .int))]) := gi_V tw_1050 tw_1051 tw_1052 tw_312 tw_1053
theorem ax_386 : (yX10_cascade).cls = RX10 ∧ (yX10_cascade).cls ≠ "java/lang/invoke/MethodHandle" ∧ (yX10_cascade).cls ≠ "java/lang/invoke/VarHandle" ∧ (parseMethodDescriptor (yX10_cascade).desc).map (fun d => d.parameters.length) = some 1 := by decide +kernel
theorem ax_387 : GoodIn BT (wsV RL 111 RX9 yX9_coldNeeded [.code yX9_coldNeeded cX9_coldNeeded 2 (some .int)]) := gi_V tw_1054 tw_1055 tw_1056 tw_294 tw_1057
theorem ax_388 : (yX9_coldNeeded).cls = RX9 ∧ (yX9_coldNeeded).cls ≠ "java/lang/invoke/MethodHandle" ∧ (yX9_coldNeeded).cls ≠ "java/lang/invoke/VarHandle" ∧ (parseMethodDescriptor (yX9_coldNeeded).desc).map (fun d => d.parameters.length) = some 1 := by decide +kernel
theorem ax_389 : GoodIn BT (va_wsS RL 277 yL_coldNeeded [.codeWith yL_coldNeeded cL_coldNeeded 4 (some .int) [(0, 9, 12, 13)]]) := gi_SW tw_1058 tw_1059 tw_306 tw_1060
theorem ax_390 : (yL_coldNeeded).cls ≠ "java/lang/invoke/MethodHandle" ∧ (yL_coldNeeded).cls ≠ "java/lang/invoke/VarHandle" ∧ (parseMethodDescriptor (yL_coldNeeded).desc).map (fun d => d.parameters.length) = some 3 := by decide +kernel
theorem ax_391 : GoodIn BT (wsV RL 279 RX10 yX10_coldNeeded [.code yX10_coldNeeded cX10_coldNeeded 2 (some .int)]) := gi_V tw_1061 tw_1062 tw_1063 tw_312 tw_1064
theorem ax_392 : (yX10_coldNeeded).cls = RX10 ∧ (yX10_coldNeeded).cls ≠ "java/lang/invoke/MethodHandle" ∧ (yX10_coldNeeded).cls ≠ "java/lang/invoke/VarHandle" ∧ (parseMethodDescriptor (yX10_coldNeeded).desc).map (fun d => d.parameters.length) = some 1 := by decide +kernel
theorem ax_393 : GoodIn BT (wsV RX5 37 RX5 yX5_leastHeat [.code yX5_leastHeat cX5_leastHeat 2 (some .int)]) := gi_V tw_1065 tw_1008 tw_1009 tw_202 tw_1010
theorem ax_394 : GoodIn BT (wsV RX9 316 RX5 yX5_leastCold [.code yX5_leastCold cX5_leastCold 2 (some .int)]) := gi_V tw_1066 tw_1067 tw_1068 tw_202 tw_1069
theorem ax_395 : (yX5_leastCold).cls = RX5 ∧ (yX5_leastCold).cls ≠ "java/lang/invoke/MethodHandle" ∧ (yX5_leastCold).cls ≠ "java/lang/invoke/VarHandle" ∧ (parseMethodDescriptor (yX5_leastCold).desc).map (fun d => d.parameters.length) = some 1 := by decide +kernel
theorem ax_396 : GoodIn BT (wsV RL 114 RX9 yX9_pinch [.code yX9_pinch cX9_pinch 2 (some .int)]) := gi_V tw_1070 tw_1071 tw_1072 tw_294 tw_1073
theorem ax_397 : (yX9_pinch).cls = RX9 ∧ (yX9_pinch).cls ≠ "java/lang/invoke/MethodHandle" ∧ (yX9_pinch).cls ≠ "java/lang/invoke/VarHandle" ∧ (parseMethodDescriptor (yX9_pinch).desc).map (fun d => d.parameters.length) = some 1 := by decide +kernel
theorem ax_398 : GoodIn BT (va_wsS RL 280 yL_pinch [.codeWith yL_pinch cL_pinch 4 (some .int) [(0, 9, 12, 13), (0, 9, 15, 45)]]) := gi_SW tw_1074 tw_1075 tw_306 tw_1076
theorem ax_399 : (yL_pinch).cls ≠ "java/lang/invoke/MethodHandle" ∧ (yL_pinch).cls ≠ "java/lang/invoke/VarHandle" ∧ (parseMethodDescriptor (yL_pinch).desc).map (fun d => d.parameters.length) = some 3 := by decide +kernel
theorem ax_400 : GoodIn BT (wsV RL 282 RX10 yX10_pinch [.code yX10_pinch cX10_pinch 2 (some .int)]) := gi_V tw_1077 tw_1078 tw_1079 tw_312 tw_1080
theorem ax_401 : (yX10_pinch).cls = RX10 ∧ (yX10_pinch).cls ≠ "java/lang/invoke/MethodHandle" ∧ (yX10_pinch).cls ≠ "java/lang/invoke/VarHandle" ∧ (parseMethodDescriptor (yX10_pinch).desc).map (fun d => d.parameters.length) = some 1 := by decide +kernel
theorem ax_402 : GoodIn BT (wsV RL 117 RX9 yX9_setGovernor [.code yX9_setGovernor cX9_setGovernor 6 (some .int)]) := gi_V tw_1081 tw_1082 tw_1083 tw_294 tw_1084
theorem ax_403 : (yX9_setGovernor).cls = RX9 ∧ (yX9_setGovernor).cls ≠ "java/lang/invoke/MethodHandle" ∧ (yX9_setGovernor).cls ≠ "java/lang/invoke/VarHandle" ∧ (parseMethodDescriptor (yX9_setGovernor).desc).map (fun d => d.parameters.length) = some 4 := by decide +kernel
theorem ax_404 : GoodIn BT (va_wsS RL 283 yL_setGovernor [.codeWith yL_setGovernor cL_setGovernor 7 (some .int) [(0, 14, 17, 13)]]) := gi_SW tw_1085 tw_1086 tw_306 tw_1087
theorem ax_405 : (yL_setGovernor).cls ≠ "java/lang/invoke/MethodHandle" ∧ (yL_setGovernor).cls ≠ "java/lang/invoke/VarHandle" ∧ (parseMethodDescriptor (yL_setGovernor).desc).map (fun d => d.parameters.length) = some 6 := by decide +kernel
theorem ax_406 : GoodIn BT (wsV RL 285 RX10 yX10_setGovernor [.code yX10_setGovernor cX10_setGovernor 6 (some .int)]) := gi_V tw_1089 tw_1090 tw_1091 tw_312 tw_1092
theorem ax_407 : (yX10_setGovernor).cls = RX10 ∧ (yX10_setGovernor).cls ≠ "java/lang/invoke/MethodHandle" ∧ (yX10_setGovernor).cls ≠ "java/lang/invoke/VarHandle" ∧ (parseMethodDescriptor (yX10_setGovernor).desc).map (fun d => d.parameters.length) = some 4 := by decide +kernel
theorem ax_408 : GoodIn BT (wsV RX9 327 RX2 yX2_adjust [.code yX2_adjust cX2_adjust 5 none]) := gi_V tw_1095 tw_1096 tw_1097 tw_209 tw_1098
theorem ax_409 : (yX2_adjust).cls = RX2 ∧ (yX2_adjust).cls ≠ "java/lang/invoke/MethodHandle" ∧ (yX2_adjust).cls ≠ "java/lang/invoke/VarHandle" ∧ (parseMethodDescriptor (yX2_adjust).desc).map (fun d => d.parameters.length) = some 4 := by decide +kernel
theorem ax_410 : GoodIn BT (wsV RL 120 RX9 yX9_setLoad [.code yX9_setLoad cX9_setLoad 3 (some .int)]) := gi_V tw_1100 tw_1101 tw_1102 tw_294 tw_1103
theorem ax_411 : (yX9_setLoad).cls = RX9 ∧ (yX9_setLoad).cls ≠ "java/lang/invoke/MethodHandle" ∧ (yX9_setLoad).cls ≠ "java/lang/invoke/VarHandle" ∧ (parseMethodDescriptor (yX9_setLoad).desc).map (fun d => d.parameters.length) = some 1 := by decide +kernel
theorem ax_412 : GoodIn BT (va_wsS RL 286 yL_setLoad [.codeWith yL_setLoad cL_setLoad 4 (some .int) [(0, 9, 12, 13)]]) := gi_SW tw_1104 tw_1105 tw_306 tw_1106
theorem ax_413 : (yL_setLoad).cls ≠ "java/lang/invoke/MethodHandle" ∧ (yL_setLoad).cls ≠ "java/lang/invoke/VarHandle" ∧ (parseMethodDescriptor (yL_setLoad).desc).map (fun d => d.parameters.length) = some 3 := by decide +kernel
theorem ax_414 : GoodIn BT (wsV RL 288 RX10 yX10_setLoad [.code yX10_setLoad cX10_setLoad 3 (some .int)]) := gi_V tw_1107 tw_1108 tw_1109 tw_312 tw_1110
theorem ax_415 : (yX10_setLoad).cls = RX10 ∧ (yX10_setLoad).cls ≠ "java/lang/invoke/MethodHandle" ∧ (yX10_setLoad).cls ≠ "java/lang/invoke/VarHandle" ∧ (parseMethodDescriptor (yX10_setLoad).desc).map (fun d => d.parameters.length) = some 1 := by decide +kernel
theorem ax_416 : GoodIn BT (wsV RL 123 RX9 yX9_runSeconds [.code yX9_runSeconds cX9_runSeconds 3 (some .int)]) := gi_V tw_1112 tw_1113 tw_1114 tw_294 tw_1115
theorem ax_417 : (yX9_runSeconds).cls = RX9 ∧ (yX9_runSeconds).cls ≠ "java/lang/invoke/MethodHandle" ∧ (yX9_runSeconds).cls ≠ "java/lang/invoke/VarHandle" ∧ (parseMethodDescriptor (yX9_runSeconds).desc).map (fun d => d.parameters.length) = some 1 := by decide +kernel
theorem ax_418 : GoodIn BT (va_wsS RL 289 yL_runSeconds [.codeWith yL_runSeconds cL_runSeconds 4 (some .int) [(0, 9, 12, 13)]]) := gi_SW tw_1116 tw_1117 tw_306 tw_1118
theorem ax_419 : (yL_runSeconds).cls ≠ "java/lang/invoke/MethodHandle" ∧ (yL_runSeconds).cls ≠ "java/lang/invoke/VarHandle" ∧ (parseMethodDescriptor (yL_runSeconds).desc).map (fun d => d.parameters.length) = some 3 := by decide +kernel
theorem ax_420 : GoodIn BT (wsV RL 291 RX10 yX10_runSeconds [.code yX10_runSeconds cX10_runSeconds 3 (some .int)]) := gi_V tw_1120 tw_1121 tw_1122 tw_312 tw_1123
theorem ax_421 : (yX10_runSeconds).cls = RX10 ∧ (yX10_runSeconds).cls ≠ "java/lang/invoke/MethodHandle" ∧ (yX10_runSeconds).cls ≠ "java/lang/invoke/VarHandle" ∧ (parseMethodDescriptor (yX10_runSeconds).desc).map (fun d => d.parameters.length) = some 1 := by decide +kernel
theorem ax_422 : GoodIn BT (wsV RX9 334 RX2 yX2_passSecond [.code yX2_passSecond cX2_passSecond 3 none]) := gi_V tw_1129 tw_1130 tw_1131 tw_209 tw_1132
theorem ax_423 : (yX2_passSecond).cls = RX2 ∧ (yX2_passSecond).cls ≠ "java/lang/invoke/MethodHandle" ∧ (yX2_passSecond).cls ≠ "java/lang/invoke/VarHandle" ∧ (parseMethodDescriptor (yX2_passSecond).desc).map (fun d => d.parameters.length) = some 0 := by decide +kernel
theorem ax_424 : GoodIn BT (wsV RX10 275 RX10 yX10_second [.code yX10_second cX10_second 3 none]) := gi_V tw_1137 tw_1138 tw_1139 tw_312 tw_1140
theorem ax_425 : (yX10_second).cls = RX10 ∧ (yX10_second).cls ≠ "java/lang/invoke/MethodHandle" ∧ (yX10_second).cls ≠ "java/lang/invoke/VarHandle" ∧ (parseMethodDescriptor (yX10_second).desc).map (fun d => d.parameters.length) = some 0 := by decide +kernel
theorem ax_426 : GoodIn BT (wsV RL 292 RX9 yX9_getValve [.code yX9_getValve cX9_getValve 1 (some .int)]) := gi_V tw_1142 tw_1143 tw_1144 tw_294 tw_1145
theorem ax_427 : (yX9_getValve).cls = RX9 ∧ (yX9_getValve).cls ≠ "java/lang/invoke/MethodHandle" ∧ (yX9_getValve).cls ≠ "java/lang/invoke/VarHandle" ∧ (parseMethodDescriptor (yX9_getValve).desc).map (fun d => d.parameters.length) = some 0 := by decide +kernel
theorem ax_428 : GoodIn BT (wsV RL 295 RX10 yX10_getValve [.code yX10_getValve cX10_getValve 1 (some .int)]) := gi_V tw_1146 tw_1147 tw_1148 tw_312 tw_1149
theorem ax_429 : (yX10_getValve).cls = RX10 ∧ (yX10_getValve).cls ≠ "java/lang/invoke/MethodHandle" ∧ (yX10_getValve).cls ≠ "java/lang/invoke/VarHandle" ∧ (parseMethodDescriptor (yX10_getValve).desc).map (fun d => d.parameters.length) = some 0 := by decide +kernel
theorem ax_430 : GoodIn BT (wsV RL 296 RX9 yX9_countTurns [.code yX9_countTurns cX9_countTurns 1 (some .int)]) := gi_V tw_1151 tw_1152 tw_1153 tw_294 tw_1154
theorem ax_431 : (yX9_countTurns).cls = RX9 ∧ (yX9_countTurns).cls ≠ "java/lang/invoke/MethodHandle" ∧ (yX9_countTurns).cls ≠ "java/lang/invoke/VarHandle" ∧ (parseMethodDescriptor (yX9_countTurns).desc).map (fun d => d.parameters.length) = some 0 := by decide +kernel
theorem ax_432 : GoodIn BT (wsV RL 299 RX10 yX10_countTurns [.code yX10_countTurns cX10_countTurns 1 (some .int)]) := gi_V tw_1156 tw_1157 tw_1158 tw_312 tw_1159
theorem ax_433 : (yX10_countTurns).cls = RX10 ∧ (yX10_countTurns).cls ≠ "java/lang/invoke/MethodHandle" ∧ (yX10_countTurns).cls ≠ "java/lang/invoke/VarHandle" ∧ (parseMethodDescriptor (yX10_countTurns).desc).map (fun d => d.parameters.length) = some 0 := by decide +kernel
theorem ax_434 : GoodIn BT (wsV RL 300 RX9 yX9_isTripped [.code yX9_isTripped cX9_isTripped 1 (some .boolean)]) := gi_V tw_1161 tw_1162 tw_1163 tw_294 tw_1164
theorem ax_435 : (yX9_isTripped).cls = RX9 ∧ (yX9_isTripped).cls ≠ "java/lang/invoke/MethodHandle" ∧ (yX9_isTripped).cls ≠ "java/lang/invoke/VarHandle" ∧ (parseMethodDescriptor (yX9_isTripped).desc).map (fun d => d.parameters.length) = some 0 := by decide +kernel
theorem ax_436 : GoodIn BT (wsV RL 303 RX10 yX10_isTripped [.code yX10_isTripped cX10_isTripped 1 (some .boolean)]) := gi_V tw_1165 tw_1166 tw_1167 tw_312 tw_1168
theorem ax_437 : (yX10_isTripped).cls = RX10 ∧ (yX10_isTripped).cls ≠ "java/lang/invoke/MethodHandle" ∧ (yX10_isTripped).cls ≠ "java/lang/invoke/VarHandle" ∧ (parseMethodDescriptor (yX10_isTripped).desc).map (fun d => d.parameters.length) = some 0 := by decide +kernel
theorem ax_438 : GoodIn BT (wsV RL 126 RX9 yX9_resetTrip [.code yX9_resetTrip cX9_resetTrip 2 (some .boolean)]) := gi_V tw_1170 tw_1171 tw_1172 tw_294 tw_1173
theorem ax_439 : (yX9_resetTrip).cls = RX9 ∧ (yX9_resetTrip).cls ≠ "java/lang/invoke/MethodHandle" ∧ (yX9_resetTrip).cls ≠ "java/lang/invoke/VarHandle" ∧ (parseMethodDescriptor (yX9_resetTrip).desc).map (fun d => d.parameters.length) = some 0 := by decide +kernel
theorem ax_440 : GoodIn BT (va_wsS RL 304 yL_resetTrip [.codeWith yL_resetTrip cL_resetTrip 3 (some .int) [(0, 15, 18, 30)]]) := gi_SW tw_1174 tw_1175 tw_306 tw_1176
theorem ax_441 : (yL_resetTrip).cls ≠ "java/lang/invoke/MethodHandle" ∧ (yL_resetTrip).cls ≠ "java/lang/invoke/VarHandle" ∧ (parseMethodDescriptor (yL_resetTrip).desc).map (fun d => d.parameters.length) = some 2 := by decide +kernel
theorem ax_442 : GoodIn BT (wsV RL 306 RX10 yX10_resetTrip [.code yX10_resetTrip cX10_resetTrip 2 (some .boolean)]) := gi_V tw_1177 tw_1178 tw_1179 tw_312 tw_1180
theorem ax_443 : (yX10_resetTrip).cls = RX10 ∧ (yX10_resetTrip).cls ≠ "java/lang/invoke/MethodHandle" ∧ (yX10_resetTrip).cls ≠ "java/lang/invoke/VarHandle" ∧ (parseMethodDescriptor (yX10_resetTrip).desc).map (fun d => d.parameters.length) = some 0 := by decide +kernel
theorem ax_444 : GoodIn BT (wsV RX9 354 RX9 yX9_requireClaim [.code yX9_requireClaim cX9_requireClaim 4 none]) := gi_V tw_1182 tw_1183 tw_1184 tw_294 tw_1185
theorem ax_445 : (yX9_requireClaim).cls = RX9 ∧ (yX9_requireClaim).cls ≠ "java/lang/invoke/MethodHandle" ∧ (yX9_requireClaim).cls ≠ "java/lang/invoke/VarHandle" ∧ (parseMethodDescriptor (yX9_requireClaim).desc).map (fun d => d.parameters.length) = some 3 := by decide +kernel
theorem ax_446 : GoodIn BT (wsV RL 129 RX9 yX9_claim [.code yX9_claim cX9_claim 5 (some .char)]) := gi_V tw_1186 tw_1187 tw_1188 tw_294 tw_1189
theorem ax_447 : (yX9_claim).cls = RX9 ∧ (yX9_claim).cls ≠ "java/lang/invoke/MethodHandle" ∧ (yX9_claim).cls ≠ "java/lang/invoke/VarHandle" ∧ (parseMethodDescriptor (yX9_claim).desc).map (fun d => d.parameters.length) = some 4 := by decide +kernel
theorem ax_448 : GoodIn BT (va_wsS RL 307 yL_claim [.codeWith yL_claim cL_claim 7 (some .int) [(0, 14, 17, 13)]]) := gi_SW tw_1190 tw_1191 tw_306 tw_1192
theorem ax_449 : (yL_claim).cls ≠ "java/lang/invoke/MethodHandle" ∧ (yL_claim).cls ≠ "java/lang/invoke/VarHandle" ∧ (parseMethodDescriptor (yL_claim).desc).map (fun d => d.parameters.length) = some 6 := by decide +kernel
theorem ax_450 : GoodIn BT (wsV RL 309 RX10 yX10_claim [.code yX10_claim cX10_claim 5 (some .char)]) := gi_V tw_1194 tw_1195 tw_1196 tw_312 tw_1197
theorem ax_451 : (yX10_claim).cls = RX10 ∧ (yX10_claim).cls ≠ "java/lang/invoke/MethodHandle" ∧ (yX10_claim).cls ≠ "java/lang/invoke/VarHandle" ∧ (parseMethodDescriptor (yX10_claim).desc).map (fun d => d.parameters.length) = some 4 := by decide +kernel
theorem ax_452 : GoodIn BT (wsV RX10 280 RX10 yX10_noClaim [.code yX10_noClaim cX10_noClaim 4 (some .boolean)]) := gi_V tw_1199 tw_1200 tw_1201 tw_312 tw_1202
theorem ax_453 : (yX10_noClaim).cls = RX10 ∧ (yX10_noClaim).cls ≠ "java/lang/invoke/MethodHandle" ∧ (yX10_noClaim).cls ≠ "java/lang/invoke/VarHandle" ∧ (parseMethodDescriptor (yX10_noClaim).desc).map (fun d => d.parameters.length) = some 3 := by decide +kernel
theorem ax_454 : GoodIn BT (va_wsS RX9 446 yX9_dividedDown [.code yX9_dividedDown cX9_dividedDown 2 (some .int)]) := gi_S tw_1208 tw_1209 tw_294 tw_1210
theorem ax_455 : (yX9_dividedDown).cls ≠ "java/lang/invoke/MethodHandle" ∧ (yX9_dividedDown).cls ≠ "java/lang/invoke/VarHandle" ∧ (parseMethodDescriptor (yX9_dividedDown).desc).map (fun d => d.parameters.length) = some 2 := by decide +kernel
theorem ax_456 : GoodIn BT (va_wsS RX9 362 yX9_dividedUp [.code yX9_dividedUp cX9_dividedUp 3 (some .int)]) := gi_S tw_1211 tw_1212 tw_294 tw_1213
theorem ax_457 : (yX9_dividedUp).cls ≠ "java/lang/invoke/MethodHandle" ∧ (yX9_dividedUp).cls ≠ "java/lang/invoke/VarHandle" ∧ (parseMethodDescriptor (yX9_dividedUp).desc).map (fun d => d.parameters.length) = some 2 := by decide +kernel
theorem ax_458 : GoodIn BT (va_wsS RX9 358 yX9_disorderMade [.code yX9_disorderMade cX9_disorderMade 8 (some .int)]) := gi_S tw_1214 tw_1215 tw_294 tw_1216
theorem ax_459 : (yX9_disorderMade).cls ≠ "java/lang/invoke/MethodHandle" ∧ (yX9_disorderMade).cls ≠ "java/lang/invoke/VarHandle" ∧ (parseMethodDescriptor (yX9_disorderMade).desc).map (fun d => d.parameters.length) = some 4 := by decide +kernel
theorem ax_460 : GoodIn BT (va_wsS RX10 122 yX10_disorder [.code yX10_disorder cX10_disorder 6 (some .int)]) := gi_S tw_1217 tw_1218 tw_312 tw_1219
theorem ax_461 : (yX10_disorder).cls ≠ "java/lang/invoke/MethodHandle" ∧ (yX10_disorder).cls ≠ "java/lang/invoke/VarHandle" ∧ (parseMethodDescriptor (yX10_disorder).desc).map (fun d => d.parameters.length) = some 4 := by decide +kernel
theorem ax_462 : GoodIn BT (wsV RL 133 RX9 yX9_bestWork [.code yX9_bestWork cX9_bestWork 5 (some .int)]) := gi_V tw_1220 tw_1221 tw_1222 tw_294 tw_1223
theorem ax_463 : (yX9_bestWork).cls = RX9 ∧ (yX9_bestWork).cls ≠ "java/lang/invoke/MethodHandle" ∧ (yX9_bestWork).cls ≠ "java/lang/invoke/VarHandle" ∧ (parseMethodDescriptor (yX9_bestWork).desc).map (fun d => d.parameters.length) = some 3 := by decide +kernel
theorem ax_464 : GoodIn BT (va_wsS RL 310 yL_bestWork [.codeWith yL_bestWork cL_bestWork 6 (some .int) [(0, 12, 15, 13), (0, 12, 19, 45)]]) := gi_SW tw_1224 tw_1225 tw_306 tw_1226
theorem ax_465 : (yL_bestWork).cls ≠ "java/lang/invoke/MethodHandle" ∧ (yL_bestWork).cls ≠ "java/lang/invoke/VarHandle" ∧ (parseMethodDescriptor (yL_bestWork).desc).map (fun d => d.parameters.length) = some 5 := by decide +kernel
theorem ax_466 : GoodIn BT (wsV RL 312 RX10 yX10_bestWork [.code yX10_bestWork cX10_bestWork 5 (some .int)]) := gi_V tw_1227 tw_1228 tw_1229 tw_312 tw_1230
theorem ax_467 : (yX10_bestWork).cls = RX10 ∧ (yX10_bestWork).cls ≠ "java/lang/invoke/MethodHandle" ∧ (yX10_bestWork).cls ≠ "java/lang/invoke/VarHandle" ∧ (parseMethodDescriptor (yX10_bestWork).desc).map (fun d => d.parameters.length) = some 3 := by decide +kernel
theorem ax_468 : GoodIn BT (wsV RL 313 RX9 yX9_checksum [.code yX9_checksum cX9_checksum 4 (some .long)]) := gi_V tw_1234 tw_1235 tw_1236 tw_294 tw_1237
theorem ax_469 : (yX9_checksum).cls = RX9 ∧ (yX9_checksum).cls ≠ "java/lang/invoke/MethodHandle" ∧ (yX9_checksum).cls ≠ "java/lang/invoke/VarHandle" ∧ (parseMethodDescriptor (yX9_checksum).desc).map (fun d => d.parameters.length) = some 0 := by decide +kernel
theorem ax_470 : GoodIn BT (wsV RL 317 RX10 yX10_checksum [.code yX10_checksum cX10_checksum 5 (some .long)]) := gi_V tw_1240 tw_1241 tw_1242 tw_312 tw_1243
theorem ax_471 : (yX10_checksum).cls = RX10 ∧ (yX10_checksum).cls ≠ "java/lang/invoke/MethodHandle" ∧ (yX10_checksum).cls ≠ "java/lang/invoke/VarHandle" ∧ (parseMethodDescriptor (yX10_checksum).desc).map (fun d => d.parameters.length) = some 0 := by decide +kernel
theorem ax_472 : ∀ w ∈ vx_atS RX9 379 "java/lang/ArithmeticException" ["java/lang/RuntimeException", "java/lang/Exception"], w ∈ BT := fun w hw => bt_tbl ((by decide +kernel : ∀ w ∈ vx_atS RX9 379 "java/lang/ArithmeticException" ["java/lang/RuntimeException", "java/lang/Exception"], w ∈ tables_1) w hw) ((by decide +kernel : ∀ w ∈ vx_atS RX9 379 "java/lang/ArithmeticException" ["java/lang/RuntimeException", "java/lang/Exception"], okw w = true) w hw)
theorem ax_473 : GoodIn BT (wsV RL 136 RX9 yX9_makingShare [.code yX9_makingShare cX9_makingShare 1 (some .float)]) := gi_V tw_1247 tw_1248 tw_1249 tw_294 tw_1250
theorem ax_474 : (yX9_makingShare).cls = RX9 ∧ (yX9_makingShare).cls ≠ "java/lang/invoke/MethodHandle" ∧ (yX9_makingShare).cls ≠ "java/lang/invoke/VarHandle" ∧ (parseMethodDescriptor (yX9_makingShare).desc).map (fun d => d.parameters.length) = some 0 := by decide +kernel
theorem ax_475 : GoodIn BT (va_wsS RL 318 yL_makingShare [.codeWith yL_makingShare cL_makingShare 3 (some .int) [(0, 8, 11, 140)]]) := gi_SW tw_1253 tw_1254 tw_306 tw_1255
theorem ax_476 : (yL_makingShare).cls ≠ "java/lang/invoke/MethodHandle" ∧ (yL_makingShare).cls ≠ "java/lang/invoke/VarHandle" ∧ (parseMethodDescriptor (yL_makingShare).desc).map (fun d => d.parameters.length) = some 2 := by decide +kernel
theorem ax_477 : GoodIn BT (wsV RL 321 RX10 yX10_makingShare [.code yX10_makingShare cX10_makingShare 1 (some .float)]) := gi_V tw_1257 tw_1258 tw_1259 tw_312 tw_1260
theorem ax_478 : (yX10_makingShare).cls = RX10 ∧ (yX10_makingShare).cls ≠ "java/lang/invoke/MethodHandle" ∧ (yX10_makingShare).cls ≠ "java/lang/invoke/VarHandle" ∧ (parseMethodDescriptor (yX10_makingShare).desc).map (fun d => d.parameters.length) = some 0 := by decide +kernel
theorem ax_479 : GoodIn BT (wsV RL 142 RX9 yX9_meanTemperature [.code yX9_meanTemperature cX9_meanTemperature 1 (some .double)]) := gi_V tw_1261 tw_1262 tw_1263 tw_294 tw_1264
theorem ax_480 : (yX9_meanTemperature).cls = RX9 ∧ (yX9_meanTemperature).cls ≠ "java/lang/invoke/MethodHandle" ∧ (yX9_meanTemperature).cls ≠ "java/lang/invoke/VarHandle" ∧ (parseMethodDescriptor (yX9_meanTemperature).desc).map (fun d => d.parameters.length) = some 0 := by decide +kernel
theorem ax_481 : GoodIn BT (va_wsS RL 322 yL_meanTemperature [.codeWith yL_meanTemperature cL_meanTemperature 3 (some .int) [(0, 7, 10, 140)]]) := gi_SW tw_1265 tw_1266 tw_306 tw_1267
theorem ax_482 : (yL_meanTemperature).cls ≠ "java/lang/invoke/MethodHandle" ∧ (yL_meanTemperature).cls ≠ "java/lang/invoke/VarHandle" ∧ (parseMethodDescriptor (yL_meanTemperature).desc).map (fun d => d.parameters.length) = some 2 := by decide +kernel
theorem ax_483 : GoodIn BT (wsV RL 324 RX10 yX10_meanTemperature [.code yX10_meanTemperature cX10_meanTemperature 4 (some .double)]) := gi_V tw_1268 tw_1269 tw_1270 tw_312 tw_1271
theorem ax_484 : (yX10_meanTemperature).cls = RX10 ∧ (yX10_meanTemperature).cls ≠ "java/lang/invoke/MethodHandle" ∧ (yX10_meanTemperature).cls ≠ "java/lang/invoke/VarHandle" ∧ (parseMethodDescriptor (yX10_meanTemperature).desc).map (fun d => d.parameters.length) = some 0 := by decide +kernel
theorem ax_485 : GoodIn BT (wsV RX9 392 RX0 yX0_lowOfEnergies [.code yX0_lowOfEnergies cX0_lowOfEnergies 4 (some .long)]) := gi_V tw_1272 tw_1273 tw_1274 tw_168 tw_1275
theorem ax_486 : (yX0_lowOfEnergies).cls = RX0 ∧ (yX0_lowOfEnergies).cls ≠ "java/lang/invoke/MethodHandle" ∧ (yX0_lowOfEnergies).cls ≠ "java/lang/invoke/VarHandle" ∧ (parseMethodDescriptor (yX0_lowOfEnergies).desc).map (fun d => d.parameters.length) = some 0 := by decide +kernel
theorem ax_487 : GoodIn BT (wsV RX9 395 RX0 yX0_areWarm [.code yX0_areWarm cX0_areWarm 3 (some .boolean)]) := gi_V tw_1276 tw_1277 tw_1278 tw_168 tw_1279
theorem ax_488 : (yX0_areWarm).cls = RX0 ∧ (yX0_areWarm).cls ≠ "java/lang/invoke/MethodHandle" ∧ (yX0_areWarm).cls ≠ "java/lang/invoke/VarHandle" ∧ (parseMethodDescriptor (yX0_areWarm).desc).map (fun d => d.parameters.length) = some 0 := by decide +kernel
theorem ax_489 : GoodIn BT (wsV RL 325 RX9 yX9_isSound [.code yX9_isSound cX9_isSound 1 (some .boolean)]) := gi_V tw_1280 tw_1281 tw_1282 tw_294 tw_1283
theorem ax_490 : (yX9_isSound).cls = RX9 ∧ (yX9_isSound).cls ≠ "java/lang/invoke/MethodHandle" ∧ (yX9_isSound).cls ≠ "java/lang/invoke/VarHandle" ∧ (parseMethodDescriptor (yX9_isSound).desc).map (fun d => d.parameters.length) = some 0 := by decide +kernel
theorem ax_491 : GoodIn BT (wsV RL 328 RX10 yX10_isSound [.code yX10_isSound cX10_isSound 1 (some .boolean)]) := gi_V tw_1284 tw_1285 tw_1286 tw_312 tw_1287
theorem ax_492 : (yX10_isSound).cls = RX10 ∧ (yX10_isSound).cls ≠ "java/lang/invoke/MethodHandle" ∧ (yX10_isSound).cls ≠ "java/lang/invoke/VarHandle" ∧ (parseMethodDescriptor (yX10_isSound).desc).map (fun d => d.parameters.length) = some 0 := by decide +kernel
theorem ax_493 : ∀ w ∈ u_ws RJ0 TJ0 2, w ∈ BT := List.forall_mem_cons.mpr ⟨tw_1289, List.forall_mem_cons.mpr ⟨tw_1288, fun _ h => absurd h List.not_mem_nil⟩⟩
theorem ax_494 : ∀ w ∈ u_ws RJ6 TJ6 1, w ∈ BT := List.forall_mem_cons.mpr ⟨tw_1291, fun _ h => absurd h List.not_mem_nil⟩
theorem ax_495 : ∀ w ∈ u_ws RJx00060 TJx00060 6, w ∈ BT := List.forall_mem_cons.mpr ⟨tw_1298, List.forall_mem_cons.mpr ⟨tw_1297, List.forall_mem_cons.mpr ⟨tw_1296, List.forall_mem_cons.mpr ⟨tw_1295, List.forall_mem_cons.mpr ⟨tw_1294, List.forall_mem_cons.mpr ⟨tw_1293, fun _ h => absurd h List.not_mem_nil⟩⟩⟩⟩⟩⟩
theorem ax_496 : (yX9_init).cls ≠ "java/lang/invoke/MethodHandle" ∧ (yX9_init).cls ≠ "java/lang/invoke/VarHandle" ∧ (parseMethodDescriptor (yX9_init).desc).map (fun d => d.parameters.length) = some 0 := by decide +kernel
theorem ax_497 : (yX10_init).cls ≠ "java/lang/invoke/MethodHandle" ∧ (yX10_init).cls ≠ "java/lang/invoke/VarHandle" ∧ (parseMethodDescriptor (yX10_init).desc).map (fun d => d.parameters.length) = some 0 := by decide +kernel
