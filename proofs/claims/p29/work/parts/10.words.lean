/-! the words of the claim's tables that the methods need, each by its place -/
theorem jm_1 : Cond.selects RX2 yX2_forget yX2_forget ∈ lw_W := List.mem_filter.mpr ⟨List.mem_of_getElem? (i := 1) (by decide +kernel), by decide +kernel⟩
theorem jm_2 : Cond.selects RX2 yX2_meet yX2_meet ∈ lw_W := List.mem_filter.mpr ⟨List.mem_of_getElem? (i := 2) (by decide +kernel), by decide +kernel⟩
theorem jm_3 : Cond.selects RX5 yX5_lapse yX5_lapse ∈ lw_W := List.mem_filter.mpr ⟨List.mem_of_getElem? (i := 3) (by decide +kernel), by decide +kernel⟩
theorem jm_4 : Cond.selects RX6 yX6_requireRoomFor yX6_requireRoomFor ∈ lw_W := List.mem_filter.mpr ⟨List.mem_of_getElem? (i := 4) (by decide +kernel), by decide +kernel⟩
theorem jm_5 : Cond.selects RX6 yX6_requireRow yX6_requireRow ∈ lw_W := List.mem_filter.mpr ⟨List.mem_of_getElem? (i := 5) (by decide +kernel), by decide +kernel⟩
theorem jm_6 : Cond.selects RX6 yX6_requireHold yX6_requireHold ∈ lw_W := List.mem_filter.mpr ⟨List.mem_of_getElem? (i := 6) (by decide +kernel), by decide +kernel⟩
theorem jm_7 : Cond.selects RX5 yX5_isAhead yX5_isAhead ∈ lw_W := List.mem_filter.mpr ⟨List.mem_of_getElem? (i := 7) (by decide +kernel), by decide +kernel⟩
theorem jm_8 : Cond.selects RX5 yX5_hasEarlierPair yX5_hasEarlierPair ∈ lw_W := List.mem_filter.mpr ⟨List.mem_of_getElem? (i := 8) (by decide +kernel), by decide +kernel⟩
theorem jm_9 : Cond.initialized RL ∈ lw_W := List.mem_filter.mpr ⟨List.mem_of_getElem? (i := 9) (by decide +kernel), by decide +kernel⟩
theorem jm_10 : Cond.initialized RX6 ∈ lw_W := List.mem_filter.mpr ⟨List.mem_of_getElem? (i := 10) (by decide +kernel), by decide +kernel⟩
theorem jm_11 : Cond.initialized RX5 ∈ lw_W := List.mem_filter.mpr ⟨List.mem_of_getElem? (i := 11) (by decide +kernel), by decide +kernel⟩
theorem jm_12 : Cond.initialized RX4 ∈ lw_W := List.mem_filter.mpr ⟨List.mem_of_getElem? (i := 12) (by decide +kernel), by decide +kernel⟩
theorem jm_13 : Cond.initialized RX3 ∈ lw_W := List.mem_filter.mpr ⟨List.mem_of_getElem? (i := 13) (by decide +kernel), by decide +kernel⟩
theorem jm_14 : Cond.initialized RX1 ∈ lw_W := List.mem_filter.mpr ⟨List.mem_of_getElem? (i := 14) (by decide +kernel), by decide +kernel⟩
theorem jm_15 : Cond.initialized RX0 ∈ lw_W := List.mem_filter.mpr ⟨List.mem_of_getElem? (i := 15) (by decide +kernel), by decide +kernel⟩
theorem jm_16 : Cond.initialized RX2 ∈ lw_W := List.mem_filter.mpr ⟨List.mem_of_getElem? (i := 16) (by decide +kernel), by decide +kernel⟩
theorem jm_23 : Cond.initialized RJ9 ∈ lw_W := List.mem_filter.mpr ⟨List.mem_of_getElem? (i := 23) (by decide +kernel), by decide +kernel⟩
theorem jm_24 : Cond.classLink RL 11 RX6 ∈ lw_W := List.mem_filter.mpr ⟨List.mem_of_getElem? (i := 24) (by decide +kernel), by decide +kernel⟩
theorem jm_25 : Cond.instantiable RX6 4 ∈ lw_W := List.mem_filter.mpr ⟨List.mem_of_getElem? (i := 25) (by decide +kernel), by decide +kernel⟩
theorem jm_26 : Cond.methodLink RL 90 yX6_init ∈ lw_W := List.mem_filter.mpr ⟨List.mem_of_getElem? (i := 26) (by decide +kernel), by decide +kernel⟩
theorem jm_27 : Cond.instanceMethod yX6_init ∈ lw_W := List.mem_filter.mpr ⟨List.mem_of_getElem? (i := 27) (by decide +kernel), by decide +kernel⟩
theorem jm_28 : Cond.code yX6_init cX6_init 1 none ∈ lw_W := List.mem_filter.mpr ⟨List.mem_of_getElem? (i := 28) (by decide +kernel), by decide +kernel⟩
theorem jm_29 : Cond.methodLink RX6 1 objectInit ∈ lw_W := List.mem_filter.mpr ⟨List.mem_of_getElem? (i := 29) (by decide +kernel), by decide +kernel⟩
theorem jm_30 : Cond.instanceMethod objectInit ∈ lw_W := List.mem_filter.mpr ⟨List.mem_of_getElem? (i := 30) (by decide +kernel), by decide +kernel⟩
theorem jm_32 : Cond.classLink RX6 7 RX5 ∈ lw_W := List.mem_filter.mpr ⟨List.mem_of_getElem? (i := 32) (by decide +kernel), by decide +kernel⟩
theorem jm_33 : Cond.instantiable RX5 8 ∈ lw_W := List.mem_filter.mpr ⟨List.mem_of_getElem? (i := 33) (by decide +kernel), by decide +kernel⟩
theorem jm_34 : Cond.methodLink RX6 9 yX5_init ∈ lw_W := List.mem_filter.mpr ⟨List.mem_of_getElem? (i := 34) (by decide +kernel), by decide +kernel⟩
theorem jm_35 : Cond.instanceMethod yX5_init ∈ lw_W := List.mem_filter.mpr ⟨List.mem_of_getElem? (i := 35) (by decide +kernel), by decide +kernel⟩
theorem jm_36 : Cond.code yX5_init cX5_init 2 none ∈ lw_W := List.mem_filter.mpr ⟨List.mem_of_getElem? (i := 36) (by decide +kernel), by decide +kernel⟩
theorem jm_37 : Cond.methodLink RX5 3 objectInit ∈ lw_W := List.mem_filter.mpr ⟨List.mem_of_getElem? (i := 37) (by decide +kernel), by decide +kernel⟩
theorem jm_38 : Cond.classLink RX5 9 RX4 ∈ lw_W := List.mem_filter.mpr ⟨List.mem_of_getElem? (i := 38) (by decide +kernel), by decide +kernel⟩
theorem jm_40 : Cond.classLink RX5 17 RX3 ∈ lw_W := List.mem_filter.mpr ⟨List.mem_of_getElem? (i := 40) (by decide +kernel), by decide +kernel⟩
theorem jm_42 : Cond.instantiable RX4 9 ∈ lw_W := List.mem_filter.mpr ⟨List.mem_of_getElem? (i := 42) (by decide +kernel), by decide +kernel⟩
theorem jm_44 : Cond.instanceMethod yX4_init ∈ lw_W := List.mem_filter.mpr ⟨List.mem_of_getElem? (i := 44) (by decide +kernel), by decide +kernel⟩
theorem jm_45 : Cond.code yX4_init cX4_init 1 none ∈ lw_W := List.mem_filter.mpr ⟨List.mem_of_getElem? (i := 45) (by decide +kernel), by decide +kernel⟩
theorem jm_46 : Cond.methodLink RX4 3 objectInit ∈ lw_W := List.mem_filter.mpr ⟨List.mem_of_getElem? (i := 46) (by decide +kernel), by decide +kernel⟩
theorem jm_47 : Cond.fieldLink RX4 18 RX4 "key" "I" ∈ lw_W := List.mem_filter.mpr ⟨List.mem_of_getElem? (i := 47) (by decide +kernel), by decide +kernel⟩
theorem jm_48 : Cond.fieldLink RX5 59 RX4 "key" "I" ∈ lw_W := List.mem_filter.mpr ⟨List.mem_of_getElem? (i := 48) (by decide +kernel), by decide +kernel⟩
theorem jm_49 : Cond.fieldLink RX6 195 RX4 "key" "I" ∈ lw_W := List.mem_filter.mpr ⟨List.mem_of_getElem? (i := 49) (by decide +kernel), by decide +kernel⟩
theorem jm_50 : Cond.fieldLink RX4 21 RX4 "urgency" "I" ∈ lw_W := List.mem_filter.mpr ⟨List.mem_of_getElem? (i := 50) (by decide +kernel), by decide +kernel⟩
theorem jm_51 : Cond.fieldLink RX2 41 RX4 "urgency" "I" ∈ lw_W := List.mem_filter.mpr ⟨List.mem_of_getElem? (i := 51) (by decide +kernel), by decide +kernel⟩
theorem jm_52 : Cond.fieldLink RX6 77 RX4 "urgency" "I" ∈ lw_W := List.mem_filter.mpr ⟨List.mem_of_getElem? (i := 52) (by decide +kernel), by decide +kernel⟩
theorem jm_53 : Cond.fieldLink RX5 119 RX4 "urgency" "I" ∈ lw_W := List.mem_filter.mpr ⟨List.mem_of_getElem? (i := 53) (by decide +kernel), by decide +kernel⟩
theorem jm_54 : Cond.fieldLink RX4 24 RX4 "mark" "I" ∈ lw_W := List.mem_filter.mpr ⟨List.mem_of_getElem? (i := 54) (by decide +kernel), by decide +kernel⟩
theorem jm_55 : Cond.fieldLink RX5 122 RX4 "mark" "I" ∈ lw_W := List.mem_filter.mpr ⟨List.mem_of_getElem? (i := 55) (by decide +kernel), by decide +kernel⟩
theorem jm_56 : Cond.fieldLink RX6 198 RX4 "mark" "I" ∈ lw_W := List.mem_filter.mpr ⟨List.mem_of_getElem? (i := 56) (by decide +kernel), by decide +kernel⟩
theorem jm_57 : Cond.fieldLink RX4 27 RX4 "putAt" "I" ∈ lw_W := List.mem_filter.mpr ⟨List.mem_of_getElem? (i := 57) (by decide +kernel), by decide +kernel⟩
theorem jm_58 : Cond.fieldLink RX6 217 RX4 "putAt" "I" ∈ lw_W := List.mem_filter.mpr ⟨List.mem_of_getElem? (i := 58) (by decide +kernel), by decide +kernel⟩
theorem jm_59 : Cond.fieldLink RX4 30 RX4 "state" "I" ∈ lw_W := List.mem_filter.mpr ⟨List.mem_of_getElem? (i := 59) (by decide +kernel), by decide +kernel⟩
theorem jm_60 : Cond.fieldLink RX6 80 RX4 "state" "I" ∈ lw_W := List.mem_filter.mpr ⟨List.mem_of_getElem? (i := 60) (by decide +kernel), by decide +kernel⟩
theorem jm_61 : Cond.fieldLink RX5 56 RX4 "state" "I" ∈ lw_W := List.mem_filter.mpr ⟨List.mem_of_getElem? (i := 61) (by decide +kernel), by decide +kernel⟩
theorem jm_62 : Cond.fieldLink RX4 9 RX4 "holder" "I" ∈ lw_W := List.mem_filter.mpr ⟨List.mem_of_getElem? (i := 62) (by decide +kernel), by decide +kernel⟩
theorem jm_63 : Cond.fieldLink RX5 98 RX4 "holder" "I" ∈ lw_W := List.mem_filter.mpr ⟨List.mem_of_getElem? (i := 63) (by decide +kernel), by decide +kernel⟩
theorem jm_64 : Cond.fieldLink RX6 201 RX4 "holder" "I" ∈ lw_W := List.mem_filter.mpr ⟨List.mem_of_getElem? (i := 64) (by decide +kernel), by decide +kernel⟩
theorem jm_65 : Cond.fieldLink RX4 15 RX4 "lapsesAt" "I" ∈ lw_W := List.mem_filter.mpr ⟨List.mem_of_getElem? (i := 65) (by decide +kernel), by decide +kernel⟩
theorem jm_66 : Cond.fieldLink RX5 89 RX4 "lapsesAt" "I" ∈ lw_W := List.mem_filter.mpr ⟨List.mem_of_getElem? (i := 66) (by decide +kernel), by decide +kernel⟩
theorem jm_67 : Cond.fieldLink RX6 204 RX4 "lapsesAt" "I" ∈ lw_W := List.mem_filter.mpr ⟨List.mem_of_getElem? (i := 67) (by decide +kernel), by decide +kernel⟩
theorem jm_68 : Cond.fieldLink RX4 33 RX4 "tries" "I" ∈ lw_W := List.mem_filter.mpr ⟨List.mem_of_getElem? (i := 68) (by decide +kernel), by decide +kernel⟩
theorem jm_69 : Cond.fieldLink RX6 85 RX4 "tries" "I" ∈ lw_W := List.mem_filter.mpr ⟨List.mem_of_getElem? (i := 69) (by decide +kernel), by decide +kernel⟩
theorem jm_70 : Cond.fieldLink RX5 104 RX4 "tries" "I" ∈ lw_W := List.mem_filter.mpr ⟨List.mem_of_getElem? (i := 70) (by decide +kernel), by decide +kernel⟩
theorem jm_71 : Cond.fieldLink RX4 36 RX4 "skips" "I" ∈ lw_W := List.mem_filter.mpr ⟨List.mem_of_getElem? (i := 71) (by decide +kernel), by decide +kernel⟩
theorem jm_72 : Cond.fieldLink RX5 85 RX4 "skips" "I" ∈ lw_W := List.mem_filter.mpr ⟨List.mem_of_getElem? (i := 72) (by decide +kernel), by decide +kernel⟩
theorem jm_73 : Cond.fieldLink RX6 207 RX4 "skips" "I" ∈ lw_W := List.mem_filter.mpr ⟨List.mem_of_getElem? (i := 73) (by decide +kernel), by decide +kernel⟩
theorem jm_94 : Cond.instantiable RX3 4 ∈ lw_W := List.mem_filter.mpr ⟨List.mem_of_getElem? (i := 94) (by decide +kernel), by decide +kernel⟩
theorem jm_96 : Cond.instanceMethod yX3_init ∈ lw_W := List.mem_filter.mpr ⟨List.mem_of_getElem? (i := 96) (by decide +kernel), by decide +kernel⟩
theorem jm_97 : Cond.code yX3_init cX3_init 1 none ∈ lw_W := List.mem_filter.mpr ⟨List.mem_of_getElem? (i := 97) (by decide +kernel), by decide +kernel⟩
theorem jm_98 : Cond.methodLink RX3 3 objectInit ∈ lw_W := List.mem_filter.mpr ⟨List.mem_of_getElem? (i := 98) (by decide +kernel), by decide +kernel⟩
theorem jm_99 : Cond.fieldLink RX3 9 RX3 "keys" "I" ∈ lw_W := List.mem_filter.mpr ⟨List.mem_of_getElem? (i := 99) (by decide +kernel), by decide +kernel⟩
theorem jm_100 : Cond.fieldLink RX6 112 RX3 "keys" "I" ∈ lw_W := List.mem_filter.mpr ⟨List.mem_of_getElem? (i := 100) (by decide +kernel), by decide +kernel⟩
theorem jm_101 : Cond.fieldLink RX3 15 RX3 "dones" "I" ∈ lw_W := List.mem_filter.mpr ⟨List.mem_of_getElem? (i := 101) (by decide +kernel), by decide +kernel⟩
theorem jm_102 : Cond.fieldLink RX6 137 RX3 "dones" "I" ∈ lw_W := List.mem_filter.mpr ⟨List.mem_of_getElem? (i := 102) (by decide +kernel), by decide +kernel⟩
theorem jm_103 : Cond.fieldLink RX3 18 RX3 "givenBack" "I" ∈ lw_W := List.mem_filter.mpr ⟨List.mem_of_getElem? (i := 103) (by decide +kernel), by decide +kernel⟩
theorem jm_104 : Cond.fieldLink RX6 138 RX3 "givenBack" "I" ∈ lw_W := List.mem_filter.mpr ⟨List.mem_of_getElem? (i := 104) (by decide +kernel), by decide +kernel⟩
theorem jm_105 : Cond.fieldLink RX3 21 RX3 "lapsed" "I" ∈ lw_W := List.mem_filter.mpr ⟨List.mem_of_getElem? (i := 105) (by decide +kernel), by decide +kernel⟩
theorem jm_106 : Cond.fieldLink RX5 101 RX3 "lapsed" "I" ∈ lw_W := List.mem_filter.mpr ⟨List.mem_of_getElem? (i := 106) (by decide +kernel), by decide +kernel⟩
theorem jm_107 : Cond.fieldLink RX6 220 RX3 "lapsed" "I" ∈ lw_W := List.mem_filter.mpr ⟨List.mem_of_getElem? (i := 107) (by decide +kernel), by decide +kernel⟩
theorem jm_117 : Cond.fieldLink RX5 11 RX5 "rows" "[LSkipRows$Row;" ∈ lw_W := List.mem_filter.mpr ⟨List.mem_of_getElem? (i := 117) (by decide +kernel), by decide +kernel⟩
theorem jm_118 : Cond.fieldLink RX2 37 RX5 "rows" "[LSkipRows$Row;" ∈ lw_W := List.mem_filter.mpr ⟨List.mem_of_getElem? (i := 118) (by decide +kernel), by decide +kernel⟩
theorem jm_119 : Cond.fieldLink RX6 60 RX5 "rows" "[LSkipRows$Row;" ∈ lw_W := List.mem_filter.mpr ⟨List.mem_of_getElem? (i := 119) (by decide +kernel), by decide +kernel⟩
theorem jm_120 : Cond.fieldLink RX5 19 RX5 "readers" "[LSkipRows$Reader;" ∈ lw_W := List.mem_filter.mpr ⟨List.mem_of_getElem? (i := 120) (by decide +kernel), by decide +kernel⟩
theorem jm_121 : Cond.fieldLink RX6 108 RX5 "readers" "[LSkipRows$Reader;" ∈ lw_W := List.mem_filter.mpr ⟨List.mem_of_getElem? (i := 121) (by decide +kernel), by decide +kernel⟩
theorem jm_122 : Cond.fieldLink RX5 23 RX5 "settings" "[I" ∈ lw_W := List.mem_filter.mpr ⟨List.mem_of_getElem? (i := 122) (by decide +kernel), by decide +kernel⟩
theorem jm_123 : Cond.fieldLink RX2 14 RX5 "settings" "[I" ∈ lw_W := List.mem_filter.mpr ⟨List.mem_of_getElem? (i := 123) (by decide +kernel), by decide +kernel⟩
theorem jm_124 : Cond.fieldLink RX6 102 RX5 "settings" "[I" ∈ lw_W := List.mem_filter.mpr ⟨List.mem_of_getElem? (i := 124) (by decide +kernel), by decide +kernel⟩
theorem jm_125 : Cond.fieldLink RX5 29 RX5 "size" "I" ∈ lw_W := List.mem_filter.mpr ⟨List.mem_of_getElem? (i := 125) (by decide +kernel), by decide +kernel⟩
theorem jm_126 : Cond.fieldLink RX6 53 RX5 "size" "I" ∈ lw_W := List.mem_filter.mpr ⟨List.mem_of_getElem? (i := 126) (by decide +kernel), by decide +kernel⟩
theorem jm_127 : Cond.fieldLink RX2 34 RX5 "size" "I" ∈ lw_W := List.mem_filter.mpr ⟨List.mem_of_getElem? (i := 127) (by decide +kernel), by decide +kernel⟩
theorem jm_128 : Cond.fieldLink RX5 40 RX5 "time" "I" ∈ lw_W := List.mem_filter.mpr ⟨List.mem_of_getElem? (i := 128) (by decide +kernel), by decide +kernel⟩
theorem jm_129 : Cond.fieldLink RX6 148 RX5 "time" "I" ∈ lw_W := List.mem_filter.mpr ⟨List.mem_of_getElem? (i := 129) (by decide +kernel), by decide +kernel⟩
theorem jm_130 : Cond.fieldLink RX5 43 RX5 "puts" "I" ∈ lw_W := List.mem_filter.mpr ⟨List.mem_of_getElem? (i := 130) (by decide +kernel), by decide +kernel⟩
theorem jm_131 : Cond.fieldLink RX6 236 RX5 "puts" "I" ∈ lw_W := List.mem_filter.mpr ⟨List.mem_of_getElem? (i := 131) (by decide +kernel), by decide +kernel⟩
theorem jm_132 : Cond.fieldLink RX5 46 RX5 "dones" "I" ∈ lw_W := List.mem_filter.mpr ⟨List.mem_of_getElem? (i := 132) (by decide +kernel), by decide +kernel⟩
theorem jm_133 : Cond.fieldLink RX6 134 RX5 "dones" "I" ∈ lw_W := List.mem_filter.mpr ⟨List.mem_of_getElem? (i := 133) (by decide +kernel), by decide +kernel⟩
theorem jm_134 : Cond.fieldLink RX5 49 RX5 "skips" "I" ∈ lw_W := List.mem_filter.mpr ⟨List.mem_of_getElem? (i := 134) (by decide +kernel), by decide +kernel⟩
theorem jm_135 : Cond.fieldLink RX6 242 RX5 "skips" "I" ∈ lw_W := List.mem_filter.mpr ⟨List.mem_of_getElem? (i := 135) (by decide +kernel), by decide +kernel⟩
theorem jm_153 : Cond.classLink RX6 16 RX1 ∈ lw_W := List.mem_filter.mpr ⟨List.mem_of_getElem? (i := 153) (by decide +kernel), by decide +kernel⟩
theorem jm_154 : Cond.instantiable RX1 3 ∈ lw_W := List.mem_filter.mpr ⟨List.mem_of_getElem? (i := 154) (by decide +kernel), by decide +kernel⟩
theorem jm_155 : Cond.methodLink RX6 18 yX1_init ∈ lw_W := List.mem_filter.mpr ⟨List.mem_of_getElem? (i := 155) (by decide +kernel), by decide +kernel⟩
theorem jm_156 : Cond.instanceMethod yX1_init ∈ lw_W := List.mem_filter.mpr ⟨List.mem_of_getElem? (i := 156) (by decide +kernel), by decide +kernel⟩
theorem jm_157 : Cond.code yX1_init cX1_init 2 none ∈ lw_W := List.mem_filter.mpr ⟨List.mem_of_getElem? (i := 157) (by decide +kernel), by decide +kernel⟩
theorem jm_158 : Cond.methodLink RX1 3 objectInit ∈ lw_W := List.mem_filter.mpr ⟨List.mem_of_getElem? (i := 158) (by decide +kernel), by decide +kernel⟩
theorem jm_159 : Cond.classLink RX1 9 RX5 ∈ lw_W := List.mem_filter.mpr ⟨List.mem_of_getElem? (i := 159) (by decide +kernel), by decide +kernel⟩
theorem jm_161 : Cond.methodLink RX1 17 yX5_init ∈ lw_W := List.mem_filter.mpr ⟨List.mem_of_getElem? (i := 161) (by decide +kernel), by decide +kernel⟩
theorem jm_162 : Cond.fieldLink RX1 11 RX1 "saved" "[LSkipRows$Table;" ∈ lw_W := List.mem_filter.mpr ⟨List.mem_of_getElem? (i := 162) (by decide +kernel), by decide +kernel⟩
theorem jm_163 : Cond.fieldLink RX1 22 RX1 "oldest" "I" ∈ lw_W := List.mem_filter.mpr ⟨List.mem_of_getElem? (i := 163) (by decide +kernel), by decide +kernel⟩
theorem jm_164 : Cond.fieldLink RX1 18 RX1 "size" "I" ∈ lw_W := List.mem_filter.mpr ⟨List.mem_of_getElem? (i := 164) (by decide +kernel), by decide +kernel⟩
theorem jm_165 : Cond.fieldLink RX6 189 RX1 "size" "I" ∈ lw_W := List.mem_filter.mpr ⟨List.mem_of_getElem? (i := 165) (by decide +kernel), by decide +kernel⟩
theorem jm_173 : Cond.classLink RX6 23 RX0 ∈ lw_W := List.mem_filter.mpr ⟨List.mem_of_getElem? (i := 173) (by decide +kernel), by decide +kernel⟩
theorem jm_174 : Cond.instantiable RX0 7 ∈ lw_W := List.mem_filter.mpr ⟨List.mem_of_getElem? (i := 174) (by decide +kernel), by decide +kernel⟩
theorem jm_176 : Cond.instanceMethod yX0_init ∈ lw_W := List.mem_filter.mpr ⟨List.mem_of_getElem? (i := 176) (by decide +kernel), by decide +kernel⟩
theorem jm_177 : Cond.code yX0_init cX0_init 1 none ∈ lw_W := List.mem_filter.mpr ⟨List.mem_of_getElem? (i := 177) (by decide +kernel), by decide +kernel⟩
theorem jm_178 : Cond.methodLink RX0 3 objectInit ∈ lw_W := List.mem_filter.mpr ⟨List.mem_of_getElem? (i := 178) (by decide +kernel), by decide +kernel⟩
theorem jm_179 : Cond.fieldLink RX0 9 RX0 "codes" "[I" ∈ lw_W := List.mem_filter.mpr ⟨List.mem_of_getElem? (i := 179) (by decide +kernel), by decide +kernel⟩
theorem jm_180 : Cond.fieldLink RX0 15 RX0 "keys" "[I" ∈ lw_W := List.mem_filter.mpr ⟨List.mem_of_getElem? (i := 180) (by decide +kernel), by decide +kernel⟩
theorem jm_181 : Cond.fieldLink RX0 18 RX0 "urgencies" "[I" ∈ lw_W := List.mem_filter.mpr ⟨List.mem_of_getElem? (i := 181) (by decide +kernel), by decide +kernel⟩
theorem jm_182 : Cond.fieldLink RX0 21 RX0 "times" "[I" ∈ lw_W := List.mem_filter.mpr ⟨List.mem_of_getElem? (i := 182) (by decide +kernel), by decide +kernel⟩
theorem jm_198 : Cond.classLink RX6 30 RX2 ∈ lw_W := List.mem_filter.mpr ⟨List.mem_of_getElem? (i := 198) (by decide +kernel), by decide +kernel⟩
theorem jm_199 : Cond.instantiable RX2 5 ∈ lw_W := List.mem_filter.mpr ⟨List.mem_of_getElem? (i := 199) (by decide +kernel), by decide +kernel⟩
theorem jm_201 : Cond.instanceMethod yX2_init ∈ lw_W := List.mem_filter.mpr ⟨List.mem_of_getElem? (i := 201) (by decide +kernel), by decide +kernel⟩
theorem jm_202 : Cond.code yX2_init cX2_init 1 none ∈ lw_W := List.mem_filter.mpr ⟨List.mem_of_getElem? (i := 202) (by decide +kernel), by decide +kernel⟩
theorem jm_203 : Cond.methodLink RX2 3 objectInit ∈ lw_W := List.mem_filter.mpr ⟨List.mem_of_getElem? (i := 203) (by decide +kernel), by decide +kernel⟩
theorem jm_204 : Cond.fieldLink RX2 58 RX2 "taken" "I" ∈ lw_W := List.mem_filter.mpr ⟨List.mem_of_getElem? (i := 204) (by decide +kernel), by decide +kernel⟩
theorem jm_205 : Cond.fieldLink RX6 249 RX2 "taken" "I" ∈ lw_W := List.mem_filter.mpr ⟨List.mem_of_getElem? (i := 205) (by decide +kernel), by decide +kernel⟩
theorem jm_206 : Cond.fieldLink RX2 30 RX2 "takenRows" "I" ∈ lw_W := List.mem_filter.mpr ⟨List.mem_of_getElem? (i := 206) (by decide +kernel), by decide +kernel⟩
theorem jm_207 : Cond.fieldLink RX6 125 RX2 "takenRows" "I" ∈ lw_W := List.mem_filter.mpr ⟨List.mem_of_getElem? (i := 207) (by decide +kernel), by decide +kernel⟩
theorem jm_208 : Cond.fieldLink RX2 61 RX2 "skipped" "I" ∈ lw_W := List.mem_filter.mpr ⟨List.mem_of_getElem? (i := 208) (by decide +kernel), by decide +kernel⟩
theorem jm_209 : Cond.fieldLink RX2 64 RX2 "skippedRows" "I" ∈ lw_W := List.mem_filter.mpr ⟨List.mem_of_getElem? (i := 209) (by decide +kernel), by decide +kernel⟩
theorem jm_210 : Cond.fieldLink RX6 252 RX2 "skippedRows" "I" ∈ lw_W := List.mem_filter.mpr ⟨List.mem_of_getElem? (i := 210) (by decide +kernel), by decide +kernel⟩
theorem jm_211 : Cond.fieldLink RX2 67 RX2 "first" "I" ∈ lw_W := List.mem_filter.mpr ⟨List.mem_of_getElem? (i := 211) (by decide +kernel), by decide +kernel⟩
theorem jm_212 : Cond.fieldLink RX6 226 RX2 "first" "I" ∈ lw_W := List.mem_filter.mpr ⟨List.mem_of_getElem? (i := 212) (by decide +kernel), by decide +kernel⟩
theorem jm_224 : Cond.fieldLink RX6 10 RX6 "table" "LSkipRows$Table;" ∈ lw_W := List.mem_filter.mpr ⟨List.mem_of_getElem? (i := 224) (by decide +kernel), by decide +kernel⟩
theorem jm_225 : Cond.fieldLink RX6 19 RX6 "history" "LSkipRows$History;" ∈ lw_W := List.mem_filter.mpr ⟨List.mem_of_getElem? (i := 225) (by decide +kernel), by decide +kernel⟩
theorem jm_226 : Cond.fieldLink RX6 26 RX6 "buffer" "LSkipRows$Buffer;" ∈ lw_W := List.mem_filter.mpr ⟨List.mem_of_getElem? (i := 226) (by decide +kernel), by decide +kernel⟩
theorem jm_227 : Cond.fieldLink RX6 33 RX6 "look" "LSkipRows$Look;" ∈ lw_W := List.mem_filter.mpr ⟨List.mem_of_getElem? (i := 227) (by decide +kernel), by decide +kernel⟩
theorem jm_237 : Cond.methodLink RL 123 yX6_sweep ∈ lw_W := List.mem_filter.mpr ⟨List.mem_of_getElem? (i := 237) (by decide +kernel), by decide +kernel⟩
theorem jm_238 : Cond.instanceMethod yX6_sweep ∈ lw_W := List.mem_filter.mpr ⟨List.mem_of_getElem? (i := 238) (by decide +kernel), by decide +kernel⟩
theorem jm_239 : Cond.selects RX6 yX6_sweep yX6_sweep ∈ lw_W := List.mem_filter.mpr ⟨List.mem_of_getElem? (i := 239) (by decide +kernel), by decide +kernel⟩
theorem jm_240 : Cond.code yX6_sweep cX6_sweep 1 (some .int) ∈ lw_W := List.mem_filter.mpr ⟨List.mem_of_getElem? (i := 240) (by decide +kernel), by decide +kernel⟩
theorem jm_241 : Cond.methodLink RX6 45 yX1_keep ∈ lw_W := List.mem_filter.mpr ⟨List.mem_of_getElem? (i := 241) (by decide +kernel), by decide +kernel⟩
theorem jm_242 : Cond.instanceMethod yX1_keep ∈ lw_W := List.mem_filter.mpr ⟨List.mem_of_getElem? (i := 242) (by decide +kernel), by decide +kernel⟩
theorem jm_243 : Cond.selects RX1 yX1_keep yX1_keep ∈ lw_W := List.mem_filter.mpr ⟨List.mem_of_getElem? (i := 243) (by decide +kernel), by decide +kernel⟩
theorem jm_244 : Cond.code yX1_keep cX1_keep 2 none ∈ lw_W := List.mem_filter.mpr ⟨List.mem_of_getElem? (i := 244) (by decide +kernel), by decide +kernel⟩
theorem jm_245 : Cond.methodLink RX1 25 yX5_copyFrom ∈ lw_W := List.mem_filter.mpr ⟨List.mem_of_getElem? (i := 245) (by decide +kernel), by decide +kernel⟩
theorem jm_246 : Cond.instanceMethod yX5_copyFrom ∈ lw_W := List.mem_filter.mpr ⟨List.mem_of_getElem? (i := 246) (by decide +kernel), by decide +kernel⟩
theorem jm_247 : Cond.selects RX5 yX5_copyFrom yX5_copyFrom ∈ lw_W := List.mem_filter.mpr ⟨List.mem_of_getElem? (i := 247) (by decide +kernel), by decide +kernel⟩
theorem jm_248 : Cond.code yX5_copyFrom cX5_copyFrom 3 none ∈ lw_W := List.mem_filter.mpr ⟨List.mem_of_getElem? (i := 248) (by decide +kernel), by decide +kernel⟩
theorem jm_249 : Cond.methodLink RX5 33 yX4_copyFrom ∈ lw_W := List.mem_filter.mpr ⟨List.mem_of_getElem? (i := 249) (by decide +kernel), by decide +kernel⟩
theorem jm_250 : Cond.instanceMethod yX4_copyFrom ∈ lw_W := List.mem_filter.mpr ⟨List.mem_of_getElem? (i := 250) (by decide +kernel), by decide +kernel⟩
theorem jm_251 : Cond.selects RX4 yX4_copyFrom yX4_copyFrom ∈ lw_W := List.mem_filter.mpr ⟨List.mem_of_getElem? (i := 251) (by decide +kernel), by decide +kernel⟩
theorem jm_252 : Cond.code yX4_copyFrom cX4_copyFrom 2 none ∈ lw_W := List.mem_filter.mpr ⟨List.mem_of_getElem? (i := 252) (by decide +kernel), by decide +kernel⟩
theorem jm_253 : Cond.methodLink RX5 37 yX3_copyFrom ∈ lw_W := List.mem_filter.mpr ⟨List.mem_of_getElem? (i := 253) (by decide +kernel), by decide +kernel⟩
theorem jm_254 : Cond.instanceMethod yX3_copyFrom ∈ lw_W := List.mem_filter.mpr ⟨List.mem_of_getElem? (i := 254) (by decide +kernel), by decide +kernel⟩
theorem jm_255 : Cond.selects RX3 yX3_copyFrom yX3_copyFrom ∈ lw_W := List.mem_filter.mpr ⟨List.mem_of_getElem? (i := 255) (by decide +kernel), by decide +kernel⟩
theorem jm_256 : Cond.code yX3_copyFrom cX3_copyFrom 2 none ∈ lw_W := List.mem_filter.mpr ⟨List.mem_of_getElem? (i := 256) (by decide +kernel), by decide +kernel⟩
theorem jm_257 : Cond.methodLink RX6 88 yX5_dropDoneRows ∈ lw_W := List.mem_filter.mpr ⟨List.mem_of_getElem? (i := 257) (by decide +kernel), by decide +kernel⟩
theorem jm_258 : Cond.instanceMethod yX5_dropDoneRows ∈ lw_W := List.mem_filter.mpr ⟨List.mem_of_getElem? (i := 258) (by decide +kernel), by decide +kernel⟩
theorem jm_259 : Cond.selects RX5 yX5_dropDoneRows yX5_dropDoneRows ∈ lw_W := List.mem_filter.mpr ⟨List.mem_of_getElem? (i := 259) (by decide +kernel), by decide +kernel⟩
theorem jm_260 : Cond.code yX5_dropDoneRows cX5_dropDoneRows 3 (some .int) ∈ lw_W := List.mem_filter.mpr ⟨List.mem_of_getElem? (i := 260) (by decide +kernel), by decide +kernel⟩
theorem jm_261 : Cond.methodLink RL 112 yX6_set ∈ lw_W := List.mem_filter.mpr ⟨List.mem_of_getElem? (i := 261) (by decide +kernel), by decide +kernel⟩
theorem jm_262 : Cond.instanceMethod yX6_set ∈ lw_W := List.mem_filter.mpr ⟨List.mem_of_getElem? (i := 262) (by decide +kernel), by decide +kernel⟩
theorem jm_263 : Cond.selects RX6 yX6_set yX6_set ∈ lw_W := List.mem_filter.mpr ⟨List.mem_of_getElem? (i := 263) (by decide +kernel), by decide +kernel⟩
theorem jm_264 : Cond.code yX6_set cX6_set 4 (some .int) ∈ lw_W := List.mem_filter.mpr ⟨List.mem_of_getElem? (i := 264) (by decide +kernel), by decide +kernel⟩
theorem jm_265 : Cond.methodLink RX6 92 yX6_requireSetting ∈ lw_W := List.mem_filter.mpr ⟨List.mem_of_getElem? (i := 265) (by decide +kernel), by decide +kernel⟩
theorem jm_266 : Cond.static yX6_requireSetting ∈ lw_W := List.mem_filter.mpr ⟨List.mem_of_getElem? (i := 266) (by decide +kernel), by decide +kernel⟩
theorem jm_267 : Cond.code yX6_requireSetting cX6_requireSetting 1 none ∈ lw_W := List.mem_filter.mpr ⟨List.mem_of_getElem? (i := 267) (by decide +kernel), by decide +kernel⟩
theorem jm_336 : Cond.fieldLink RX6 95 RX6 "LEAST_VALUES" "[I" ∈ lw_W := List.mem_filter.mpr ⟨List.mem_of_getElem? (i := 336) (by decide +kernel), by decide +kernel⟩
theorem jm_338 : Cond.fieldLink RX6 99 RX6 "GREATEST_VALUES" "[I" ∈ lw_W := List.mem_filter.mpr ⟨List.mem_of_getElem? (i := 338) (by decide +kernel), by decide +kernel⟩
theorem jm_340 : Cond.methodLink RX6 37 yX6_requireWithin ∈ lw_W := List.mem_filter.mpr ⟨List.mem_of_getElem? (i := 340) (by decide +kernel), by decide +kernel⟩
theorem jm_341 : Cond.static yX6_requireWithin ∈ lw_W := List.mem_filter.mpr ⟨List.mem_of_getElem? (i := 341) (by decide +kernel), by decide +kernel⟩
theorem jm_342 : Cond.code yX6_requireWithin cX6_requireWithin 3 none ∈ lw_W := List.mem_filter.mpr ⟨List.mem_of_getElem? (i := 342) (by decide +kernel), by decide +kernel⟩
theorem jm_359 : Cond.methodLink RL 115 yX6_takes ∈ lw_W := List.mem_filter.mpr ⟨List.mem_of_getElem? (i := 359) (by decide +kernel), by decide +kernel⟩
theorem jm_360 : Cond.instanceMethod yX6_takes ∈ lw_W := List.mem_filter.mpr ⟨List.mem_of_getElem? (i := 360) (by decide +kernel), by decide +kernel⟩
theorem jm_361 : Cond.selects RX6 yX6_takes yX6_takes ∈ lw_W := List.mem_filter.mpr ⟨List.mem_of_getElem? (i := 361) (by decide +kernel), by decide +kernel⟩
theorem jm_362 : Cond.code yX6_takes cX6_takes 4 (some .int) ∈ lw_W := List.mem_filter.mpr ⟨List.mem_of_getElem? (i := 362) (by decide +kernel), by decide +kernel⟩
theorem jm_363 : Cond.methodLink RX6 105 yX6_requireReader ∈ lw_W := List.mem_filter.mpr ⟨List.mem_of_getElem? (i := 363) (by decide +kernel), by decide +kernel⟩
theorem jm_364 : Cond.static yX6_requireReader ∈ lw_W := List.mem_filter.mpr ⟨List.mem_of_getElem? (i := 364) (by decide +kernel), by decide +kernel⟩
theorem jm_365 : Cond.code yX6_requireReader cX6_requireReader 1 none ∈ lw_W := List.mem_filter.mpr ⟨List.mem_of_getElem? (i := 365) (by decide +kernel), by decide +kernel⟩
theorem jm_367 : Cond.methodLink RL 101 yX6_take ∈ lw_W := List.mem_filter.mpr ⟨List.mem_of_getElem? (i := 367) (by decide +kernel), by decide +kernel⟩
theorem jm_368 : Cond.instanceMethod yX6_take ∈ lw_W := List.mem_filter.mpr ⟨List.mem_of_getElem? (i := 368) (by decide +kernel), by decide +kernel⟩
theorem jm_369 : Cond.selects RX6 yX6_take yX6_take ∈ lw_W := List.mem_filter.mpr ⟨List.mem_of_getElem? (i := 369) (by decide +kernel), by decide +kernel⟩
theorem jm_370 : Cond.code yX6_take cX6_take 3 (some .int) ∈ lw_W := List.mem_filter.mpr ⟨List.mem_of_getElem? (i := 370) (by decide +kernel), by decide +kernel⟩
theorem jm_371 : Cond.methodLink RX6 117 yX2_along ∈ lw_W := List.mem_filter.mpr ⟨List.mem_of_getElem? (i := 371) (by decide +kernel), by decide +kernel⟩
theorem jm_372 : Cond.instanceMethod yX2_along ∈ lw_W := List.mem_filter.mpr ⟨List.mem_of_getElem? (i := 372) (by decide +kernel), by decide +kernel⟩
theorem jm_373 : Cond.selects RX2 yX2_along yX2_along ∈ lw_W := List.mem_filter.mpr ⟨List.mem_of_getElem? (i := 373) (by decide +kernel), by decide +kernel⟩
theorem jm_374 : Cond.code yX2_along cX2_along 7 none ∈ lw_W := List.mem_filter.mpr ⟨List.mem_of_getElem? (i := 374) (by decide +kernel), by decide +kernel⟩
theorem jm_375 : Cond.methodLink RX2 9 yX2_forget ∈ lw_W := List.mem_filter.mpr ⟨List.mem_of_getElem? (i := 375) (by decide +kernel), by decide +kernel⟩
theorem jm_377 : Cond.instanceMethod yX2_forget ∈ lw_W := List.mem_filter.mpr ⟨List.mem_of_getElem? (i := 377) (by decide +kernel), by decide +kernel⟩
theorem jm_378 : Cond.code yX2_forget cX2_forget 1 none ∈ lw_W := List.mem_filter.mpr ⟨List.mem_of_getElem? (i := 378) (by decide +kernel), by decide +kernel⟩
theorem jm_379 : Cond.methodLink RX2 20 yX5_holdsOf ∈ lw_W := List.mem_filter.mpr ⟨List.mem_of_getElem? (i := 379) (by decide +kernel), by decide +kernel⟩
theorem jm_380 : Cond.instanceMethod yX5_holdsOf ∈ lw_W := List.mem_filter.mpr ⟨List.mem_of_getElem? (i := 380) (by decide +kernel), by decide +kernel⟩
theorem jm_381 : Cond.selects RX5 yX5_holdsOf yX5_holdsOf ∈ lw_W := List.mem_filter.mpr ⟨List.mem_of_getElem? (i := 381) (by decide +kernel), by decide +kernel⟩
theorem jm_382 : Cond.code yX5_holdsOf cX5_holdsOf 4 (some .int) ∈ lw_W := List.mem_filter.mpr ⟨List.mem_of_getElem? (i := 382) (by decide +kernel), by decide +kernel⟩
theorem jm_383 : Cond.methodLink RX5 86 yX4_isHeldBy ∈ lw_W := List.mem_filter.mpr ⟨List.mem_of_getElem? (i := 383) (by decide +kernel), by decide +kernel⟩
theorem jm_384 : Cond.instanceMethod yX4_isHeldBy ∈ lw_W := List.mem_filter.mpr ⟨List.mem_of_getElem? (i := 384) (by decide +kernel), by decide +kernel⟩
theorem jm_385 : Cond.selects RX4 yX4_isHeldBy yX4_isHeldBy ∈ lw_W := List.mem_filter.mpr ⟨List.mem_of_getElem? (i := 385) (by decide +kernel), by decide +kernel⟩
theorem jm_386 : Cond.code yX4_isHeldBy cX4_isHeldBy 2 (some .boolean) ∈ lw_W := List.mem_filter.mpr ⟨List.mem_of_getElem? (i := 386) (by decide +kernel), by decide +kernel⟩
theorem jm_387 : Cond.methodLink RX2 24 yJ9_min_7cf53 ∈ lw_W := List.mem_filter.mpr ⟨List.mem_of_getElem? (i := 387) (by decide +kernel), by decide +kernel⟩
theorem jm_388 : Cond.static yJ9_min_7cf53 ∈ lw_W := List.mem_filter.mpr ⟨List.mem_of_getElem? (i := 388) (by decide +kernel), by decide +kernel⟩
theorem jm_389 : Cond.code yJ9_min_7cf53 cJ9_min_7cf53 2 (some .int) ∈ lw_W := List.mem_filter.mpr ⟨List.mem_of_getElem? (i := 389) (by decide +kernel), by decide +kernel⟩
theorem jm_390 : Cond.methodLink RX2 46 yX4_isOpen ∈ lw_W := List.mem_filter.mpr ⟨List.mem_of_getElem? (i := 390) (by decide +kernel), by decide +kernel⟩
theorem jm_391 : Cond.instanceMethod yX4_isOpen ∈ lw_W := List.mem_filter.mpr ⟨List.mem_of_getElem? (i := 391) (by decide +kernel), by decide +kernel⟩
theorem jm_392 : Cond.selects RX4 yX4_isOpen yX4_isOpen ∈ lw_W := List.mem_filter.mpr ⟨List.mem_of_getElem? (i := 392) (by decide +kernel), by decide +kernel⟩
theorem jm_393 : Cond.code yX4_isOpen cX4_isOpen 1 (some .boolean) ∈ lw_W := List.mem_filter.mpr ⟨List.mem_of_getElem? (i := 393) (by decide +kernel), by decide +kernel⟩
theorem jm_394 : Cond.methodLink RX2 50 yX5_canTake ∈ lw_W := List.mem_filter.mpr ⟨List.mem_of_getElem? (i := 394) (by decide +kernel), by decide +kernel⟩
theorem jm_395 : Cond.instanceMethod yX5_canTake ∈ lw_W := List.mem_filter.mpr ⟨List.mem_of_getElem? (i := 395) (by decide +kernel), by decide +kernel⟩
theorem jm_396 : Cond.selects RX5 yX5_canTake yX5_canTake ∈ lw_W := List.mem_filter.mpr ⟨List.mem_of_getElem? (i := 396) (by decide +kernel), by decide +kernel⟩
theorem jm_397 : Cond.code yX5_canTake cX5_canTake 3 (some .boolean) ∈ lw_W := List.mem_filter.mpr ⟨List.mem_of_getElem? (i := 397) (by decide +kernel), by decide +kernel⟩
theorem jm_398 : Cond.methodLink RX5 66 yX3_wants ∈ lw_W := List.mem_filter.mpr ⟨List.mem_of_getElem? (i := 398) (by decide +kernel), by decide +kernel⟩
theorem jm_399 : Cond.instanceMethod yX3_wants ∈ lw_W := List.mem_filter.mpr ⟨List.mem_of_getElem? (i := 399) (by decide +kernel), by decide +kernel⟩
theorem jm_400 : Cond.selects RX3 yX3_wants yX3_wants ∈ lw_W := List.mem_filter.mpr ⟨List.mem_of_getElem? (i := 400) (by decide +kernel), by decide +kernel⟩
theorem jm_401 : Cond.code yX3_wants cX3_wants 2 (some .boolean) ∈ lw_W := List.mem_filter.mpr ⟨List.mem_of_getElem? (i := 401) (by decide +kernel), by decide +kernel⟩
theorem jm_402 : Cond.methodLink RX5 70 yX5_isBlocked ∈ lw_W := List.mem_filter.mpr ⟨List.mem_of_getElem? (i := 402) (by decide +kernel), by decide +kernel⟩
theorem jm_403 : Cond.instanceMethod yX5_isBlocked ∈ lw_W := List.mem_filter.mpr ⟨List.mem_of_getElem? (i := 403) (by decide +kernel), by decide +kernel⟩
theorem jm_404 : Cond.selects RX5 yX5_isBlocked yX5_isBlocked ∈ lw_W := List.mem_filter.mpr ⟨List.mem_of_getElem? (i := 404) (by decide +kernel), by decide +kernel⟩
theorem jm_405 : Cond.code yX5_isBlocked cX5_isBlocked 3 (some .boolean) ∈ lw_W := List.mem_filter.mpr ⟨List.mem_of_getElem? (i := 405) (by decide +kernel), by decide +kernel⟩
theorem jm_406 : Cond.methodLink RX5 62 yX4_isOpen ∈ lw_W := List.mem_filter.mpr ⟨List.mem_of_getElem? (i := 406) (by decide +kernel), by decide +kernel⟩
theorem jm_407 : Cond.methodLink RX2 54 yX2_meet ∈ lw_W := List.mem_filter.mpr ⟨List.mem_of_getElem? (i := 407) (by decide +kernel), by decide +kernel⟩
theorem jm_409 : Cond.instanceMethod yX2_meet ∈ lw_W := List.mem_filter.mpr ⟨List.mem_of_getElem? (i := 409) (by decide +kernel), by decide +kernel⟩
theorem jm_410 : Cond.code yX2_meet cX2_meet 3 none ∈ lw_W := List.mem_filter.mpr ⟨List.mem_of_getElem? (i := 410) (by decide +kernel), by decide +kernel⟩
theorem jm_411 : Cond.methodLink RX6 121 yX5_holdAndSkip ∈ lw_W := List.mem_filter.mpr ⟨List.mem_of_getElem? (i := 411) (by decide +kernel), by decide +kernel⟩
theorem jm_412 : Cond.instanceMethod yX5_holdAndSkip ∈ lw_W := List.mem_filter.mpr ⟨List.mem_of_getElem? (i := 412) (by decide +kernel), by decide +kernel⟩
theorem jm_413 : Cond.selects RX5 yX5_holdAndSkip yX5_holdAndSkip ∈ lw_W := List.mem_filter.mpr ⟨List.mem_of_getElem? (i := 413) (by decide +kernel), by decide +kernel⟩
theorem jm_414 : Cond.code yX5_holdAndSkip cX5_holdAndSkip 4 none ∈ lw_W := List.mem_filter.mpr ⟨List.mem_of_getElem? (i := 414) (by decide +kernel), by decide +kernel⟩
theorem jm_415 : Cond.methodLink RX5 73 yX2_hasTaken ∈ lw_W := List.mem_filter.mpr ⟨List.mem_of_getElem? (i := 415) (by decide +kernel), by decide +kernel⟩
theorem jm_416 : Cond.instanceMethod yX2_hasTaken ∈ lw_W := List.mem_filter.mpr ⟨List.mem_of_getElem? (i := 416) (by decide +kernel), by decide +kernel⟩
theorem jm_417 : Cond.selects RX2 yX2_hasTaken yX2_hasTaken ∈ lw_W := List.mem_filter.mpr ⟨List.mem_of_getElem? (i := 417) (by decide +kernel), by decide +kernel⟩
theorem jm_418 : Cond.code yX2_hasTaken cX2_hasTaken 2 (some .boolean) ∈ lw_W := List.mem_filter.mpr ⟨List.mem_of_getElem? (i := 418) (by decide +kernel), by decide +kernel⟩
theorem jm_419 : Cond.methodLink RX5 78 yX4_startHold ∈ lw_W := List.mem_filter.mpr ⟨List.mem_of_getElem? (i := 419) (by decide +kernel), by decide +kernel⟩
theorem jm_420 : Cond.instanceMethod yX4_startHold ∈ lw_W := List.mem_filter.mpr ⟨List.mem_of_getElem? (i := 420) (by decide +kernel), by decide +kernel⟩
theorem jm_421 : Cond.selects RX4 yX4_startHold yX4_startHold ∈ lw_W := List.mem_filter.mpr ⟨List.mem_of_getElem? (i := 421) (by decide +kernel), by decide +kernel⟩
theorem jm_422 : Cond.code yX4_startHold cX4_startHold 3 none ∈ lw_W := List.mem_filter.mpr ⟨List.mem_of_getElem? (i := 422) (by decide +kernel), by decide +kernel⟩
theorem jm_423 : Cond.methodLink RX5 82 yX2_hasSkipped ∈ lw_W := List.mem_filter.mpr ⟨List.mem_of_getElem? (i := 423) (by decide +kernel), by decide +kernel⟩
theorem jm_424 : Cond.instanceMethod yX2_hasSkipped ∈ lw_W := List.mem_filter.mpr ⟨List.mem_of_getElem? (i := 424) (by decide +kernel), by decide +kernel⟩
theorem jm_425 : Cond.selects RX2 yX2_hasSkipped yX2_hasSkipped ∈ lw_W := List.mem_filter.mpr ⟨List.mem_of_getElem? (i := 425) (by decide +kernel), by decide +kernel⟩
theorem jm_426 : Cond.code yX2_hasSkipped cX2_hasSkipped 2 (some .boolean) ∈ lw_W := List.mem_filter.mpr ⟨List.mem_of_getElem? (i := 426) (by decide +kernel), by decide +kernel⟩
theorem jm_427 : Cond.methodLink RL 109 yX6_renew ∈ lw_W := List.mem_filter.mpr ⟨List.mem_of_getElem? (i := 427) (by decide +kernel), by decide +kernel⟩
theorem jm_428 : Cond.instanceMethod yX6_renew ∈ lw_W := List.mem_filter.mpr ⟨List.mem_of_getElem? (i := 428) (by decide +kernel), by decide +kernel⟩
theorem jm_429 : Cond.selects RX6 yX6_renew yX6_renew ∈ lw_W := List.mem_filter.mpr ⟨List.mem_of_getElem? (i := 429) (by decide +kernel), by decide +kernel⟩
theorem jm_430 : Cond.code yX6_renew cX6_renew 2 (some .int) ∈ lw_W := List.mem_filter.mpr ⟨List.mem_of_getElem? (i := 430) (by decide +kernel), by decide +kernel⟩
theorem jm_431 : Cond.methodLink RX6 145 yX5_prolongHolds ∈ lw_W := List.mem_filter.mpr ⟨List.mem_of_getElem? (i := 431) (by decide +kernel), by decide +kernel⟩
theorem jm_432 : Cond.instanceMethod yX5_prolongHolds ∈ lw_W := List.mem_filter.mpr ⟨List.mem_of_getElem? (i := 432) (by decide +kernel), by decide +kernel⟩
theorem jm_433 : Cond.selects RX5 yX5_prolongHolds yX5_prolongHolds ∈ lw_W := List.mem_filter.mpr ⟨List.mem_of_getElem? (i := 433) (by decide +kernel), by decide +kernel⟩
theorem jm_434 : Cond.code yX5_prolongHolds cX5_prolongHolds 3 none ∈ lw_W := List.mem_filter.mpr ⟨List.mem_of_getElem? (i := 434) (by decide +kernel), by decide +kernel⟩
theorem jm_435 : Cond.methodLink RX6 141 yX5_holdsOf ∈ lw_W := List.mem_filter.mpr ⟨List.mem_of_getElem? (i := 435) (by decide +kernel), by decide +kernel⟩
theorem jm_436 : Cond.methodLink RL 107 yX6_pass ∈ lw_W := List.mem_filter.mpr ⟨List.mem_of_getElem? (i := 436) (by decide +kernel), by decide +kernel⟩
theorem jm_437 : Cond.instanceMethod yX6_pass ∈ lw_W := List.mem_filter.mpr ⟨List.mem_of_getElem? (i := 437) (by decide +kernel), by decide +kernel⟩
theorem jm_438 : Cond.selects RX6 yX6_pass yX6_pass ∈ lw_W := List.mem_filter.mpr ⟨List.mem_of_getElem? (i := 438) (by decide +kernel), by decide +kernel⟩
theorem jm_439 : Cond.code yX6_pass cX6_pass 2 (some .int) ∈ lw_W := List.mem_filter.mpr ⟨List.mem_of_getElem? (i := 439) (by decide +kernel), by decide +kernel⟩
theorem jm_456 : Cond.methodLink RX6 153 yX5_moveTime ∈ lw_W := List.mem_filter.mpr ⟨List.mem_of_getElem? (i := 456) (by decide +kernel), by decide +kernel⟩
theorem jm_457 : Cond.instanceMethod yX5_moveTime ∈ lw_W := List.mem_filter.mpr ⟨List.mem_of_getElem? (i := 457) (by decide +kernel), by decide +kernel⟩
theorem jm_458 : Cond.selects RX5 yX5_moveTime yX5_moveTime ∈ lw_W := List.mem_filter.mpr ⟨List.mem_of_getElem? (i := 458) (by decide +kernel), by decide +kernel⟩
theorem jm_459 : Cond.code yX5_moveTime cX5_moveTime 4 (some .int) ∈ lw_W := List.mem_filter.mpr ⟨List.mem_of_getElem? (i := 459) (by decide +kernel), by decide +kernel⟩
theorem jm_460 : Cond.methodLink RX5 92 yX4_lapsesBy ∈ lw_W := List.mem_filter.mpr ⟨List.mem_of_getElem? (i := 460) (by decide +kernel), by decide +kernel⟩
theorem jm_461 : Cond.instanceMethod yX4_lapsesBy ∈ lw_W := List.mem_filter.mpr ⟨List.mem_of_getElem? (i := 461) (by decide +kernel), by decide +kernel⟩
theorem jm_462 : Cond.selects RX4 yX4_lapsesBy yX4_lapsesBy ∈ lw_W := List.mem_filter.mpr ⟨List.mem_of_getElem? (i := 462) (by decide +kernel), by decide +kernel⟩
theorem jm_463 : Cond.code yX4_lapsesBy cX4_lapsesBy 2 (some .boolean) ∈ lw_W := List.mem_filter.mpr ⟨List.mem_of_getElem? (i := 463) (by decide +kernel), by decide +kernel⟩
theorem jm_464 : Cond.methodLink RX5 95 yX5_lapse ∈ lw_W := List.mem_filter.mpr ⟨List.mem_of_getElem? (i := 464) (by decide +kernel), by decide +kernel⟩
theorem jm_466 : Cond.instanceMethod yX5_lapse ∈ lw_W := List.mem_filter.mpr ⟨List.mem_of_getElem? (i := 466) (by decide +kernel), by decide +kernel⟩
theorem jm_467 : Cond.code yX5_lapse cX5_lapse 2 none ∈ lw_W := List.mem_filter.mpr ⟨List.mem_of_getElem? (i := 467) (by decide +kernel), by decide +kernel⟩
theorem jm_468 : Cond.methodLink RX5 107 yX4_endHold ∈ lw_W := List.mem_filter.mpr ⟨List.mem_of_getElem? (i := 468) (by decide +kernel), by decide +kernel⟩
theorem jm_469 : Cond.instanceMethod yX4_endHold ∈ lw_W := List.mem_filter.mpr ⟨List.mem_of_getElem? (i := 469) (by decide +kernel), by decide +kernel⟩
theorem jm_470 : Cond.selects RX4 yX4_endHold yX4_endHold ∈ lw_W := List.mem_filter.mpr ⟨List.mem_of_getElem? (i := 470) (by decide +kernel), by decide +kernel⟩
theorem jm_471 : Cond.code yX4_endHold cX4_endHold 2 none ∈ lw_W := List.mem_filter.mpr ⟨List.mem_of_getElem? (i := 471) (by decide +kernel), by decide +kernel⟩
theorem jm_472 : Cond.methodLink RL 91 yL_cell ∈ lw_W := List.mem_filter.mpr ⟨List.mem_of_getElem? (i := 472) (by decide +kernel), by decide +kernel⟩
theorem jm_473 : Cond.static yL_cell ∈ lw_W := List.mem_filter.mpr ⟨List.mem_of_getElem? (i := 473) (by decide +kernel), by decide +kernel⟩
theorem jm_474 : Cond.code yL_cell cL_cell 2 (some .int) ∈ lw_W := List.mem_filter.mpr ⟨List.mem_of_getElem? (i := 474) (by decide +kernel), by decide +kernel⟩
theorem jm_475 : Cond.constant RL 7 (433494437) ∈ lw_W := List.mem_filter.mpr ⟨List.mem_of_getElem? (i := 475) (by decide +kernel), by decide +kernel⟩
theorem jm_476 : Cond.constant RL 8 (982451653) ∈ lw_W := List.mem_filter.mpr ⟨List.mem_of_getElem? (i := 476) (by decide +kernel), by decide +kernel⟩
theorem jm_477 : Cond.methodLink RL 95 yL_low ∈ lw_W := List.mem_filter.mpr ⟨List.mem_of_getElem? (i := 477) (by decide +kernel), by decide +kernel⟩
theorem jm_478 : Cond.static yL_low ∈ lw_W := List.mem_filter.mpr ⟨List.mem_of_getElem? (i := 478) (by decide +kernel), by decide +kernel⟩
theorem jm_479 : Cond.code yL_low cL_low 2 (some .int) ∈ lw_W := List.mem_filter.mpr ⟨List.mem_of_getElem? (i := 479) (by decide +kernel), by decide +kernel⟩
theorem jm_480 : Cond.constant RL 9 (2147483647) ∈ lw_W := List.mem_filter.mpr ⟨List.mem_of_getElem? (i := 480) (by decide +kernel), by decide +kernel⟩
theorem jm_481 : Cond.methodLink RL 98 yL_put ∈ lw_W := List.mem_filter.mpr ⟨List.mem_of_getElem? (i := 481) (by decide +kernel), by decide +kernel⟩
theorem jm_482 : Cond.static yL_put ∈ lw_W := List.mem_filter.mpr ⟨List.mem_of_getElem? (i := 482) (by decide +kernel), by decide +kernel⟩
theorem jm_483 : Cond.codeWith yL_put cL_put 4 (some .int) [(0, 6, 7, 16), (0, 6, 11, 18)] ∈ lw_W := List.mem_filter.mpr ⟨List.mem_of_getElem? (i := 483) (by decide +kernel), by decide +kernel⟩
theorem jm_486 : Cond.methodLink RL 10 yX6_put ∈ lw_W := List.mem_filter.mpr ⟨List.mem_of_getElem? (i := 486) (by decide +kernel), by decide +kernel⟩
theorem jm_487 : Cond.instanceMethod yX6_put ∈ lw_W := List.mem_filter.mpr ⟨List.mem_of_getElem? (i := 487) (by decide +kernel), by decide +kernel⟩
theorem jm_488 : Cond.selects RX6 yX6_put yX6_put ∈ lw_W := List.mem_filter.mpr ⟨List.mem_of_getElem? (i := 488) (by decide +kernel), by decide +kernel⟩
theorem jm_489 : Cond.code yX6_put cX6_put 3 (some .int) ∈ lw_W := List.mem_filter.mpr ⟨List.mem_of_getElem? (i := 489) (by decide +kernel), by decide +kernel⟩
theorem jm_490 : Cond.methodLink RX6 41 yX6_requireRoomFor ∈ lw_W := List.mem_filter.mpr ⟨List.mem_of_getElem? (i := 490) (by decide +kernel), by decide +kernel⟩
theorem jm_492 : Cond.instanceMethod yX6_requireRoomFor ∈ lw_W := List.mem_filter.mpr ⟨List.mem_of_getElem? (i := 492) (by decide +kernel), by decide +kernel⟩
theorem jm_493 : Cond.code yX6_requireRoomFor cX6_requireRoomFor 2 none ∈ lw_W := List.mem_filter.mpr ⟨List.mem_of_getElem? (i := 493) (by decide +kernel), by decide +kernel⟩
theorem jm_495 : Cond.methodLink RX6 49 yX5_addRow ∈ lw_W := List.mem_filter.mpr ⟨List.mem_of_getElem? (i := 495) (by decide +kernel), by decide +kernel⟩
theorem jm_496 : Cond.instanceMethod yX5_addRow ∈ lw_W := List.mem_filter.mpr ⟨List.mem_of_getElem? (i := 496) (by decide +kernel), by decide +kernel⟩
theorem jm_497 : Cond.selects RX5 yX5_addRow yX5_addRow ∈ lw_W := List.mem_filter.mpr ⟨List.mem_of_getElem? (i := 497) (by decide +kernel), by decide +kernel⟩
theorem jm_498 : Cond.code yX5_addRow cX5_addRow 3 none ∈ lw_W := List.mem_filter.mpr ⟨List.mem_of_getElem? (i := 498) (by decide +kernel), by decide +kernel⟩
theorem jm_499 : Cond.methodLink RX5 52 yX4_begin ∈ lw_W := List.mem_filter.mpr ⟨List.mem_of_getElem? (i := 499) (by decide +kernel), by decide +kernel⟩
theorem jm_500 : Cond.instanceMethod yX4_begin ∈ lw_W := List.mem_filter.mpr ⟨List.mem_of_getElem? (i := 500) (by decide +kernel), by decide +kernel⟩
theorem jm_501 : Cond.selects RX4 yX4_begin yX4_begin ∈ lw_W := List.mem_filter.mpr ⟨List.mem_of_getElem? (i := 501) (by decide +kernel), by decide +kernel⟩
theorem jm_502 : Cond.code yX4_begin cX4_begin 5 none ∈ lw_W := List.mem_filter.mpr ⟨List.mem_of_getElem? (i := 502) (by decide +kernel), by decide +kernel⟩
theorem jm_503 : Cond.methodLink RL 103 yL_done ∈ lw_W := List.mem_filter.mpr ⟨List.mem_of_getElem? (i := 503) (by decide +kernel), by decide +kernel⟩
theorem jm_504 : Cond.static yL_done ∈ lw_W := List.mem_filter.mpr ⟨List.mem_of_getElem? (i := 504) (by decide +kernel), by decide +kernel⟩
theorem jm_505 : Cond.codeWith yL_done cL_done 4 (some .int) [(0, 6, 7, 23), (0, 6, 11, 18)] ∈ lw_W := List.mem_filter.mpr ⟨List.mem_of_getElem? (i := 505) (by decide +kernel), by decide +kernel⟩
theorem jm_507 : Cond.methodLink RL 20 yX6_done ∈ lw_W := List.mem_filter.mpr ⟨List.mem_of_getElem? (i := 507) (by decide +kernel), by decide +kernel⟩
theorem jm_508 : Cond.instanceMethod yX6_done ∈ lw_W := List.mem_filter.mpr ⟨List.mem_of_getElem? (i := 508) (by decide +kernel), by decide +kernel⟩
theorem jm_509 : Cond.selects RX6 yX6_done yX6_done ∈ lw_W := List.mem_filter.mpr ⟨List.mem_of_getElem? (i := 509) (by decide +kernel), by decide +kernel⟩
theorem jm_510 : Cond.code yX6_done cX6_done 3 (some .int) ∈ lw_W := List.mem_filter.mpr ⟨List.mem_of_getElem? (i := 510) (by decide +kernel), by decide +kernel⟩
theorem jm_511 : Cond.methodLink RX6 57 yX6_requireRow ∈ lw_W := List.mem_filter.mpr ⟨List.mem_of_getElem? (i := 511) (by decide +kernel), by decide +kernel⟩
theorem jm_513 : Cond.instanceMethod yX6_requireRow ∈ lw_W := List.mem_filter.mpr ⟨List.mem_of_getElem? (i := 513) (by decide +kernel), by decide +kernel⟩
theorem jm_514 : Cond.code yX6_requireRow cX6_requireRow 2 none ∈ lw_W := List.mem_filter.mpr ⟨List.mem_of_getElem? (i := 514) (by decide +kernel), by decide +kernel⟩
theorem jm_516 : Cond.methodLink RX6 128 yX6_requireHold ∈ lw_W := List.mem_filter.mpr ⟨List.mem_of_getElem? (i := 516) (by decide +kernel), by decide +kernel⟩
theorem jm_518 : Cond.instanceMethod yX6_requireHold ∈ lw_W := List.mem_filter.mpr ⟨List.mem_of_getElem? (i := 518) (by decide +kernel), by decide +kernel⟩
theorem jm_519 : Cond.code yX6_requireHold cX6_requireHold 3 none ∈ lw_W := List.mem_filter.mpr ⟨List.mem_of_getElem? (i := 519) (by decide +kernel), by decide +kernel⟩
theorem jm_520 : Cond.methodLink RX6 335 yX4_isHeldBy ∈ lw_W := List.mem_filter.mpr ⟨List.mem_of_getElem? (i := 520) (by decide +kernel), by decide +kernel⟩
theorem jm_522 : Cond.methodLink RX6 131 yX4_endHold ∈ lw_W := List.mem_filter.mpr ⟨List.mem_of_getElem? (i := 522) (by decide +kernel), by decide +kernel⟩
theorem jm_523 : Cond.methodLink RL 105 yL_giveBack ∈ lw_W := List.mem_filter.mpr ⟨List.mem_of_getElem? (i := 523) (by decide +kernel), by decide +kernel⟩
theorem jm_524 : Cond.static yL_giveBack ∈ lw_W := List.mem_filter.mpr ⟨List.mem_of_getElem? (i := 524) (by decide +kernel), by decide +kernel⟩
theorem jm_525 : Cond.codeWith yL_giveBack cL_giveBack 4 (some .int) [(0, 6, 7, 23), (0, 6, 11, 18)] ∈ lw_W := List.mem_filter.mpr ⟨List.mem_of_getElem? (i := 525) (by decide +kernel), by decide +kernel⟩
theorem jm_526 : Cond.methodLink RL 25 yX6_giveBack ∈ lw_W := List.mem_filter.mpr ⟨List.mem_of_getElem? (i := 526) (by decide +kernel), by decide +kernel⟩
theorem jm_527 : Cond.instanceMethod yX6_giveBack ∈ lw_W := List.mem_filter.mpr ⟨List.mem_of_getElem? (i := 527) (by decide +kernel), by decide +kernel⟩
theorem jm_528 : Cond.selects RX6 yX6_giveBack yX6_giveBack ∈ lw_W := List.mem_filter.mpr ⟨List.mem_of_getElem? (i := 528) (by decide +kernel), by decide +kernel⟩
theorem jm_529 : Cond.code yX6_giveBack cX6_giveBack 3 (some .int) ∈ lw_W := List.mem_filter.mpr ⟨List.mem_of_getElem? (i := 529) (by decide +kernel), by decide +kernel⟩
theorem jm_530 : Cond.methodLink RL 120 yL_revive ∈ lw_W := List.mem_filter.mpr ⟨List.mem_of_getElem? (i := 530) (by decide +kernel), by decide +kernel⟩
theorem jm_531 : Cond.static yL_revive ∈ lw_W := List.mem_filter.mpr ⟨List.mem_of_getElem? (i := 531) (by decide +kernel), by decide +kernel⟩
theorem jm_532 : Cond.codeWith yL_revive cL_revive 3 (some .int) [(0, 5, 6, 23), (0, 5, 10, 18)] ∈ lw_W := List.mem_filter.mpr ⟨List.mem_of_getElem? (i := 532) (by decide +kernel), by decide +kernel⟩
theorem jm_533 : Cond.methodLink RL 28 yX6_revive ∈ lw_W := List.mem_filter.mpr ⟨List.mem_of_getElem? (i := 533) (by decide +kernel), by decide +kernel⟩
theorem jm_534 : Cond.instanceMethod yX6_revive ∈ lw_W := List.mem_filter.mpr ⟨List.mem_of_getElem? (i := 534) (by decide +kernel), by decide +kernel⟩
theorem jm_535 : Cond.selects RX6 yX6_revive yX6_revive ∈ lw_W := List.mem_filter.mpr ⟨List.mem_of_getElem? (i := 535) (by decide +kernel), by decide +kernel⟩
theorem jm_536 : Cond.code yX6_revive cX6_revive 3 (some .int) ∈ lw_W := List.mem_filter.mpr ⟨List.mem_of_getElem? (i := 536) (by decide +kernel), by decide +kernel⟩
theorem jm_538 : Cond.methodLink RL 118 yL_urge ∈ lw_W := List.mem_filter.mpr ⟨List.mem_of_getElem? (i := 538) (by decide +kernel), by decide +kernel⟩
theorem jm_539 : Cond.static yL_urge ∈ lw_W := List.mem_filter.mpr ⟨List.mem_of_getElem? (i := 539) (by decide +kernel), by decide +kernel⟩
theorem jm_540 : Cond.codeWith yL_urge cL_urge 4 (some .int) [(0, 6, 7, 23), (0, 6, 11, 16), (0, 6, 15, 18)] ∈ lw_W := List.mem_filter.mpr ⟨List.mem_of_getElem? (i := 540) (by decide +kernel), by decide +kernel⟩
theorem jm_541 : Cond.methodLink RL 32 yX6_urge ∈ lw_W := List.mem_filter.mpr ⟨List.mem_of_getElem? (i := 541) (by decide +kernel), by decide +kernel⟩
theorem jm_542 : Cond.instanceMethod yX6_urge ∈ lw_W := List.mem_filter.mpr ⟨List.mem_of_getElem? (i := 542) (by decide +kernel), by decide +kernel⟩
theorem jm_543 : Cond.selects RX6 yX6_urge yX6_urge ∈ lw_W := List.mem_filter.mpr ⟨List.mem_of_getElem? (i := 543) (by decide +kernel), by decide +kernel⟩
theorem jm_544 : Cond.code yX6_urge cX6_urge 4 (some .int) ∈ lw_W := List.mem_filter.mpr ⟨List.mem_of_getElem? (i := 544) (by decide +kernel), by decide +kernel⟩
theorem jm_545 : Cond.methodLink RX6 64 yX4_isOpen ∈ lw_W := List.mem_filter.mpr ⟨List.mem_of_getElem? (i := 545) (by decide +kernel), by decide +kernel⟩
theorem jm_547 : Cond.methodLink RL 41 yL_held ∈ lw_W := List.mem_filter.mpr ⟨List.mem_of_getElem? (i := 547) (by decide +kernel), by decide +kernel⟩
theorem jm_548 : Cond.static yL_held ∈ lw_W := List.mem_filter.mpr ⟨List.mem_of_getElem? (i := 548) (by decide +kernel), by decide +kernel⟩
theorem jm_549 : Cond.code yL_held cL_held 5 (some .int) ∈ lw_W := List.mem_filter.mpr ⟨List.mem_of_getElem? (i := 549) (by decide +kernel), by decide +kernel⟩
theorem jm_550 : Cond.methodLink RL 59 yL_take ∈ lw_W := List.mem_filter.mpr ⟨List.mem_of_getElem? (i := 550) (by decide +kernel), by decide +kernel⟩
theorem jm_551 : Cond.static yL_take ∈ lw_W := List.mem_filter.mpr ⟨List.mem_of_getElem? (i := 551) (by decide +kernel), by decide +kernel⟩
theorem jm_552 : Cond.code yL_take cL_take 8 none ∈ lw_W := List.mem_filter.mpr ⟨List.mem_of_getElem? (i := 552) (by decide +kernel), by decide +kernel⟩
theorem jm_553 : Cond.methodLink RL 45 yL_next ∈ lw_W := List.mem_filter.mpr ⟨List.mem_of_getElem? (i := 553) (by decide +kernel), by decide +kernel⟩
theorem jm_554 : Cond.static yL_next ∈ lw_W := List.mem_filter.mpr ⟨List.mem_of_getElem? (i := 554) (by decide +kernel), by decide +kernel⟩
theorem jm_555 : Cond.code yL_next cL_next 6 (some .int) ∈ lw_W := List.mem_filter.mpr ⟨List.mem_of_getElem? (i := 555) (by decide +kernel), by decide +kernel⟩
theorem jm_556 : Cond.methodLink RL 35 yL_rank ∈ lw_W := List.mem_filter.mpr ⟨List.mem_of_getElem? (i := 556) (by decide +kernel), by decide +kernel⟩
theorem jm_557 : Cond.static yL_rank ∈ lw_W := List.mem_filter.mpr ⟨List.mem_of_getElem? (i := 557) (by decide +kernel), by decide +kernel⟩
theorem jm_558 : Cond.code yL_rank cL_rank 2 (some .int) ∈ lw_W := List.mem_filter.mpr ⟨List.mem_of_getElem? (i := 558) (by decide +kernel), by decide +kernel⟩
theorem jm_559 : Cond.methodLink RL 48 yL_blocked ∈ lw_W := List.mem_filter.mpr ⟨List.mem_of_getElem? (i := 559) (by decide +kernel), by decide +kernel⟩
theorem jm_560 : Cond.static yL_blocked ∈ lw_W := List.mem_filter.mpr ⟨List.mem_of_getElem? (i := 560) (by decide +kernel), by decide +kernel⟩
theorem jm_561 : Cond.code yL_blocked cL_blocked 4 (some .boolean) ∈ lw_W := List.mem_filter.mpr ⟨List.mem_of_getElem? (i := 561) (by decide +kernel), by decide +kernel⟩
theorem jm_562 : Cond.methodLink RL 70 yL_pass ∈ lw_W := List.mem_filter.mpr ⟨List.mem_of_getElem? (i := 562) (by decide +kernel), by decide +kernel⟩
theorem jm_563 : Cond.static yL_pass ∈ lw_W := List.mem_filter.mpr ⟨List.mem_of_getElem? (i := 563) (by decide +kernel), by decide +kernel⟩
theorem jm_564 : Cond.code yL_pass cL_pass 7 (some .int) ∈ lw_W := List.mem_filter.mpr ⟨List.mem_of_getElem? (i := 564) (by decide +kernel), by decide +kernel⟩
theorem jm_565 : Cond.methodLink RL 126 yL_same ∈ lw_W := List.mem_filter.mpr ⟨List.mem_of_getElem? (i := 565) (by decide +kernel), by decide +kernel⟩
theorem jm_566 : Cond.static yL_same ∈ lw_W := List.mem_filter.mpr ⟨List.mem_of_getElem? (i := 566) (by decide +kernel), by decide +kernel⟩
set_option maxRecDepth 100000 in
theorem jm_567 : Cond.code yL_same cL_same 16 (some .boolean) ∈ lw_W := List.mem_filter.mpr ⟨List.mem_of_getElem? (i := 567) (rfl), rfl⟩
theorem jm_568 : Cond.methodLink RL 52 yX6_row ∈ lw_W := List.mem_filter.mpr ⟨List.mem_of_getElem? (i := 568) (by decide +kernel), by decide +kernel⟩
theorem jm_569 : Cond.instanceMethod yX6_row ∈ lw_W := List.mem_filter.mpr ⟨List.mem_of_getElem? (i := 569) (by decide +kernel), by decide +kernel⟩
theorem jm_570 : Cond.selects RX6 yX6_row yX6_row ∈ lw_W := List.mem_filter.mpr ⟨List.mem_of_getElem? (i := 570) (by decide +kernel), by decide +kernel⟩
theorem jm_571 : Cond.code yX6_row cX6_row 4 (some .int) ∈ lw_W := List.mem_filter.mpr ⟨List.mem_of_getElem? (i := 571) (by decide +kernel), by decide +kernel⟩
theorem jm_572 : Cond.methodLink RX6 210 yX5_isBlocked ∈ lw_W := List.mem_filter.mpr ⟨List.mem_of_getElem? (i := 572) (by decide +kernel), by decide +kernel⟩
theorem jm_573 : Cond.methodLink RX6 214 yX5_placeOf ∈ lw_W := List.mem_filter.mpr ⟨List.mem_of_getElem? (i := 573) (by decide +kernel), by decide +kernel⟩
theorem jm_574 : Cond.instanceMethod yX5_placeOf ∈ lw_W := List.mem_filter.mpr ⟨List.mem_of_getElem? (i := 574) (by decide +kernel), by decide +kernel⟩
theorem jm_575 : Cond.selects RX5 yX5_placeOf yX5_placeOf ∈ lw_W := List.mem_filter.mpr ⟨List.mem_of_getElem? (i := 575) (by decide +kernel), by decide +kernel⟩
theorem jm_576 : Cond.code yX5_placeOf cX5_placeOf 4 (some .int) ∈ lw_W := List.mem_filter.mpr ⟨List.mem_of_getElem? (i := 576) (by decide +kernel), by decide +kernel⟩
theorem jm_577 : Cond.methodLink RX5 115 yX5_isAhead ∈ lw_W := List.mem_filter.mpr ⟨List.mem_of_getElem? (i := 577) (by decide +kernel), by decide +kernel⟩
theorem jm_579 : Cond.instanceMethod yX5_isAhead ∈ lw_W := List.mem_filter.mpr ⟨List.mem_of_getElem? (i := 579) (by decide +kernel), by decide +kernel⟩
theorem jm_580 : Cond.code yX5_isAhead cX5_isAhead 3 (some .boolean) ∈ lw_W := List.mem_filter.mpr ⟨List.mem_of_getElem? (i := 580) (by decide +kernel), by decide +kernel⟩
theorem jm_581 : Cond.methodLink RL 55 yL_copy ∈ lw_W := List.mem_filter.mpr ⟨List.mem_of_getElem? (i := 581) (by decide +kernel), by decide +kernel⟩
theorem jm_582 : Cond.static yL_copy ∈ lw_W := List.mem_filter.mpr ⟨List.mem_of_getElem? (i := 582) (by decide +kernel), by decide +kernel⟩
theorem jm_583 : Cond.code yL_copy cL_copy 5 none ∈ lw_W := List.mem_filter.mpr ⟨List.mem_of_getElem? (i := 583) (by decide +kernel), by decide +kernel⟩
theorem jm_584 : Cond.methodLink RL 63 yX6_reader ∈ lw_W := List.mem_filter.mpr ⟨List.mem_of_getElem? (i := 584) (by decide +kernel), by decide +kernel⟩
theorem jm_585 : Cond.instanceMethod yX6_reader ∈ lw_W := List.mem_filter.mpr ⟨List.mem_of_getElem? (i := 585) (by decide +kernel), by decide +kernel⟩
theorem jm_586 : Cond.selects RX6 yX6_reader yX6_reader ∈ lw_W := List.mem_filter.mpr ⟨List.mem_of_getElem? (i := 586) (by decide +kernel), by decide +kernel⟩
theorem jm_587 : Cond.code yX6_reader cX6_reader 4 (some .int) ∈ lw_W := List.mem_filter.mpr ⟨List.mem_of_getElem? (i := 587) (by decide +kernel), by decide +kernel⟩
theorem jm_588 : Cond.methodLink RX6 223 yX5_firstLapseOf ∈ lw_W := List.mem_filter.mpr ⟨List.mem_of_getElem? (i := 588) (by decide +kernel), by decide +kernel⟩
theorem jm_589 : Cond.instanceMethod yX5_firstLapseOf ∈ lw_W := List.mem_filter.mpr ⟨List.mem_of_getElem? (i := 589) (by decide +kernel), by decide +kernel⟩
theorem jm_590 : Cond.selects RX5 yX5_firstLapseOf yX5_firstLapseOf ∈ lw_W := List.mem_filter.mpr ⟨List.mem_of_getElem? (i := 590) (by decide +kernel), by decide +kernel⟩
theorem jm_591 : Cond.code yX5_firstLapseOf cX5_firstLapseOf 4 (some .int) ∈ lw_W := List.mem_filter.mpr ⟨List.mem_of_getElem? (i := 591) (by decide +kernel), by decide +kernel⟩
theorem jm_592 : Cond.methodLink RL 66 yX6_ifTaken ∈ lw_W := List.mem_filter.mpr ⟨List.mem_of_getElem? (i := 592) (by decide +kernel), by decide +kernel⟩
theorem jm_593 : Cond.instanceMethod yX6_ifTaken ∈ lw_W := List.mem_filter.mpr ⟨List.mem_of_getElem? (i := 593) (by decide +kernel), by decide +kernel⟩
theorem jm_594 : Cond.selects RX6 yX6_ifTaken yX6_ifTaken ∈ lw_W := List.mem_filter.mpr ⟨List.mem_of_getElem? (i := 594) (by decide +kernel), by decide +kernel⟩
theorem jm_595 : Cond.code yX6_ifTaken cX6_ifTaken 4 (some .int) ∈ lw_W := List.mem_filter.mpr ⟨List.mem_of_getElem? (i := 595) (by decide +kernel), by decide +kernel⟩
theorem jm_596 : Cond.methodLink RL 73 yX6_ifPassed ∈ lw_W := List.mem_filter.mpr ⟨List.mem_of_getElem? (i := 596) (by decide +kernel), by decide +kernel⟩
theorem jm_597 : Cond.instanceMethod yX6_ifPassed ∈ lw_W := List.mem_filter.mpr ⟨List.mem_of_getElem? (i := 597) (by decide +kernel), by decide +kernel⟩
theorem jm_598 : Cond.selects RX6 yX6_ifPassed yX6_ifPassed ∈ lw_W := List.mem_filter.mpr ⟨List.mem_of_getElem? (i := 598) (by decide +kernel), by decide +kernel⟩
theorem jm_599 : Cond.code yX6_ifPassed cX6_ifPassed 4 (some .int) ∈ lw_W := List.mem_filter.mpr ⟨List.mem_of_getElem? (i := 599) (by decide +kernel), by decide +kernel⟩
theorem jm_600 : Cond.methodLink RX6 255 yX5_holdsEndedBy ∈ lw_W := List.mem_filter.mpr ⟨List.mem_of_getElem? (i := 600) (by decide +kernel), by decide +kernel⟩
theorem jm_601 : Cond.instanceMethod yX5_holdsEndedBy ∈ lw_W := List.mem_filter.mpr ⟨List.mem_of_getElem? (i := 601) (by decide +kernel), by decide +kernel⟩
theorem jm_602 : Cond.selects RX5 yX5_holdsEndedBy yX5_holdsEndedBy ∈ lw_W := List.mem_filter.mpr ⟨List.mem_of_getElem? (i := 602) (by decide +kernel), by decide +kernel⟩
theorem jm_603 : Cond.code yX5_holdsEndedBy cX5_holdsEndedBy 4 (some .int) ∈ lw_W := List.mem_filter.mpr ⟨List.mem_of_getElem? (i := 603) (by decide +kernel), by decide +kernel⟩
theorem jm_604 : Cond.methodLink RX6 258 yX5_deadBy ∈ lw_W := List.mem_filter.mpr ⟨List.mem_of_getElem? (i := 604) (by decide +kernel), by decide +kernel⟩
theorem jm_605 : Cond.instanceMethod yX5_deadBy ∈ lw_W := List.mem_filter.mpr ⟨List.mem_of_getElem? (i := 605) (by decide +kernel), by decide +kernel⟩
theorem jm_606 : Cond.selects RX5 yX5_deadBy yX5_deadBy ∈ lw_W := List.mem_filter.mpr ⟨List.mem_of_getElem? (i := 606) (by decide +kernel), by decide +kernel⟩
theorem jm_607 : Cond.code yX5_deadBy cX5_deadBy 4 (some .int) ∈ lw_W := List.mem_filter.mpr ⟨List.mem_of_getElem? (i := 607) (by decide +kernel), by decide +kernel⟩
theorem jm_608 : Cond.methodLink RX5 111 yX5_rowsIn ∈ lw_W := List.mem_filter.mpr ⟨List.mem_of_getElem? (i := 608) (by decide +kernel), by decide +kernel⟩
theorem jm_609 : Cond.instanceMethod yX5_rowsIn ∈ lw_W := List.mem_filter.mpr ⟨List.mem_of_getElem? (i := 609) (by decide +kernel), by decide +kernel⟩
theorem jm_610 : Cond.selects RX5 yX5_rowsIn yX5_rowsIn ∈ lw_W := List.mem_filter.mpr ⟨List.mem_of_getElem? (i := 610) (by decide +kernel), by decide +kernel⟩
theorem jm_611 : Cond.code yX5_rowsIn cX5_rowsIn 4 (some .int) ∈ lw_W := List.mem_filter.mpr ⟨List.mem_of_getElem? (i := 611) (by decide +kernel), by decide +kernel⟩
theorem jm_612 : Cond.methodLink RL 76 yX6_freest ∈ lw_W := List.mem_filter.mpr ⟨List.mem_of_getElem? (i := 612) (by decide +kernel), by decide +kernel⟩
theorem jm_613 : Cond.instanceMethod yX6_freest ∈ lw_W := List.mem_filter.mpr ⟨List.mem_of_getElem? (i := 613) (by decide +kernel), by decide +kernel⟩
theorem jm_614 : Cond.selects RX6 yX6_freest yX6_freest ∈ lw_W := List.mem_filter.mpr ⟨List.mem_of_getElem? (i := 614) (by decide +kernel), by decide +kernel⟩
theorem jm_615 : Cond.code yX6_freest cX6_freest 4 (some .int) ∈ lw_W := List.mem_filter.mpr ⟨List.mem_of_getElem? (i := 615) (by decide +kernel), by decide +kernel⟩
theorem jm_616 : Cond.methodLink RL 80 yX6_fairness ∈ lw_W := List.mem_filter.mpr ⟨List.mem_of_getElem? (i := 616) (by decide +kernel), by decide +kernel⟩
theorem jm_617 : Cond.instanceMethod yX6_fairness ∈ lw_W := List.mem_filter.mpr ⟨List.mem_of_getElem? (i := 617) (by decide +kernel), by decide +kernel⟩
theorem jm_618 : Cond.selects RX6 yX6_fairness yX6_fairness ∈ lw_W := List.mem_filter.mpr ⟨List.mem_of_getElem? (i := 618) (by decide +kernel), by decide +kernel⟩
theorem jm_619 : Cond.code yX6_fairness cX6_fairness 1 (some .double) ∈ lw_W := List.mem_filter.mpr ⟨List.mem_of_getElem? (i := 619) (by decide +kernel), by decide +kernel⟩
theorem jm_620 : Cond.methodLink RX6 261 yX5_greatestSkipsWaiting ∈ lw_W := List.mem_filter.mpr ⟨List.mem_of_getElem? (i := 620) (by decide +kernel), by decide +kernel⟩
theorem jm_621 : Cond.instanceMethod yX5_greatestSkipsWaiting ∈ lw_W := List.mem_filter.mpr ⟨List.mem_of_getElem? (i := 621) (by decide +kernel), by decide +kernel⟩
theorem jm_622 : Cond.selects RX5 yX5_greatestSkipsWaiting yX5_greatestSkipsWaiting ∈ lw_W := List.mem_filter.mpr ⟨List.mem_of_getElem? (i := 622) (by decide +kernel), by decide +kernel⟩
theorem jm_623 : Cond.code yX5_greatestSkipsWaiting cX5_greatestSkipsWaiting 3 (some .int) ∈ lw_W := List.mem_filter.mpr ⟨List.mem_of_getElem? (i := 623) (by decide +kernel), by decide +kernel⟩
theorem jm_624 : Cond.methodLink RX5 128 yJ9_max_7cf53 ∈ lw_W := List.mem_filter.mpr ⟨List.mem_of_getElem? (i := 624) (by decide +kernel), by decide +kernel⟩
theorem jm_625 : Cond.static yJ9_max_7cf53 ∈ lw_W := List.mem_filter.mpr ⟨List.mem_of_getElem? (i := 625) (by decide +kernel), by decide +kernel⟩
theorem jm_626 : Cond.code yJ9_max_7cf53 cJ9_max_7cf53 2 (some .int) ∈ lw_W := List.mem_filter.mpr ⟨List.mem_of_getElem? (i := 626) (by decide +kernel), by decide +kernel⟩
theorem jm_627 : Cond.methodLink RL 84 yX6_count ∈ lw_W := List.mem_filter.mpr ⟨List.mem_of_getElem? (i := 627) (by decide +kernel), by decide +kernel⟩
theorem jm_628 : Cond.instanceMethod yX6_count ∈ lw_W := List.mem_filter.mpr ⟨List.mem_of_getElem? (i := 628) (by decide +kernel), by decide +kernel⟩
theorem jm_629 : Cond.selects RX6 yX6_count yX6_count ∈ lw_W := List.mem_filter.mpr ⟨List.mem_of_getElem? (i := 629) (by decide +kernel), by decide +kernel⟩
theorem jm_630 : Cond.code yX6_count cX6_count 2 (some .int) ∈ lw_W := List.mem_filter.mpr ⟨List.mem_of_getElem? (i := 630) (by decide +kernel), by decide +kernel⟩
theorem jm_631 : Cond.methodLink RX6 233 yX5_rowsIn ∈ lw_W := List.mem_filter.mpr ⟨List.mem_of_getElem? (i := 631) (by decide +kernel), by decide +kernel⟩
theorem jm_632 : Cond.methodLink RX6 239 yX5_blockedWaiting ∈ lw_W := List.mem_filter.mpr ⟨List.mem_of_getElem? (i := 632) (by decide +kernel), by decide +kernel⟩
theorem jm_633 : Cond.instanceMethod yX5_blockedWaiting ∈ lw_W := List.mem_filter.mpr ⟨List.mem_of_getElem? (i := 633) (by decide +kernel), by decide +kernel⟩
theorem jm_634 : Cond.selects RX5 yX5_blockedWaiting yX5_blockedWaiting ∈ lw_W := List.mem_filter.mpr ⟨List.mem_of_getElem? (i := 634) (by decide +kernel), by decide +kernel⟩
theorem jm_635 : Cond.code yX5_blockedWaiting cX5_blockedWaiting 3 (some .int) ∈ lw_W := List.mem_filter.mpr ⟨List.mem_of_getElem? (i := 635) (by decide +kernel), by decide +kernel⟩
theorem jm_636 : Cond.methodLink RX6 243 yX5_unlikePairs ∈ lw_W := List.mem_filter.mpr ⟨List.mem_of_getElem? (i := 636) (by decide +kernel), by decide +kernel⟩
theorem jm_637 : Cond.instanceMethod yX5_unlikePairs ∈ lw_W := List.mem_filter.mpr ⟨List.mem_of_getElem? (i := 637) (by decide +kernel), by decide +kernel⟩
theorem jm_638 : Cond.selects RX5 yX5_unlikePairs yX5_unlikePairs ∈ lw_W := List.mem_filter.mpr ⟨List.mem_of_getElem? (i := 638) (by decide +kernel), by decide +kernel⟩
theorem jm_639 : Cond.code yX5_unlikePairs cX5_unlikePairs 3 (some .int) ∈ lw_W := List.mem_filter.mpr ⟨List.mem_of_getElem? (i := 639) (by decide +kernel), by decide +kernel⟩
theorem jm_640 : Cond.methodLink RX5 125 yX5_hasEarlierPair ∈ lw_W := List.mem_filter.mpr ⟨List.mem_of_getElem? (i := 640) (by decide +kernel), by decide +kernel⟩
theorem jm_642 : Cond.instanceMethod yX5_hasEarlierPair ∈ lw_W := List.mem_filter.mpr ⟨List.mem_of_getElem? (i := 642) (by decide +kernel), by decide +kernel⟩
theorem jm_643 : Cond.code yX5_hasEarlierPair cX5_hasEarlierPair 3 (some .boolean) ∈ lw_W := List.mem_filter.mpr ⟨List.mem_of_getElem? (i := 643) (by decide +kernel), by decide +kernel⟩
theorem jm_644 : Cond.methodLink RX6 246 yX5_firstWaiting ∈ lw_W := List.mem_filter.mpr ⟨List.mem_of_getElem? (i := 644) (by decide +kernel), by decide +kernel⟩
theorem jm_645 : Cond.instanceMethod yX5_firstWaiting ∈ lw_W := List.mem_filter.mpr ⟨List.mem_of_getElem? (i := 645) (by decide +kernel), by decide +kernel⟩
theorem jm_646 : Cond.selects RX5 yX5_firstWaiting yX5_firstWaiting ∈ lw_W := List.mem_filter.mpr ⟨List.mem_of_getElem? (i := 646) (by decide +kernel), by decide +kernel⟩
theorem jm_647 : Cond.code yX5_firstWaiting cX5_firstWaiting 2 (some .int) ∈ lw_W := List.mem_filter.mpr ⟨List.mem_of_getElem? (i := 647) (by decide +kernel), by decide +kernel⟩
theorem jm_648 : Cond.methodLink RL 87 yX6_setting ∈ lw_W := List.mem_filter.mpr ⟨List.mem_of_getElem? (i := 648) (by decide +kernel), by decide +kernel⟩
theorem jm_649 : Cond.instanceMethod yX6_setting ∈ lw_W := List.mem_filter.mpr ⟨List.mem_of_getElem? (i := 649) (by decide +kernel), by decide +kernel⟩
theorem jm_650 : Cond.selects RX6 yX6_setting yX6_setting ∈ lw_W := List.mem_filter.mpr ⟨List.mem_of_getElem? (i := 650) (by decide +kernel), by decide +kernel⟩
theorem jm_651 : Cond.code yX6_setting cX6_setting 2 (some .int) ∈ lw_W := List.mem_filter.mpr ⟨List.mem_of_getElem? (i := 651) (by decide +kernel), by decide +kernel⟩
theorem jmAI : Cond.arrayClass .int ∈ lw_W := List.mem_filter.mpr ⟨List.mem_of_getElem? (i := 93) (by decide +kernel), by decide +kernel⟩
theorem jmO : Cond.code objectInit ⟨#[0xb1]⟩ 1 none ∈ lw_W := List.mem_filter.mpr ⟨List.mem_of_getElem? (i := 31) (by decide +kernel), by decide +kernel⟩
