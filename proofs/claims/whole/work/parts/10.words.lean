/-! the words of the claim's tables that the methods need, each by its place -/
theorem jm_0 : Cond.selects RX0 yX0_placeBehind yX0_placeBehind ∈ lw_W := List.mem_filter.mpr ⟨List.mem_of_getElem? (i := 0) (by decide +kernel), by decide +kernel⟩
theorem jm_1 : Cond.selects RX0 yX0_noteCode yX0_noteCode ∈ lw_W := List.mem_filter.mpr ⟨List.mem_of_getElem? (i := 1) (by decide +kernel), by decide +kernel⟩
theorem jm_2 : Cond.selects RX2 yX2_forget yX2_forget ∈ lw_W := List.mem_filter.mpr ⟨List.mem_of_getElem? (i := 2) (by decide +kernel), by decide +kernel⟩
theorem jm_3 : Cond.selects RX2 yX2_meet yX2_meet ∈ lw_W := List.mem_filter.mpr ⟨List.mem_of_getElem? (i := 3) (by decide +kernel), by decide +kernel⟩
theorem jm_5 : Cond.selects RX5 yX5_hasEarlierPair yX5_hasEarlierPair ∈ lw_W := List.mem_filter.mpr ⟨List.mem_of_getElem? (i := 5) (by decide +kernel), by decide +kernel⟩
theorem jm_6 : Cond.selects RX6 yX6_withRows yX6_withRows ∈ lw_W := List.mem_filter.mpr ⟨List.mem_of_getElem? (i := 6) (by decide +kernel), by decide +kernel⟩
theorem jm_7 : Cond.selects RX6 yX6_requireRow yX6_requireRow ∈ lw_W := List.mem_filter.mpr ⟨List.mem_of_getElem? (i := 7) (by decide +kernel), by decide +kernel⟩
theorem jm_8 : Cond.selects RX5 yX5_isAhead yX5_isAhead ∈ lw_W := List.mem_filter.mpr ⟨List.mem_of_getElem? (i := 8) (by decide +kernel), by decide +kernel⟩
theorem jm_9 : Cond.selects RX6 yX6_withReaders yX6_withReaders ∈ lw_W := List.mem_filter.mpr ⟨List.mem_of_getElem? (i := 9) (by decide +kernel), by decide +kernel⟩
theorem jm_10 : Cond.selects RX6 yX6_withGroups yX6_withGroups ∈ lw_W := List.mem_filter.mpr ⟨List.mem_of_getElem? (i := 10) (by decide +kernel), by decide +kernel⟩
theorem jm_11 : Cond.selects RX6 yX6_withBuffer yX6_withBuffer ∈ lw_W := List.mem_filter.mpr ⟨List.mem_of_getElem? (i := 11) (by decide +kernel), by decide +kernel⟩
theorem jm_12 : Cond.selects RX6 yX6_requireRoomFor yX6_requireRoomFor ∈ lw_W := List.mem_filter.mpr ⟨List.mem_of_getElem? (i := 12) (by decide +kernel), by decide +kernel⟩
theorem jm_13 : Cond.selects RX6 yX6_requireHold yX6_requireHold ∈ lw_W := List.mem_filter.mpr ⟨List.mem_of_getElem? (i := 13) (by decide +kernel), by decide +kernel⟩
theorem jm_14 : Cond.selects RX5 yX5_lapse yX5_lapse ∈ lw_W := List.mem_filter.mpr ⟨List.mem_of_getElem? (i := 14) (by decide +kernel), by decide +kernel⟩
theorem jm_15 : Cond.selects RX7 yX7_save yX7_save ∈ lw_W := List.mem_filter.mpr ⟨List.mem_of_getElem? (i := 15) (by decide +kernel), by decide +kernel⟩
theorem jm_16 : Cond.selects RX7 yX7_putRow yX7_putRow ∈ lw_W := List.mem_filter.mpr ⟨List.mem_of_getElem? (i := 16) (by decide +kernel), by decide +kernel⟩
theorem jm_17 : Cond.selects RX7 yX7_setRow yX7_setRow ∈ lw_W := List.mem_filter.mpr ⟨List.mem_of_getElem? (i := 17) (by decide +kernel), by decide +kernel⟩
theorem jm_18 : Cond.selects RX7 yX7_isRow yX7_isRow ∈ lw_W := List.mem_filter.mpr ⟨List.mem_of_getElem? (i := 18) (by decide +kernel), by decide +kernel⟩
theorem jm_19 : Cond.selects RX7 yX7_isOpen yX7_isOpen ∈ lw_W := List.mem_filter.mpr ⟨List.mem_of_getElem? (i := 19) (by decide +kernel), by decide +kernel⟩
theorem jm_20 : Cond.selects RX7 yX7_rowPart yX7_rowPart ∈ lw_W := List.mem_filter.mpr ⟨List.mem_of_getElem? (i := 20) (by decide +kernel), by decide +kernel⟩
theorem jm_21 : Cond.selects RX7 yX7_readerPart yX7_readerPart ∈ lw_W := List.mem_filter.mpr ⟨List.mem_of_getElem? (i := 21) (by decide +kernel), by decide +kernel⟩
theorem jm_22 : Cond.selects RX7 yX7_takesRows yX7_takesRows ∈ lw_W := List.mem_filter.mpr ⟨List.mem_of_getElem? (i := 22) (by decide +kernel), by decide +kernel⟩
theorem jm_23 : Cond.selects RX7 yX7_heldBy yX7_heldBy ∈ lw_W := List.mem_filter.mpr ⟨List.mem_of_getElem? (i := 23) (by decide +kernel), by decide +kernel⟩
theorem jm_24 : Cond.selects RX7 yX7_isHeldBy yX7_isHeldBy ∈ lw_W := List.mem_filter.mpr ⟨List.mem_of_getElem? (i := 24) (by decide +kernel), by decide +kernel⟩
theorem jm_25 : Cond.selects RX7 yX7_findOrder yX7_findOrder ∈ lw_W := List.mem_filter.mpr ⟨List.mem_of_getElem? (i := 25) (by decide +kernel), by decide +kernel⟩
theorem jm_26 : Cond.selects RX7 yX7_placeOf yX7_placeOf ∈ lw_W := List.mem_filter.mpr ⟨List.mem_of_getElem? (i := 26) (by decide +kernel), by decide +kernel⟩
theorem jm_27 : Cond.selects RX7 yX7_canTake yX7_canTake ∈ lw_W := List.mem_filter.mpr ⟨List.mem_of_getElem? (i := 27) (by decide +kernel), by decide +kernel⟩
theorem jm_28 : Cond.selects RX7 yX7_isBlocked yX7_isBlocked ∈ lw_W := List.mem_filter.mpr ⟨List.mem_of_getElem? (i := 28) (by decide +kernel), by decide +kernel⟩
theorem jm_29 : Cond.selects RX7 yX7_whyNotHeld yX7_whyNotHeld ∈ lw_W := List.mem_filter.mpr ⟨List.mem_of_getElem? (i := 29) (by decide +kernel), by decide +kernel⟩
theorem jm_30 : Cond.selects RX7 yX7_goesOnBy yX7_goesOnBy ∈ lw_W := List.mem_filter.mpr ⟨List.mem_of_getElem? (i := 30) (by decide +kernel), by decide +kernel⟩
theorem jm_31 : Cond.selects RX7 yX7_goesOn yX7_goesOn ∈ lw_W := List.mem_filter.mpr ⟨List.mem_of_getElem? (i := 31) (by decide +kernel), by decide +kernel⟩
theorem jm_32 : Cond.selects RX7 yX7_findError yX7_findError ∈ lw_W := List.mem_filter.mpr ⟨List.mem_of_getElem? (i := 32) (by decide +kernel), by decide +kernel⟩
theorem jm_33 : Cond.selects RX7 yX7_isComplete yX7_isComplete ∈ lw_W := List.mem_filter.mpr ⟨List.mem_of_getElem? (i := 33) (by decide +kernel), by decide +kernel⟩
theorem jm_34 : Cond.selects RX7 yX7_readRows yX7_readRows ∈ lw_W := List.mem_filter.mpr ⟨List.mem_of_getElem? (i := 34) (by decide +kernel), by decide +kernel⟩
theorem jm_35 : Cond.selects RX7 yX7_ofRow yX7_ofRow ∈ lw_W := List.mem_filter.mpr ⟨List.mem_of_getElem? (i := 35) (by decide +kernel), by decide +kernel⟩
theorem jm_36 : Cond.selects RX7 yX7_ofReader yX7_ofReader ∈ lw_W := List.mem_filter.mpr ⟨List.mem_of_getElem? (i := 36) (by decide +kernel), by decide +kernel⟩
theorem jm_37 : Cond.selects RX7 yX7_firstLapse yX7_firstLapse ∈ lw_W := List.mem_filter.mpr ⟨List.mem_of_getElem? (i := 37) (by decide +kernel), by decide +kernel⟩
theorem jm_38 : Cond.selects RX7 yX7_nextFor yX7_nextFor ∈ lw_W := List.mem_filter.mpr ⟨List.mem_of_getElem? (i := 38) (by decide +kernel), by decide +kernel⟩
theorem jm_39 : Cond.selects RX7 yX7_inGroup yX7_inGroup ∈ lw_W := List.mem_filter.mpr ⟨List.mem_of_getElem? (i := 39) (by decide +kernel), by decide +kernel⟩
theorem jm_40 : Cond.selects RX7 yX7_told yX7_told ∈ lw_W := List.mem_filter.mpr ⟨List.mem_of_getElem? (i := 40) (by decide +kernel), by decide +kernel⟩
theorem jm_41 : Cond.selects RX7 yX7_inState yX7_inState ∈ lw_W := List.mem_filter.mpr ⟨List.mem_of_getElem? (i := 41) (by decide +kernel), by decide +kernel⟩
theorem jm_42 : Cond.selects RX7 yX7_blockedMany yX7_blockedMany ∈ lw_W := List.mem_filter.mpr ⟨List.mem_of_getElem? (i := 42) (by decide +kernel), by decide +kernel⟩
theorem jm_43 : Cond.selects RX7 yX7_pairs yX7_pairs ∈ lw_W := List.mem_filter.mpr ⟨List.mem_of_getElem? (i := 43) (by decide +kernel), by decide +kernel⟩
theorem jm_44 : Cond.selects RX7 yX7_firstThatWaits yX7_firstThatWaits ∈ lw_W := List.mem_filter.mpr ⟨List.mem_of_getElem? (i := 44) (by decide +kernel), by decide +kernel⟩
theorem jm_45 : Cond.selects RX7 yX7_takenIf yX7_takenIf ∈ lw_W := List.mem_filter.mpr ⟨List.mem_of_getElem? (i := 45) (by decide +kernel), by decide +kernel⟩
theorem jm_46 : Cond.selects RX7 yX7_passedIf yX7_passedIf ∈ lw_W := List.mem_filter.mpr ⟨List.mem_of_getElem? (i := 46) (by decide +kernel), by decide +kernel⟩
theorem jm_47 : Cond.selects RX7 yX7_freestOf yX7_freestOf ∈ lw_W := List.mem_filter.mpr ⟨List.mem_of_getElem? (i := 47) (by decide +kernel), by decide +kernel⟩
theorem jm_48 : Cond.selects RX7 yX7_mostSkips yX7_mostSkips ∈ lw_W := List.mem_filter.mpr ⟨List.mem_of_getElem? (i := 48) (by decide +kernel), by decide +kernel⟩
theorem jm_49 : Cond.initialized RL ∈ lw_W := List.mem_filter.mpr ⟨List.mem_of_getElem? (i := 49) (by decide +kernel), by decide +kernel⟩
theorem jm_50 : Cond.initialized RX6 ∈ lw_W := List.mem_filter.mpr ⟨List.mem_of_getElem? (i := 50) (by decide +kernel), by decide +kernel⟩
theorem jm_51 : Cond.initialized RX5 ∈ lw_W := List.mem_filter.mpr ⟨List.mem_of_getElem? (i := 51) (by decide +kernel), by decide +kernel⟩
theorem jm_52 : Cond.initialized RX4 ∈ lw_W := List.mem_filter.mpr ⟨List.mem_of_getElem? (i := 52) (by decide +kernel), by decide +kernel⟩
theorem jm_53 : Cond.initialized RX3 ∈ lw_W := List.mem_filter.mpr ⟨List.mem_of_getElem? (i := 53) (by decide +kernel), by decide +kernel⟩
theorem jm_54 : Cond.initialized RX1 ∈ lw_W := List.mem_filter.mpr ⟨List.mem_of_getElem? (i := 54) (by decide +kernel), by decide +kernel⟩
theorem jm_55 : Cond.initialized RX0 ∈ lw_W := List.mem_filter.mpr ⟨List.mem_of_getElem? (i := 55) (by decide +kernel), by decide +kernel⟩
theorem jm_56 : Cond.initialized RX2 ∈ lw_W := List.mem_filter.mpr ⟨List.mem_of_getElem? (i := 56) (by decide +kernel), by decide +kernel⟩
theorem jm_57 : Cond.initialized RX7 ∈ lw_W := List.mem_filter.mpr ⟨List.mem_of_getElem? (i := 57) (by decide +kernel), by decide +kernel⟩
theorem jm_64 : Cond.initialized RJ9 ∈ lw_W := List.mem_filter.mpr ⟨List.mem_of_getElem? (i := 64) (by decide +kernel), by decide +kernel⟩
theorem jm_65 : Cond.classLink RL 8 RX6 ∈ lw_W := List.mem_filter.mpr ⟨List.mem_of_getElem? (i := 65) (by decide +kernel), by decide +kernel⟩
theorem jm_66 : Cond.instantiable RX6 4 ∈ lw_W := List.mem_filter.mpr ⟨List.mem_of_getElem? (i := 66) (by decide +kernel), by decide +kernel⟩
theorem jm_67 : Cond.methodLink RL 79 yX6_init ∈ lw_W := List.mem_filter.mpr ⟨List.mem_of_getElem? (i := 67) (by decide +kernel), by decide +kernel⟩
theorem jm_68 : Cond.instanceMethod yX6_init ∈ lw_W := List.mem_filter.mpr ⟨List.mem_of_getElem? (i := 68) (by decide +kernel), by decide +kernel⟩
theorem jm_69 : Cond.code yX6_init cX6_init 1 none ∈ lw_W := List.mem_filter.mpr ⟨List.mem_of_getElem? (i := 69) (by decide +kernel), by decide +kernel⟩
theorem jm_70 : Cond.methodLink RX6 1 objectInit ∈ lw_W := List.mem_filter.mpr ⟨List.mem_of_getElem? (i := 70) (by decide +kernel), by decide +kernel⟩
theorem jm_71 : Cond.instanceMethod objectInit ∈ lw_W := List.mem_filter.mpr ⟨List.mem_of_getElem? (i := 71) (by decide +kernel), by decide +kernel⟩
theorem jm_73 : Cond.classLink RX6 7 RX5 ∈ lw_W := List.mem_filter.mpr ⟨List.mem_of_getElem? (i := 73) (by decide +kernel), by decide +kernel⟩
theorem jm_74 : Cond.instantiable RX5 8 ∈ lw_W := List.mem_filter.mpr ⟨List.mem_of_getElem? (i := 74) (by decide +kernel), by decide +kernel⟩
theorem jm_75 : Cond.methodLink RX6 9 yX5_init ∈ lw_W := List.mem_filter.mpr ⟨List.mem_of_getElem? (i := 75) (by decide +kernel), by decide +kernel⟩
theorem jm_76 : Cond.instanceMethod yX5_init ∈ lw_W := List.mem_filter.mpr ⟨List.mem_of_getElem? (i := 76) (by decide +kernel), by decide +kernel⟩
theorem jm_77 : Cond.code yX5_init cX5_init 2 none ∈ lw_W := List.mem_filter.mpr ⟨List.mem_of_getElem? (i := 77) (by decide +kernel), by decide +kernel⟩
theorem jm_78 : Cond.methodLink RX5 3 objectInit ∈ lw_W := List.mem_filter.mpr ⟨List.mem_of_getElem? (i := 78) (by decide +kernel), by decide +kernel⟩
theorem jm_79 : Cond.classLink RX5 9 RX4 ∈ lw_W := List.mem_filter.mpr ⟨List.mem_of_getElem? (i := 79) (by decide +kernel), by decide +kernel⟩
theorem jm_81 : Cond.classLink RX5 17 RX3 ∈ lw_W := List.mem_filter.mpr ⟨List.mem_of_getElem? (i := 81) (by decide +kernel), by decide +kernel⟩
theorem jm_83 : Cond.instantiable RX4 9 ∈ lw_W := List.mem_filter.mpr ⟨List.mem_of_getElem? (i := 83) (by decide +kernel), by decide +kernel⟩
theorem jm_85 : Cond.instanceMethod yX4_init ∈ lw_W := List.mem_filter.mpr ⟨List.mem_of_getElem? (i := 85) (by decide +kernel), by decide +kernel⟩
theorem jm_86 : Cond.code yX4_init cX4_init 1 none ∈ lw_W := List.mem_filter.mpr ⟨List.mem_of_getElem? (i := 86) (by decide +kernel), by decide +kernel⟩
theorem jm_87 : Cond.methodLink RX4 3 objectInit ∈ lw_W := List.mem_filter.mpr ⟨List.mem_of_getElem? (i := 87) (by decide +kernel), by decide +kernel⟩
theorem jm_88 : Cond.fieldLink RX4 18 RX4 "key" "I" ∈ lw_W := List.mem_filter.mpr ⟨List.mem_of_getElem? (i := 88) (by decide +kernel), by decide +kernel⟩
theorem jm_89 : Cond.fieldLink RX5 59 RX4 "key" "I" ∈ lw_W := List.mem_filter.mpr ⟨List.mem_of_getElem? (i := 89) (by decide +kernel), by decide +kernel⟩
theorem jm_90 : Cond.fieldLink RX6 195 RX4 "key" "I" ∈ lw_W := List.mem_filter.mpr ⟨List.mem_of_getElem? (i := 90) (by decide +kernel), by decide +kernel⟩
theorem jm_91 : Cond.fieldLink RX4 21 RX4 "urgency" "I" ∈ lw_W := List.mem_filter.mpr ⟨List.mem_of_getElem? (i := 91) (by decide +kernel), by decide +kernel⟩
theorem jm_92 : Cond.fieldLink RX2 41 RX4 "urgency" "I" ∈ lw_W := List.mem_filter.mpr ⟨List.mem_of_getElem? (i := 92) (by decide +kernel), by decide +kernel⟩
theorem jm_93 : Cond.fieldLink RX6 77 RX4 "urgency" "I" ∈ lw_W := List.mem_filter.mpr ⟨List.mem_of_getElem? (i := 93) (by decide +kernel), by decide +kernel⟩
theorem jm_94 : Cond.fieldLink RX5 119 RX4 "urgency" "I" ∈ lw_W := List.mem_filter.mpr ⟨List.mem_of_getElem? (i := 94) (by decide +kernel), by decide +kernel⟩
theorem jm_95 : Cond.fieldLink RX4 24 RX4 "mark" "I" ∈ lw_W := List.mem_filter.mpr ⟨List.mem_of_getElem? (i := 95) (by decide +kernel), by decide +kernel⟩
theorem jm_96 : Cond.fieldLink RX5 122 RX4 "mark" "I" ∈ lw_W := List.mem_filter.mpr ⟨List.mem_of_getElem? (i := 96) (by decide +kernel), by decide +kernel⟩
theorem jm_97 : Cond.fieldLink RX6 198 RX4 "mark" "I" ∈ lw_W := List.mem_filter.mpr ⟨List.mem_of_getElem? (i := 97) (by decide +kernel), by decide +kernel⟩
theorem jm_98 : Cond.fieldLink RX4 27 RX4 "putAt" "I" ∈ lw_W := List.mem_filter.mpr ⟨List.mem_of_getElem? (i := 98) (by decide +kernel), by decide +kernel⟩
theorem jm_99 : Cond.fieldLink RX6 217 RX4 "putAt" "I" ∈ lw_W := List.mem_filter.mpr ⟨List.mem_of_getElem? (i := 99) (by decide +kernel), by decide +kernel⟩
theorem jm_100 : Cond.fieldLink RX4 30 RX4 "state" "I" ∈ lw_W := List.mem_filter.mpr ⟨List.mem_of_getElem? (i := 100) (by decide +kernel), by decide +kernel⟩
theorem jm_101 : Cond.fieldLink RX6 80 RX4 "state" "I" ∈ lw_W := List.mem_filter.mpr ⟨List.mem_of_getElem? (i := 101) (by decide +kernel), by decide +kernel⟩
theorem jm_102 : Cond.fieldLink RX5 56 RX4 "state" "I" ∈ lw_W := List.mem_filter.mpr ⟨List.mem_of_getElem? (i := 102) (by decide +kernel), by decide +kernel⟩
theorem jm_103 : Cond.fieldLink RX4 9 RX4 "holder" "I" ∈ lw_W := List.mem_filter.mpr ⟨List.mem_of_getElem? (i := 103) (by decide +kernel), by decide +kernel⟩
theorem jm_104 : Cond.fieldLink RX5 98 RX4 "holder" "I" ∈ lw_W := List.mem_filter.mpr ⟨List.mem_of_getElem? (i := 104) (by decide +kernel), by decide +kernel⟩
theorem jm_105 : Cond.fieldLink RX6 201 RX4 "holder" "I" ∈ lw_W := List.mem_filter.mpr ⟨List.mem_of_getElem? (i := 105) (by decide +kernel), by decide +kernel⟩
theorem jm_106 : Cond.fieldLink RX4 15 RX4 "lapsesAt" "I" ∈ lw_W := List.mem_filter.mpr ⟨List.mem_of_getElem? (i := 106) (by decide +kernel), by decide +kernel⟩
theorem jm_107 : Cond.fieldLink RX5 89 RX4 "lapsesAt" "I" ∈ lw_W := List.mem_filter.mpr ⟨List.mem_of_getElem? (i := 107) (by decide +kernel), by decide +kernel⟩
theorem jm_108 : Cond.fieldLink RX6 204 RX4 "lapsesAt" "I" ∈ lw_W := List.mem_filter.mpr ⟨List.mem_of_getElem? (i := 108) (by decide +kernel), by decide +kernel⟩
theorem jm_109 : Cond.fieldLink RX4 33 RX4 "tries" "I" ∈ lw_W := List.mem_filter.mpr ⟨List.mem_of_getElem? (i := 109) (by decide +kernel), by decide +kernel⟩
theorem jm_110 : Cond.fieldLink RX6 85 RX4 "tries" "I" ∈ lw_W := List.mem_filter.mpr ⟨List.mem_of_getElem? (i := 110) (by decide +kernel), by decide +kernel⟩
theorem jm_111 : Cond.fieldLink RX5 104 RX4 "tries" "I" ∈ lw_W := List.mem_filter.mpr ⟨List.mem_of_getElem? (i := 111) (by decide +kernel), by decide +kernel⟩
theorem jm_112 : Cond.fieldLink RX4 36 RX4 "skips" "I" ∈ lw_W := List.mem_filter.mpr ⟨List.mem_of_getElem? (i := 112) (by decide +kernel), by decide +kernel⟩
theorem jm_113 : Cond.fieldLink RX5 85 RX4 "skips" "I" ∈ lw_W := List.mem_filter.mpr ⟨List.mem_of_getElem? (i := 113) (by decide +kernel), by decide +kernel⟩
theorem jm_114 : Cond.fieldLink RX6 207 RX4 "skips" "I" ∈ lw_W := List.mem_filter.mpr ⟨List.mem_of_getElem? (i := 114) (by decide +kernel), by decide +kernel⟩
theorem jm_135 : Cond.instantiable RX3 4 ∈ lw_W := List.mem_filter.mpr ⟨List.mem_of_getElem? (i := 135) (by decide +kernel), by decide +kernel⟩
theorem jm_137 : Cond.instanceMethod yX3_init ∈ lw_W := List.mem_filter.mpr ⟨List.mem_of_getElem? (i := 137) (by decide +kernel), by decide +kernel⟩
theorem jm_138 : Cond.code yX3_init cX3_init 1 none ∈ lw_W := List.mem_filter.mpr ⟨List.mem_of_getElem? (i := 138) (by decide +kernel), by decide +kernel⟩
theorem jm_139 : Cond.methodLink RX3 3 objectInit ∈ lw_W := List.mem_filter.mpr ⟨List.mem_of_getElem? (i := 139) (by decide +kernel), by decide +kernel⟩
theorem jm_140 : Cond.fieldLink RX3 9 RX3 "keys" "I" ∈ lw_W := List.mem_filter.mpr ⟨List.mem_of_getElem? (i := 140) (by decide +kernel), by decide +kernel⟩
theorem jm_141 : Cond.fieldLink RX6 112 RX3 "keys" "I" ∈ lw_W := List.mem_filter.mpr ⟨List.mem_of_getElem? (i := 141) (by decide +kernel), by decide +kernel⟩
theorem jm_142 : Cond.fieldLink RX3 15 RX3 "dones" "I" ∈ lw_W := List.mem_filter.mpr ⟨List.mem_of_getElem? (i := 142) (by decide +kernel), by decide +kernel⟩
theorem jm_143 : Cond.fieldLink RX6 137 RX3 "dones" "I" ∈ lw_W := List.mem_filter.mpr ⟨List.mem_of_getElem? (i := 143) (by decide +kernel), by decide +kernel⟩
theorem jm_144 : Cond.fieldLink RX3 18 RX3 "givenBack" "I" ∈ lw_W := List.mem_filter.mpr ⟨List.mem_of_getElem? (i := 144) (by decide +kernel), by decide +kernel⟩
theorem jm_145 : Cond.fieldLink RX6 138 RX3 "givenBack" "I" ∈ lw_W := List.mem_filter.mpr ⟨List.mem_of_getElem? (i := 145) (by decide +kernel), by decide +kernel⟩
theorem jm_146 : Cond.fieldLink RX3 21 RX3 "lapsed" "I" ∈ lw_W := List.mem_filter.mpr ⟨List.mem_of_getElem? (i := 146) (by decide +kernel), by decide +kernel⟩
theorem jm_147 : Cond.fieldLink RX5 101 RX3 "lapsed" "I" ∈ lw_W := List.mem_filter.mpr ⟨List.mem_of_getElem? (i := 147) (by decide +kernel), by decide +kernel⟩
theorem jm_148 : Cond.fieldLink RX6 220 RX3 "lapsed" "I" ∈ lw_W := List.mem_filter.mpr ⟨List.mem_of_getElem? (i := 148) (by decide +kernel), by decide +kernel⟩
theorem jm_158 : Cond.fieldLink RX5 11 RX5 "rows" "[LSkipRows$Row;" ∈ lw_W := List.mem_filter.mpr ⟨List.mem_of_getElem? (i := 158) (by decide +kernel), by decide +kernel⟩
theorem jm_159 : Cond.fieldLink RX2 37 RX5 "rows" "[LSkipRows$Row;" ∈ lw_W := List.mem_filter.mpr ⟨List.mem_of_getElem? (i := 159) (by decide +kernel), by decide +kernel⟩
theorem jm_160 : Cond.fieldLink RX6 60 RX5 "rows" "[LSkipRows$Row;" ∈ lw_W := List.mem_filter.mpr ⟨List.mem_of_getElem? (i := 160) (by decide +kernel), by decide +kernel⟩
theorem jm_161 : Cond.fieldLink RX5 19 RX5 "readers" "[LSkipRows$Reader;" ∈ lw_W := List.mem_filter.mpr ⟨List.mem_of_getElem? (i := 161) (by decide +kernel), by decide +kernel⟩
theorem jm_162 : Cond.fieldLink RX6 108 RX5 "readers" "[LSkipRows$Reader;" ∈ lw_W := List.mem_filter.mpr ⟨List.mem_of_getElem? (i := 162) (by decide +kernel), by decide +kernel⟩
theorem jm_163 : Cond.fieldLink RX5 23 RX5 "settings" "[I" ∈ lw_W := List.mem_filter.mpr ⟨List.mem_of_getElem? (i := 163) (by decide +kernel), by decide +kernel⟩
theorem jm_164 : Cond.fieldLink RX2 14 RX5 "settings" "[I" ∈ lw_W := List.mem_filter.mpr ⟨List.mem_of_getElem? (i := 164) (by decide +kernel), by decide +kernel⟩
theorem jm_165 : Cond.fieldLink RX6 102 RX5 "settings" "[I" ∈ lw_W := List.mem_filter.mpr ⟨List.mem_of_getElem? (i := 165) (by decide +kernel), by decide +kernel⟩
theorem jm_166 : Cond.fieldLink RX5 29 RX5 "size" "I" ∈ lw_W := List.mem_filter.mpr ⟨List.mem_of_getElem? (i := 166) (by decide +kernel), by decide +kernel⟩
theorem jm_167 : Cond.fieldLink RX6 53 RX5 "size" "I" ∈ lw_W := List.mem_filter.mpr ⟨List.mem_of_getElem? (i := 167) (by decide +kernel), by decide +kernel⟩
theorem jm_168 : Cond.fieldLink RX2 34 RX5 "size" "I" ∈ lw_W := List.mem_filter.mpr ⟨List.mem_of_getElem? (i := 168) (by decide +kernel), by decide +kernel⟩
theorem jm_169 : Cond.fieldLink RX5 40 RX5 "time" "I" ∈ lw_W := List.mem_filter.mpr ⟨List.mem_of_getElem? (i := 169) (by decide +kernel), by decide +kernel⟩
theorem jm_170 : Cond.fieldLink RX6 148 RX5 "time" "I" ∈ lw_W := List.mem_filter.mpr ⟨List.mem_of_getElem? (i := 170) (by decide +kernel), by decide +kernel⟩
theorem jm_171 : Cond.fieldLink RX5 43 RX5 "puts" "I" ∈ lw_W := List.mem_filter.mpr ⟨List.mem_of_getElem? (i := 171) (by decide +kernel), by decide +kernel⟩
theorem jm_172 : Cond.fieldLink RX6 236 RX5 "puts" "I" ∈ lw_W := List.mem_filter.mpr ⟨List.mem_of_getElem? (i := 172) (by decide +kernel), by decide +kernel⟩
theorem jm_173 : Cond.fieldLink RX5 46 RX5 "dones" "I" ∈ lw_W := List.mem_filter.mpr ⟨List.mem_of_getElem? (i := 173) (by decide +kernel), by decide +kernel⟩
theorem jm_174 : Cond.fieldLink RX6 134 RX5 "dones" "I" ∈ lw_W := List.mem_filter.mpr ⟨List.mem_of_getElem? (i := 174) (by decide +kernel), by decide +kernel⟩
theorem jm_175 : Cond.fieldLink RX5 49 RX5 "skips" "I" ∈ lw_W := List.mem_filter.mpr ⟨List.mem_of_getElem? (i := 175) (by decide +kernel), by decide +kernel⟩
theorem jm_176 : Cond.fieldLink RX6 242 RX5 "skips" "I" ∈ lw_W := List.mem_filter.mpr ⟨List.mem_of_getElem? (i := 176) (by decide +kernel), by decide +kernel⟩
theorem jm_194 : Cond.classLink RX6 16 RX1 ∈ lw_W := List.mem_filter.mpr ⟨List.mem_of_getElem? (i := 194) (by decide +kernel), by decide +kernel⟩
theorem jm_195 : Cond.instantiable RX1 3 ∈ lw_W := List.mem_filter.mpr ⟨List.mem_of_getElem? (i := 195) (by decide +kernel), by decide +kernel⟩
theorem jm_196 : Cond.methodLink RX6 18 yX1_init ∈ lw_W := List.mem_filter.mpr ⟨List.mem_of_getElem? (i := 196) (by decide +kernel), by decide +kernel⟩
theorem jm_197 : Cond.instanceMethod yX1_init ∈ lw_W := List.mem_filter.mpr ⟨List.mem_of_getElem? (i := 197) (by decide +kernel), by decide +kernel⟩
theorem jm_198 : Cond.code yX1_init cX1_init 2 none ∈ lw_W := List.mem_filter.mpr ⟨List.mem_of_getElem? (i := 198) (by decide +kernel), by decide +kernel⟩
theorem jm_199 : Cond.methodLink RX1 3 objectInit ∈ lw_W := List.mem_filter.mpr ⟨List.mem_of_getElem? (i := 199) (by decide +kernel), by decide +kernel⟩
theorem jm_200 : Cond.classLink RX1 9 RX5 ∈ lw_W := List.mem_filter.mpr ⟨List.mem_of_getElem? (i := 200) (by decide +kernel), by decide +kernel⟩
theorem jm_202 : Cond.methodLink RX1 17 yX5_init ∈ lw_W := List.mem_filter.mpr ⟨List.mem_of_getElem? (i := 202) (by decide +kernel), by decide +kernel⟩
theorem jm_203 : Cond.fieldLink RX1 11 RX1 "saved" "[LSkipRows$Table;" ∈ lw_W := List.mem_filter.mpr ⟨List.mem_of_getElem? (i := 203) (by decide +kernel), by decide +kernel⟩
theorem jm_204 : Cond.fieldLink RX1 22 RX1 "oldest" "I" ∈ lw_W := List.mem_filter.mpr ⟨List.mem_of_getElem? (i := 204) (by decide +kernel), by decide +kernel⟩
theorem jm_205 : Cond.fieldLink RX1 18 RX1 "size" "I" ∈ lw_W := List.mem_filter.mpr ⟨List.mem_of_getElem? (i := 205) (by decide +kernel), by decide +kernel⟩
theorem jm_206 : Cond.fieldLink RX6 189 RX1 "size" "I" ∈ lw_W := List.mem_filter.mpr ⟨List.mem_of_getElem? (i := 206) (by decide +kernel), by decide +kernel⟩
theorem jm_214 : Cond.classLink RX6 23 RX0 ∈ lw_W := List.mem_filter.mpr ⟨List.mem_of_getElem? (i := 214) (by decide +kernel), by decide +kernel⟩
theorem jm_215 : Cond.instantiable RX0 7 ∈ lw_W := List.mem_filter.mpr ⟨List.mem_of_getElem? (i := 215) (by decide +kernel), by decide +kernel⟩
theorem jm_217 : Cond.instanceMethod yX0_init ∈ lw_W := List.mem_filter.mpr ⟨List.mem_of_getElem? (i := 217) (by decide +kernel), by decide +kernel⟩
theorem jm_218 : Cond.code yX0_init cX0_init 1 none ∈ lw_W := List.mem_filter.mpr ⟨List.mem_of_getElem? (i := 218) (by decide +kernel), by decide +kernel⟩
theorem jm_219 : Cond.methodLink RX0 3 objectInit ∈ lw_W := List.mem_filter.mpr ⟨List.mem_of_getElem? (i := 219) (by decide +kernel), by decide +kernel⟩
theorem jm_220 : Cond.fieldLink RX0 9 RX0 "codes" "[I" ∈ lw_W := List.mem_filter.mpr ⟨List.mem_of_getElem? (i := 220) (by decide +kernel), by decide +kernel⟩
theorem jm_221 : Cond.fieldLink RX6 315 RX0 "codes" "[I" ∈ lw_W := List.mem_filter.mpr ⟨List.mem_of_getElem? (i := 221) (by decide +kernel), by decide +kernel⟩
theorem jm_222 : Cond.fieldLink RX0 24 RX0 "length" "I" ∈ lw_W := List.mem_filter.mpr ⟨List.mem_of_getElem? (i := 222) (by decide +kernel), by decide +kernel⟩
theorem jm_223 : Cond.fieldLink RX6 156 RX0 "length" "I" ∈ lw_W := List.mem_filter.mpr ⟨List.mem_of_getElem? (i := 223) (by decide +kernel), by decide +kernel⟩
theorem jm_224 : Cond.fieldLink RX0 15 RX0 "keys" "[I" ∈ lw_W := List.mem_filter.mpr ⟨List.mem_of_getElem? (i := 224) (by decide +kernel), by decide +kernel⟩
theorem jm_225 : Cond.fieldLink RX6 184 RX0 "keys" "[I" ∈ lw_W := List.mem_filter.mpr ⟨List.mem_of_getElem? (i := 225) (by decide +kernel), by decide +kernel⟩
theorem jm_226 : Cond.fieldLink RX0 18 RX0 "urgencies" "[I" ∈ lw_W := List.mem_filter.mpr ⟨List.mem_of_getElem? (i := 226) (by decide +kernel), by decide +kernel⟩
theorem jm_227 : Cond.fieldLink RX6 186 RX0 "urgencies" "[I" ∈ lw_W := List.mem_filter.mpr ⟨List.mem_of_getElem? (i := 227) (by decide +kernel), by decide +kernel⟩
theorem jm_228 : Cond.fieldLink RX0 21 RX0 "times" "[I" ∈ lw_W := List.mem_filter.mpr ⟨List.mem_of_getElem? (i := 228) (by decide +kernel), by decide +kernel⟩
theorem jm_229 : Cond.fieldLink RX6 181 RX0 "times" "[I" ∈ lw_W := List.mem_filter.mpr ⟨List.mem_of_getElem? (i := 229) (by decide +kernel), by decide +kernel⟩
theorem jm_230 : Cond.fieldLink RX0 28 RX0 "parts" "I" ∈ lw_W := List.mem_filter.mpr ⟨List.mem_of_getElem? (i := 230) (by decide +kernel), by decide +kernel⟩
theorem jm_231 : Cond.fieldLink RX6 178 RX0 "parts" "I" ∈ lw_W := List.mem_filter.mpr ⟨List.mem_of_getElem? (i := 231) (by decide +kernel), by decide +kernel⟩
theorem jm_232 : Cond.fieldLink RX0 31 RX0 "place" "I" ∈ lw_W := List.mem_filter.mpr ⟨List.mem_of_getElem? (i := 232) (by decide +kernel), by decide +kernel⟩
theorem jm_248 : Cond.classLink RX6 30 RX2 ∈ lw_W := List.mem_filter.mpr ⟨List.mem_of_getElem? (i := 248) (by decide +kernel), by decide +kernel⟩
theorem jm_249 : Cond.instantiable RX2 5 ∈ lw_W := List.mem_filter.mpr ⟨List.mem_of_getElem? (i := 249) (by decide +kernel), by decide +kernel⟩
theorem jm_251 : Cond.instanceMethod yX2_init ∈ lw_W := List.mem_filter.mpr ⟨List.mem_of_getElem? (i := 251) (by decide +kernel), by decide +kernel⟩
theorem jm_252 : Cond.code yX2_init cX2_init 1 none ∈ lw_W := List.mem_filter.mpr ⟨List.mem_of_getElem? (i := 252) (by decide +kernel), by decide +kernel⟩
theorem jm_253 : Cond.methodLink RX2 3 objectInit ∈ lw_W := List.mem_filter.mpr ⟨List.mem_of_getElem? (i := 253) (by decide +kernel), by decide +kernel⟩
theorem jm_254 : Cond.fieldLink RX2 58 RX2 "taken" "I" ∈ lw_W := List.mem_filter.mpr ⟨List.mem_of_getElem? (i := 254) (by decide +kernel), by decide +kernel⟩
theorem jm_255 : Cond.fieldLink RX6 249 RX2 "taken" "I" ∈ lw_W := List.mem_filter.mpr ⟨List.mem_of_getElem? (i := 255) (by decide +kernel), by decide +kernel⟩
theorem jm_256 : Cond.fieldLink RX2 30 RX2 "takenRows" "I" ∈ lw_W := List.mem_filter.mpr ⟨List.mem_of_getElem? (i := 256) (by decide +kernel), by decide +kernel⟩
theorem jm_257 : Cond.fieldLink RX6 125 RX2 "takenRows" "I" ∈ lw_W := List.mem_filter.mpr ⟨List.mem_of_getElem? (i := 257) (by decide +kernel), by decide +kernel⟩
theorem jm_258 : Cond.fieldLink RX2 61 RX2 "skipped" "I" ∈ lw_W := List.mem_filter.mpr ⟨List.mem_of_getElem? (i := 258) (by decide +kernel), by decide +kernel⟩
theorem jm_259 : Cond.fieldLink RX2 64 RX2 "skippedRows" "I" ∈ lw_W := List.mem_filter.mpr ⟨List.mem_of_getElem? (i := 259) (by decide +kernel), by decide +kernel⟩
theorem jm_260 : Cond.fieldLink RX6 252 RX2 "skippedRows" "I" ∈ lw_W := List.mem_filter.mpr ⟨List.mem_of_getElem? (i := 260) (by decide +kernel), by decide +kernel⟩
theorem jm_261 : Cond.fieldLink RX2 67 RX2 "first" "I" ∈ lw_W := List.mem_filter.mpr ⟨List.mem_of_getElem? (i := 261) (by decide +kernel), by decide +kernel⟩
theorem jm_262 : Cond.fieldLink RX6 226 RX2 "first" "I" ∈ lw_W := List.mem_filter.mpr ⟨List.mem_of_getElem? (i := 262) (by decide +kernel), by decide +kernel⟩
theorem jm_274 : Cond.fieldLink RX6 10 RX6 "table" "LSkipRows$Table;" ∈ lw_W := List.mem_filter.mpr ⟨List.mem_of_getElem? (i := 274) (by decide +kernel), by decide +kernel⟩
theorem jm_275 : Cond.fieldLink RX6 19 RX6 "history" "LSkipRows$History;" ∈ lw_W := List.mem_filter.mpr ⟨List.mem_of_getElem? (i := 275) (by decide +kernel), by decide +kernel⟩
theorem jm_276 : Cond.fieldLink RX6 26 RX6 "buffer" "LSkipRows$Buffer;" ∈ lw_W := List.mem_filter.mpr ⟨List.mem_of_getElem? (i := 276) (by decide +kernel), by decide +kernel⟩
theorem jm_277 : Cond.fieldLink RX6 33 RX6 "look" "LSkipRows$Look;" ∈ lw_W := List.mem_filter.mpr ⟨List.mem_of_getElem? (i := 277) (by decide +kernel), by decide +kernel⟩
theorem jm_287 : Cond.methodLink RL 99 yX6_sweep ∈ lw_W := List.mem_filter.mpr ⟨List.mem_of_getElem? (i := 287) (by decide +kernel), by decide +kernel⟩
theorem jm_288 : Cond.instanceMethod yX6_sweep ∈ lw_W := List.mem_filter.mpr ⟨List.mem_of_getElem? (i := 288) (by decide +kernel), by decide +kernel⟩
theorem jm_289 : Cond.selects RX6 yX6_sweep yX6_sweep ∈ lw_W := List.mem_filter.mpr ⟨List.mem_of_getElem? (i := 289) (by decide +kernel), by decide +kernel⟩
theorem jm_290 : Cond.code yX6_sweep cX6_sweep 1 (some .int) ∈ lw_W := List.mem_filter.mpr ⟨List.mem_of_getElem? (i := 290) (by decide +kernel), by decide +kernel⟩
theorem jm_291 : Cond.methodLink RX6 45 yX1_keep ∈ lw_W := List.mem_filter.mpr ⟨List.mem_of_getElem? (i := 291) (by decide +kernel), by decide +kernel⟩
theorem jm_292 : Cond.instanceMethod yX1_keep ∈ lw_W := List.mem_filter.mpr ⟨List.mem_of_getElem? (i := 292) (by decide +kernel), by decide +kernel⟩
theorem jm_293 : Cond.selects RX1 yX1_keep yX1_keep ∈ lw_W := List.mem_filter.mpr ⟨List.mem_of_getElem? (i := 293) (by decide +kernel), by decide +kernel⟩
theorem jm_294 : Cond.code yX1_keep cX1_keep 2 none ∈ lw_W := List.mem_filter.mpr ⟨List.mem_of_getElem? (i := 294) (by decide +kernel), by decide +kernel⟩
theorem jm_295 : Cond.methodLink RX1 25 yX5_copyFrom ∈ lw_W := List.mem_filter.mpr ⟨List.mem_of_getElem? (i := 295) (by decide +kernel), by decide +kernel⟩
theorem jm_296 : Cond.instanceMethod yX5_copyFrom ∈ lw_W := List.mem_filter.mpr ⟨List.mem_of_getElem? (i := 296) (by decide +kernel), by decide +kernel⟩
theorem jm_297 : Cond.selects RX5 yX5_copyFrom yX5_copyFrom ∈ lw_W := List.mem_filter.mpr ⟨List.mem_of_getElem? (i := 297) (by decide +kernel), by decide +kernel⟩
theorem jm_298 : Cond.code yX5_copyFrom cX5_copyFrom 3 none ∈ lw_W := List.mem_filter.mpr ⟨List.mem_of_getElem? (i := 298) (by decide +kernel), by decide +kernel⟩
theorem jm_299 : Cond.methodLink RX5 33 yX4_copyFrom ∈ lw_W := List.mem_filter.mpr ⟨List.mem_of_getElem? (i := 299) (by decide +kernel), by decide +kernel⟩
theorem jm_300 : Cond.instanceMethod yX4_copyFrom ∈ lw_W := List.mem_filter.mpr ⟨List.mem_of_getElem? (i := 300) (by decide +kernel), by decide +kernel⟩
theorem jm_301 : Cond.selects RX4 yX4_copyFrom yX4_copyFrom ∈ lw_W := List.mem_filter.mpr ⟨List.mem_of_getElem? (i := 301) (by decide +kernel), by decide +kernel⟩
theorem jm_302 : Cond.code yX4_copyFrom cX4_copyFrom 2 none ∈ lw_W := List.mem_filter.mpr ⟨List.mem_of_getElem? (i := 302) (by decide +kernel), by decide +kernel⟩
theorem jm_303 : Cond.methodLink RX5 37 yX3_copyFrom ∈ lw_W := List.mem_filter.mpr ⟨List.mem_of_getElem? (i := 303) (by decide +kernel), by decide +kernel⟩
theorem jm_304 : Cond.instanceMethod yX3_copyFrom ∈ lw_W := List.mem_filter.mpr ⟨List.mem_of_getElem? (i := 304) (by decide +kernel), by decide +kernel⟩
theorem jm_305 : Cond.selects RX3 yX3_copyFrom yX3_copyFrom ∈ lw_W := List.mem_filter.mpr ⟨List.mem_of_getElem? (i := 305) (by decide +kernel), by decide +kernel⟩
theorem jm_306 : Cond.code yX3_copyFrom cX3_copyFrom 2 none ∈ lw_W := List.mem_filter.mpr ⟨List.mem_of_getElem? (i := 306) (by decide +kernel), by decide +kernel⟩
theorem jm_307 : Cond.methodLink RX6 88 yX5_dropDoneRows ∈ lw_W := List.mem_filter.mpr ⟨List.mem_of_getElem? (i := 307) (by decide +kernel), by decide +kernel⟩
theorem jm_308 : Cond.instanceMethod yX5_dropDoneRows ∈ lw_W := List.mem_filter.mpr ⟨List.mem_of_getElem? (i := 308) (by decide +kernel), by decide +kernel⟩
theorem jm_309 : Cond.selects RX5 yX5_dropDoneRows yX5_dropDoneRows ∈ lw_W := List.mem_filter.mpr ⟨List.mem_of_getElem? (i := 309) (by decide +kernel), by decide +kernel⟩
theorem jm_310 : Cond.code yX5_dropDoneRows cX5_dropDoneRows 3 (some .int) ∈ lw_W := List.mem_filter.mpr ⟨List.mem_of_getElem? (i := 310) (by decide +kernel), by decide +kernel⟩
theorem jm_311 : Cond.methodLink RL 127 yX6_clearBuffer ∈ lw_W := List.mem_filter.mpr ⟨List.mem_of_getElem? (i := 311) (by decide +kernel), by decide +kernel⟩
theorem jm_312 : Cond.instanceMethod yX6_clearBuffer ∈ lw_W := List.mem_filter.mpr ⟨List.mem_of_getElem? (i := 312) (by decide +kernel), by decide +kernel⟩
theorem jm_313 : Cond.selects RX6 yX6_clearBuffer yX6_clearBuffer ∈ lw_W := List.mem_filter.mpr ⟨List.mem_of_getElem? (i := 313) (by decide +kernel), by decide +kernel⟩
theorem jm_314 : Cond.code yX6_clearBuffer cX6_clearBuffer 2 (some .int) ∈ lw_W := List.mem_filter.mpr ⟨List.mem_of_getElem? (i := 314) (by decide +kernel), by decide +kernel⟩
theorem jm_315 : Cond.methodLink RL 131 yX6_firstError ∈ lw_W := List.mem_filter.mpr ⟨List.mem_of_getElem? (i := 315) (by decide +kernel), by decide +kernel⟩
theorem jm_316 : Cond.instanceMethod yX6_firstError ∈ lw_W := List.mem_filter.mpr ⟨List.mem_of_getElem? (i := 316) (by decide +kernel), by decide +kernel⟩
theorem jm_317 : Cond.selects RX6 yX6_firstError yX6_firstError ∈ lw_W := List.mem_filter.mpr ⟨List.mem_of_getElem? (i := 317) (by decide +kernel), by decide +kernel⟩
theorem jm_318 : Cond.code yX6_firstError cX6_firstError 1 (some .int) ∈ lw_W := List.mem_filter.mpr ⟨List.mem_of_getElem? (i := 318) (by decide +kernel), by decide +kernel⟩
theorem jm_319 : Cond.methodLink RX6 164 yX0_readParts ∈ lw_W := List.mem_filter.mpr ⟨List.mem_of_getElem? (i := 319) (by decide +kernel), by decide +kernel⟩
theorem jm_320 : Cond.instanceMethod yX0_readParts ∈ lw_W := List.mem_filter.mpr ⟨List.mem_of_getElem? (i := 320) (by decide +kernel), by decide +kernel⟩
theorem jm_321 : Cond.selects RX0 yX0_readParts yX0_readParts ∈ lw_W := List.mem_filter.mpr ⟨List.mem_of_getElem? (i := 321) (by decide +kernel), by decide +kernel⟩
theorem jm_322 : Cond.code yX0_readParts cX0_readParts 2 (some .int) ∈ lw_W := List.mem_filter.mpr ⟨List.mem_of_getElem? (i := 322) (by decide +kernel), by decide +kernel⟩
theorem jm_323 : Cond.methodLink RX0 34 yX0_placeBehind ∈ lw_W := List.mem_filter.mpr ⟨List.mem_of_getElem? (i := 323) (by decide +kernel), by decide +kernel⟩
theorem jm_325 : Cond.instanceMethod yX0_placeBehind ∈ lw_W := List.mem_filter.mpr ⟨List.mem_of_getElem? (i := 325) (by decide +kernel), by decide +kernel⟩
theorem jm_326 : Cond.code yX0_placeBehind cX0_placeBehind 2 (some .int) ∈ lw_W := List.mem_filter.mpr ⟨List.mem_of_getElem? (i := 326) (by decide +kernel), by decide +kernel⟩
theorem jm_327 : Cond.methodLink RX0 46 yX0_placeBehindUrgency ∈ lw_W := List.mem_filter.mpr ⟨List.mem_of_getElem? (i := 327) (by decide +kernel), by decide +kernel⟩
theorem jm_328 : Cond.static yX0_placeBehindUrgency ∈ lw_W := List.mem_filter.mpr ⟨List.mem_of_getElem? (i := 328) (by decide +kernel), by decide +kernel⟩
theorem jm_329 : Cond.code yX0_placeBehindUrgency cX0_placeBehindUrgency 1 (some .int) ∈ lw_W := List.mem_filter.mpr ⟨List.mem_of_getElem? (i := 329) (by decide +kernel), by decide +kernel⟩
theorem jm_330 : Cond.methodLink RX0 38 yX0_noteCode ∈ lw_W := List.mem_filter.mpr ⟨List.mem_of_getElem? (i := 330) (by decide +kernel), by decide +kernel⟩
theorem jm_332 : Cond.instanceMethod yX0_noteCode ∈ lw_W := List.mem_filter.mpr ⟨List.mem_of_getElem? (i := 332) (by decide +kernel), by decide +kernel⟩
theorem jm_333 : Cond.code yX0_noteCode cX0_noteCode 2 none ∈ lw_W := List.mem_filter.mpr ⟨List.mem_of_getElem? (i := 333) (by decide +kernel), by decide +kernel⟩
theorem jm_334 : Cond.methodLink RL 164 yX6_freest ∈ lw_W := List.mem_filter.mpr ⟨List.mem_of_getElem? (i := 334) (by decide +kernel), by decide +kernel⟩
theorem jm_335 : Cond.instanceMethod yX6_freest ∈ lw_W := List.mem_filter.mpr ⟨List.mem_of_getElem? (i := 335) (by decide +kernel), by decide +kernel⟩
theorem jm_336 : Cond.selects RX6 yX6_freest yX6_freest ∈ lw_W := List.mem_filter.mpr ⟨List.mem_of_getElem? (i := 336) (by decide +kernel), by decide +kernel⟩
theorem jm_337 : Cond.code yX6_freest cX6_freest 4 (some .int) ∈ lw_W := List.mem_filter.mpr ⟨List.mem_of_getElem? (i := 337) (by decide +kernel), by decide +kernel⟩
theorem jm_338 : Cond.methodLink RX6 117 yX2_along ∈ lw_W := List.mem_filter.mpr ⟨List.mem_of_getElem? (i := 338) (by decide +kernel), by decide +kernel⟩
theorem jm_339 : Cond.instanceMethod yX2_along ∈ lw_W := List.mem_filter.mpr ⟨List.mem_of_getElem? (i := 339) (by decide +kernel), by decide +kernel⟩
theorem jm_340 : Cond.selects RX2 yX2_along yX2_along ∈ lw_W := List.mem_filter.mpr ⟨List.mem_of_getElem? (i := 340) (by decide +kernel), by decide +kernel⟩
theorem jm_341 : Cond.code yX2_along cX2_along 7 none ∈ lw_W := List.mem_filter.mpr ⟨List.mem_of_getElem? (i := 341) (by decide +kernel), by decide +kernel⟩
theorem jm_342 : Cond.methodLink RX2 9 yX2_forget ∈ lw_W := List.mem_filter.mpr ⟨List.mem_of_getElem? (i := 342) (by decide +kernel), by decide +kernel⟩
theorem jm_344 : Cond.instanceMethod yX2_forget ∈ lw_W := List.mem_filter.mpr ⟨List.mem_of_getElem? (i := 344) (by decide +kernel), by decide +kernel⟩
theorem jm_345 : Cond.code yX2_forget cX2_forget 1 none ∈ lw_W := List.mem_filter.mpr ⟨List.mem_of_getElem? (i := 345) (by decide +kernel), by decide +kernel⟩
theorem jm_346 : Cond.methodLink RX2 20 yX5_holdsOf ∈ lw_W := List.mem_filter.mpr ⟨List.mem_of_getElem? (i := 346) (by decide +kernel), by decide +kernel⟩
theorem jm_347 : Cond.instanceMethod yX5_holdsOf ∈ lw_W := List.mem_filter.mpr ⟨List.mem_of_getElem? (i := 347) (by decide +kernel), by decide +kernel⟩
theorem jm_348 : Cond.selects RX5 yX5_holdsOf yX5_holdsOf ∈ lw_W := List.mem_filter.mpr ⟨List.mem_of_getElem? (i := 348) (by decide +kernel), by decide +kernel⟩
theorem jm_349 : Cond.code yX5_holdsOf cX5_holdsOf 4 (some .int) ∈ lw_W := List.mem_filter.mpr ⟨List.mem_of_getElem? (i := 349) (by decide +kernel), by decide +kernel⟩
theorem jm_350 : Cond.methodLink RX5 86 yX4_isHeldBy ∈ lw_W := List.mem_filter.mpr ⟨List.mem_of_getElem? (i := 350) (by decide +kernel), by decide +kernel⟩
theorem jm_351 : Cond.instanceMethod yX4_isHeldBy ∈ lw_W := List.mem_filter.mpr ⟨List.mem_of_getElem? (i := 351) (by decide +kernel), by decide +kernel⟩
theorem jm_352 : Cond.selects RX4 yX4_isHeldBy yX4_isHeldBy ∈ lw_W := List.mem_filter.mpr ⟨List.mem_of_getElem? (i := 352) (by decide +kernel), by decide +kernel⟩
theorem jm_353 : Cond.code yX4_isHeldBy cX4_isHeldBy 2 (some .boolean) ∈ lw_W := List.mem_filter.mpr ⟨List.mem_of_getElem? (i := 353) (by decide +kernel), by decide +kernel⟩
theorem jm_354 : Cond.methodLink RX2 24 yJ9_min_7cf53 ∈ lw_W := List.mem_filter.mpr ⟨List.mem_of_getElem? (i := 354) (by decide +kernel), by decide +kernel⟩
theorem jm_355 : Cond.static yJ9_min_7cf53 ∈ lw_W := List.mem_filter.mpr ⟨List.mem_of_getElem? (i := 355) (by decide +kernel), by decide +kernel⟩
theorem jm_356 : Cond.code yJ9_min_7cf53 cJ9_min_7cf53 2 (some .int) ∈ lw_W := List.mem_filter.mpr ⟨List.mem_of_getElem? (i := 356) (by decide +kernel), by decide +kernel⟩
theorem jm_357 : Cond.methodLink RX2 46 yX4_isOpen ∈ lw_W := List.mem_filter.mpr ⟨List.mem_of_getElem? (i := 357) (by decide +kernel), by decide +kernel⟩
theorem jm_358 : Cond.instanceMethod yX4_isOpen ∈ lw_W := List.mem_filter.mpr ⟨List.mem_of_getElem? (i := 358) (by decide +kernel), by decide +kernel⟩
theorem jm_359 : Cond.selects RX4 yX4_isOpen yX4_isOpen ∈ lw_W := List.mem_filter.mpr ⟨List.mem_of_getElem? (i := 359) (by decide +kernel), by decide +kernel⟩
theorem jm_360 : Cond.code yX4_isOpen cX4_isOpen 1 (some .boolean) ∈ lw_W := List.mem_filter.mpr ⟨List.mem_of_getElem? (i := 360) (by decide +kernel), by decide +kernel⟩
theorem jm_361 : Cond.methodLink RX2 50 yX5_canTake ∈ lw_W := List.mem_filter.mpr ⟨List.mem_of_getElem? (i := 361) (by decide +kernel), by decide +kernel⟩
theorem jm_362 : Cond.instanceMethod yX5_canTake ∈ lw_W := List.mem_filter.mpr ⟨List.mem_of_getElem? (i := 362) (by decide +kernel), by decide +kernel⟩
theorem jm_363 : Cond.selects RX5 yX5_canTake yX5_canTake ∈ lw_W := List.mem_filter.mpr ⟨List.mem_of_getElem? (i := 363) (by decide +kernel), by decide +kernel⟩
theorem jm_364 : Cond.code yX5_canTake cX5_canTake 3 (some .boolean) ∈ lw_W := List.mem_filter.mpr ⟨List.mem_of_getElem? (i := 364) (by decide +kernel), by decide +kernel⟩
theorem jm_365 : Cond.methodLink RX5 66 yX3_wants ∈ lw_W := List.mem_filter.mpr ⟨List.mem_of_getElem? (i := 365) (by decide +kernel), by decide +kernel⟩
theorem jm_366 : Cond.instanceMethod yX3_wants ∈ lw_W := List.mem_filter.mpr ⟨List.mem_of_getElem? (i := 366) (by decide +kernel), by decide +kernel⟩
theorem jm_367 : Cond.selects RX3 yX3_wants yX3_wants ∈ lw_W := List.mem_filter.mpr ⟨List.mem_of_getElem? (i := 367) (by decide +kernel), by decide +kernel⟩
theorem jm_368 : Cond.code yX3_wants cX3_wants 2 (some .boolean) ∈ lw_W := List.mem_filter.mpr ⟨List.mem_of_getElem? (i := 368) (by decide +kernel), by decide +kernel⟩
theorem jm_369 : Cond.methodLink RX5 70 yX5_isBlocked ∈ lw_W := List.mem_filter.mpr ⟨List.mem_of_getElem? (i := 369) (by decide +kernel), by decide +kernel⟩
theorem jm_370 : Cond.instanceMethod yX5_isBlocked ∈ lw_W := List.mem_filter.mpr ⟨List.mem_of_getElem? (i := 370) (by decide +kernel), by decide +kernel⟩
theorem jm_371 : Cond.selects RX5 yX5_isBlocked yX5_isBlocked ∈ lw_W := List.mem_filter.mpr ⟨List.mem_of_getElem? (i := 371) (by decide +kernel), by decide +kernel⟩
theorem jm_372 : Cond.code yX5_isBlocked cX5_isBlocked 3 (some .boolean) ∈ lw_W := List.mem_filter.mpr ⟨List.mem_of_getElem? (i := 372) (by decide +kernel), by decide +kernel⟩
theorem jm_373 : Cond.methodLink RX5 62 yX4_isOpen ∈ lw_W := List.mem_filter.mpr ⟨List.mem_of_getElem? (i := 373) (by decide +kernel), by decide +kernel⟩
theorem jm_374 : Cond.methodLink RX2 54 yX2_meet ∈ lw_W := List.mem_filter.mpr ⟨List.mem_of_getElem? (i := 374) (by decide +kernel), by decide +kernel⟩
theorem jm_376 : Cond.instanceMethod yX2_meet ∈ lw_W := List.mem_filter.mpr ⟨List.mem_of_getElem? (i := 376) (by decide +kernel), by decide +kernel⟩
theorem jm_377 : Cond.code yX2_meet cX2_meet 3 none ∈ lw_W := List.mem_filter.mpr ⟨List.mem_of_getElem? (i := 377) (by decide +kernel), by decide +kernel⟩
theorem jm_378 : Cond.methodLink RL 168 yX6_fairness ∈ lw_W := List.mem_filter.mpr ⟨List.mem_of_getElem? (i := 378) (by decide +kernel), by decide +kernel⟩
theorem jm_379 : Cond.instanceMethod yX6_fairness ∈ lw_W := List.mem_filter.mpr ⟨List.mem_of_getElem? (i := 379) (by decide +kernel), by decide +kernel⟩
theorem jm_380 : Cond.selects RX6 yX6_fairness yX6_fairness ∈ lw_W := List.mem_filter.mpr ⟨List.mem_of_getElem? (i := 380) (by decide +kernel), by decide +kernel⟩
theorem jm_381 : Cond.code yX6_fairness cX6_fairness 1 (some .double) ∈ lw_W := List.mem_filter.mpr ⟨List.mem_of_getElem? (i := 381) (by decide +kernel), by decide +kernel⟩
theorem jm_382 : Cond.methodLink RX6 261 yX5_greatestSkipsWaiting ∈ lw_W := List.mem_filter.mpr ⟨List.mem_of_getElem? (i := 382) (by decide +kernel), by decide +kernel⟩
theorem jm_383 : Cond.instanceMethod yX5_greatestSkipsWaiting ∈ lw_W := List.mem_filter.mpr ⟨List.mem_of_getElem? (i := 383) (by decide +kernel), by decide +kernel⟩
theorem jm_384 : Cond.selects RX5 yX5_greatestSkipsWaiting yX5_greatestSkipsWaiting ∈ lw_W := List.mem_filter.mpr ⟨List.mem_of_getElem? (i := 384) (by decide +kernel), by decide +kernel⟩
theorem jm_385 : Cond.code yX5_greatestSkipsWaiting cX5_greatestSkipsWaiting 3 (some .int) ∈ lw_W := List.mem_filter.mpr ⟨List.mem_of_getElem? (i := 385) (by decide +kernel), by decide +kernel⟩
theorem jm_386 : Cond.methodLink RX5 128 yJ9_max_7cf53 ∈ lw_W := List.mem_filter.mpr ⟨List.mem_of_getElem? (i := 386) (by decide +kernel), by decide +kernel⟩
theorem jm_387 : Cond.static yJ9_max_7cf53 ∈ lw_W := List.mem_filter.mpr ⟨List.mem_of_getElem? (i := 387) (by decide +kernel), by decide +kernel⟩
theorem jm_388 : Cond.code yJ9_max_7cf53 cJ9_max_7cf53 2 (some .int) ∈ lw_W := List.mem_filter.mpr ⟨List.mem_of_getElem? (i := 388) (by decide +kernel), by decide +kernel⟩
theorem jm_389 : Cond.methodLink RL 173 yX6_digest ∈ lw_W := List.mem_filter.mpr ⟨List.mem_of_getElem? (i := 389) (by decide +kernel), by decide +kernel⟩
theorem jm_390 : Cond.instanceMethod yX6_digest ∈ lw_W := List.mem_filter.mpr ⟨List.mem_of_getElem? (i := 390) (by decide +kernel), by decide +kernel⟩
theorem jm_391 : Cond.selects RX6 yX6_digest yX6_digest ∈ lw_W := List.mem_filter.mpr ⟨List.mem_of_getElem? (i := 391) (by decide +kernel), by decide +kernel⟩
theorem jm_392 : Cond.code yX6_digest cX6_digest 4 (some .long) ∈ lw_W := List.mem_filter.mpr ⟨List.mem_of_getElem? (i := 392) (by decide +kernel), by decide +kernel⟩
theorem jm_393 : Cond.constantLong RX6 264 (2683) ∈ lw_W := List.mem_filter.mpr ⟨List.mem_of_getElem? (i := 393) (by decide +kernel), by decide +kernel⟩
theorem jm_394 : Cond.methodLink RX6 266 yX6_count ∈ lw_W := List.mem_filter.mpr ⟨List.mem_of_getElem? (i := 394) (by decide +kernel), by decide +kernel⟩
theorem jm_395 : Cond.instanceMethod yX6_count ∈ lw_W := List.mem_filter.mpr ⟨List.mem_of_getElem? (i := 395) (by decide +kernel), by decide +kernel⟩
theorem jm_396 : Cond.selects RX6 yX6_count yX6_count ∈ lw_W := List.mem_filter.mpr ⟨List.mem_of_getElem? (i := 396) (by decide +kernel), by decide +kernel⟩
theorem jm_397 : Cond.code yX6_count cX6_count 2 (some .int) ∈ lw_W := List.mem_filter.mpr ⟨List.mem_of_getElem? (i := 397) (by decide +kernel), by decide +kernel⟩
theorem jm_398 : Cond.methodLink RX6 37 yX6_requireWithin ∈ lw_W := List.mem_filter.mpr ⟨List.mem_of_getElem? (i := 398) (by decide +kernel), by decide +kernel⟩
theorem jm_399 : Cond.static yX6_requireWithin ∈ lw_W := List.mem_filter.mpr ⟨List.mem_of_getElem? (i := 399) (by decide +kernel), by decide +kernel⟩
theorem jm_400 : Cond.code yX6_requireWithin cX6_requireWithin 3 none ∈ lw_W := List.mem_filter.mpr ⟨List.mem_of_getElem? (i := 400) (by decide +kernel), by decide +kernel⟩
theorem jm_469 : Cond.methodLink RX6 233 yX5_rowsIn ∈ lw_W := List.mem_filter.mpr ⟨List.mem_of_getElem? (i := 469) (by decide +kernel), by decide +kernel⟩
theorem jm_470 : Cond.instanceMethod yX5_rowsIn ∈ lw_W := List.mem_filter.mpr ⟨List.mem_of_getElem? (i := 470) (by decide +kernel), by decide +kernel⟩
theorem jm_471 : Cond.selects RX5 yX5_rowsIn yX5_rowsIn ∈ lw_W := List.mem_filter.mpr ⟨List.mem_of_getElem? (i := 471) (by decide +kernel), by decide +kernel⟩
theorem jm_472 : Cond.code yX5_rowsIn cX5_rowsIn 4 (some .int) ∈ lw_W := List.mem_filter.mpr ⟨List.mem_of_getElem? (i := 472) (by decide +kernel), by decide +kernel⟩
theorem jm_473 : Cond.methodLink RX6 239 yX5_blockedWaiting ∈ lw_W := List.mem_filter.mpr ⟨List.mem_of_getElem? (i := 473) (by decide +kernel), by decide +kernel⟩
theorem jm_474 : Cond.instanceMethod yX5_blockedWaiting ∈ lw_W := List.mem_filter.mpr ⟨List.mem_of_getElem? (i := 474) (by decide +kernel), by decide +kernel⟩
theorem jm_475 : Cond.selects RX5 yX5_blockedWaiting yX5_blockedWaiting ∈ lw_W := List.mem_filter.mpr ⟨List.mem_of_getElem? (i := 475) (by decide +kernel), by decide +kernel⟩
theorem jm_476 : Cond.code yX5_blockedWaiting cX5_blockedWaiting 3 (some .int) ∈ lw_W := List.mem_filter.mpr ⟨List.mem_of_getElem? (i := 476) (by decide +kernel), by decide +kernel⟩
theorem jm_477 : Cond.methodLink RX6 243 yX5_unlikePairs ∈ lw_W := List.mem_filter.mpr ⟨List.mem_of_getElem? (i := 477) (by decide +kernel), by decide +kernel⟩
theorem jm_478 : Cond.instanceMethod yX5_unlikePairs ∈ lw_W := List.mem_filter.mpr ⟨List.mem_of_getElem? (i := 478) (by decide +kernel), by decide +kernel⟩
theorem jm_479 : Cond.selects RX5 yX5_unlikePairs yX5_unlikePairs ∈ lw_W := List.mem_filter.mpr ⟨List.mem_of_getElem? (i := 479) (by decide +kernel), by decide +kernel⟩
theorem jm_480 : Cond.code yX5_unlikePairs cX5_unlikePairs 3 (some .int) ∈ lw_W := List.mem_filter.mpr ⟨List.mem_of_getElem? (i := 480) (by decide +kernel), by decide +kernel⟩
theorem jm_481 : Cond.methodLink RX5 125 yX5_hasEarlierPair ∈ lw_W := List.mem_filter.mpr ⟨List.mem_of_getElem? (i := 481) (by decide +kernel), by decide +kernel⟩
theorem jm_483 : Cond.instanceMethod yX5_hasEarlierPair ∈ lw_W := List.mem_filter.mpr ⟨List.mem_of_getElem? (i := 483) (by decide +kernel), by decide +kernel⟩
theorem jm_484 : Cond.code yX5_hasEarlierPair cX5_hasEarlierPair 3 (some .boolean) ∈ lw_W := List.mem_filter.mpr ⟨List.mem_of_getElem? (i := 484) (by decide +kernel), by decide +kernel⟩
theorem jm_485 : Cond.methodLink RX6 246 yX5_firstWaiting ∈ lw_W := List.mem_filter.mpr ⟨List.mem_of_getElem? (i := 485) (by decide +kernel), by decide +kernel⟩
theorem jm_486 : Cond.instanceMethod yX5_firstWaiting ∈ lw_W := List.mem_filter.mpr ⟨List.mem_of_getElem? (i := 486) (by decide +kernel), by decide +kernel⟩
theorem jm_487 : Cond.selects RX5 yX5_firstWaiting yX5_firstWaiting ∈ lw_W := List.mem_filter.mpr ⟨List.mem_of_getElem? (i := 487) (by decide +kernel), by decide +kernel⟩
theorem jm_488 : Cond.code yX5_firstWaiting cX5_firstWaiting 2 (some .int) ∈ lw_W := List.mem_filter.mpr ⟨List.mem_of_getElem? (i := 488) (by decide +kernel), by decide +kernel⟩
theorem jm_489 : Cond.methodLink RX6 269 yX6_mixed ∈ lw_W := List.mem_filter.mpr ⟨List.mem_of_getElem? (i := 489) (by decide +kernel), by decide +kernel⟩
theorem jm_490 : Cond.static yX6_mixed ∈ lw_W := List.mem_filter.mpr ⟨List.mem_of_getElem? (i := 490) (by decide +kernel), by decide +kernel⟩
theorem jm_491 : Cond.code yX6_mixed cX6_mixed 4 (some .long) ∈ lw_W := List.mem_filter.mpr ⟨List.mem_of_getElem? (i := 491) (by decide +kernel), by decide +kernel⟩
theorem jm_492 : Cond.constantLong RX6 301 (31) ∈ lw_W := List.mem_filter.mpr ⟨List.mem_of_getElem? (i := 492) (by decide +kernel), by decide +kernel⟩
theorem jm_493 : Cond.methodLink RX6 273 yX6_withRows ∈ lw_W := List.mem_filter.mpr ⟨List.mem_of_getElem? (i := 493) (by decide +kernel), by decide +kernel⟩
theorem jm_495 : Cond.instanceMethod yX6_withRows ∈ lw_W := List.mem_filter.mpr ⟨List.mem_of_getElem? (i := 495) (by decide +kernel), by decide +kernel⟩
theorem jm_496 : Cond.code yX6_withRows cX6_withRows 7 (some .long) ∈ lw_W := List.mem_filter.mpr ⟨List.mem_of_getElem? (i := 496) (by decide +kernel), by decide +kernel⟩
theorem jm_497 : Cond.methodLink RX6 303 yX6_row ∈ lw_W := List.mem_filter.mpr ⟨List.mem_of_getElem? (i := 497) (by decide +kernel), by decide +kernel⟩
theorem jm_498 : Cond.instanceMethod yX6_row ∈ lw_W := List.mem_filter.mpr ⟨List.mem_of_getElem? (i := 498) (by decide +kernel), by decide +kernel⟩
theorem jm_499 : Cond.selects RX6 yX6_row yX6_row ∈ lw_W := List.mem_filter.mpr ⟨List.mem_of_getElem? (i := 499) (by decide +kernel), by decide +kernel⟩
theorem jm_500 : Cond.code yX6_row cX6_row 4 (some .int) ∈ lw_W := List.mem_filter.mpr ⟨List.mem_of_getElem? (i := 500) (by decide +kernel), by decide +kernel⟩
theorem jm_501 : Cond.methodLink RX6 57 yX6_requireRow ∈ lw_W := List.mem_filter.mpr ⟨List.mem_of_getElem? (i := 501) (by decide +kernel), by decide +kernel⟩
theorem jm_503 : Cond.instanceMethod yX6_requireRow ∈ lw_W := List.mem_filter.mpr ⟨List.mem_of_getElem? (i := 503) (by decide +kernel), by decide +kernel⟩
theorem jm_504 : Cond.code yX6_requireRow cX6_requireRow 2 none ∈ lw_W := List.mem_filter.mpr ⟨List.mem_of_getElem? (i := 504) (by decide +kernel), by decide +kernel⟩
theorem jm_521 : Cond.methodLink RX6 64 yX4_isOpen ∈ lw_W := List.mem_filter.mpr ⟨List.mem_of_getElem? (i := 521) (by decide +kernel), by decide +kernel⟩
theorem jm_522 : Cond.methodLink RX6 210 yX5_isBlocked ∈ lw_W := List.mem_filter.mpr ⟨List.mem_of_getElem? (i := 522) (by decide +kernel), by decide +kernel⟩
theorem jm_523 : Cond.methodLink RX6 214 yX5_placeOf ∈ lw_W := List.mem_filter.mpr ⟨List.mem_of_getElem? (i := 523) (by decide +kernel), by decide +kernel⟩
theorem jm_524 : Cond.instanceMethod yX5_placeOf ∈ lw_W := List.mem_filter.mpr ⟨List.mem_of_getElem? (i := 524) (by decide +kernel), by decide +kernel⟩
theorem jm_525 : Cond.selects RX5 yX5_placeOf yX5_placeOf ∈ lw_W := List.mem_filter.mpr ⟨List.mem_of_getElem? (i := 525) (by decide +kernel), by decide +kernel⟩
theorem jm_526 : Cond.code yX5_placeOf cX5_placeOf 4 (some .int) ∈ lw_W := List.mem_filter.mpr ⟨List.mem_of_getElem? (i := 526) (by decide +kernel), by decide +kernel⟩
theorem jm_527 : Cond.methodLink RX5 115 yX5_isAhead ∈ lw_W := List.mem_filter.mpr ⟨List.mem_of_getElem? (i := 527) (by decide +kernel), by decide +kernel⟩
theorem jm_529 : Cond.instanceMethod yX5_isAhead ∈ lw_W := List.mem_filter.mpr ⟨List.mem_of_getElem? (i := 529) (by decide +kernel), by decide +kernel⟩
theorem jm_530 : Cond.code yX5_isAhead cX5_isAhead 3 (some .boolean) ∈ lw_W := List.mem_filter.mpr ⟨List.mem_of_getElem? (i := 530) (by decide +kernel), by decide +kernel⟩
theorem jm_531 : Cond.methodLink RX6 277 yX6_withReaders ∈ lw_W := List.mem_filter.mpr ⟨List.mem_of_getElem? (i := 531) (by decide +kernel), by decide +kernel⟩
theorem jm_533 : Cond.instanceMethod yX6_withReaders ∈ lw_W := List.mem_filter.mpr ⟨List.mem_of_getElem? (i := 533) (by decide +kernel), by decide +kernel⟩
theorem jm_534 : Cond.code yX6_withReaders cX6_withReaders 7 (some .long) ∈ lw_W := List.mem_filter.mpr ⟨List.mem_of_getElem? (i := 534) (by decide +kernel), by decide +kernel⟩
theorem jm_535 : Cond.methodLink RX6 306 yX6_reader ∈ lw_W := List.mem_filter.mpr ⟨List.mem_of_getElem? (i := 535) (by decide +kernel), by decide +kernel⟩
theorem jm_536 : Cond.instanceMethod yX6_reader ∈ lw_W := List.mem_filter.mpr ⟨List.mem_of_getElem? (i := 536) (by decide +kernel), by decide +kernel⟩
theorem jm_537 : Cond.selects RX6 yX6_reader yX6_reader ∈ lw_W := List.mem_filter.mpr ⟨List.mem_of_getElem? (i := 537) (by decide +kernel), by decide +kernel⟩
theorem jm_538 : Cond.code yX6_reader cX6_reader 4 (some .int) ∈ lw_W := List.mem_filter.mpr ⟨List.mem_of_getElem? (i := 538) (by decide +kernel), by decide +kernel⟩
theorem jm_539 : Cond.methodLink RX6 105 yX6_requireReader ∈ lw_W := List.mem_filter.mpr ⟨List.mem_of_getElem? (i := 539) (by decide +kernel), by decide +kernel⟩
theorem jm_540 : Cond.static yX6_requireReader ∈ lw_W := List.mem_filter.mpr ⟨List.mem_of_getElem? (i := 540) (by decide +kernel), by decide +kernel⟩
theorem jm_541 : Cond.code yX6_requireReader cX6_requireReader 1 none ∈ lw_W := List.mem_filter.mpr ⟨List.mem_of_getElem? (i := 541) (by decide +kernel), by decide +kernel⟩
theorem jm_543 : Cond.methodLink RX6 141 yX5_holdsOf ∈ lw_W := List.mem_filter.mpr ⟨List.mem_of_getElem? (i := 543) (by decide +kernel), by decide +kernel⟩
theorem jm_544 : Cond.methodLink RX6 223 yX5_firstLapseOf ∈ lw_W := List.mem_filter.mpr ⟨List.mem_of_getElem? (i := 544) (by decide +kernel), by decide +kernel⟩
theorem jm_545 : Cond.instanceMethod yX5_firstLapseOf ∈ lw_W := List.mem_filter.mpr ⟨List.mem_of_getElem? (i := 545) (by decide +kernel), by decide +kernel⟩
theorem jm_546 : Cond.selects RX5 yX5_firstLapseOf yX5_firstLapseOf ∈ lw_W := List.mem_filter.mpr ⟨List.mem_of_getElem? (i := 546) (by decide +kernel), by decide +kernel⟩
theorem jm_547 : Cond.code yX5_firstLapseOf cX5_firstLapseOf 4 (some .int) ∈ lw_W := List.mem_filter.mpr ⟨List.mem_of_getElem? (i := 547) (by decide +kernel), by decide +kernel⟩
theorem jm_548 : Cond.methodLink RX6 309 yX6_ifTaken ∈ lw_W := List.mem_filter.mpr ⟨List.mem_of_getElem? (i := 548) (by decide +kernel), by decide +kernel⟩
theorem jm_549 : Cond.instanceMethod yX6_ifTaken ∈ lw_W := List.mem_filter.mpr ⟨List.mem_of_getElem? (i := 549) (by decide +kernel), by decide +kernel⟩
theorem jm_550 : Cond.selects RX6 yX6_ifTaken yX6_ifTaken ∈ lw_W := List.mem_filter.mpr ⟨List.mem_of_getElem? (i := 550) (by decide +kernel), by decide +kernel⟩
theorem jm_551 : Cond.code yX6_ifTaken cX6_ifTaken 4 (some .int) ∈ lw_W := List.mem_filter.mpr ⟨List.mem_of_getElem? (i := 551) (by decide +kernel), by decide +kernel⟩
theorem jm_552 : Cond.methodLink RX6 280 yX6_withGroups ∈ lw_W := List.mem_filter.mpr ⟨List.mem_of_getElem? (i := 552) (by decide +kernel), by decide +kernel⟩
theorem jm_554 : Cond.instanceMethod yX6_withGroups ∈ lw_W := List.mem_filter.mpr ⟨List.mem_of_getElem? (i := 554) (by decide +kernel), by decide +kernel⟩
theorem jm_555 : Cond.code yX6_withGroups cX6_withGroups 7 (some .long) ∈ lw_W := List.mem_filter.mpr ⟨List.mem_of_getElem? (i := 555) (by decide +kernel), by decide +kernel⟩
theorem jm_556 : Cond.methodLink RX6 312 yX6_group ∈ lw_W := List.mem_filter.mpr ⟨List.mem_of_getElem? (i := 556) (by decide +kernel), by decide +kernel⟩
theorem jm_557 : Cond.instanceMethod yX6_group ∈ lw_W := List.mem_filter.mpr ⟨List.mem_of_getElem? (i := 557) (by decide +kernel), by decide +kernel⟩
theorem jm_558 : Cond.selects RX6 yX6_group yX6_group ∈ lw_W := List.mem_filter.mpr ⟨List.mem_of_getElem? (i := 558) (by decide +kernel), by decide +kernel⟩
theorem jm_559 : Cond.code yX6_group cX6_group 4 (some .int) ∈ lw_W := List.mem_filter.mpr ⟨List.mem_of_getElem? (i := 559) (by decide +kernel), by decide +kernel⟩
theorem jm_560 : Cond.methodLink RX6 229 yX5_rowsOf ∈ lw_W := List.mem_filter.mpr ⟨List.mem_of_getElem? (i := 560) (by decide +kernel), by decide +kernel⟩
theorem jm_561 : Cond.instanceMethod yX5_rowsOf ∈ lw_W := List.mem_filter.mpr ⟨List.mem_of_getElem? (i := 561) (by decide +kernel), by decide +kernel⟩
theorem jm_562 : Cond.selects RX5 yX5_rowsOf yX5_rowsOf ∈ lw_W := List.mem_filter.mpr ⟨List.mem_of_getElem? (i := 562) (by decide +kernel), by decide +kernel⟩
theorem jm_563 : Cond.code yX5_rowsOf cX5_rowsOf 7 (some .int) ∈ lw_W := List.mem_filter.mpr ⟨List.mem_of_getElem? (i := 563) (by decide +kernel), by decide +kernel⟩
theorem jm_564 : Cond.methodLink RX6 283 yX6_ifPassed ∈ lw_W := List.mem_filter.mpr ⟨List.mem_of_getElem? (i := 564) (by decide +kernel), by decide +kernel⟩
theorem jm_565 : Cond.instanceMethod yX6_ifPassed ∈ lw_W := List.mem_filter.mpr ⟨List.mem_of_getElem? (i := 565) (by decide +kernel), by decide +kernel⟩
theorem jm_566 : Cond.selects RX6 yX6_ifPassed yX6_ifPassed ∈ lw_W := List.mem_filter.mpr ⟨List.mem_of_getElem? (i := 566) (by decide +kernel), by decide +kernel⟩
theorem jm_567 : Cond.code yX6_ifPassed cX6_ifPassed 4 (some .int) ∈ lw_W := List.mem_filter.mpr ⟨List.mem_of_getElem? (i := 567) (by decide +kernel), by decide +kernel⟩
theorem jm_568 : Cond.methodLink RX6 255 yX5_holdsEndedBy ∈ lw_W := List.mem_filter.mpr ⟨List.mem_of_getElem? (i := 568) (by decide +kernel), by decide +kernel⟩
theorem jm_569 : Cond.instanceMethod yX5_holdsEndedBy ∈ lw_W := List.mem_filter.mpr ⟨List.mem_of_getElem? (i := 569) (by decide +kernel), by decide +kernel⟩
theorem jm_570 : Cond.selects RX5 yX5_holdsEndedBy yX5_holdsEndedBy ∈ lw_W := List.mem_filter.mpr ⟨List.mem_of_getElem? (i := 570) (by decide +kernel), by decide +kernel⟩
theorem jm_571 : Cond.code yX5_holdsEndedBy cX5_holdsEndedBy 4 (some .int) ∈ lw_W := List.mem_filter.mpr ⟨List.mem_of_getElem? (i := 571) (by decide +kernel), by decide +kernel⟩
theorem jm_572 : Cond.methodLink RX5 92 yX4_lapsesBy ∈ lw_W := List.mem_filter.mpr ⟨List.mem_of_getElem? (i := 572) (by decide +kernel), by decide +kernel⟩
theorem jm_573 : Cond.instanceMethod yX4_lapsesBy ∈ lw_W := List.mem_filter.mpr ⟨List.mem_of_getElem? (i := 573) (by decide +kernel), by decide +kernel⟩
theorem jm_574 : Cond.selects RX4 yX4_lapsesBy yX4_lapsesBy ∈ lw_W := List.mem_filter.mpr ⟨List.mem_of_getElem? (i := 574) (by decide +kernel), by decide +kernel⟩
theorem jm_575 : Cond.code yX4_lapsesBy cX4_lapsesBy 2 (some .boolean) ∈ lw_W := List.mem_filter.mpr ⟨List.mem_of_getElem? (i := 575) (by decide +kernel), by decide +kernel⟩
theorem jm_576 : Cond.methodLink RX6 258 yX5_deadBy ∈ lw_W := List.mem_filter.mpr ⟨List.mem_of_getElem? (i := 576) (by decide +kernel), by decide +kernel⟩
theorem jm_577 : Cond.instanceMethod yX5_deadBy ∈ lw_W := List.mem_filter.mpr ⟨List.mem_of_getElem? (i := 577) (by decide +kernel), by decide +kernel⟩
theorem jm_578 : Cond.selects RX5 yX5_deadBy yX5_deadBy ∈ lw_W := List.mem_filter.mpr ⟨List.mem_of_getElem? (i := 578) (by decide +kernel), by decide +kernel⟩
theorem jm_579 : Cond.code yX5_deadBy cX5_deadBy 4 (some .int) ∈ lw_W := List.mem_filter.mpr ⟨List.mem_of_getElem? (i := 579) (by decide +kernel), by decide +kernel⟩
theorem jm_580 : Cond.methodLink RX5 111 yX5_rowsIn ∈ lw_W := List.mem_filter.mpr ⟨List.mem_of_getElem? (i := 580) (by decide +kernel), by decide +kernel⟩
theorem jm_581 : Cond.methodLink RX6 287 yX6_freest ∈ lw_W := List.mem_filter.mpr ⟨List.mem_of_getElem? (i := 581) (by decide +kernel), by decide +kernel⟩
theorem jm_582 : Cond.methodLink RX6 290 yX6_fairness ∈ lw_W := List.mem_filter.mpr ⟨List.mem_of_getElem? (i := 582) (by decide +kernel), by decide +kernel⟩
theorem jm_583 : Cond.methodLink RX6 294 yX6_bitsOf ∈ lw_W := List.mem_filter.mpr ⟨List.mem_of_getElem? (i := 583) (by decide +kernel), by decide +kernel⟩
theorem jm_584 : Cond.static yX6_bitsOf ∈ lw_W := List.mem_filter.mpr ⟨List.mem_of_getElem? (i := 584) (by decide +kernel), by decide +kernel⟩
theorem jm_585 : Cond.code yX6_bitsOf cX6_bitsOf 7 (some .long) ∈ lw_W := List.mem_filter.mpr ⟨List.mem_of_getElem? (i := 585) (by decide +kernel), by decide +kernel⟩
theorem jm_586 : Cond.constantLong RX6 318 (1023) ∈ lw_W := List.mem_filter.mpr ⟨List.mem_of_getElem? (i := 586) (by decide +kernel), by decide +kernel⟩
theorem jm_587 : Cond.constantDouble RX6 320 (4611686018427387904) ∈ lw_W := List.mem_filter.mpr ⟨List.mem_of_getElem? (i := 587) (by decide +kernel), by decide +kernel⟩
theorem jm_588 : Cond.constantDouble RX6 322 (4841369599423283200) ∈ lw_W := List.mem_filter.mpr ⟨List.mem_of_getElem? (i := 588) (by decide +kernel), by decide +kernel⟩
theorem jm_589 : Cond.methodLink RX6 298 yX6_withBuffer ∈ lw_W := List.mem_filter.mpr ⟨List.mem_of_getElem? (i := 589) (by decide +kernel), by decide +kernel⟩
theorem jm_591 : Cond.instanceMethod yX6_withBuffer ∈ lw_W := List.mem_filter.mpr ⟨List.mem_of_getElem? (i := 591) (by decide +kernel), by decide +kernel⟩
theorem jm_592 : Cond.code yX6_withBuffer cX6_withBuffer 6 (some .long) ∈ lw_W := List.mem_filter.mpr ⟨List.mem_of_getElem? (i := 592) (by decide +kernel), by decide +kernel⟩
theorem jm_593 : Cond.methodLink RL 83 yL_put ∈ lw_W := List.mem_filter.mpr ⟨List.mem_of_getElem? (i := 593) (by decide +kernel), by decide +kernel⟩
theorem jm_594 : Cond.static yL_put ∈ lw_W := List.mem_filter.mpr ⟨List.mem_of_getElem? (i := 594) (by decide +kernel), by decide +kernel⟩
theorem jm_595 : Cond.codeWith yL_put cL_put 5 (some .int) [(0, 10, 13, 13), (0, 10, 17, 15)] ∈ lw_W := List.mem_filter.mpr ⟨List.mem_of_getElem? (i := 595) (by decide +kernel), by decide +kernel⟩
theorem jm_598 : Cond.methodLink RL 7 yX6_put ∈ lw_W := List.mem_filter.mpr ⟨List.mem_of_getElem? (i := 598) (by decide +kernel), by decide +kernel⟩
theorem jm_599 : Cond.instanceMethod yX6_put ∈ lw_W := List.mem_filter.mpr ⟨List.mem_of_getElem? (i := 599) (by decide +kernel), by decide +kernel⟩
theorem jm_600 : Cond.selects RX6 yX6_put yX6_put ∈ lw_W := List.mem_filter.mpr ⟨List.mem_of_getElem? (i := 600) (by decide +kernel), by decide +kernel⟩
theorem jm_601 : Cond.code yX6_put cX6_put 3 (some .int) ∈ lw_W := List.mem_filter.mpr ⟨List.mem_of_getElem? (i := 601) (by decide +kernel), by decide +kernel⟩
theorem jm_602 : Cond.methodLink RX6 41 yX6_requireRoomFor ∈ lw_W := List.mem_filter.mpr ⟨List.mem_of_getElem? (i := 602) (by decide +kernel), by decide +kernel⟩
theorem jm_604 : Cond.instanceMethod yX6_requireRoomFor ∈ lw_W := List.mem_filter.mpr ⟨List.mem_of_getElem? (i := 604) (by decide +kernel), by decide +kernel⟩
theorem jm_605 : Cond.code yX6_requireRoomFor cX6_requireRoomFor 2 none ∈ lw_W := List.mem_filter.mpr ⟨List.mem_of_getElem? (i := 605) (by decide +kernel), by decide +kernel⟩
theorem jm_622 : Cond.methodLink RX6 49 yX5_addRow ∈ lw_W := List.mem_filter.mpr ⟨List.mem_of_getElem? (i := 622) (by decide +kernel), by decide +kernel⟩
theorem jm_623 : Cond.instanceMethod yX5_addRow ∈ lw_W := List.mem_filter.mpr ⟨List.mem_of_getElem? (i := 623) (by decide +kernel), by decide +kernel⟩
theorem jm_624 : Cond.selects RX5 yX5_addRow yX5_addRow ∈ lw_W := List.mem_filter.mpr ⟨List.mem_of_getElem? (i := 624) (by decide +kernel), by decide +kernel⟩
theorem jm_625 : Cond.code yX5_addRow cX5_addRow 3 none ∈ lw_W := List.mem_filter.mpr ⟨List.mem_of_getElem? (i := 625) (by decide +kernel), by decide +kernel⟩
theorem jm_626 : Cond.methodLink RX5 52 yX4_begin ∈ lw_W := List.mem_filter.mpr ⟨List.mem_of_getElem? (i := 626) (by decide +kernel), by decide +kernel⟩
theorem jm_627 : Cond.instanceMethod yX4_begin ∈ lw_W := List.mem_filter.mpr ⟨List.mem_of_getElem? (i := 627) (by decide +kernel), by decide +kernel⟩
theorem jm_628 : Cond.selects RX4 yX4_begin yX4_begin ∈ lw_W := List.mem_filter.mpr ⟨List.mem_of_getElem? (i := 628) (by decide +kernel), by decide +kernel⟩
theorem jm_629 : Cond.code yX4_begin cX4_begin 5 none ∈ lw_W := List.mem_filter.mpr ⟨List.mem_of_getElem? (i := 629) (by decide +kernel), by decide +kernel⟩
theorem jm_630 : Cond.methodLink RL 92 yL_urge ∈ lw_W := List.mem_filter.mpr ⟨List.mem_of_getElem? (i := 630) (by decide +kernel), by decide +kernel⟩
theorem jm_631 : Cond.static yL_urge ∈ lw_W := List.mem_filter.mpr ⟨List.mem_of_getElem? (i := 631) (by decide +kernel), by decide +kernel⟩
theorem jm_632 : Cond.codeWith yL_urge cL_urge 5 (some .int) [(0, 10, 13, 20), (0, 10, 17, 13), (0, 10, 21, 15)] ∈ lw_W := List.mem_filter.mpr ⟨List.mem_of_getElem? (i := 632) (by decide +kernel), by decide +kernel⟩
theorem jm_634 : Cond.methodLink RL 17 yX6_urge ∈ lw_W := List.mem_filter.mpr ⟨List.mem_of_getElem? (i := 634) (by decide +kernel), by decide +kernel⟩
theorem jm_635 : Cond.instanceMethod yX6_urge ∈ lw_W := List.mem_filter.mpr ⟨List.mem_of_getElem? (i := 635) (by decide +kernel), by decide +kernel⟩
theorem jm_636 : Cond.selects RX6 yX6_urge yX6_urge ∈ lw_W := List.mem_filter.mpr ⟨List.mem_of_getElem? (i := 636) (by decide +kernel), by decide +kernel⟩
theorem jm_637 : Cond.code yX6_urge cX6_urge 4 (some .int) ∈ lw_W := List.mem_filter.mpr ⟨List.mem_of_getElem? (i := 637) (by decide +kernel), by decide +kernel⟩
theorem jm_639 : Cond.methodLink RL 95 yL_revive ∈ lw_W := List.mem_filter.mpr ⟨List.mem_of_getElem? (i := 639) (by decide +kernel), by decide +kernel⟩
theorem jm_640 : Cond.static yL_revive ∈ lw_W := List.mem_filter.mpr ⟨List.mem_of_getElem? (i := 640) (by decide +kernel), by decide +kernel⟩
theorem jm_641 : Cond.codeWith yL_revive cL_revive 4 (some .int) [(0, 9, 12, 20), (0, 9, 15, 15)] ∈ lw_W := List.mem_filter.mpr ⟨List.mem_of_getElem? (i := 641) (by decide +kernel), by decide +kernel⟩
theorem jm_642 : Cond.methodLink RL 22 yX6_revive ∈ lw_W := List.mem_filter.mpr ⟨List.mem_of_getElem? (i := 642) (by decide +kernel), by decide +kernel⟩
theorem jm_643 : Cond.instanceMethod yX6_revive ∈ lw_W := List.mem_filter.mpr ⟨List.mem_of_getElem? (i := 643) (by decide +kernel), by decide +kernel⟩
theorem jm_644 : Cond.selects RX6 yX6_revive yX6_revive ∈ lw_W := List.mem_filter.mpr ⟨List.mem_of_getElem? (i := 644) (by decide +kernel), by decide +kernel⟩
theorem jm_645 : Cond.code yX6_revive cX6_revive 3 (some .int) ∈ lw_W := List.mem_filter.mpr ⟨List.mem_of_getElem? (i := 645) (by decide +kernel), by decide +kernel⟩
theorem jm_647 : Cond.methodLink RL 103 yL_set ∈ lw_W := List.mem_filter.mpr ⟨List.mem_of_getElem? (i := 647) (by decide +kernel), by decide +kernel⟩
theorem jm_648 : Cond.static yL_set ∈ lw_W := List.mem_filter.mpr ⟨List.mem_of_getElem? (i := 648) (by decide +kernel), by decide +kernel⟩
theorem jm_649 : Cond.codeWith yL_set cL_set 5 (some .int) [(0, 10, 13, 20), (0, 10, 17, 13)] ∈ lw_W := List.mem_filter.mpr ⟨List.mem_of_getElem? (i := 649) (by decide +kernel), by decide +kernel⟩
theorem jm_650 : Cond.methodLink RL 26 yX6_set ∈ lw_W := List.mem_filter.mpr ⟨List.mem_of_getElem? (i := 650) (by decide +kernel), by decide +kernel⟩
theorem jm_651 : Cond.instanceMethod yX6_set ∈ lw_W := List.mem_filter.mpr ⟨List.mem_of_getElem? (i := 651) (by decide +kernel), by decide +kernel⟩
theorem jm_652 : Cond.selects RX6 yX6_set yX6_set ∈ lw_W := List.mem_filter.mpr ⟨List.mem_of_getElem? (i := 652) (by decide +kernel), by decide +kernel⟩
theorem jm_653 : Cond.code yX6_set cX6_set 4 (some .int) ∈ lw_W := List.mem_filter.mpr ⟨List.mem_of_getElem? (i := 653) (by decide +kernel), by decide +kernel⟩
theorem jm_654 : Cond.methodLink RX6 92 yX6_requireSetting ∈ lw_W := List.mem_filter.mpr ⟨List.mem_of_getElem? (i := 654) (by decide +kernel), by decide +kernel⟩
theorem jm_655 : Cond.static yX6_requireSetting ∈ lw_W := List.mem_filter.mpr ⟨List.mem_of_getElem? (i := 655) (by decide +kernel), by decide +kernel⟩
theorem jm_656 : Cond.code yX6_requireSetting cX6_requireSetting 1 none ∈ lw_W := List.mem_filter.mpr ⟨List.mem_of_getElem? (i := 656) (by decide +kernel), by decide +kernel⟩
theorem jm_658 : Cond.fieldLink RX6 95 RX6 "LEAST_VALUES" "[I" ∈ lw_W := List.mem_filter.mpr ⟨List.mem_of_getElem? (i := 658) (by decide +kernel), by decide +kernel⟩
theorem jm_660 : Cond.fieldLink RX6 99 RX6 "GREATEST_VALUES" "[I" ∈ lw_W := List.mem_filter.mpr ⟨List.mem_of_getElem? (i := 660) (by decide +kernel), by decide +kernel⟩
theorem jm_662 : Cond.methodLink RL 106 yL_takes ∈ lw_W := List.mem_filter.mpr ⟨List.mem_of_getElem? (i := 662) (by decide +kernel), by decide +kernel⟩
theorem jm_663 : Cond.static yL_takes ∈ lw_W := List.mem_filter.mpr ⟨List.mem_of_getElem? (i := 663) (by decide +kernel), by decide +kernel⟩
theorem jm_664 : Cond.codeWith yL_takes cL_takes 5 (some .int) [(0, 10, 13, 20), (0, 10, 17, 13)] ∈ lw_W := List.mem_filter.mpr ⟨List.mem_of_getElem? (i := 664) (by decide +kernel), by decide +kernel⟩
theorem jm_665 : Cond.methodLink RL 29 yX6_takes ∈ lw_W := List.mem_filter.mpr ⟨List.mem_of_getElem? (i := 665) (by decide +kernel), by decide +kernel⟩
theorem jm_666 : Cond.instanceMethod yX6_takes ∈ lw_W := List.mem_filter.mpr ⟨List.mem_of_getElem? (i := 666) (by decide +kernel), by decide +kernel⟩
theorem jm_667 : Cond.selects RX6 yX6_takes yX6_takes ∈ lw_W := List.mem_filter.mpr ⟨List.mem_of_getElem? (i := 667) (by decide +kernel), by decide +kernel⟩
theorem jm_668 : Cond.code yX6_takes cX6_takes 4 (some .int) ∈ lw_W := List.mem_filter.mpr ⟨List.mem_of_getElem? (i := 668) (by decide +kernel), by decide +kernel⟩
theorem jm_669 : Cond.methodLink RL 109 yL_take ∈ lw_W := List.mem_filter.mpr ⟨List.mem_of_getElem? (i := 669) (by decide +kernel), by decide +kernel⟩
theorem jm_670 : Cond.static yL_take ∈ lw_W := List.mem_filter.mpr ⟨List.mem_of_getElem? (i := 670) (by decide +kernel), by decide +kernel⟩
theorem jm_671 : Cond.codeWith yL_take cL_take 5 (some .int) [(0, 10, 13, 20), (0, 10, 17, 13)] ∈ lw_W := List.mem_filter.mpr ⟨List.mem_of_getElem? (i := 671) (by decide +kernel), by decide +kernel⟩
theorem jm_672 : Cond.methodLink RL 32 yX6_take ∈ lw_W := List.mem_filter.mpr ⟨List.mem_of_getElem? (i := 672) (by decide +kernel), by decide +kernel⟩
theorem jm_673 : Cond.instanceMethod yX6_take ∈ lw_W := List.mem_filter.mpr ⟨List.mem_of_getElem? (i := 673) (by decide +kernel), by decide +kernel⟩
theorem jm_674 : Cond.selects RX6 yX6_take yX6_take ∈ lw_W := List.mem_filter.mpr ⟨List.mem_of_getElem? (i := 674) (by decide +kernel), by decide +kernel⟩
theorem jm_675 : Cond.code yX6_take cX6_take 3 (some .int) ∈ lw_W := List.mem_filter.mpr ⟨List.mem_of_getElem? (i := 675) (by decide +kernel), by decide +kernel⟩
theorem jm_676 : Cond.methodLink RX6 121 yX5_holdAndSkip ∈ lw_W := List.mem_filter.mpr ⟨List.mem_of_getElem? (i := 676) (by decide +kernel), by decide +kernel⟩
theorem jm_677 : Cond.instanceMethod yX5_holdAndSkip ∈ lw_W := List.mem_filter.mpr ⟨List.mem_of_getElem? (i := 677) (by decide +kernel), by decide +kernel⟩
theorem jm_678 : Cond.selects RX5 yX5_holdAndSkip yX5_holdAndSkip ∈ lw_W := List.mem_filter.mpr ⟨List.mem_of_getElem? (i := 678) (by decide +kernel), by decide +kernel⟩
theorem jm_679 : Cond.code yX5_holdAndSkip cX5_holdAndSkip 4 none ∈ lw_W := List.mem_filter.mpr ⟨List.mem_of_getElem? (i := 679) (by decide +kernel), by decide +kernel⟩
theorem jm_680 : Cond.methodLink RX5 73 yX2_hasTaken ∈ lw_W := List.mem_filter.mpr ⟨List.mem_of_getElem? (i := 680) (by decide +kernel), by decide +kernel⟩
theorem jm_681 : Cond.instanceMethod yX2_hasTaken ∈ lw_W := List.mem_filter.mpr ⟨List.mem_of_getElem? (i := 681) (by decide +kernel), by decide +kernel⟩
theorem jm_682 : Cond.selects RX2 yX2_hasTaken yX2_hasTaken ∈ lw_W := List.mem_filter.mpr ⟨List.mem_of_getElem? (i := 682) (by decide +kernel), by decide +kernel⟩
theorem jm_683 : Cond.code yX2_hasTaken cX2_hasTaken 2 (some .boolean) ∈ lw_W := List.mem_filter.mpr ⟨List.mem_of_getElem? (i := 683) (by decide +kernel), by decide +kernel⟩
theorem jm_684 : Cond.methodLink RX5 78 yX4_startHold ∈ lw_W := List.mem_filter.mpr ⟨List.mem_of_getElem? (i := 684) (by decide +kernel), by decide +kernel⟩
theorem jm_685 : Cond.instanceMethod yX4_startHold ∈ lw_W := List.mem_filter.mpr ⟨List.mem_of_getElem? (i := 685) (by decide +kernel), by decide +kernel⟩
theorem jm_686 : Cond.selects RX4 yX4_startHold yX4_startHold ∈ lw_W := List.mem_filter.mpr ⟨List.mem_of_getElem? (i := 686) (by decide +kernel), by decide +kernel⟩
theorem jm_687 : Cond.code yX4_startHold cX4_startHold 3 none ∈ lw_W := List.mem_filter.mpr ⟨List.mem_of_getElem? (i := 687) (by decide +kernel), by decide +kernel⟩
theorem jm_688 : Cond.methodLink RX5 82 yX2_hasSkipped ∈ lw_W := List.mem_filter.mpr ⟨List.mem_of_getElem? (i := 688) (by decide +kernel), by decide +kernel⟩
theorem jm_689 : Cond.instanceMethod yX2_hasSkipped ∈ lw_W := List.mem_filter.mpr ⟨List.mem_of_getElem? (i := 689) (by decide +kernel), by decide +kernel⟩
theorem jm_690 : Cond.selects RX2 yX2_hasSkipped yX2_hasSkipped ∈ lw_W := List.mem_filter.mpr ⟨List.mem_of_getElem? (i := 690) (by decide +kernel), by decide +kernel⟩
theorem jm_691 : Cond.code yX2_hasSkipped cX2_hasSkipped 2 (some .boolean) ∈ lw_W := List.mem_filter.mpr ⟨List.mem_of_getElem? (i := 691) (by decide +kernel), by decide +kernel⟩
theorem jm_692 : Cond.methodLink RL 112 yL_done ∈ lw_W := List.mem_filter.mpr ⟨List.mem_of_getElem? (i := 692) (by decide +kernel), by decide +kernel⟩
theorem jm_693 : Cond.static yL_done ∈ lw_W := List.mem_filter.mpr ⟨List.mem_of_getElem? (i := 693) (by decide +kernel), by decide +kernel⟩
theorem jm_694 : Cond.codeWith yL_done cL_done 5 (some .int) [(0, 10, 13, 20), (0, 10, 17, 15)] ∈ lw_W := List.mem_filter.mpr ⟨List.mem_of_getElem? (i := 694) (by decide +kernel), by decide +kernel⟩
theorem jm_695 : Cond.methodLink RL 35 yX6_done ∈ lw_W := List.mem_filter.mpr ⟨List.mem_of_getElem? (i := 695) (by decide +kernel), by decide +kernel⟩
theorem jm_696 : Cond.instanceMethod yX6_done ∈ lw_W := List.mem_filter.mpr ⟨List.mem_of_getElem? (i := 696) (by decide +kernel), by decide +kernel⟩
theorem jm_697 : Cond.selects RX6 yX6_done yX6_done ∈ lw_W := List.mem_filter.mpr ⟨List.mem_of_getElem? (i := 697) (by decide +kernel), by decide +kernel⟩
theorem jm_698 : Cond.code yX6_done cX6_done 3 (some .int) ∈ lw_W := List.mem_filter.mpr ⟨List.mem_of_getElem? (i := 698) (by decide +kernel), by decide +kernel⟩
theorem jm_699 : Cond.methodLink RX6 128 yX6_requireHold ∈ lw_W := List.mem_filter.mpr ⟨List.mem_of_getElem? (i := 699) (by decide +kernel), by decide +kernel⟩
theorem jm_701 : Cond.instanceMethod yX6_requireHold ∈ lw_W := List.mem_filter.mpr ⟨List.mem_of_getElem? (i := 701) (by decide +kernel), by decide +kernel⟩
theorem jm_702 : Cond.code yX6_requireHold cX6_requireHold 3 none ∈ lw_W := List.mem_filter.mpr ⟨List.mem_of_getElem? (i := 702) (by decide +kernel), by decide +kernel⟩
theorem jm_703 : Cond.methodLink RX6 335 yX4_isHeldBy ∈ lw_W := List.mem_filter.mpr ⟨List.mem_of_getElem? (i := 703) (by decide +kernel), by decide +kernel⟩
theorem jm_705 : Cond.methodLink RX6 131 yX4_endHold ∈ lw_W := List.mem_filter.mpr ⟨List.mem_of_getElem? (i := 705) (by decide +kernel), by decide +kernel⟩
theorem jm_706 : Cond.instanceMethod yX4_endHold ∈ lw_W := List.mem_filter.mpr ⟨List.mem_of_getElem? (i := 706) (by decide +kernel), by decide +kernel⟩
theorem jm_707 : Cond.selects RX4 yX4_endHold yX4_endHold ∈ lw_W := List.mem_filter.mpr ⟨List.mem_of_getElem? (i := 707) (by decide +kernel), by decide +kernel⟩
theorem jm_708 : Cond.code yX4_endHold cX4_endHold 2 none ∈ lw_W := List.mem_filter.mpr ⟨List.mem_of_getElem? (i := 708) (by decide +kernel), by decide +kernel⟩
theorem jm_709 : Cond.methodLink RL 115 yL_giveBack ∈ lw_W := List.mem_filter.mpr ⟨List.mem_of_getElem? (i := 709) (by decide +kernel), by decide +kernel⟩
theorem jm_710 : Cond.static yL_giveBack ∈ lw_W := List.mem_filter.mpr ⟨List.mem_of_getElem? (i := 710) (by decide +kernel), by decide +kernel⟩
theorem jm_711 : Cond.codeWith yL_giveBack cL_giveBack 5 (some .int) [(0, 10, 13, 20), (0, 10, 17, 15)] ∈ lw_W := List.mem_filter.mpr ⟨List.mem_of_getElem? (i := 711) (by decide +kernel), by decide +kernel⟩
theorem jm_712 : Cond.methodLink RL 38 yX6_giveBack ∈ lw_W := List.mem_filter.mpr ⟨List.mem_of_getElem? (i := 712) (by decide +kernel), by decide +kernel⟩
theorem jm_713 : Cond.instanceMethod yX6_giveBack ∈ lw_W := List.mem_filter.mpr ⟨List.mem_of_getElem? (i := 713) (by decide +kernel), by decide +kernel⟩
theorem jm_714 : Cond.selects RX6 yX6_giveBack yX6_giveBack ∈ lw_W := List.mem_filter.mpr ⟨List.mem_of_getElem? (i := 714) (by decide +kernel), by decide +kernel⟩
theorem jm_715 : Cond.code yX6_giveBack cX6_giveBack 3 (some .int) ∈ lw_W := List.mem_filter.mpr ⟨List.mem_of_getElem? (i := 715) (by decide +kernel), by decide +kernel⟩
theorem jm_716 : Cond.methodLink RL 118 yL_renew ∈ lw_W := List.mem_filter.mpr ⟨List.mem_of_getElem? (i := 716) (by decide +kernel), by decide +kernel⟩
theorem jm_717 : Cond.static yL_renew ∈ lw_W := List.mem_filter.mpr ⟨List.mem_of_getElem? (i := 717) (by decide +kernel), by decide +kernel⟩
theorem jm_718 : Cond.codeWith yL_renew cL_renew 4 (some .int) [(0, 9, 12, 20)] ∈ lw_W := List.mem_filter.mpr ⟨List.mem_of_getElem? (i := 718) (by decide +kernel), by decide +kernel⟩
theorem jm_719 : Cond.methodLink RL 41 yX6_renew ∈ lw_W := List.mem_filter.mpr ⟨List.mem_of_getElem? (i := 719) (by decide +kernel), by decide +kernel⟩
theorem jm_720 : Cond.instanceMethod yX6_renew ∈ lw_W := List.mem_filter.mpr ⟨List.mem_of_getElem? (i := 720) (by decide +kernel), by decide +kernel⟩
theorem jm_721 : Cond.selects RX6 yX6_renew yX6_renew ∈ lw_W := List.mem_filter.mpr ⟨List.mem_of_getElem? (i := 721) (by decide +kernel), by decide +kernel⟩
theorem jm_722 : Cond.code yX6_renew cX6_renew 2 (some .int) ∈ lw_W := List.mem_filter.mpr ⟨List.mem_of_getElem? (i := 722) (by decide +kernel), by decide +kernel⟩
theorem jm_723 : Cond.methodLink RX6 145 yX5_prolongHolds ∈ lw_W := List.mem_filter.mpr ⟨List.mem_of_getElem? (i := 723) (by decide +kernel), by decide +kernel⟩
theorem jm_724 : Cond.instanceMethod yX5_prolongHolds ∈ lw_W := List.mem_filter.mpr ⟨List.mem_of_getElem? (i := 724) (by decide +kernel), by decide +kernel⟩
theorem jm_725 : Cond.selects RX5 yX5_prolongHolds yX5_prolongHolds ∈ lw_W := List.mem_filter.mpr ⟨List.mem_of_getElem? (i := 725) (by decide +kernel), by decide +kernel⟩
theorem jm_726 : Cond.code yX5_prolongHolds cX5_prolongHolds 3 none ∈ lw_W := List.mem_filter.mpr ⟨List.mem_of_getElem? (i := 726) (by decide +kernel), by decide +kernel⟩
theorem jm_727 : Cond.methodLink RL 121 yL_pass ∈ lw_W := List.mem_filter.mpr ⟨List.mem_of_getElem? (i := 727) (by decide +kernel), by decide +kernel⟩
theorem jm_728 : Cond.static yL_pass ∈ lw_W := List.mem_filter.mpr ⟨List.mem_of_getElem? (i := 728) (by decide +kernel), by decide +kernel⟩
theorem jm_729 : Cond.codeWith yL_pass cL_pass 4 (some .int) [(0, 9, 12, 13), (0, 9, 15, 15)] ∈ lw_W := List.mem_filter.mpr ⟨List.mem_of_getElem? (i := 729) (by decide +kernel), by decide +kernel⟩
theorem jm_730 : Cond.methodLink RL 44 yX6_pass ∈ lw_W := List.mem_filter.mpr ⟨List.mem_of_getElem? (i := 730) (by decide +kernel), by decide +kernel⟩
theorem jm_731 : Cond.instanceMethod yX6_pass ∈ lw_W := List.mem_filter.mpr ⟨List.mem_of_getElem? (i := 731) (by decide +kernel), by decide +kernel⟩
theorem jm_732 : Cond.selects RX6 yX6_pass yX6_pass ∈ lw_W := List.mem_filter.mpr ⟨List.mem_of_getElem? (i := 732) (by decide +kernel), by decide +kernel⟩
theorem jm_733 : Cond.code yX6_pass cX6_pass 2 (some .int) ∈ lw_W := List.mem_filter.mpr ⟨List.mem_of_getElem? (i := 733) (by decide +kernel), by decide +kernel⟩
theorem jm_735 : Cond.methodLink RX6 153 yX5_moveTime ∈ lw_W := List.mem_filter.mpr ⟨List.mem_of_getElem? (i := 735) (by decide +kernel), by decide +kernel⟩
theorem jm_736 : Cond.instanceMethod yX5_moveTime ∈ lw_W := List.mem_filter.mpr ⟨List.mem_of_getElem? (i := 736) (by decide +kernel), by decide +kernel⟩
theorem jm_737 : Cond.selects RX5 yX5_moveTime yX5_moveTime ∈ lw_W := List.mem_filter.mpr ⟨List.mem_of_getElem? (i := 737) (by decide +kernel), by decide +kernel⟩
theorem jm_738 : Cond.code yX5_moveTime cX5_moveTime 4 (some .int) ∈ lw_W := List.mem_filter.mpr ⟨List.mem_of_getElem? (i := 738) (by decide +kernel), by decide +kernel⟩
theorem jm_739 : Cond.methodLink RX5 95 yX5_lapse ∈ lw_W := List.mem_filter.mpr ⟨List.mem_of_getElem? (i := 739) (by decide +kernel), by decide +kernel⟩
theorem jm_741 : Cond.instanceMethod yX5_lapse ∈ lw_W := List.mem_filter.mpr ⟨List.mem_of_getElem? (i := 741) (by decide +kernel), by decide +kernel⟩
theorem jm_742 : Cond.code yX5_lapse cX5_lapse 2 none ∈ lw_W := List.mem_filter.mpr ⟨List.mem_of_getElem? (i := 742) (by decide +kernel), by decide +kernel⟩
theorem jm_743 : Cond.methodLink RX5 107 yX4_endHold ∈ lw_W := List.mem_filter.mpr ⟨List.mem_of_getElem? (i := 743) (by decide +kernel), by decide +kernel⟩
theorem jm_744 : Cond.methodLink RL 124 yL_append ∈ lw_W := List.mem_filter.mpr ⟨List.mem_of_getElem? (i := 744) (by decide +kernel), by decide +kernel⟩
theorem jm_745 : Cond.static yL_append ∈ lw_W := List.mem_filter.mpr ⟨List.mem_of_getElem? (i := 745) (by decide +kernel), by decide +kernel⟩
theorem jm_746 : Cond.codeWith yL_append cL_append 4 (some .int) [(0, 9, 12, 13), (0, 9, 15, 15)] ∈ lw_W := List.mem_filter.mpr ⟨List.mem_of_getElem? (i := 746) (by decide +kernel), by decide +kernel⟩
theorem jm_747 : Cond.methodLink RL 47 yX6_append ∈ lw_W := List.mem_filter.mpr ⟨List.mem_of_getElem? (i := 747) (by decide +kernel), by decide +kernel⟩
theorem jm_748 : Cond.instanceMethod yX6_append ∈ lw_W := List.mem_filter.mpr ⟨List.mem_of_getElem? (i := 748) (by decide +kernel), by decide +kernel⟩
theorem jm_749 : Cond.selects RX6 yX6_append yX6_append ∈ lw_W := List.mem_filter.mpr ⟨List.mem_of_getElem? (i := 749) (by decide +kernel), by decide +kernel⟩
theorem jm_750 : Cond.code yX6_append cX6_append 2 (some .int) ∈ lw_W := List.mem_filter.mpr ⟨List.mem_of_getElem? (i := 750) (by decide +kernel), by decide +kernel⟩
theorem jm_752 : Cond.methodLink RX6 161 yX0_addCode ∈ lw_W := List.mem_filter.mpr ⟨List.mem_of_getElem? (i := 752) (by decide +kernel), by decide +kernel⟩
theorem jm_753 : Cond.instanceMethod yX0_addCode ∈ lw_W := List.mem_filter.mpr ⟨List.mem_of_getElem? (i := 753) (by decide +kernel), by decide +kernel⟩
theorem jm_754 : Cond.selects RX0 yX0_addCode yX0_addCode ∈ lw_W := List.mem_filter.mpr ⟨List.mem_of_getElem? (i := 754) (by decide +kernel), by decide +kernel⟩
theorem jm_755 : Cond.code yX0_addCode cX0_addCode 2 none ∈ lw_W := List.mem_filter.mpr ⟨List.mem_of_getElem? (i := 755) (by decide +kernel), by decide +kernel⟩
theorem jm_756 : Cond.methodLink RL 135 yL_putAll ∈ lw_W := List.mem_filter.mpr ⟨List.mem_of_getElem? (i := 756) (by decide +kernel), by decide +kernel⟩
theorem jm_757 : Cond.static yL_putAll ∈ lw_W := List.mem_filter.mpr ⟨List.mem_of_getElem? (i := 757) (by decide +kernel), by decide +kernel⟩
theorem jm_758 : Cond.codeWith yL_putAll cL_putAll 3 (some .int) [(0, 8, 11, 13), (0, 8, 14, 15)] ∈ lw_W := List.mem_filter.mpr ⟨List.mem_of_getElem? (i := 758) (by decide +kernel), by decide +kernel⟩
theorem jm_759 : Cond.methodLink RL 50 yX6_putAll ∈ lw_W := List.mem_filter.mpr ⟨List.mem_of_getElem? (i := 759) (by decide +kernel), by decide +kernel⟩
theorem jm_760 : Cond.instanceMethod yX6_putAll ∈ lw_W := List.mem_filter.mpr ⟨List.mem_of_getElem? (i := 760) (by decide +kernel), by decide +kernel⟩
theorem jm_761 : Cond.selects RX6 yX6_putAll yX6_putAll ∈ lw_W := List.mem_filter.mpr ⟨List.mem_of_getElem? (i := 761) (by decide +kernel), by decide +kernel⟩
theorem jm_762 : Cond.code yX6_putAll cX6_putAll 3 (some .int) ∈ lw_W := List.mem_filter.mpr ⟨List.mem_of_getElem? (i := 762) (by decide +kernel), by decide +kernel⟩
theorem jm_763 : Cond.methodLink RX6 167 yX0_isComplete ∈ lw_W := List.mem_filter.mpr ⟨List.mem_of_getElem? (i := 763) (by decide +kernel), by decide +kernel⟩
theorem jm_764 : Cond.instanceMethod yX0_isComplete ∈ lw_W := List.mem_filter.mpr ⟨List.mem_of_getElem? (i := 764) (by decide +kernel), by decide +kernel⟩
theorem jm_765 : Cond.selects RX0 yX0_isComplete yX0_isComplete ∈ lw_W := List.mem_filter.mpr ⟨List.mem_of_getElem? (i := 765) (by decide +kernel), by decide +kernel⟩
theorem jm_766 : Cond.code yX0_isComplete cX0_isComplete 1 (some .boolean) ∈ lw_W := List.mem_filter.mpr ⟨List.mem_of_getElem? (i := 766) (by decide +kernel), by decide +kernel⟩
theorem jm_767 : Cond.methodLink RX0 42 yX0_readParts ∈ lw_W := List.mem_filter.mpr ⟨List.mem_of_getElem? (i := 767) (by decide +kernel), by decide +kernel⟩
theorem jm_769 : Cond.methodLink RX6 175 yX0_rowsNamed ∈ lw_W := List.mem_filter.mpr ⟨List.mem_of_getElem? (i := 769) (by decide +kernel), by decide +kernel⟩
theorem jm_770 : Cond.instanceMethod yX0_rowsNamed ∈ lw_W := List.mem_filter.mpr ⟨List.mem_of_getElem? (i := 770) (by decide +kernel), by decide +kernel⟩
theorem jm_771 : Cond.selects RX0 yX0_rowsNamed yX0_rowsNamed ∈ lw_W := List.mem_filter.mpr ⟨List.mem_of_getElem? (i := 771) (by decide +kernel), by decide +kernel⟩
theorem jm_772 : Cond.code yX0_rowsNamed cX0_rowsNamed 3 (some .int) ∈ lw_W := List.mem_filter.mpr ⟨List.mem_of_getElem? (i := 772) (by decide +kernel), by decide +kernel⟩
theorem jm_773 : Cond.methodLink RL 139 yL_undo ∈ lw_W := List.mem_filter.mpr ⟨List.mem_of_getElem? (i := 773) (by decide +kernel), by decide +kernel⟩
theorem jm_774 : Cond.static yL_undo ∈ lw_W := List.mem_filter.mpr ⟨List.mem_of_getElem? (i := 774) (by decide +kernel), by decide +kernel⟩
theorem jm_775 : Cond.codeWith yL_undo cL_undo 3 (some .int) [(0, 8, 11, 15)] ∈ lw_W := List.mem_filter.mpr ⟨List.mem_of_getElem? (i := 775) (by decide +kernel), by decide +kernel⟩
theorem jm_776 : Cond.methodLink RL 54 yX6_undo ∈ lw_W := List.mem_filter.mpr ⟨List.mem_of_getElem? (i := 776) (by decide +kernel), by decide +kernel⟩
theorem jm_777 : Cond.instanceMethod yX6_undo ∈ lw_W := List.mem_filter.mpr ⟨List.mem_of_getElem? (i := 777) (by decide +kernel), by decide +kernel⟩
theorem jm_778 : Cond.selects RX6 yX6_undo yX6_undo ∈ lw_W := List.mem_filter.mpr ⟨List.mem_of_getElem? (i := 778) (by decide +kernel), by decide +kernel⟩
theorem jm_779 : Cond.code yX6_undo cX6_undo 1 (some .int) ∈ lw_W := List.mem_filter.mpr ⟨List.mem_of_getElem? (i := 779) (by decide +kernel), by decide +kernel⟩
theorem jm_781 : Cond.methodLink RX6 192 yX1_bringBack ∈ lw_W := List.mem_filter.mpr ⟨List.mem_of_getElem? (i := 781) (by decide +kernel), by decide +kernel⟩
theorem jm_782 : Cond.instanceMethod yX1_bringBack ∈ lw_W := List.mem_filter.mpr ⟨List.mem_of_getElem? (i := 782) (by decide +kernel), by decide +kernel⟩
theorem jm_783 : Cond.selects RX1 yX1_bringBack yX1_bringBack ∈ lw_W := List.mem_filter.mpr ⟨List.mem_of_getElem? (i := 783) (by decide +kernel), by decide +kernel⟩
theorem jm_784 : Cond.code yX1_bringBack cX1_bringBack 2 none ∈ lw_W := List.mem_filter.mpr ⟨List.mem_of_getElem? (i := 784) (by decide +kernel), by decide +kernel⟩
theorem jm_785 : Cond.methodLink RL 142 yL_row ∈ lw_W := List.mem_filter.mpr ⟨List.mem_of_getElem? (i := 785) (by decide +kernel), by decide +kernel⟩
theorem jm_786 : Cond.static yL_row ∈ lw_W := List.mem_filter.mpr ⟨List.mem_of_getElem? (i := 786) (by decide +kernel), by decide +kernel⟩
theorem jm_787 : Cond.codeWith yL_row cL_row 5 (some .int) [(0, 10, 13, 20), (0, 10, 17, 13)] ∈ lw_W := List.mem_filter.mpr ⟨List.mem_of_getElem? (i := 787) (by decide +kernel), by decide +kernel⟩
theorem jm_788 : Cond.methodLink RL 57 yX6_row ∈ lw_W := List.mem_filter.mpr ⟨List.mem_of_getElem? (i := 788) (by decide +kernel), by decide +kernel⟩
theorem jm_789 : Cond.methodLink RL 145 yL_reader ∈ lw_W := List.mem_filter.mpr ⟨List.mem_of_getElem? (i := 789) (by decide +kernel), by decide +kernel⟩
theorem jm_790 : Cond.static yL_reader ∈ lw_W := List.mem_filter.mpr ⟨List.mem_of_getElem? (i := 790) (by decide +kernel), by decide +kernel⟩
theorem jm_791 : Cond.codeWith yL_reader cL_reader 5 (some .int) [(0, 10, 13, 20), (0, 10, 17, 13)] ∈ lw_W := List.mem_filter.mpr ⟨List.mem_of_getElem? (i := 791) (by decide +kernel), by decide +kernel⟩
theorem jm_792 : Cond.methodLink RL 60 yX6_reader ∈ lw_W := List.mem_filter.mpr ⟨List.mem_of_getElem? (i := 792) (by decide +kernel), by decide +kernel⟩
theorem jm_793 : Cond.methodLink RL 148 yL_group ∈ lw_W := List.mem_filter.mpr ⟨List.mem_of_getElem? (i := 793) (by decide +kernel), by decide +kernel⟩
theorem jm_794 : Cond.static yL_group ∈ lw_W := List.mem_filter.mpr ⟨List.mem_of_getElem? (i := 794) (by decide +kernel), by decide +kernel⟩
theorem jm_795 : Cond.codeWith yL_group cL_group 6 (some .int) [(0, 12, 15, 13)] ∈ lw_W := List.mem_filter.mpr ⟨List.mem_of_getElem? (i := 795) (by decide +kernel), by decide +kernel⟩
theorem jm_796 : Cond.methodLink RL 63 yX6_group ∈ lw_W := List.mem_filter.mpr ⟨List.mem_of_getElem? (i := 796) (by decide +kernel), by decide +kernel⟩
theorem jm_797 : Cond.methodLink RL 152 yL_count ∈ lw_W := List.mem_filter.mpr ⟨List.mem_of_getElem? (i := 797) (by decide +kernel), by decide +kernel⟩
theorem jm_798 : Cond.static yL_count ∈ lw_W := List.mem_filter.mpr ⟨List.mem_of_getElem? (i := 798) (by decide +kernel), by decide +kernel⟩
theorem jm_799 : Cond.codeWith yL_count cL_count 4 (some .int) [(0, 9, 12, 13)] ∈ lw_W := List.mem_filter.mpr ⟨List.mem_of_getElem? (i := 799) (by decide +kernel), by decide +kernel⟩
theorem jm_800 : Cond.methodLink RL 67 yX6_count ∈ lw_W := List.mem_filter.mpr ⟨List.mem_of_getElem? (i := 800) (by decide +kernel), by decide +kernel⟩
theorem jm_801 : Cond.methodLink RL 155 yL_setting ∈ lw_W := List.mem_filter.mpr ⟨List.mem_of_getElem? (i := 801) (by decide +kernel), by decide +kernel⟩
theorem jm_802 : Cond.static yL_setting ∈ lw_W := List.mem_filter.mpr ⟨List.mem_of_getElem? (i := 802) (by decide +kernel), by decide +kernel⟩
theorem jm_803 : Cond.codeWith yL_setting cL_setting 4 (some .int) [(0, 9, 12, 20)] ∈ lw_W := List.mem_filter.mpr ⟨List.mem_of_getElem? (i := 803) (by decide +kernel), by decide +kernel⟩
theorem jm_804 : Cond.methodLink RL 70 yX6_setting ∈ lw_W := List.mem_filter.mpr ⟨List.mem_of_getElem? (i := 804) (by decide +kernel), by decide +kernel⟩
theorem jm_805 : Cond.instanceMethod yX6_setting ∈ lw_W := List.mem_filter.mpr ⟨List.mem_of_getElem? (i := 805) (by decide +kernel), by decide +kernel⟩
theorem jm_806 : Cond.selects RX6 yX6_setting yX6_setting ∈ lw_W := List.mem_filter.mpr ⟨List.mem_of_getElem? (i := 806) (by decide +kernel), by decide +kernel⟩
theorem jm_807 : Cond.code yX6_setting cX6_setting 2 (some .int) ∈ lw_W := List.mem_filter.mpr ⟨List.mem_of_getElem? (i := 807) (by decide +kernel), by decide +kernel⟩
theorem jm_808 : Cond.methodLink RL 158 yL_ifTaken ∈ lw_W := List.mem_filter.mpr ⟨List.mem_of_getElem? (i := 808) (by decide +kernel), by decide +kernel⟩
theorem jm_809 : Cond.static yL_ifTaken ∈ lw_W := List.mem_filter.mpr ⟨List.mem_of_getElem? (i := 809) (by decide +kernel), by decide +kernel⟩
theorem jm_810 : Cond.codeWith yL_ifTaken cL_ifTaken 6 (some .int) [(0, 12, 15, 20), (0, 12, 19, 13)] ∈ lw_W := List.mem_filter.mpr ⟨List.mem_of_getElem? (i := 810) (by decide +kernel), by decide +kernel⟩
theorem jm_811 : Cond.methodLink RL 73 yX6_ifTaken ∈ lw_W := List.mem_filter.mpr ⟨List.mem_of_getElem? (i := 811) (by decide +kernel), by decide +kernel⟩
theorem jm_812 : Cond.methodLink RL 161 yL_ifPassed ∈ lw_W := List.mem_filter.mpr ⟨List.mem_of_getElem? (i := 812) (by decide +kernel), by decide +kernel⟩
theorem jm_813 : Cond.static yL_ifPassed ∈ lw_W := List.mem_filter.mpr ⟨List.mem_of_getElem? (i := 813) (by decide +kernel), by decide +kernel⟩
theorem jm_814 : Cond.codeWith yL_ifPassed cL_ifPassed 5 (some .int) [(0, 10, 13, 13)] ∈ lw_W := List.mem_filter.mpr ⟨List.mem_of_getElem? (i := 814) (by decide +kernel), by decide +kernel⟩
theorem jm_815 : Cond.methodLink RL 76 yX6_ifPassed ∈ lw_W := List.mem_filter.mpr ⟨List.mem_of_getElem? (i := 815) (by decide +kernel), by decide +kernel⟩
theorem jm_816 : Cond.classLink RL 80 RX7 ∈ lw_W := List.mem_filter.mpr ⟨List.mem_of_getElem? (i := 816) (by decide +kernel), by decide +kernel⟩
theorem jm_817 : Cond.instantiable RX7 11 ∈ lw_W := List.mem_filter.mpr ⟨List.mem_of_getElem? (i := 817) (by decide +kernel), by decide +kernel⟩
theorem jm_818 : Cond.methodLink RL 82 yX7_init ∈ lw_W := List.mem_filter.mpr ⟨List.mem_of_getElem? (i := 818) (by decide +kernel), by decide +kernel⟩
theorem jm_819 : Cond.instanceMethod yX7_init ∈ lw_W := List.mem_filter.mpr ⟨List.mem_of_getElem? (i := 819) (by decide +kernel), by decide +kernel⟩
theorem jm_820 : Cond.code yX7_init cX7_init 2 none ∈ lw_W := List.mem_filter.mpr ⟨List.mem_of_getElem? (i := 820) (by decide +kernel), by decide +kernel⟩
theorem jm_821 : Cond.methodLink RX7 1 objectInit ∈ lw_W := List.mem_filter.mpr ⟨List.mem_of_getElem? (i := 821) (by decide +kernel), by decide +kernel⟩
theorem jm_822 : Cond.fieldLink RX7 25 RX7 "thrown" "I" ∈ lw_W := List.mem_filter.mpr ⟨List.mem_of_getElem? (i := 822) (by decide +kernel), by decide +kernel⟩
theorem jm_823 : Cond.fieldLink RX7 7 RX7 "state" "[I" ∈ lw_W := List.mem_filter.mpr ⟨List.mem_of_getElem? (i := 823) (by decide +kernel), by decide +kernel⟩
theorem jm_824 : Cond.fieldLink RX7 13 RX7 "kept" "[I" ∈ lw_W := List.mem_filter.mpr ⟨List.mem_of_getElem? (i := 824) (by decide +kernel), by decide +kernel⟩
theorem jm_825 : Cond.fieldLink RX7 16 RX7 "history" "[I" ∈ lw_W := List.mem_filter.mpr ⟨List.mem_of_getElem? (i := 825) (by decide +kernel), by decide +kernel⟩
theorem jm_826 : Cond.fieldLink RX7 29 RX7 "saved" "I" ∈ lw_W := List.mem_filter.mpr ⟨List.mem_of_getElem? (i := 826) (by decide +kernel), by decide +kernel⟩
theorem jm_827 : Cond.fieldLink RX7 19 RX7 "buffer" "[I" ∈ lw_W := List.mem_filter.mpr ⟨List.mem_of_getElem? (i := 827) (by decide +kernel), by decide +kernel⟩
theorem jm_828 : Cond.fieldLink RX7 112 RX7 "length" "I" ∈ lw_W := List.mem_filter.mpr ⟨List.mem_of_getElem? (i := 828) (by decide +kernel), by decide +kernel⟩
theorem jm_829 : Cond.fieldLink RX7 22 RX7 "order" "[I" ∈ lw_W := List.mem_filter.mpr ⟨List.mem_of_getElem? (i := 829) (by decide +kernel), by decide +kernel⟩
theorem jm_830 : Cond.fieldLink RX7 52 RX7 "ordered" "I" ∈ lw_W := List.mem_filter.mpr ⟨List.mem_of_getElem? (i := 830) (by decide +kernel), by decide +kernel⟩
theorem jm_831 : Cond.fieldLink RX7 72 RX7 "taken" "I" ∈ lw_W := List.mem_filter.mpr ⟨List.mem_of_getElem? (i := 831) (by decide +kernel), by decide +kernel⟩
theorem jm_832 : Cond.fieldLink RX7 75 RX7 "skipped" "I" ∈ lw_W := List.mem_filter.mpr ⟨List.mem_of_getElem? (i := 832) (by decide +kernel), by decide +kernel⟩
theorem jm_856 : Cond.methodLink RL 89 yX7_thrown ∈ lw_W := List.mem_filter.mpr ⟨List.mem_of_getElem? (i := 856) (by decide +kernel), by decide +kernel⟩
theorem jm_857 : Cond.instanceMethod yX7_thrown ∈ lw_W := List.mem_filter.mpr ⟨List.mem_of_getElem? (i := 857) (by decide +kernel), by decide +kernel⟩
theorem jm_858 : Cond.selects RX7 yX7_thrown yX7_thrown ∈ lw_W := List.mem_filter.mpr ⟨List.mem_of_getElem? (i := 858) (by decide +kernel), by decide +kernel⟩
theorem jm_859 : Cond.code yX7_thrown cX7_thrown 1 (some .int) ∈ lw_W := List.mem_filter.mpr ⟨List.mem_of_getElem? (i := 859) (by decide +kernel), by decide +kernel⟩
theorem jm_860 : Cond.methodLink RL 88 yX7_put ∈ lw_W := List.mem_filter.mpr ⟨List.mem_of_getElem? (i := 860) (by decide +kernel), by decide +kernel⟩
theorem jm_861 : Cond.instanceMethod yX7_put ∈ lw_W := List.mem_filter.mpr ⟨List.mem_of_getElem? (i := 861) (by decide +kernel), by decide +kernel⟩
theorem jm_862 : Cond.selects RX7 yX7_put yX7_put ∈ lw_W := List.mem_filter.mpr ⟨List.mem_of_getElem? (i := 862) (by decide +kernel), by decide +kernel⟩
theorem jm_863 : Cond.code yX7_put cX7_put 3 (some .int) ∈ lw_W := List.mem_filter.mpr ⟨List.mem_of_getElem? (i := 863) (by decide +kernel), by decide +kernel⟩
theorem jm_864 : Cond.methodLink RX7 36 yX7_within ∈ lw_W := List.mem_filter.mpr ⟨List.mem_of_getElem? (i := 864) (by decide +kernel), by decide +kernel⟩
theorem jm_865 : Cond.static yX7_within ∈ lw_W := List.mem_filter.mpr ⟨List.mem_of_getElem? (i := 865) (by decide +kernel), by decide +kernel⟩
theorem jm_866 : Cond.code yX7_within cX7_within 3 (some .boolean) ∈ lw_W := List.mem_filter.mpr ⟨List.mem_of_getElem? (i := 866) (by decide +kernel), by decide +kernel⟩
theorem jm_867 : Cond.methodLink RX7 88 yX7_save ∈ lw_W := List.mem_filter.mpr ⟨List.mem_of_getElem? (i := 867) (by decide +kernel), by decide +kernel⟩
theorem jm_869 : Cond.instanceMethod yX7_save ∈ lw_W := List.mem_filter.mpr ⟨List.mem_of_getElem? (i := 869) (by decide +kernel), by decide +kernel⟩
theorem jm_870 : Cond.code yX7_save cX7_save 2 none ∈ lw_W := List.mem_filter.mpr ⟨List.mem_of_getElem? (i := 870) (by decide +kernel), by decide +kernel⟩
theorem jm_871 : Cond.methodLink RX7 32 yX7_copy ∈ lw_W := List.mem_filter.mpr ⟨List.mem_of_getElem? (i := 871) (by decide +kernel), by decide +kernel⟩
theorem jm_872 : Cond.static yX7_copy ∈ lw_W := List.mem_filter.mpr ⟨List.mem_of_getElem? (i := 872) (by decide +kernel), by decide +kernel⟩
theorem jm_873 : Cond.code yX7_copy cX7_copy 5 none ∈ lw_W := List.mem_filter.mpr ⟨List.mem_of_getElem? (i := 873) (by decide +kernel), by decide +kernel⟩
theorem jm_874 : Cond.methodLink RX7 91 yX7_putRow ∈ lw_W := List.mem_filter.mpr ⟨List.mem_of_getElem? (i := 874) (by decide +kernel), by decide +kernel⟩
theorem jm_876 : Cond.instanceMethod yX7_putRow ∈ lw_W := List.mem_filter.mpr ⟨List.mem_of_getElem? (i := 876) (by decide +kernel), by decide +kernel⟩
theorem jm_877 : Cond.code yX7_putRow cX7_putRow 5 (some .int) ∈ lw_W := List.mem_filter.mpr ⟨List.mem_of_getElem? (i := 877) (by decide +kernel), by decide +kernel⟩
theorem jm_878 : Cond.methodLink RX7 59 yX7_setRow ∈ lw_W := List.mem_filter.mpr ⟨List.mem_of_getElem? (i := 878) (by decide +kernel), by decide +kernel⟩
theorem jm_880 : Cond.instanceMethod yX7_setRow ∈ lw_W := List.mem_filter.mpr ⟨List.mem_of_getElem? (i := 880) (by decide +kernel), by decide +kernel⟩
theorem jm_881 : Cond.code yX7_setRow cX7_setRow 4 none ∈ lw_W := List.mem_filter.mpr ⟨List.mem_of_getElem? (i := 881) (by decide +kernel), by decide +kernel⟩
theorem jm_882 : Cond.methodLink RL 94 yX7_urge ∈ lw_W := List.mem_filter.mpr ⟨List.mem_of_getElem? (i := 882) (by decide +kernel), by decide +kernel⟩
theorem jm_883 : Cond.instanceMethod yX7_urge ∈ lw_W := List.mem_filter.mpr ⟨List.mem_of_getElem? (i := 883) (by decide +kernel), by decide +kernel⟩
theorem jm_884 : Cond.selects RX7 yX7_urge yX7_urge ∈ lw_W := List.mem_filter.mpr ⟨List.mem_of_getElem? (i := 884) (by decide +kernel), by decide +kernel⟩
theorem jm_885 : Cond.code yX7_urge cX7_urge 4 (some .int) ∈ lw_W := List.mem_filter.mpr ⟨List.mem_of_getElem? (i := 885) (by decide +kernel), by decide +kernel⟩
theorem jm_886 : Cond.methodLink RX7 94 yX7_isRow ∈ lw_W := List.mem_filter.mpr ⟨List.mem_of_getElem? (i := 886) (by decide +kernel), by decide +kernel⟩
theorem jm_888 : Cond.instanceMethod yX7_isRow ∈ lw_W := List.mem_filter.mpr ⟨List.mem_of_getElem? (i := 888) (by decide +kernel), by decide +kernel⟩
theorem jm_889 : Cond.code yX7_isRow cX7_isRow 2 (some .boolean) ∈ lw_W := List.mem_filter.mpr ⟨List.mem_of_getElem? (i := 889) (by decide +kernel), by decide +kernel⟩
theorem jm_890 : Cond.methodLink RX7 48 yX7_isOpen ∈ lw_W := List.mem_filter.mpr ⟨List.mem_of_getElem? (i := 890) (by decide +kernel), by decide +kernel⟩
theorem jm_892 : Cond.instanceMethod yX7_isOpen ∈ lw_W := List.mem_filter.mpr ⟨List.mem_of_getElem? (i := 892) (by decide +kernel), by decide +kernel⟩
theorem jm_893 : Cond.code yX7_isOpen cX7_isOpen 2 (some .boolean) ∈ lw_W := List.mem_filter.mpr ⟨List.mem_of_getElem? (i := 893) (by decide +kernel), by decide +kernel⟩
theorem jm_894 : Cond.methodLink RX7 40 yX7_rowPart ∈ lw_W := List.mem_filter.mpr ⟨List.mem_of_getElem? (i := 894) (by decide +kernel), by decide +kernel⟩
theorem jm_896 : Cond.instanceMethod yX7_rowPart ∈ lw_W := List.mem_filter.mpr ⟨List.mem_of_getElem? (i := 896) (by decide +kernel), by decide +kernel⟩
theorem jm_897 : Cond.code yX7_rowPart cX7_rowPart 3 (some .int) ∈ lw_W := List.mem_filter.mpr ⟨List.mem_of_getElem? (i := 897) (by decide +kernel), by decide +kernel⟩
theorem jm_898 : Cond.methodLink RL 98 yX7_revive ∈ lw_W := List.mem_filter.mpr ⟨List.mem_of_getElem? (i := 898) (by decide +kernel), by decide +kernel⟩
theorem jm_899 : Cond.instanceMethod yX7_revive ∈ lw_W := List.mem_filter.mpr ⟨List.mem_of_getElem? (i := 899) (by decide +kernel), by decide +kernel⟩
theorem jm_900 : Cond.selects RX7 yX7_revive yX7_revive ∈ lw_W := List.mem_filter.mpr ⟨List.mem_of_getElem? (i := 900) (by decide +kernel), by decide +kernel⟩
theorem jm_901 : Cond.code yX7_revive cX7_revive 3 (some .int) ∈ lw_W := List.mem_filter.mpr ⟨List.mem_of_getElem? (i := 901) (by decide +kernel), by decide +kernel⟩
theorem jm_902 : Cond.methodLink RL 102 yX7_sweep ∈ lw_W := List.mem_filter.mpr ⟨List.mem_of_getElem? (i := 902) (by decide +kernel), by decide +kernel⟩
theorem jm_903 : Cond.instanceMethod yX7_sweep ∈ lw_W := List.mem_filter.mpr ⟨List.mem_of_getElem? (i := 903) (by decide +kernel), by decide +kernel⟩
theorem jm_904 : Cond.selects RX7 yX7_sweep yX7_sweep ∈ lw_W := List.mem_filter.mpr ⟨List.mem_of_getElem? (i := 904) (by decide +kernel), by decide +kernel⟩
theorem jm_905 : Cond.code yX7_sweep cX7_sweep 5 (some .int) ∈ lw_W := List.mem_filter.mpr ⟨List.mem_of_getElem? (i := 905) (by decide +kernel), by decide +kernel⟩
theorem jm_906 : Cond.methodLink RL 105 yX7_set ∈ lw_W := List.mem_filter.mpr ⟨List.mem_of_getElem? (i := 906) (by decide +kernel), by decide +kernel⟩
theorem jm_907 : Cond.instanceMethod yX7_set ∈ lw_W := List.mem_filter.mpr ⟨List.mem_of_getElem? (i := 907) (by decide +kernel), by decide +kernel⟩
theorem jm_908 : Cond.selects RX7 yX7_set yX7_set ∈ lw_W := List.mem_filter.mpr ⟨List.mem_of_getElem? (i := 908) (by decide +kernel), by decide +kernel⟩
theorem jm_909 : Cond.code yX7_set cX7_set 4 (some .int) ∈ lw_W := List.mem_filter.mpr ⟨List.mem_of_getElem? (i := 909) (by decide +kernel), by decide +kernel⟩
theorem jm_910 : Cond.methodLink RX7 97 yX7_isValue ∈ lw_W := List.mem_filter.mpr ⟨List.mem_of_getElem? (i := 910) (by decide +kernel), by decide +kernel⟩
theorem jm_911 : Cond.static yX7_isValue ∈ lw_W := List.mem_filter.mpr ⟨List.mem_of_getElem? (i := 911) (by decide +kernel), by decide +kernel⟩
theorem jm_912 : Cond.code yX7_isValue cX7_isValue 2 (some .boolean) ∈ lw_W := List.mem_filter.mpr ⟨List.mem_of_getElem? (i := 912) (by decide +kernel), by decide +kernel⟩
theorem jm_913 : Cond.methodLink RL 108 yX7_takes ∈ lw_W := List.mem_filter.mpr ⟨List.mem_of_getElem? (i := 913) (by decide +kernel), by decide +kernel⟩
theorem jm_914 : Cond.instanceMethod yX7_takes ∈ lw_W := List.mem_filter.mpr ⟨List.mem_of_getElem? (i := 914) (by decide +kernel), by decide +kernel⟩
theorem jm_915 : Cond.selects RX7 yX7_takes yX7_takes ∈ lw_W := List.mem_filter.mpr ⟨List.mem_of_getElem? (i := 915) (by decide +kernel), by decide +kernel⟩
theorem jm_916 : Cond.code yX7_takes cX7_takes 4 (some .int) ∈ lw_W := List.mem_filter.mpr ⟨List.mem_of_getElem? (i := 916) (by decide +kernel), by decide +kernel⟩
theorem jm_917 : Cond.methodLink RX7 100 yX7_isReader ∈ lw_W := List.mem_filter.mpr ⟨List.mem_of_getElem? (i := 917) (by decide +kernel), by decide +kernel⟩
theorem jm_918 : Cond.static yX7_isReader ∈ lw_W := List.mem_filter.mpr ⟨List.mem_of_getElem? (i := 918) (by decide +kernel), by decide +kernel⟩
theorem jm_919 : Cond.code yX7_isReader cX7_isReader 1 (some .boolean) ∈ lw_W := List.mem_filter.mpr ⟨List.mem_of_getElem? (i := 919) (by decide +kernel), by decide +kernel⟩
theorem jm_920 : Cond.methodLink RX7 66 yX7_readerPart ∈ lw_W := List.mem_filter.mpr ⟨List.mem_of_getElem? (i := 920) (by decide +kernel), by decide +kernel⟩
theorem jm_922 : Cond.instanceMethod yX7_readerPart ∈ lw_W := List.mem_filter.mpr ⟨List.mem_of_getElem? (i := 922) (by decide +kernel), by decide +kernel⟩
theorem jm_923 : Cond.code yX7_readerPart cX7_readerPart 3 (some .int) ∈ lw_W := List.mem_filter.mpr ⟨List.mem_of_getElem? (i := 923) (by decide +kernel), by decide +kernel⟩
theorem jm_924 : Cond.methodLink RL 111 yX7_take ∈ lw_W := List.mem_filter.mpr ⟨List.mem_of_getElem? (i := 924) (by decide +kernel), by decide +kernel⟩
theorem jm_925 : Cond.instanceMethod yX7_take ∈ lw_W := List.mem_filter.mpr ⟨List.mem_of_getElem? (i := 925) (by decide +kernel), by decide +kernel⟩
theorem jm_926 : Cond.selects RX7 yX7_take yX7_take ∈ lw_W := List.mem_filter.mpr ⟨List.mem_of_getElem? (i := 926) (by decide +kernel), by decide +kernel⟩
theorem jm_927 : Cond.code yX7_take cX7_take 3 (some .int) ∈ lw_W := List.mem_filter.mpr ⟨List.mem_of_getElem? (i := 927) (by decide +kernel), by decide +kernel⟩
theorem jm_928 : Cond.methodLink RX7 103 yX7_takesRows ∈ lw_W := List.mem_filter.mpr ⟨List.mem_of_getElem? (i := 928) (by decide +kernel), by decide +kernel⟩
theorem jm_930 : Cond.instanceMethod yX7_takesRows ∈ lw_W := List.mem_filter.mpr ⟨List.mem_of_getElem? (i := 930) (by decide +kernel), by decide +kernel⟩
theorem jm_931 : Cond.code yX7_takesRows cX7_takesRows 7 (some .int) ∈ lw_W := List.mem_filter.mpr ⟨List.mem_of_getElem? (i := 931) (by decide +kernel), by decide +kernel⟩
theorem jm_932 : Cond.methodLink RX7 69 yX7_heldBy ∈ lw_W := List.mem_filter.mpr ⟨List.mem_of_getElem? (i := 932) (by decide +kernel), by decide +kernel⟩
theorem jm_934 : Cond.instanceMethod yX7_heldBy ∈ lw_W := List.mem_filter.mpr ⟨List.mem_of_getElem? (i := 934) (by decide +kernel), by decide +kernel⟩
theorem jm_935 : Cond.code yX7_heldBy cX7_heldBy 4 (some .int) ∈ lw_W := List.mem_filter.mpr ⟨List.mem_of_getElem? (i := 935) (by decide +kernel), by decide +kernel⟩
theorem jm_936 : Cond.methodLink RX7 44 yX7_isHeldBy ∈ lw_W := List.mem_filter.mpr ⟨List.mem_of_getElem? (i := 936) (by decide +kernel), by decide +kernel⟩
theorem jm_938 : Cond.instanceMethod yX7_isHeldBy ∈ lw_W := List.mem_filter.mpr ⟨List.mem_of_getElem? (i := 938) (by decide +kernel), by decide +kernel⟩
theorem jm_939 : Cond.code yX7_isHeldBy cX7_isHeldBy 3 (some .boolean) ∈ lw_W := List.mem_filter.mpr ⟨List.mem_of_getElem? (i := 939) (by decide +kernel), by decide +kernel⟩
theorem jm_940 : Cond.methodLink RX7 78 yX7_findOrder ∈ lw_W := List.mem_filter.mpr ⟨List.mem_of_getElem? (i := 940) (by decide +kernel), by decide +kernel⟩
theorem jm_942 : Cond.instanceMethod yX7_findOrder ∈ lw_W := List.mem_filter.mpr ⟨List.mem_of_getElem? (i := 942) (by decide +kernel), by decide +kernel⟩
theorem jm_943 : Cond.code yX7_findOrder cX7_findOrder 2 none ∈ lw_W := List.mem_filter.mpr ⟨List.mem_of_getElem? (i := 943) (by decide +kernel), by decide +kernel⟩
theorem jm_944 : Cond.methodLink RX7 55 yX7_placeOf ∈ lw_W := List.mem_filter.mpr ⟨List.mem_of_getElem? (i := 944) (by decide +kernel), by decide +kernel⟩
theorem jm_946 : Cond.instanceMethod yX7_placeOf ∈ lw_W := List.mem_filter.mpr ⟨List.mem_of_getElem? (i := 946) (by decide +kernel), by decide +kernel⟩
theorem jm_947 : Cond.code yX7_placeOf cX7_placeOf 5 (some .int) ∈ lw_W := List.mem_filter.mpr ⟨List.mem_of_getElem? (i := 947) (by decide +kernel), by decide +kernel⟩
theorem jm_948 : Cond.methodLink RX7 81 yX7_canTake ∈ lw_W := List.mem_filter.mpr ⟨List.mem_of_getElem? (i := 948) (by decide +kernel), by decide +kernel⟩
theorem jm_950 : Cond.instanceMethod yX7_canTake ∈ lw_W := List.mem_filter.mpr ⟨List.mem_of_getElem? (i := 950) (by decide +kernel), by decide +kernel⟩
theorem jm_951 : Cond.code yX7_canTake cX7_canTake 3 (some .boolean) ∈ lw_W := List.mem_filter.mpr ⟨List.mem_of_getElem? (i := 951) (by decide +kernel), by decide +kernel⟩
theorem jm_952 : Cond.methodLink RX7 63 yX7_isBlocked ∈ lw_W := List.mem_filter.mpr ⟨List.mem_of_getElem? (i := 952) (by decide +kernel), by decide +kernel⟩
theorem jm_954 : Cond.instanceMethod yX7_isBlocked ∈ lw_W := List.mem_filter.mpr ⟨List.mem_of_getElem? (i := 954) (by decide +kernel), by decide +kernel⟩
theorem jm_955 : Cond.code yX7_isBlocked cX7_isBlocked 4 (some .boolean) ∈ lw_W := List.mem_filter.mpr ⟨List.mem_of_getElem? (i := 955) (by decide +kernel), by decide +kernel⟩
theorem jm_956 : Cond.methodLink RL 114 yX7_done ∈ lw_W := List.mem_filter.mpr ⟨List.mem_of_getElem? (i := 956) (by decide +kernel), by decide +kernel⟩
theorem jm_957 : Cond.instanceMethod yX7_done ∈ lw_W := List.mem_filter.mpr ⟨List.mem_of_getElem? (i := 957) (by decide +kernel), by decide +kernel⟩
theorem jm_958 : Cond.selects RX7 yX7_done yX7_done ∈ lw_W := List.mem_filter.mpr ⟨List.mem_of_getElem? (i := 958) (by decide +kernel), by decide +kernel⟩
theorem jm_959 : Cond.code yX7_done cX7_done 3 (some .int) ∈ lw_W := List.mem_filter.mpr ⟨List.mem_of_getElem? (i := 959) (by decide +kernel), by decide +kernel⟩
theorem jm_960 : Cond.methodLink RX7 106 yX7_whyNotHeld ∈ lw_W := List.mem_filter.mpr ⟨List.mem_of_getElem? (i := 960) (by decide +kernel), by decide +kernel⟩
theorem jm_962 : Cond.instanceMethod yX7_whyNotHeld ∈ lw_W := List.mem_filter.mpr ⟨List.mem_of_getElem? (i := 962) (by decide +kernel), by decide +kernel⟩
theorem jm_963 : Cond.code yX7_whyNotHeld cX7_whyNotHeld 3 (some .int) ∈ lw_W := List.mem_filter.mpr ⟨List.mem_of_getElem? (i := 963) (by decide +kernel), by decide +kernel⟩
theorem jm_964 : Cond.methodLink RL 117 yX7_giveBack ∈ lw_W := List.mem_filter.mpr ⟨List.mem_of_getElem? (i := 964) (by decide +kernel), by decide +kernel⟩
theorem jm_965 : Cond.instanceMethod yX7_giveBack ∈ lw_W := List.mem_filter.mpr ⟨List.mem_of_getElem? (i := 965) (by decide +kernel), by decide +kernel⟩
theorem jm_966 : Cond.selects RX7 yX7_giveBack yX7_giveBack ∈ lw_W := List.mem_filter.mpr ⟨List.mem_of_getElem? (i := 966) (by decide +kernel), by decide +kernel⟩
theorem jm_967 : Cond.code yX7_giveBack cX7_giveBack 3 (some .int) ∈ lw_W := List.mem_filter.mpr ⟨List.mem_of_getElem? (i := 967) (by decide +kernel), by decide +kernel⟩
theorem jm_968 : Cond.methodLink RL 120 yX7_renew ∈ lw_W := List.mem_filter.mpr ⟨List.mem_of_getElem? (i := 968) (by decide +kernel), by decide +kernel⟩
theorem jm_969 : Cond.instanceMethod yX7_renew ∈ lw_W := List.mem_filter.mpr ⟨List.mem_of_getElem? (i := 969) (by decide +kernel), by decide +kernel⟩
theorem jm_970 : Cond.selects RX7 yX7_renew yX7_renew ∈ lw_W := List.mem_filter.mpr ⟨List.mem_of_getElem? (i := 970) (by decide +kernel), by decide +kernel⟩
theorem jm_971 : Cond.code yX7_renew cX7_renew 3 (some .int) ∈ lw_W := List.mem_filter.mpr ⟨List.mem_of_getElem? (i := 971) (by decide +kernel), by decide +kernel⟩
theorem jm_972 : Cond.methodLink RL 123 yX7_pass ∈ lw_W := List.mem_filter.mpr ⟨List.mem_of_getElem? (i := 972) (by decide +kernel), by decide +kernel⟩
theorem jm_973 : Cond.instanceMethod yX7_pass ∈ lw_W := List.mem_filter.mpr ⟨List.mem_of_getElem? (i := 973) (by decide +kernel), by decide +kernel⟩
theorem jm_974 : Cond.selects RX7 yX7_pass yX7_pass ∈ lw_W := List.mem_filter.mpr ⟨List.mem_of_getElem? (i := 974) (by decide +kernel), by decide +kernel⟩
theorem jm_975 : Cond.code yX7_pass cX7_pass 2 (some .int) ∈ lw_W := List.mem_filter.mpr ⟨List.mem_of_getElem? (i := 975) (by decide +kernel), by decide +kernel⟩
theorem jm_976 : Cond.methodLink RX7 109 yX7_goesOnBy ∈ lw_W := List.mem_filter.mpr ⟨List.mem_of_getElem? (i := 976) (by decide +kernel), by decide +kernel⟩
theorem jm_978 : Cond.instanceMethod yX7_goesOnBy ∈ lw_W := List.mem_filter.mpr ⟨List.mem_of_getElem? (i := 978) (by decide +kernel), by decide +kernel⟩
theorem jm_979 : Cond.code yX7_goesOnBy cX7_goesOnBy 4 (some .int) ∈ lw_W := List.mem_filter.mpr ⟨List.mem_of_getElem? (i := 979) (by decide +kernel), by decide +kernel⟩
theorem jm_980 : Cond.methodLink RX7 84 yX7_goesOn ∈ lw_W := List.mem_filter.mpr ⟨List.mem_of_getElem? (i := 980) (by decide +kernel), by decide +kernel⟩
theorem jm_982 : Cond.instanceMethod yX7_goesOn ∈ lw_W := List.mem_filter.mpr ⟨List.mem_of_getElem? (i := 982) (by decide +kernel), by decide +kernel⟩
theorem jm_983 : Cond.code yX7_goesOn cX7_goesOn 4 (some .int) ∈ lw_W := List.mem_filter.mpr ⟨List.mem_of_getElem? (i := 983) (by decide +kernel), by decide +kernel⟩
theorem jm_984 : Cond.methodLink RL 126 yX7_append ∈ lw_W := List.mem_filter.mpr ⟨List.mem_of_getElem? (i := 984) (by decide +kernel), by decide +kernel⟩
theorem jm_985 : Cond.instanceMethod yX7_append ∈ lw_W := List.mem_filter.mpr ⟨List.mem_of_getElem? (i := 985) (by decide +kernel), by decide +kernel⟩
theorem jm_986 : Cond.selects RX7 yX7_append yX7_append ∈ lw_W := List.mem_filter.mpr ⟨List.mem_of_getElem? (i := 986) (by decide +kernel), by decide +kernel⟩
theorem jm_987 : Cond.code yX7_append cX7_append 2 (some .int) ∈ lw_W := List.mem_filter.mpr ⟨List.mem_of_getElem? (i := 987) (by decide +kernel), by decide +kernel⟩
theorem jm_988 : Cond.methodLink RL 130 yX7_clearBuffer ∈ lw_W := List.mem_filter.mpr ⟨List.mem_of_getElem? (i := 988) (by decide +kernel), by decide +kernel⟩
theorem jm_989 : Cond.instanceMethod yX7_clearBuffer ∈ lw_W := List.mem_filter.mpr ⟨List.mem_of_getElem? (i := 989) (by decide +kernel), by decide +kernel⟩
theorem jm_990 : Cond.selects RX7 yX7_clearBuffer yX7_clearBuffer ∈ lw_W := List.mem_filter.mpr ⟨List.mem_of_getElem? (i := 990) (by decide +kernel), by decide +kernel⟩
theorem jm_991 : Cond.code yX7_clearBuffer cX7_clearBuffer 2 (some .int) ∈ lw_W := List.mem_filter.mpr ⟨List.mem_of_getElem? (i := 991) (by decide +kernel), by decide +kernel⟩
theorem jm_992 : Cond.methodLink RL 134 yX7_firstError ∈ lw_W := List.mem_filter.mpr ⟨List.mem_of_getElem? (i := 992) (by decide +kernel), by decide +kernel⟩
theorem jm_993 : Cond.instanceMethod yX7_firstError ∈ lw_W := List.mem_filter.mpr ⟨List.mem_of_getElem? (i := 993) (by decide +kernel), by decide +kernel⟩
theorem jm_994 : Cond.selects RX7 yX7_firstError yX7_firstError ∈ lw_W := List.mem_filter.mpr ⟨List.mem_of_getElem? (i := 994) (by decide +kernel), by decide +kernel⟩
theorem jm_995 : Cond.code yX7_firstError cX7_firstError 1 (some .int) ∈ lw_W := List.mem_filter.mpr ⟨List.mem_of_getElem? (i := 995) (by decide +kernel), by decide +kernel⟩
theorem jm_996 : Cond.methodLink RX7 118 yX7_findError ∈ lw_W := List.mem_filter.mpr ⟨List.mem_of_getElem? (i := 996) (by decide +kernel), by decide +kernel⟩
theorem jm_998 : Cond.instanceMethod yX7_findError ∈ lw_W := List.mem_filter.mpr ⟨List.mem_of_getElem? (i := 998) (by decide +kernel), by decide +kernel⟩
theorem jm_999 : Cond.code yX7_findError cX7_findError 3 (some .int) ∈ lw_W := List.mem_filter.mpr ⟨List.mem_of_getElem? (i := 999) (by decide +kernel), by decide +kernel⟩
theorem jm_1000 : Cond.methodLink RX7 115 yX7_behind ∈ lw_W := List.mem_filter.mpr ⟨List.mem_of_getElem? (i := 1000) (by decide +kernel), by decide +kernel⟩
theorem jm_1001 : Cond.static yX7_behind ∈ lw_W := List.mem_filter.mpr ⟨List.mem_of_getElem? (i := 1001) (by decide +kernel), by decide +kernel⟩
theorem jm_1002 : Cond.code yX7_behind cX7_behind 2 (some .int) ∈ lw_W := List.mem_filter.mpr ⟨List.mem_of_getElem? (i := 1002) (by decide +kernel), by decide +kernel⟩
theorem jm_1003 : Cond.methodLink RL 138 yX7_putAll ∈ lw_W := List.mem_filter.mpr ⟨List.mem_of_getElem? (i := 1003) (by decide +kernel), by decide +kernel⟩
theorem jm_1004 : Cond.instanceMethod yX7_putAll ∈ lw_W := List.mem_filter.mpr ⟨List.mem_of_getElem? (i := 1004) (by decide +kernel), by decide +kernel⟩
theorem jm_1005 : Cond.selects RX7 yX7_putAll yX7_putAll ∈ lw_W := List.mem_filter.mpr ⟨List.mem_of_getElem? (i := 1005) (by decide +kernel), by decide +kernel⟩
theorem jm_1006 : Cond.code yX7_putAll cX7_putAll 1 (some .int) ∈ lw_W := List.mem_filter.mpr ⟨List.mem_of_getElem? (i := 1006) (by decide +kernel), by decide +kernel⟩
theorem jm_1007 : Cond.methodLink RX7 121 yX7_isComplete ∈ lw_W := List.mem_filter.mpr ⟨List.mem_of_getElem? (i := 1007) (by decide +kernel), by decide +kernel⟩
theorem jm_1009 : Cond.instanceMethod yX7_isComplete ∈ lw_W := List.mem_filter.mpr ⟨List.mem_of_getElem? (i := 1009) (by decide +kernel), by decide +kernel⟩
theorem jm_1010 : Cond.code yX7_isComplete cX7_isComplete 3 (some .boolean) ∈ lw_W := List.mem_filter.mpr ⟨List.mem_of_getElem? (i := 1010) (by decide +kernel), by decide +kernel⟩
theorem jm_1011 : Cond.methodLink RX7 125 yX7_readRows ∈ lw_W := List.mem_filter.mpr ⟨List.mem_of_getElem? (i := 1011) (by decide +kernel), by decide +kernel⟩
theorem jm_1013 : Cond.instanceMethod yX7_readRows ∈ lw_W := List.mem_filter.mpr ⟨List.mem_of_getElem? (i := 1013) (by decide +kernel), by decide +kernel⟩
theorem jm_1014 : Cond.code yX7_readRows cX7_readRows 8 (some .int) ∈ lw_W := List.mem_filter.mpr ⟨List.mem_of_getElem? (i := 1014) (by decide +kernel), by decide +kernel⟩
theorem jm_1015 : Cond.methodLink RL 141 yX7_undo ∈ lw_W := List.mem_filter.mpr ⟨List.mem_of_getElem? (i := 1015) (by decide +kernel), by decide +kernel⟩
theorem jm_1016 : Cond.instanceMethod yX7_undo ∈ lw_W := List.mem_filter.mpr ⟨List.mem_of_getElem? (i := 1016) (by decide +kernel), by decide +kernel⟩
theorem jm_1017 : Cond.selects RX7 yX7_undo yX7_undo ∈ lw_W := List.mem_filter.mpr ⟨List.mem_of_getElem? (i := 1017) (by decide +kernel), by decide +kernel⟩
theorem jm_1018 : Cond.code yX7_undo cX7_undo 1 (some .int) ∈ lw_W := List.mem_filter.mpr ⟨List.mem_of_getElem? (i := 1018) (by decide +kernel), by decide +kernel⟩
theorem jm_1019 : Cond.methodLink RL 144 yX7_row ∈ lw_W := List.mem_filter.mpr ⟨List.mem_of_getElem? (i := 1019) (by decide +kernel), by decide +kernel⟩
theorem jm_1020 : Cond.instanceMethod yX7_row ∈ lw_W := List.mem_filter.mpr ⟨List.mem_of_getElem? (i := 1020) (by decide +kernel), by decide +kernel⟩
theorem jm_1021 : Cond.selects RX7 yX7_row yX7_row ∈ lw_W := List.mem_filter.mpr ⟨List.mem_of_getElem? (i := 1021) (by decide +kernel), by decide +kernel⟩
theorem jm_1022 : Cond.code yX7_row cX7_row 3 (some .int) ∈ lw_W := List.mem_filter.mpr ⟨List.mem_of_getElem? (i := 1022) (by decide +kernel), by decide +kernel⟩
theorem jm_1023 : Cond.methodLink RX7 129 yX7_ofRow ∈ lw_W := List.mem_filter.mpr ⟨List.mem_of_getElem? (i := 1023) (by decide +kernel), by decide +kernel⟩
theorem jm_1025 : Cond.instanceMethod yX7_ofRow ∈ lw_W := List.mem_filter.mpr ⟨List.mem_of_getElem? (i := 1025) (by decide +kernel), by decide +kernel⟩
theorem jm_1026 : Cond.code yX7_ofRow cX7_ofRow 4 (some .int) ∈ lw_W := List.mem_filter.mpr ⟨List.mem_of_getElem? (i := 1026) (by decide +kernel), by decide +kernel⟩
theorem jm_1027 : Cond.methodLink RL 147 yX7_reader ∈ lw_W := List.mem_filter.mpr ⟨List.mem_of_getElem? (i := 1027) (by decide +kernel), by decide +kernel⟩
theorem jm_1028 : Cond.instanceMethod yX7_reader ∈ lw_W := List.mem_filter.mpr ⟨List.mem_of_getElem? (i := 1028) (by decide +kernel), by decide +kernel⟩
theorem jm_1029 : Cond.selects RX7 yX7_reader yX7_reader ∈ lw_W := List.mem_filter.mpr ⟨List.mem_of_getElem? (i := 1029) (by decide +kernel), by decide +kernel⟩
theorem jm_1030 : Cond.code yX7_reader cX7_reader 3 (some .int) ∈ lw_W := List.mem_filter.mpr ⟨List.mem_of_getElem? (i := 1030) (by decide +kernel), by decide +kernel⟩
theorem jm_1031 : Cond.methodLink RX7 138 yX7_ofReader ∈ lw_W := List.mem_filter.mpr ⟨List.mem_of_getElem? (i := 1031) (by decide +kernel), by decide +kernel⟩
theorem jm_1033 : Cond.instanceMethod yX7_ofReader ∈ lw_W := List.mem_filter.mpr ⟨List.mem_of_getElem? (i := 1033) (by decide +kernel), by decide +kernel⟩
theorem jm_1034 : Cond.code yX7_ofReader cX7_ofReader 3 (some .int) ∈ lw_W := List.mem_filter.mpr ⟨List.mem_of_getElem? (i := 1034) (by decide +kernel), by decide +kernel⟩
theorem jm_1035 : Cond.methodLink RX7 132 yX7_firstLapse ∈ lw_W := List.mem_filter.mpr ⟨List.mem_of_getElem? (i := 1035) (by decide +kernel), by decide +kernel⟩
theorem jm_1037 : Cond.instanceMethod yX7_firstLapse ∈ lw_W := List.mem_filter.mpr ⟨List.mem_of_getElem? (i := 1037) (by decide +kernel), by decide +kernel⟩
theorem jm_1038 : Cond.code yX7_firstLapse cX7_firstLapse 5 (some .int) ∈ lw_W := List.mem_filter.mpr ⟨List.mem_of_getElem? (i := 1038) (by decide +kernel), by decide +kernel⟩
theorem jm_1039 : Cond.methodLink RX7 135 yX7_nextFor ∈ lw_W := List.mem_filter.mpr ⟨List.mem_of_getElem? (i := 1039) (by decide +kernel), by decide +kernel⟩
theorem jm_1041 : Cond.instanceMethod yX7_nextFor ∈ lw_W := List.mem_filter.mpr ⟨List.mem_of_getElem? (i := 1041) (by decide +kernel), by decide +kernel⟩
theorem jm_1042 : Cond.code yX7_nextFor cX7_nextFor 4 (some .int) ∈ lw_W := List.mem_filter.mpr ⟨List.mem_of_getElem? (i := 1042) (by decide +kernel), by decide +kernel⟩
theorem jm_1043 : Cond.methodLink RL 151 yX7_group ∈ lw_W := List.mem_filter.mpr ⟨List.mem_of_getElem? (i := 1043) (by decide +kernel), by decide +kernel⟩
theorem jm_1044 : Cond.instanceMethod yX7_group ∈ lw_W := List.mem_filter.mpr ⟨List.mem_of_getElem? (i := 1044) (by decide +kernel), by decide +kernel⟩
theorem jm_1045 : Cond.selects RX7 yX7_group yX7_group ∈ lw_W := List.mem_filter.mpr ⟨List.mem_of_getElem? (i := 1045) (by decide +kernel), by decide +kernel⟩
theorem jm_1046 : Cond.code yX7_group cX7_group 4 (some .int) ∈ lw_W := List.mem_filter.mpr ⟨List.mem_of_getElem? (i := 1046) (by decide +kernel), by decide +kernel⟩
theorem jm_1047 : Cond.methodLink RX7 141 yX7_inGroup ∈ lw_W := List.mem_filter.mpr ⟨List.mem_of_getElem? (i := 1047) (by decide +kernel), by decide +kernel⟩
theorem jm_1049 : Cond.instanceMethod yX7_inGroup ∈ lw_W := List.mem_filter.mpr ⟨List.mem_of_getElem? (i := 1049) (by decide +kernel), by decide +kernel⟩
theorem jm_1050 : Cond.code yX7_inGroup cX7_inGroup 7 (some .int) ∈ lw_W := List.mem_filter.mpr ⟨List.mem_of_getElem? (i := 1050) (by decide +kernel), by decide +kernel⟩
theorem jm_1051 : Cond.methodLink RL 154 yX7_count ∈ lw_W := List.mem_filter.mpr ⟨List.mem_of_getElem? (i := 1051) (by decide +kernel), by decide +kernel⟩
theorem jm_1052 : Cond.instanceMethod yX7_count ∈ lw_W := List.mem_filter.mpr ⟨List.mem_of_getElem? (i := 1052) (by decide +kernel), by decide +kernel⟩
theorem jm_1053 : Cond.selects RX7 yX7_count yX7_count ∈ lw_W := List.mem_filter.mpr ⟨List.mem_of_getElem? (i := 1053) (by decide +kernel), by decide +kernel⟩
theorem jm_1054 : Cond.code yX7_count cX7_count 2 (some .int) ∈ lw_W := List.mem_filter.mpr ⟨List.mem_of_getElem? (i := 1054) (by decide +kernel), by decide +kernel⟩
theorem jm_1055 : Cond.methodLink RX7 157 yX7_told ∈ lw_W := List.mem_filter.mpr ⟨List.mem_of_getElem? (i := 1055) (by decide +kernel), by decide +kernel⟩
theorem jm_1057 : Cond.instanceMethod yX7_told ∈ lw_W := List.mem_filter.mpr ⟨List.mem_of_getElem? (i := 1057) (by decide +kernel), by decide +kernel⟩
theorem jm_1058 : Cond.code yX7_told cX7_told 2 (some .int) ∈ lw_W := List.mem_filter.mpr ⟨List.mem_of_getElem? (i := 1058) (by decide +kernel), by decide +kernel⟩
theorem jm_1059 : Cond.methodLink RX7 145 yX7_inState ∈ lw_W := List.mem_filter.mpr ⟨List.mem_of_getElem? (i := 1059) (by decide +kernel), by decide +kernel⟩
theorem jm_1061 : Cond.instanceMethod yX7_inState ∈ lw_W := List.mem_filter.mpr ⟨List.mem_of_getElem? (i := 1061) (by decide +kernel), by decide +kernel⟩
theorem jm_1062 : Cond.code yX7_inState cX7_inState 4 (some .int) ∈ lw_W := List.mem_filter.mpr ⟨List.mem_of_getElem? (i := 1062) (by decide +kernel), by decide +kernel⟩
theorem jm_1063 : Cond.methodLink RX7 148 yX7_blockedMany ∈ lw_W := List.mem_filter.mpr ⟨List.mem_of_getElem? (i := 1063) (by decide +kernel), by decide +kernel⟩
theorem jm_1065 : Cond.instanceMethod yX7_blockedMany ∈ lw_W := List.mem_filter.mpr ⟨List.mem_of_getElem? (i := 1065) (by decide +kernel), by decide +kernel⟩
theorem jm_1066 : Cond.code yX7_blockedMany cX7_blockedMany 3 (some .int) ∈ lw_W := List.mem_filter.mpr ⟨List.mem_of_getElem? (i := 1066) (by decide +kernel), by decide +kernel⟩
theorem jm_1067 : Cond.methodLink RX7 151 yX7_pairs ∈ lw_W := List.mem_filter.mpr ⟨List.mem_of_getElem? (i := 1067) (by decide +kernel), by decide +kernel⟩
theorem jm_1069 : Cond.instanceMethod yX7_pairs ∈ lw_W := List.mem_filter.mpr ⟨List.mem_of_getElem? (i := 1069) (by decide +kernel), by decide +kernel⟩
theorem jm_1070 : Cond.code yX7_pairs cX7_pairs 4 (some .int) ∈ lw_W := List.mem_filter.mpr ⟨List.mem_of_getElem? (i := 1070) (by decide +kernel), by decide +kernel⟩
theorem jm_1071 : Cond.methodLink RX7 154 yX7_firstThatWaits ∈ lw_W := List.mem_filter.mpr ⟨List.mem_of_getElem? (i := 1071) (by decide +kernel), by decide +kernel⟩
theorem jm_1073 : Cond.instanceMethod yX7_firstThatWaits ∈ lw_W := List.mem_filter.mpr ⟨List.mem_of_getElem? (i := 1073) (by decide +kernel), by decide +kernel⟩
theorem jm_1074 : Cond.code yX7_firstThatWaits cX7_firstThatWaits 3 (some .int) ∈ lw_W := List.mem_filter.mpr ⟨List.mem_of_getElem? (i := 1074) (by decide +kernel), by decide +kernel⟩
theorem jm_1075 : Cond.methodLink RL 157 yX7_setting ∈ lw_W := List.mem_filter.mpr ⟨List.mem_of_getElem? (i := 1075) (by decide +kernel), by decide +kernel⟩
theorem jm_1076 : Cond.instanceMethod yX7_setting ∈ lw_W := List.mem_filter.mpr ⟨List.mem_of_getElem? (i := 1076) (by decide +kernel), by decide +kernel⟩
theorem jm_1077 : Cond.selects RX7 yX7_setting yX7_setting ∈ lw_W := List.mem_filter.mpr ⟨List.mem_of_getElem? (i := 1077) (by decide +kernel), by decide +kernel⟩
theorem jm_1078 : Cond.code yX7_setting cX7_setting 2 (some .int) ∈ lw_W := List.mem_filter.mpr ⟨List.mem_of_getElem? (i := 1078) (by decide +kernel), by decide +kernel⟩
theorem jm_1079 : Cond.methodLink RL 160 yX7_ifTaken ∈ lw_W := List.mem_filter.mpr ⟨List.mem_of_getElem? (i := 1079) (by decide +kernel), by decide +kernel⟩
theorem jm_1080 : Cond.instanceMethod yX7_ifTaken ∈ lw_W := List.mem_filter.mpr ⟨List.mem_of_getElem? (i := 1080) (by decide +kernel), by decide +kernel⟩
theorem jm_1081 : Cond.selects RX7 yX7_ifTaken yX7_ifTaken ∈ lw_W := List.mem_filter.mpr ⟨List.mem_of_getElem? (i := 1081) (by decide +kernel), by decide +kernel⟩
theorem jm_1082 : Cond.code yX7_ifTaken cX7_ifTaken 4 (some .int) ∈ lw_W := List.mem_filter.mpr ⟨List.mem_of_getElem? (i := 1082) (by decide +kernel), by decide +kernel⟩
theorem jm_1083 : Cond.methodLink RX7 160 yX7_takenIf ∈ lw_W := List.mem_filter.mpr ⟨List.mem_of_getElem? (i := 1083) (by decide +kernel), by decide +kernel⟩
theorem jm_1085 : Cond.instanceMethod yX7_takenIf ∈ lw_W := List.mem_filter.mpr ⟨List.mem_of_getElem? (i := 1085) (by decide +kernel), by decide +kernel⟩
theorem jm_1086 : Cond.code yX7_takenIf cX7_takenIf 5 (some .int) ∈ lw_W := List.mem_filter.mpr ⟨List.mem_of_getElem? (i := 1086) (by decide +kernel), by decide +kernel⟩
theorem jm_1087 : Cond.methodLink RL 163 yX7_ifPassed ∈ lw_W := List.mem_filter.mpr ⟨List.mem_of_getElem? (i := 1087) (by decide +kernel), by decide +kernel⟩
theorem jm_1088 : Cond.instanceMethod yX7_ifPassed ∈ lw_W := List.mem_filter.mpr ⟨List.mem_of_getElem? (i := 1088) (by decide +kernel), by decide +kernel⟩
theorem jm_1089 : Cond.selects RX7 yX7_ifPassed yX7_ifPassed ∈ lw_W := List.mem_filter.mpr ⟨List.mem_of_getElem? (i := 1089) (by decide +kernel), by decide +kernel⟩
theorem jm_1090 : Cond.code yX7_ifPassed cX7_ifPassed 3 (some .int) ∈ lw_W := List.mem_filter.mpr ⟨List.mem_of_getElem? (i := 1090) (by decide +kernel), by decide +kernel⟩
theorem jm_1091 : Cond.methodLink RX7 163 yX7_passedIf ∈ lw_W := List.mem_filter.mpr ⟨List.mem_of_getElem? (i := 1091) (by decide +kernel), by decide +kernel⟩
theorem jm_1093 : Cond.instanceMethod yX7_passedIf ∈ lw_W := List.mem_filter.mpr ⟨List.mem_of_getElem? (i := 1093) (by decide +kernel), by decide +kernel⟩
theorem jm_1094 : Cond.code yX7_passedIf cX7_passedIf 5 (some .int) ∈ lw_W := List.mem_filter.mpr ⟨List.mem_of_getElem? (i := 1094) (by decide +kernel), by decide +kernel⟩
theorem jm_1095 : Cond.methodLink RL 167 yX7_freest ∈ lw_W := List.mem_filter.mpr ⟨List.mem_of_getElem? (i := 1095) (by decide +kernel), by decide +kernel⟩
theorem jm_1096 : Cond.instanceMethod yX7_freest ∈ lw_W := List.mem_filter.mpr ⟨List.mem_of_getElem? (i := 1096) (by decide +kernel), by decide +kernel⟩
theorem jm_1097 : Cond.selects RX7 yX7_freest yX7_freest ∈ lw_W := List.mem_filter.mpr ⟨List.mem_of_getElem? (i := 1097) (by decide +kernel), by decide +kernel⟩
theorem jm_1098 : Cond.code yX7_freest cX7_freest 1 (some .int) ∈ lw_W := List.mem_filter.mpr ⟨List.mem_of_getElem? (i := 1098) (by decide +kernel), by decide +kernel⟩
theorem jm_1099 : Cond.methodLink RX7 166 yX7_freestOf ∈ lw_W := List.mem_filter.mpr ⟨List.mem_of_getElem? (i := 1099) (by decide +kernel), by decide +kernel⟩
theorem jm_1101 : Cond.instanceMethod yX7_freestOf ∈ lw_W := List.mem_filter.mpr ⟨List.mem_of_getElem? (i := 1101) (by decide +kernel), by decide +kernel⟩
theorem jm_1102 : Cond.code yX7_freestOf cX7_freestOf 5 (some .int) ∈ lw_W := List.mem_filter.mpr ⟨List.mem_of_getElem? (i := 1102) (by decide +kernel), by decide +kernel⟩
theorem jm_1103 : Cond.methodLink RL 172 yX7_fairness ∈ lw_W := List.mem_filter.mpr ⟨List.mem_of_getElem? (i := 1103) (by decide +kernel), by decide +kernel⟩
theorem jm_1104 : Cond.instanceMethod yX7_fairness ∈ lw_W := List.mem_filter.mpr ⟨List.mem_of_getElem? (i := 1104) (by decide +kernel), by decide +kernel⟩
theorem jm_1105 : Cond.selects RX7 yX7_fairness yX7_fairness ∈ lw_W := List.mem_filter.mpr ⟨List.mem_of_getElem? (i := 1105) (by decide +kernel), by decide +kernel⟩
theorem jm_1106 : Cond.code yX7_fairness cX7_fairness 1 (some .double) ∈ lw_W := List.mem_filter.mpr ⟨List.mem_of_getElem? (i := 1106) (by decide +kernel), by decide +kernel⟩
theorem jm_1107 : Cond.methodLink RX7 169 yX7_mostSkips ∈ lw_W := List.mem_filter.mpr ⟨List.mem_of_getElem? (i := 1107) (by decide +kernel), by decide +kernel⟩
theorem jm_1109 : Cond.instanceMethod yX7_mostSkips ∈ lw_W := List.mem_filter.mpr ⟨List.mem_of_getElem? (i := 1109) (by decide +kernel), by decide +kernel⟩
theorem jm_1110 : Cond.code yX7_mostSkips cX7_mostSkips 3 (some .int) ∈ lw_W := List.mem_filter.mpr ⟨List.mem_of_getElem? (i := 1110) (by decide +kernel), by decide +kernel⟩
theorem jm_1111 : Cond.methodLink RL 177 yX7_digest ∈ lw_W := List.mem_filter.mpr ⟨List.mem_of_getElem? (i := 1111) (by decide +kernel), by decide +kernel⟩
theorem jm_1112 : Cond.instanceMethod yX7_digest ∈ lw_W := List.mem_filter.mpr ⟨List.mem_of_getElem? (i := 1112) (by decide +kernel), by decide +kernel⟩
theorem jm_1113 : Cond.selects RX7 yX7_digest yX7_digest ∈ lw_W := List.mem_filter.mpr ⟨List.mem_of_getElem? (i := 1113) (by decide +kernel), by decide +kernel⟩
theorem jm_1114 : Cond.code yX7_digest cX7_digest 5 (some .long) ∈ lw_W := List.mem_filter.mpr ⟨List.mem_of_getElem? (i := 1114) (by decide +kernel), by decide +kernel⟩
theorem jm_1115 : Cond.constantLong RX7 180 (2683) ∈ lw_W := List.mem_filter.mpr ⟨List.mem_of_getElem? (i := 1115) (by decide +kernel), by decide +kernel⟩
theorem jm_1116 : Cond.constantLong RX7 182 (31) ∈ lw_W := List.mem_filter.mpr ⟨List.mem_of_getElem? (i := 1116) (by decide +kernel), by decide +kernel⟩
theorem jm_1117 : Cond.methodLink RX7 184 yX7_bitsOfOneBy ∈ lw_W := List.mem_filter.mpr ⟨List.mem_of_getElem? (i := 1117) (by decide +kernel), by decide +kernel⟩
theorem jm_1118 : Cond.static yX7_bitsOfOneBy ∈ lw_W := List.mem_filter.mpr ⟨List.mem_of_getElem? (i := 1118) (by decide +kernel), by decide +kernel⟩
theorem jm_1119 : Cond.code yX7_bitsOfOneBy cX7_bitsOfOneBy 9 (some .long) ∈ lw_W := List.mem_filter.mpr ⟨List.mem_of_getElem? (i := 1119) (by decide +kernel), by decide +kernel⟩
theorem jm_1120 : Cond.constantLong RX7 172 (1023) ∈ lw_W := List.mem_filter.mpr ⟨List.mem_of_getElem? (i := 1120) (by decide +kernel), by decide +kernel⟩
theorem jm_1121 : Cond.constantLong RX7 174 (2) ∈ lw_W := List.mem_filter.mpr ⟨List.mem_of_getElem? (i := 1121) (by decide +kernel), by decide +kernel⟩
theorem jm_1122 : Cond.constantLong RX7 176 (9007199254740992) ∈ lw_W := List.mem_filter.mpr ⟨List.mem_of_getElem? (i := 1122) (by decide +kernel), by decide +kernel⟩
theorem jm_1123 : Cond.constantLong RX7 178 (4503599627370496) ∈ lw_W := List.mem_filter.mpr ⟨List.mem_of_getElem? (i := 1123) (by decide +kernel), by decide +kernel⟩
theorem jmAI : Cond.arrayClass .int ∈ lw_W := List.mem_filter.mpr ⟨List.mem_of_getElem? (i := 134) (by decide +kernel), by decide +kernel⟩
theorem jmAL : Cond.arrayClass .long ∈ lw_W := List.mem_filter.mpr ⟨List.mem_of_getElem? (i := 1124) (by decide +kernel), by decide +kernel⟩
theorem jmO : Cond.code objectInit ⟨#[0xb1]⟩ 1 none ∈ lw_W := List.mem_filter.mpr ⟨List.mem_of_getElem? (i := 72) (by decide +kernel), by decide +kernel⟩
