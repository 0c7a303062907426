theorem tw_0 : Cond.selects RX2 yX2_isEdge yX2_isEdge ∈ lw_gd := List.mem_filter.mpr ⟨List.mem_of_getElem? (i := 0) (by decide +kernel), by decide +kernel⟩
theorem tw_1 : Cond.selects RX2 yX2_isSet yX2_isSet ∈ lw_gd := List.mem_filter.mpr ⟨List.mem_of_getElem? (i := 1) (by decide +kernel), by decide +kernel⟩
theorem tw_2 : Cond.selects RX2 yX2_draftPacked yX2_draftPacked ∈ lw_gd := List.mem_filter.mpr ⟨List.mem_of_getElem? (i := 2) (by decide +kernel), by decide +kernel⟩
theorem tw_3 : Cond.selects RX2 yX2_areAlike yX2_areAlike ∈ lw_gd := List.mem_filter.mpr ⟨List.mem_of_getElem? (i := 3) (by decide +kernel), by decide +kernel⟩
theorem tw_4 : Cond.selects RX2 yX2_largestInBoth yX2_largestInBoth ∈ lw_gd := List.mem_filter.mpr ⟨List.mem_of_getElem? (i := 4) (by decide +kernel), by decide +kernel⟩
theorem tw_5 : Cond.selects RX2 yX2_searched yX2_searched ∈ lw_gd := List.mem_filter.mpr ⟨List.mem_of_getElem? (i := 5) (by decide +kernel), by decide +kernel⟩
theorem tw_6 : Cond.selects RX2 yX2_leastCover yX2_leastCover ∈ lw_gd := List.mem_filter.mpr ⟨List.mem_of_getElem? (i := 6) (by decide +kernel), by decide +kernel⟩
theorem tw_7 : Cond.selects RX2 yX2_grown yX2_grown ∈ lw_gd := List.mem_filter.mpr ⟨List.mem_of_getElem? (i := 7) (by decide +kernel), by decide +kernel⟩
theorem tw_8 : Cond.selects RX3 yX3_isEdge yX3_isEdge ∈ lw_gd := List.mem_filter.mpr ⟨List.mem_of_getElem? (i := 8) (by decide +kernel), by decide +kernel⟩
theorem tw_9 : Cond.selects RX3 yX3_isSet yX3_isSet ∈ lw_gd := List.mem_filter.mpr ⟨List.mem_of_getElem? (i := 9) (by decide +kernel), by decide +kernel⟩
theorem tw_10 : Cond.selects RX3 yX3_whole yX3_whole ∈ lw_gd := List.mem_filter.mpr ⟨List.mem_of_getElem? (i := 10) (by decide +kernel), by decide +kernel⟩
theorem tw_11 : Cond.selects RX3 yX3_join yX3_join ∈ lw_gd := List.mem_filter.mpr ⟨List.mem_of_getElem? (i := 11) (by decide +kernel), by decide +kernel⟩
theorem tw_12 : Cond.selects RX3 yX3_lay yX3_lay ∈ lw_gd := List.mem_filter.mpr ⟨List.mem_of_getElem? (i := 12) (by decide +kernel), by decide +kernel⟩
theorem tw_13 : Cond.selects RX3 yX3_keep yX3_keep ∈ lw_gd := List.mem_filter.mpr ⟨List.mem_of_getElem? (i := 13) (by decide +kernel), by decide +kernel⟩
theorem tw_14 : Cond.selects RX3 yX3_number yX3_number ∈ lw_gd := List.mem_filter.mpr ⟨List.mem_of_getElem? (i := 14) (by decide +kernel), by decide +kernel⟩
theorem tw_15 : Cond.selects RX3 yX3_measure yX3_measure ∈ lw_gd := List.mem_filter.mpr ⟨List.mem_of_getElem? (i := 15) (by decide +kernel), by decide +kernel⟩
theorem tw_16 : Cond.selects RX3 yX3_areAlike yX3_areAlike ∈ lw_gd := List.mem_filter.mpr ⟨List.mem_of_getElem? (i := 16) (by decide +kernel), by decide +kernel⟩
theorem tw_17 : Cond.selects RX3 yX3_commonOf yX3_commonOf ∈ lw_gd := List.mem_filter.mpr ⟨List.mem_of_getElem? (i := 17) (by decide +kernel), by decide +kernel⟩
theorem tw_18 : Cond.initialized RL ∈ lw_gd := List.mem_filter.mpr ⟨List.mem_of_getElem? (i := 18) (by decide +kernel), by decide +kernel⟩
theorem tw_19 : Cond.initialized RX2 ∈ lw_gd := List.mem_filter.mpr ⟨List.mem_of_getElem? (i := 19) (by decide +kernel), by decide +kernel⟩
theorem tw_20 : Cond.initialized RX0 ∈ lw_gd := List.mem_filter.mpr ⟨List.mem_of_getElem? (i := 20) (by decide +kernel), by decide +kernel⟩
theorem tw_21 : Cond.initialized RX1 ∈ lw_gd := List.mem_filter.mpr ⟨List.mem_of_getElem? (i := 21) (by decide +kernel), by decide +kernel⟩
theorem tw_22 : Cond.initialized RX3 ∈ lw_gd := List.mem_filter.mpr ⟨List.mem_of_getElem? (i := 22) (by decide +kernel), by decide +kernel⟩
theorem tw_23 : Cond.initialized "java/lang/Math" ∈ lw_gd := List.mem_filter.mpr ⟨List.mem_of_getElem? (i := 23) (by decide +kernel), by decide +kernel⟩
theorem tw_24 : Cond.initialized RJ6 ∈ lw_gd := List.mem_filter.mpr ⟨List.mem_of_getElem? (i := 24) (by decide +kernel), by decide +kernel⟩
theorem tw_25 : Cond.classLink RL 7 RX2 ∈ lw_gd := List.mem_filter.mpr ⟨List.mem_of_getElem? (i := 25) (by decide +kernel), by decide +kernel⟩
theorem tw_26 : Cond.instantiable RX2 4 ∈ lw_gd := List.mem_filter.mpr ⟨List.mem_of_getElem? (i := 26) (by decide +kernel), by decide +kernel⟩
theorem tw_27 : Cond.methodLink RL 9 yX2_init ∈ lw_gd := List.mem_filter.mpr ⟨List.mem_of_getElem? (i := 27) (by decide +kernel), by decide +kernel⟩
theorem tw_28 : Cond.instanceMethod yX2_init ∈ lw_gd := List.mem_filter.mpr ⟨List.mem_of_getElem? (i := 28) (by decide +kernel), by decide +kernel⟩
theorem tw_29 : Cond.code yX2_init cX2_init 2 none ∈ lw_gd := List.mem_filter.mpr ⟨List.mem_of_getElem? (i := 29) (by decide +kernel), by decide +kernel⟩
theorem tw_30 : Cond.methodLink RX2 1 Lib.objectInit ∈ lw_gd := List.mem_filter.mpr ⟨List.mem_of_getElem? (i := 30) (by decide +kernel), by decide +kernel⟩
theorem tw_31 : Cond.instanceMethod Lib.objectInit ∈ lw_gd := List.mem_filter.mpr ⟨List.mem_of_getElem? (i := 31) (by decide +kernel), by decide +kernel⟩
theorem tw_32 : Cond.code Lib.objectInit object_method_1_code 1 none ∈ lw_gd := List.mem_filter.mpr ⟨List.mem_of_getElem? (i := 32) (by decide +kernel), by decide +kernel⟩
theorem tw_33 : Cond.classLink RX2 9 RX1 ∈ lw_gd := List.mem_filter.mpr ⟨List.mem_of_getElem? (i := 33) (by decide +kernel), by decide +kernel⟩
theorem tw_34 : Cond.arrayOver (.object RX1) ∈ lw_tbl := List.mem_of_getElem? (i := 34) (by decide +kernel)
theorem tw_35 : Cond.classLink RX2 15 RX0 ∈ lw_gd := List.mem_filter.mpr ⟨List.mem_of_getElem? (i := 35) (by decide +kernel), by decide +kernel⟩
theorem tw_36 : Cond.instantiable RX0 3 ∈ lw_gd := List.mem_filter.mpr ⟨List.mem_of_getElem? (i := 36) (by decide +kernel), by decide +kernel⟩
theorem tw_37 : Cond.methodLinkNest RX2 17 yX0_init RX2 ∈ lw_tbl := List.mem_of_getElem? (i := 37) (by decide +kernel)
theorem tw_38 : Cond.instanceMethod yX0_init ∈ lw_gd := List.mem_filter.mpr ⟨List.mem_of_getElem? (i := 38) (by decide +kernel), by decide +kernel⟩
theorem tw_39 : Cond.code yX0_init cX0_init 1 none ∈ lw_gd := List.mem_filter.mpr ⟨List.mem_of_getElem? (i := 39) (by decide +kernel), by decide +kernel⟩
theorem tw_40 : Cond.methodLink RX0 3 Lib.objectInit ∈ lw_gd := List.mem_filter.mpr ⟨List.mem_of_getElem? (i := 40) (by decide +kernel), by decide +kernel⟩
theorem tw_41 : Cond.fieldLink RX0 9 RX0 "rows" "[I" ∈ lw_gd := List.mem_filter.mpr ⟨List.mem_of_getElem? (i := 41) (by decide +kernel), by decide +kernel⟩
theorem tw_42 : Cond.fieldLink RX0 15 RX0 "parts" "[I" ∈ lw_gd := List.mem_filter.mpr ⟨List.mem_of_getElem? (i := 42) (by decide +kernel), by decide +kernel⟩
theorem tw_43 : Cond.fieldLink RX0 18 RX0 "size" "I" ∈ lw_gd := List.mem_filter.mpr ⟨List.mem_of_getElem? (i := 43) (by decide +kernel), by decide +kernel⟩
theorem tw_44 : Cond.laysFinal RX0 RX0 "rows" "[I" ∈ lw_gd := List.mem_filter.mpr ⟨List.mem_of_getElem? (i := 44) (by decide +kernel), by decide +kernel⟩
theorem tw_46 : Cond.laysFinal RX0 RX0 "parts" "[I" ∈ lw_gd := List.mem_filter.mpr ⟨List.mem_of_getElem? (i := 46) (by decide +kernel), by decide +kernel⟩
theorem tw_48 : Cond.lays RX0 RX0 "size" "I" ∈ lw_gd := List.mem_filter.mpr ⟨List.mem_of_getElem? (i := 48) (by decide +kernel), by decide +kernel⟩
theorem tw_51 : Cond.arrayClass .int ∈ lw_gd := List.mem_filter.mpr ⟨List.mem_of_getElem? (i := 51) (by decide +kernel), by decide +kernel⟩
theorem tw_52 : Cond.instantiable RX1 5 ∈ lw_gd := List.mem_filter.mpr ⟨List.mem_of_getElem? (i := 52) (by decide +kernel), by decide +kernel⟩
theorem tw_53 : Cond.methodLinkNest RX2 29 yX1_init RX2 ∈ lw_tbl := List.mem_of_getElem? (i := 53) (by decide +kernel)
theorem tw_54 : Cond.instanceMethod yX1_init ∈ lw_gd := List.mem_filter.mpr ⟨List.mem_of_getElem? (i := 54) (by decide +kernel), by decide +kernel⟩
theorem tw_55 : Cond.code yX1_init cX1_init 1 none ∈ lw_gd := List.mem_filter.mpr ⟨List.mem_of_getElem? (i := 55) (by decide +kernel), by decide +kernel⟩
theorem tw_56 : Cond.methodLink RX1 3 Lib.objectInit ∈ lw_gd := List.mem_filter.mpr ⟨List.mem_of_getElem? (i := 56) (by decide +kernel), by decide +kernel⟩
theorem tw_57 : Cond.fieldLink RX1 9 RX1 "lines" "[I" ∈ lw_gd := List.mem_filter.mpr ⟨List.mem_of_getElem? (i := 57) (by decide +kernel), by decide +kernel⟩
theorem tw_58 : Cond.fieldLink RX0 34 RX1 "lines" "[I" ∈ lw_gd := List.mem_filter.mpr ⟨List.mem_of_getElem? (i := 58) (by decide +kernel), by decide +kernel⟩
theorem tw_59 : Cond.fieldLink RX2 66 RX1 "lines" "[I" ∈ lw_gd := List.mem_filter.mpr ⟨List.mem_of_getElem? (i := 59) (by decide +kernel), by decide +kernel⟩
theorem tw_60 : Cond.fieldLink RX1 15 RX1 "weights" "[I" ∈ lw_gd := List.mem_filter.mpr ⟨List.mem_of_getElem? (i := 60) (by decide +kernel), by decide +kernel⟩
theorem tw_61 : Cond.fieldLink RX2 49 RX1 "weights" "[I" ∈ lw_gd := List.mem_filter.mpr ⟨List.mem_of_getElem? (i := 61) (by decide +kernel), by decide +kernel⟩
theorem tw_62 : Cond.fieldLink RX1 18 RX1 "count" "I" ∈ lw_gd := List.mem_filter.mpr ⟨List.mem_of_getElem? (i := 62) (by decide +kernel), by decide +kernel⟩
theorem tw_63 : Cond.fieldLink RX0 25 RX1 "count" "I" ∈ lw_gd := List.mem_filter.mpr ⟨List.mem_of_getElem? (i := 63) (by decide +kernel), by decide +kernel⟩
theorem tw_64 : Cond.fieldLink RX2 59 RX1 "count" "I" ∈ lw_gd := List.mem_filter.mpr ⟨List.mem_of_getElem? (i := 64) (by decide +kernel), by decide +kernel⟩
theorem tw_65 : Cond.fieldLink RX1 22 RX1 "vertices" "I" ∈ lw_gd := List.mem_filter.mpr ⟨List.mem_of_getElem? (i := 65) (by decide +kernel), by decide +kernel⟩
theorem tw_66 : Cond.fieldLink RX1 25 RX1 "open" "Z" ∈ lw_gd := List.mem_filter.mpr ⟨List.mem_of_getElem? (i := 66) (by decide +kernel), by decide +kernel⟩
theorem tw_67 : Cond.laysFinal RX1 RX1 "lines" "[I" ∈ lw_gd := List.mem_filter.mpr ⟨List.mem_of_getElem? (i := 67) (by decide +kernel), by decide +kernel⟩
theorem tw_69 : Cond.laysFinal RX1 RX1 "weights" "[I" ∈ lw_gd := List.mem_filter.mpr ⟨List.mem_of_getElem? (i := 69) (by decide +kernel), by decide +kernel⟩
theorem tw_71 : Cond.lays RX1 RX1 "count" "I" ∈ lw_gd := List.mem_filter.mpr ⟨List.mem_of_getElem? (i := 71) (by decide +kernel), by decide +kernel⟩
theorem tw_73 : Cond.lays RX1 RX1 "vertices" "I" ∈ lw_gd := List.mem_filter.mpr ⟨List.mem_of_getElem? (i := 73) (by decide +kernel), by decide +kernel⟩
theorem tw_75 : Cond.lays RX1 RX1 "open" "Z" ∈ lw_gd := List.mem_filter.mpr ⟨List.mem_of_getElem? (i := 75) (by decide +kernel), by decide +kernel⟩
theorem tw_78 : Cond.fieldLink RX2 11 RX2 "graphs" "[LCommonForests$Graph;" ∈ lw_gd := List.mem_filter.mpr ⟨List.mem_of_getElem? (i := 78) (by decide +kernel), by decide +kernel⟩
theorem tw_79 : Cond.fieldLink RX2 18 RX2 "first" "LCommonForests$Forest;" ∈ lw_gd := List.mem_filter.mpr ⟨List.mem_of_getElem? (i := 79) (by decide +kernel), by decide +kernel⟩
theorem tw_80 : Cond.fieldLink RX2 22 RX2 "second" "LCommonForests$Forest;" ∈ lw_gd := List.mem_filter.mpr ⟨List.mem_of_getElem? (i := 80) (by decide +kernel), by decide +kernel⟩
theorem tw_81 : Cond.fieldLink RX2 25 RX2 "draft" "[I" ∈ lw_gd := List.mem_filter.mpr ⟨List.mem_of_getElem? (i := 81) (by decide +kernel), by decide +kernel⟩
theorem tw_82 : Cond.laysFinal RX2 RX2 "graphs" "[LCommonForests$Graph;" ∈ lw_gd := List.mem_filter.mpr ⟨List.mem_of_getElem? (i := 82) (by decide +kernel), by decide +kernel⟩
theorem tw_84 : Cond.laysFinal RX2 RX2 "first" "LCommonForests$Forest;" ∈ lw_gd := List.mem_filter.mpr ⟨List.mem_of_getElem? (i := 84) (by decide +kernel), by decide +kernel⟩
theorem tw_86 : Cond.laysFinal RX2 RX2 "second" "LCommonForests$Forest;" ∈ lw_gd := List.mem_filter.mpr ⟨List.mem_of_getElem? (i := 86) (by decide +kernel), by decide +kernel⟩
theorem tw_88 : Cond.laysFinal RX2 RX2 "draft" "[I" ∈ lw_gd := List.mem_filter.mpr ⟨List.mem_of_getElem? (i := 88) (by decide +kernel), by decide +kernel⟩
theorem tw_91 : Cond.methodLink RL 13 yX2_begin ∈ lw_gd := List.mem_filter.mpr ⟨List.mem_of_getElem? (i := 91) (by decide +kernel), by decide +kernel⟩
theorem tw_92 : Cond.instanceMethod yX2_begin ∈ lw_gd := List.mem_filter.mpr ⟨List.mem_of_getElem? (i := 92) (by decide +kernel), by decide +kernel⟩
theorem tw_93 : Cond.selects RX2 yX2_begin yX2_begin ∈ lw_gd := List.mem_filter.mpr ⟨List.mem_of_getElem? (i := 93) (by decide +kernel), by decide +kernel⟩
theorem tw_94 : Cond.code yX2_begin cX2_begin 3 (some .boolean) ∈ lw_gd := List.mem_filter.mpr ⟨List.mem_of_getElem? (i := 94) (by decide +kernel), by decide +kernel⟩
theorem tw_95 : Cond.methodLink RX2 30 yX2_isGraph ∈ lw_gd := List.mem_filter.mpr ⟨List.mem_of_getElem? (i := 95) (by decide +kernel), by decide +kernel⟩
theorem tw_96 : Cond.static yX2_isGraph ∈ lw_gd := List.mem_filter.mpr ⟨List.mem_of_getElem? (i := 96) (by decide +kernel), by decide +kernel⟩
theorem tw_97 : Cond.code yX2_isGraph cX2_isGraph 1 (some .boolean) ∈ lw_gd := List.mem_filter.mpr ⟨List.mem_of_getElem? (i := 97) (by decide +kernel), by decide +kernel⟩
theorem tw_98 : Cond.methodLink RX2 34 yX1_restart ∈ lw_gd := List.mem_filter.mpr ⟨List.mem_of_getElem? (i := 98) (by decide +kernel), by decide +kernel⟩
theorem tw_99 : Cond.instanceMethod yX1_restart ∈ lw_gd := List.mem_filter.mpr ⟨List.mem_of_getElem? (i := 99) (by decide +kernel), by decide +kernel⟩
theorem tw_100 : Cond.selects RX1 yX1_restart yX1_restart ∈ lw_gd := List.mem_filter.mpr ⟨List.mem_of_getElem? (i := 100) (by decide +kernel), by decide +kernel⟩
theorem tw_101 : Cond.code yX1_restart cX1_restart 2 none ∈ lw_gd := List.mem_filter.mpr ⟨List.mem_of_getElem? (i := 101) (by decide +kernel), by decide +kernel⟩
theorem tw_102 : Cond.methodLink RL 18 yX2_add ∈ lw_gd := List.mem_filter.mpr ⟨List.mem_of_getElem? (i := 102) (by decide +kernel), by decide +kernel⟩
theorem tw_103 : Cond.instanceMethod yX2_add ∈ lw_gd := List.mem_filter.mpr ⟨List.mem_of_getElem? (i := 103) (by decide +kernel), by decide +kernel⟩
theorem tw_104 : Cond.selects RX2 yX2_add yX2_add ∈ lw_gd := List.mem_filter.mpr ⟨List.mem_of_getElem? (i := 104) (by decide +kernel), by decide +kernel⟩
theorem tw_105 : Cond.code yX2_add cX2_add 6 (some .int) ∈ lw_gd := List.mem_filter.mpr ⟨List.mem_of_getElem? (i := 105) (by decide +kernel), by decide +kernel⟩
theorem tw_106 : Cond.methodLink RX2 38 yX1_canMeet ∈ lw_gd := List.mem_filter.mpr ⟨List.mem_of_getElem? (i := 106) (by decide +kernel), by decide +kernel⟩
theorem tw_107 : Cond.instanceMethod yX1_canMeet ∈ lw_gd := List.mem_filter.mpr ⟨List.mem_of_getElem? (i := 107) (by decide +kernel), by decide +kernel⟩
theorem tw_108 : Cond.selects RX1 yX1_canMeet yX1_canMeet ∈ lw_gd := List.mem_filter.mpr ⟨List.mem_of_getElem? (i := 108) (by decide +kernel), by decide +kernel⟩
theorem tw_109 : Cond.code yX1_canMeet cX1_canMeet 2 (some .boolean) ∈ lw_gd := List.mem_filter.mpr ⟨List.mem_of_getElem? (i := 109) (by decide +kernel), by decide +kernel⟩
theorem tw_110 : Cond.methodLink RX2 41 yX1_append ∈ lw_gd := List.mem_filter.mpr ⟨List.mem_of_getElem? (i := 110) (by decide +kernel), by decide +kernel⟩
theorem tw_111 : Cond.instanceMethod yX1_append ∈ lw_gd := List.mem_filter.mpr ⟨List.mem_of_getElem? (i := 111) (by decide +kernel), by decide +kernel⟩
theorem tw_112 : Cond.selects RX1 yX1_append yX1_append ∈ lw_gd := List.mem_filter.mpr ⟨List.mem_of_getElem? (i := 112) (by decide +kernel), by decide +kernel⟩
theorem tw_113 : Cond.code yX1_append cX1_append 2 (some .int) ∈ lw_gd := List.mem_filter.mpr ⟨List.mem_of_getElem? (i := 113) (by decide +kernel), by decide +kernel⟩
theorem tw_114 : Cond.methodLink RL 23 yX2_weigh ∈ lw_gd := List.mem_filter.mpr ⟨List.mem_of_getElem? (i := 114) (by decide +kernel), by decide +kernel⟩
theorem tw_115 : Cond.instanceMethod yX2_weigh ∈ lw_gd := List.mem_filter.mpr ⟨List.mem_of_getElem? (i := 115) (by decide +kernel), by decide +kernel⟩
theorem tw_116 : Cond.selects RX2 yX2_weigh yX2_weigh ∈ lw_gd := List.mem_filter.mpr ⟨List.mem_of_getElem? (i := 116) (by decide +kernel), by decide +kernel⟩
theorem tw_117 : Cond.code yX2_weigh cX2_weigh 4 (some .boolean) ∈ lw_gd := List.mem_filter.mpr ⟨List.mem_of_getElem? (i := 117) (by decide +kernel), by decide +kernel⟩
theorem tw_118 : Cond.methodLink RX2 45 yX2_isEdge ∈ lw_gd := List.mem_filter.mpr ⟨List.mem_of_getElem? (i := 118) (by decide +kernel), by decide +kernel⟩
theorem tw_119 : Cond.privateMethod yX2_isEdge ∈ lw_tbl := List.mem_of_getElem? (i := 119) (by decide +kernel)
theorem tw_120 : Cond.instanceMethod yX2_isEdge ∈ lw_gd := List.mem_filter.mpr ⟨List.mem_of_getElem? (i := 120) (by decide +kernel), by decide +kernel⟩
theorem tw_121 : Cond.code yX2_isEdge cX2_isEdge 3 (some .boolean) ∈ lw_gd := List.mem_filter.mpr ⟨List.mem_of_getElem? (i := 121) (by decide +kernel), by decide +kernel⟩
theorem tw_122 : Cond.methodLink RL 28 yX2_leave ∈ lw_gd := List.mem_filter.mpr ⟨List.mem_of_getElem? (i := 122) (by decide +kernel), by decide +kernel⟩
theorem tw_123 : Cond.instanceMethod yX2_leave ∈ lw_gd := List.mem_filter.mpr ⟨List.mem_of_getElem? (i := 123) (by decide +kernel), by decide +kernel⟩
theorem tw_124 : Cond.selects RX2 yX2_leave yX2_leave ∈ lw_gd := List.mem_filter.mpr ⟨List.mem_of_getElem? (i := 124) (by decide +kernel), by decide +kernel⟩
theorem tw_125 : Cond.code yX2_leave cX2_leave 8 (some .int) ∈ lw_gd := List.mem_filter.mpr ⟨List.mem_of_getElem? (i := 125) (by decide +kernel), by decide +kernel⟩
theorem tw_126 : Cond.methodLink RX2 52 yX2_isSet ∈ lw_gd := List.mem_filter.mpr ⟨List.mem_of_getElem? (i := 126) (by decide +kernel), by decide +kernel⟩
theorem tw_127 : Cond.privateMethod yX2_isSet ∈ lw_tbl := List.mem_of_getElem? (i := 127) (by decide +kernel)
theorem tw_128 : Cond.instanceMethod yX2_isSet ∈ lw_gd := List.mem_filter.mpr ⟨List.mem_of_getElem? (i := 128) (by decide +kernel), by decide +kernel⟩
theorem tw_129 : Cond.code yX2_isSet cX2_isSet 3 (some .boolean) ∈ lw_gd := List.mem_filter.mpr ⟨List.mem_of_getElem? (i := 129) (by decide +kernel), by decide +kernel⟩
theorem tw_130 : Cond.methodLink RX2 89 yX2_all ∈ lw_gd := List.mem_filter.mpr ⟨List.mem_of_getElem? (i := 130) (by decide +kernel), by decide +kernel⟩
theorem tw_131 : Cond.static yX2_all ∈ lw_gd := List.mem_filter.mpr ⟨List.mem_of_getElem? (i := 131) (by decide +kernel), by decide +kernel⟩
theorem tw_132 : Cond.code yX2_all cX2_all 1 (some .int) ∈ lw_gd := List.mem_filter.mpr ⟨List.mem_of_getElem? (i := 132) (by decide +kernel), by decide +kernel⟩
theorem tw_133 : Cond.methodLink RX2 55 yX0_fill ∈ lw_gd := List.mem_filter.mpr ⟨List.mem_of_getElem? (i := 133) (by decide +kernel), by decide +kernel⟩
theorem tw_134 : Cond.instanceMethod yX0_fill ∈ lw_gd := List.mem_filter.mpr ⟨List.mem_of_getElem? (i := 134) (by decide +kernel), by decide +kernel⟩
theorem tw_135 : Cond.selects RX0 yX0_fill yX0_fill ∈ lw_gd := List.mem_filter.mpr ⟨List.mem_of_getElem? (i := 135) (by decide +kernel), by decide +kernel⟩
theorem tw_136 : Cond.code yX0_fill cX0_fill 4 (some .int) ∈ lw_gd := List.mem_filter.mpr ⟨List.mem_of_getElem? (i := 136) (by decide +kernel), by decide +kernel⟩
theorem tw_137 : Cond.methodLink RX0 22 yX0_clear ∈ lw_gd := List.mem_filter.mpr ⟨List.mem_of_getElem? (i := 137) (by decide +kernel), by decide +kernel⟩
theorem tw_138 : Cond.instanceMethod yX0_clear ∈ lw_gd := List.mem_filter.mpr ⟨List.mem_of_getElem? (i := 138) (by decide +kernel), by decide +kernel⟩
theorem tw_139 : Cond.selects RX0 yX0_clear yX0_clear ∈ lw_gd := List.mem_filter.mpr ⟨List.mem_of_getElem? (i := 139) (by decide +kernel), by decide +kernel⟩
theorem tw_140 : Cond.code yX0_clear cX0_clear 1 none ∈ lw_gd := List.mem_filter.mpr ⟨List.mem_of_getElem? (i := 140) (by decide +kernel), by decide +kernel⟩
theorem tw_141 : Cond.methodLinkNest RX0 30 yX2_has RX2 ∈ lw_tbl := List.mem_of_getElem? (i := 141) (by decide +kernel)
theorem tw_142 : Cond.static yX2_has ∈ lw_gd := List.mem_filter.mpr ⟨List.mem_of_getElem? (i := 142) (by decide +kernel), by decide +kernel⟩
theorem tw_143 : Cond.code yX2_has cX2_has 2 (some .boolean) ∈ lw_gd := List.mem_filter.mpr ⟨List.mem_of_getElem? (i := 143) (by decide +kernel), by decide +kernel⟩
theorem tw_144 : Cond.methodLink RX0 37 yX0_takes ∈ lw_gd := List.mem_filter.mpr ⟨List.mem_of_getElem? (i := 144) (by decide +kernel), by decide +kernel⟩
theorem tw_145 : Cond.instanceMethod yX0_takes ∈ lw_gd := List.mem_filter.mpr ⟨List.mem_of_getElem? (i := 145) (by decide +kernel), by decide +kernel⟩
theorem tw_146 : Cond.selects RX0 yX0_takes yX0_takes ∈ lw_gd := List.mem_filter.mpr ⟨List.mem_of_getElem? (i := 146) (by decide +kernel), by decide +kernel⟩
theorem tw_147 : Cond.code yX0_takes cX0_takes 4 (some .boolean) ∈ lw_gd := List.mem_filter.mpr ⟨List.mem_of_getElem? (i := 147) (by decide +kernel), by decide +kernel⟩
theorem tw_148 : Cond.methodLink RX0 40 yX0_rest ∈ lw_gd := List.mem_filter.mpr ⟨List.mem_of_getElem? (i := 148) (by decide +kernel), by decide +kernel⟩
theorem tw_149 : Cond.instanceMethod yX0_rest ∈ lw_gd := List.mem_filter.mpr ⟨List.mem_of_getElem? (i := 149) (by decide +kernel), by decide +kernel⟩
theorem tw_150 : Cond.selects RX0 yX0_rest yX0_rest ∈ lw_gd := List.mem_filter.mpr ⟨List.mem_of_getElem? (i := 150) (by decide +kernel), by decide +kernel⟩
theorem tw_151 : Cond.code yX0_rest cX0_rest 4 (some .int) ∈ lw_gd := List.mem_filter.mpr ⟨List.mem_of_getElem? (i := 151) (by decide +kernel), by decide +kernel⟩
theorem tw_152 : Cond.methodLink RX0 47 Lib.Math.min.name ∈ lw_gd := List.mem_filter.mpr ⟨List.mem_of_getElem? (i := 152) (by decide +kernel), by decide +kernel⟩
theorem tw_153 : Cond.static Lib.Math.min.name ∈ lw_gd := List.mem_filter.mpr ⟨List.mem_of_getElem? (i := 153) (by decide +kernel), by decide +kernel⟩
theorem tw_154 : Cond.code Lib.Math.min.name prog_7_method_69_code 2 (some .int) ∈ lw_gd := List.mem_filter.mpr ⟨List.mem_of_getElem? (i := 154) (by decide +kernel), by decide +kernel⟩
theorem tw_155 : Cond.methodLink RX0 44 yX0_way ∈ lw_gd := List.mem_filter.mpr ⟨List.mem_of_getElem? (i := 155) (by decide +kernel), by decide +kernel⟩
theorem tw_156 : Cond.instanceMethod yX0_way ∈ lw_gd := List.mem_filter.mpr ⟨List.mem_of_getElem? (i := 156) (by decide +kernel), by decide +kernel⟩
theorem tw_157 : Cond.selects RX0 yX0_way yX0_way ∈ lw_gd := List.mem_filter.mpr ⟨List.mem_of_getElem? (i := 157) (by decide +kernel), by decide +kernel⟩
theorem tw_158 : Cond.code yX0_way cX0_way 5 (some .int) ∈ lw_gd := List.mem_filter.mpr ⟨List.mem_of_getElem? (i := 158) (by decide +kernel), by decide +kernel⟩
theorem tw_159 : Cond.methodLink RX2 63 yX2_has ∈ lw_gd := List.mem_filter.mpr ⟨List.mem_of_getElem? (i := 159) (by decide +kernel), by decide +kernel⟩
theorem tw_160 : Cond.methodLink RX2 69 yX0_rest ∈ lw_gd := List.mem_filter.mpr ⟨List.mem_of_getElem? (i := 160) (by decide +kernel), by decide +kernel⟩
theorem tw_161 : Cond.methodLink RX2 72 yX1_become ∈ lw_gd := List.mem_filter.mpr ⟨List.mem_of_getElem? (i := 161) (by decide +kernel), by decide +kernel⟩
theorem tw_162 : Cond.instanceMethod yX1_become ∈ lw_gd := List.mem_filter.mpr ⟨List.mem_of_getElem? (i := 162) (by decide +kernel), by decide +kernel⟩
theorem tw_163 : Cond.selects RX1 yX1_become yX1_become ∈ lw_gd := List.mem_filter.mpr ⟨List.mem_of_getElem? (i := 163) (by decide +kernel), by decide +kernel⟩
theorem tw_164 : Cond.code yX1_become cX1_become 4 none ∈ lw_gd := List.mem_filter.mpr ⟨List.mem_of_getElem? (i := 164) (by decide +kernel), by decide +kernel⟩
theorem tw_165 : Cond.methodLink RX1 29 yX1_append ∈ lw_gd := List.mem_filter.mpr ⟨List.mem_of_getElem? (i := 165) (by decide +kernel), by decide +kernel⟩
theorem tw_166 : Cond.methodLink RL 33 yX2_beside ∈ lw_gd := List.mem_filter.mpr ⟨List.mem_of_getElem? (i := 166) (by decide +kernel), by decide +kernel⟩
theorem tw_167 : Cond.instanceMethod yX2_beside ∈ lw_gd := List.mem_filter.mpr ⟨List.mem_of_getElem? (i := 167) (by decide +kernel), by decide +kernel⟩
theorem tw_168 : Cond.selects RX2 yX2_beside yX2_beside ∈ lw_gd := List.mem_filter.mpr ⟨List.mem_of_getElem? (i := 168) (by decide +kernel), by decide +kernel⟩
theorem tw_169 : Cond.code yX2_beside cX2_beside 6 (some .int) ∈ lw_gd := List.mem_filter.mpr ⟨List.mem_of_getElem? (i := 169) (by decide +kernel), by decide +kernel⟩
theorem tw_170 : Cond.methodLink RX2 76 yX2_draftPacked ∈ lw_gd := List.mem_filter.mpr ⟨List.mem_of_getElem? (i := 170) (by decide +kernel), by decide +kernel⟩
theorem tw_171 : Cond.privateMethod yX2_draftPacked ∈ lw_tbl := List.mem_of_getElem? (i := 171) (by decide +kernel)
theorem tw_172 : Cond.instanceMethod yX2_draftPacked ∈ lw_gd := List.mem_filter.mpr ⟨List.mem_of_getElem? (i := 172) (by decide +kernel), by decide +kernel⟩
theorem tw_173 : Cond.code yX2_draftPacked cX2_draftPacked 6 none ∈ lw_gd := List.mem_filter.mpr ⟨List.mem_of_getElem? (i := 173) (by decide +kernel), by decide +kernel⟩
theorem tw_174 : Cond.methodLink RX2 80 yX1_met ∈ lw_gd := List.mem_filter.mpr ⟨List.mem_of_getElem? (i := 174) (by decide +kernel), by decide +kernel⟩
theorem tw_175 : Cond.instanceMethod yX1_met ∈ lw_gd := List.mem_filter.mpr ⟨List.mem_of_getElem? (i := 175) (by decide +kernel), by decide +kernel⟩
theorem tw_176 : Cond.selects RX1 yX1_met yX1_met ∈ lw_gd := List.mem_filter.mpr ⟨List.mem_of_getElem? (i := 176) (by decide +kernel), by decide +kernel⟩
theorem tw_177 : Cond.code yX1_met cX1_met 3 (some .int) ∈ lw_gd := List.mem_filter.mpr ⟨List.mem_of_getElem? (i := 177) (by decide +kernel), by decide +kernel⟩
theorem tw_178 : Cond.methodLink RX2 111 yX2_packed ∈ lw_gd := List.mem_filter.mpr ⟨List.mem_of_getElem? (i := 178) (by decide +kernel), by decide +kernel⟩
theorem tw_179 : Cond.static yX2_packed ∈ lw_gd := List.mem_filter.mpr ⟨List.mem_of_getElem? (i := 179) (by decide +kernel), by decide +kernel⟩
theorem tw_180 : Cond.code yX2_packed cX2_packed 4 (some .int) ∈ lw_gd := List.mem_filter.mpr ⟨List.mem_of_getElem? (i := 180) (by decide +kernel), by decide +kernel⟩
theorem tw_181 : Cond.methodLink RX2 84 yJ6_bitCount ∈ lw_gd := List.mem_filter.mpr ⟨List.mem_of_getElem? (i := 181) (by decide +kernel), by decide +kernel⟩
theorem tw_182 : Cond.static yJ6_bitCount ∈ lw_gd := List.mem_filter.mpr ⟨List.mem_of_getElem? (i := 182) (by decide +kernel), by decide +kernel⟩
theorem tw_183 : Cond.code yJ6_bitCount cJ6_bitCount 1 (some .int) ∈ lw_gd := List.mem_filter.mpr ⟨List.mem_of_getElem? (i := 183) (by decide +kernel), by decide +kernel⟩
theorem tw_184 : Cond.constant RJ6 265 (1431655765 : Int32) ∈ lw_gd := List.mem_filter.mpr ⟨List.mem_of_getElem? (i := 184) (by decide +kernel), by decide +kernel⟩
theorem tw_185 : Cond.constant RJ6 266 (858993459 : Int32) ∈ lw_gd := List.mem_filter.mpr ⟨List.mem_of_getElem? (i := 185) (by decide +kernel), by decide +kernel⟩
theorem tw_186 : Cond.constant RJ6 267 (252645135 : Int32) ∈ lw_gd := List.mem_filter.mpr ⟨List.mem_of_getElem? (i := 186) (by decide +kernel), by decide +kernel⟩
theorem tw_187 : Cond.methodLink RL 37 yX2_edges ∈ lw_gd := List.mem_filter.mpr ⟨List.mem_of_getElem? (i := 187) (by decide +kernel), by decide +kernel⟩
theorem tw_188 : Cond.instanceMethod yX2_edges ∈ lw_gd := List.mem_filter.mpr ⟨List.mem_of_getElem? (i := 188) (by decide +kernel), by decide +kernel⟩
theorem tw_189 : Cond.selects RX2 yX2_edges yX2_edges ∈ lw_gd := List.mem_filter.mpr ⟨List.mem_of_getElem? (i := 189) (by decide +kernel), by decide +kernel⟩
theorem tw_190 : Cond.code yX2_edges cX2_edges 2 (some .int) ∈ lw_gd := List.mem_filter.mpr ⟨List.mem_of_getElem? (i := 190) (by decide +kernel), by decide +kernel⟩
theorem tw_191 : Cond.methodLink RL 42 yX2_weight ∈ lw_gd := List.mem_filter.mpr ⟨List.mem_of_getElem? (i := 191) (by decide +kernel), by decide +kernel⟩
theorem tw_192 : Cond.instanceMethod yX2_weight ∈ lw_gd := List.mem_filter.mpr ⟨List.mem_of_getElem? (i := 192) (by decide +kernel), by decide +kernel⟩
theorem tw_193 : Cond.selects RX2 yX2_weight yX2_weight ∈ lw_gd := List.mem_filter.mpr ⟨List.mem_of_getElem? (i := 193) (by decide +kernel), by decide +kernel⟩
theorem tw_194 : Cond.code yX2_weight cX2_weight 3 (some .int) ∈ lw_gd := List.mem_filter.mpr ⟨List.mem_of_getElem? (i := 194) (by decide +kernel), by decide +kernel⟩
theorem tw_195 : Cond.methodLink RL 47 yX2_rank ∈ lw_gd := List.mem_filter.mpr ⟨List.mem_of_getElem? (i := 195) (by decide +kernel), by decide +kernel⟩
theorem tw_196 : Cond.instanceMethod yX2_rank ∈ lw_gd := List.mem_filter.mpr ⟨List.mem_of_getElem? (i := 196) (by decide +kernel), by decide +kernel⟩
theorem tw_197 : Cond.selects RX2 yX2_rank yX2_rank ∈ lw_gd := List.mem_filter.mpr ⟨List.mem_of_getElem? (i := 197) (by decide +kernel), by decide +kernel⟩
theorem tw_198 : Cond.code yX2_rank cX2_rank 3 (some .int) ∈ lw_gd := List.mem_filter.mpr ⟨List.mem_of_getElem? (i := 198) (by decide +kernel), by decide +kernel⟩
theorem tw_199 : Cond.methodLink RL 51 yX2_best ∈ lw_gd := List.mem_filter.mpr ⟨List.mem_of_getElem? (i := 199) (by decide +kernel), by decide +kernel⟩
theorem tw_200 : Cond.instanceMethod yX2_best ∈ lw_gd := List.mem_filter.mpr ⟨List.mem_of_getElem? (i := 200) (by decide +kernel), by decide +kernel⟩
theorem tw_201 : Cond.selects RX2 yX2_best yX2_best ∈ lw_gd := List.mem_filter.mpr ⟨List.mem_of_getElem? (i := 201) (by decide +kernel), by decide +kernel⟩
theorem tw_202 : Cond.code yX2_best cX2_best 7 (some .int) ∈ lw_gd := List.mem_filter.mpr ⟨List.mem_of_getElem? (i := 202) (by decide +kernel), by decide +kernel⟩
theorem tw_203 : Cond.methodLink RX2 92 yX0_clear ∈ lw_gd := List.mem_filter.mpr ⟨List.mem_of_getElem? (i := 203) (by decide +kernel), by decide +kernel⟩
theorem tw_204 : Cond.methodLink RX2 95 yX1_heaviest ∈ lw_gd := List.mem_filter.mpr ⟨List.mem_of_getElem? (i := 204) (by decide +kernel), by decide +kernel⟩
theorem tw_205 : Cond.instanceMethod yX1_heaviest ∈ lw_gd := List.mem_filter.mpr ⟨List.mem_of_getElem? (i := 205) (by decide +kernel), by decide +kernel⟩
theorem tw_206 : Cond.selects RX1 yX1_heaviest yX1_heaviest ∈ lw_gd := List.mem_filter.mpr ⟨List.mem_of_getElem? (i := 206) (by decide +kernel), by decide +kernel⟩
theorem tw_207 : Cond.code yX1_heaviest cX1_heaviest 5 (some .int) ∈ lw_gd := List.mem_filter.mpr ⟨List.mem_of_getElem? (i := 207) (by decide +kernel), by decide +kernel⟩
theorem tw_208 : Cond.methodLinkNest RX1 33 yX2_has RX2 ∈ lw_tbl := List.mem_of_getElem? (i := 208) (by decide +kernel)
theorem tw_209 : Cond.methodLink RX2 98 yX0_takes ∈ lw_gd := List.mem_filter.mpr ⟨List.mem_of_getElem? (i := 209) (by decide +kernel), by decide +kernel⟩
theorem tw_210 : Cond.methodLink RL 55 yX2_common ∈ lw_gd := List.mem_filter.mpr ⟨List.mem_of_getElem? (i := 210) (by decide +kernel), by decide +kernel⟩
theorem tw_211 : Cond.instanceMethod yX2_common ∈ lw_gd := List.mem_filter.mpr ⟨List.mem_of_getElem? (i := 211) (by decide +kernel), by decide +kernel⟩
theorem tw_212 : Cond.selects RX2 yX2_common yX2_common ∈ lw_gd := List.mem_filter.mpr ⟨List.mem_of_getElem? (i := 212) (by decide +kernel), by decide +kernel⟩
theorem tw_213 : Cond.code yX2_common cX2_common 3 (some .int) ∈ lw_gd := List.mem_filter.mpr ⟨List.mem_of_getElem? (i := 213) (by decide +kernel), by decide +kernel⟩
theorem tw_214 : Cond.methodLink RX2 101 yX2_areAlike ∈ lw_gd := List.mem_filter.mpr ⟨List.mem_of_getElem? (i := 214) (by decide +kernel), by decide +kernel⟩
theorem tw_215 : Cond.privateMethod yX2_areAlike ∈ lw_tbl := List.mem_of_getElem? (i := 215) (by decide +kernel)
theorem tw_216 : Cond.instanceMethod yX2_areAlike ∈ lw_gd := List.mem_filter.mpr ⟨List.mem_of_getElem? (i := 216) (by decide +kernel), by decide +kernel⟩
theorem tw_217 : Cond.code yX2_areAlike cX2_areAlike 3 (some .boolean) ∈ lw_gd := List.mem_filter.mpr ⟨List.mem_of_getElem? (i := 217) (by decide +kernel), by decide +kernel⟩
theorem tw_218 : Cond.methodLink RX2 104 yX2_largestInBoth ∈ lw_gd := List.mem_filter.mpr ⟨List.mem_of_getElem? (i := 218) (by decide +kernel), by decide +kernel⟩
theorem tw_219 : Cond.privateMethod yX2_largestInBoth ∈ lw_tbl := List.mem_of_getElem? (i := 219) (by decide +kernel)
theorem tw_220 : Cond.instanceMethod yX2_largestInBoth ∈ lw_gd := List.mem_filter.mpr ⟨List.mem_of_getElem? (i := 220) (by decide +kernel), by decide +kernel⟩
theorem tw_221 : Cond.code yX2_largestInBoth cX2_largestInBoth 4 (some .int) ∈ lw_gd := List.mem_filter.mpr ⟨List.mem_of_getElem? (i := 221) (by decide +kernel), by decide +kernel⟩
theorem tw_222 : Cond.methodLink RX2 115 Lib.Math.min.name ∈ lw_gd := List.mem_filter.mpr ⟨List.mem_of_getElem? (i := 222) (by decide +kernel), by decide +kernel⟩
theorem tw_223 : Cond.methodLink RX2 120 yX2_searched ∈ lw_gd := List.mem_filter.mpr ⟨List.mem_of_getElem? (i := 223) (by decide +kernel), by decide +kernel⟩
theorem tw_224 : Cond.privateMethod yX2_searched ∈ lw_tbl := List.mem_of_getElem? (i := 224) (by decide +kernel)
theorem tw_225 : Cond.instanceMethod yX2_searched ∈ lw_gd := List.mem_filter.mpr ⟨List.mem_of_getElem? (i := 225) (by decide +kernel), by decide +kernel⟩
theorem tw_226 : Cond.code yX2_searched cX2_searched 9 (some .int) ∈ lw_gd := List.mem_filter.mpr ⟨List.mem_of_getElem? (i := 226) (by decide +kernel), by decide +kernel⟩
theorem tw_227 : Cond.methodLink RX2 124 yX0_drop ∈ lw_gd := List.mem_filter.mpr ⟨List.mem_of_getElem? (i := 227) (by decide +kernel), by decide +kernel⟩
theorem tw_228 : Cond.instanceMethod yX0_drop ∈ lw_gd := List.mem_filter.mpr ⟨List.mem_of_getElem? (i := 228) (by decide +kernel), by decide +kernel⟩
theorem tw_229 : Cond.selects RX0 yX0_drop yX0_drop ∈ lw_gd := List.mem_filter.mpr ⟨List.mem_of_getElem? (i := 229) (by decide +kernel), by decide +kernel⟩
theorem tw_230 : Cond.code yX0_drop cX0_drop 1 none ∈ lw_gd := List.mem_filter.mpr ⟨List.mem_of_getElem? (i := 230) (by decide +kernel), by decide +kernel⟩
theorem tw_231 : Cond.methodLink RL 59 yX2_cover ∈ lw_gd := List.mem_filter.mpr ⟨List.mem_of_getElem? (i := 231) (by decide +kernel), by decide +kernel⟩
theorem tw_232 : Cond.instanceMethod yX2_cover ∈ lw_gd := List.mem_filter.mpr ⟨List.mem_of_getElem? (i := 232) (by decide +kernel), by decide +kernel⟩
theorem tw_233 : Cond.selects RX2 yX2_cover yX2_cover ∈ lw_gd := List.mem_filter.mpr ⟨List.mem_of_getElem? (i := 233) (by decide +kernel), by decide +kernel⟩
theorem tw_234 : Cond.code yX2_cover cX2_cover 3 (some .int) ∈ lw_gd := List.mem_filter.mpr ⟨List.mem_of_getElem? (i := 234) (by decide +kernel), by decide +kernel⟩
theorem tw_235 : Cond.methodLink RX2 108 yX2_leastCover ∈ lw_gd := List.mem_filter.mpr ⟨List.mem_of_getElem? (i := 235) (by decide +kernel), by decide +kernel⟩
theorem tw_236 : Cond.privateMethod yX2_leastCover ∈ lw_tbl := List.mem_of_getElem? (i := 236) (by decide +kernel)
theorem tw_237 : Cond.instanceMethod yX2_leastCover ∈ lw_gd := List.mem_filter.mpr ⟨List.mem_of_getElem? (i := 237) (by decide +kernel), by decide +kernel⟩
theorem tw_238 : Cond.code yX2_leastCover cX2_leastCover 6 (some .int) ∈ lw_gd := List.mem_filter.mpr ⟨List.mem_of_getElem? (i := 238) (by decide +kernel), by decide +kernel⟩
theorem tw_239 : Cond.methodLink RX2 127 yX2_grown ∈ lw_gd := List.mem_filter.mpr ⟨List.mem_of_getElem? (i := 239) (by decide +kernel), by decide +kernel⟩
theorem tw_240 : Cond.privateMethod yX2_grown ∈ lw_tbl := List.mem_of_getElem? (i := 240) (by decide +kernel)
theorem tw_241 : Cond.instanceMethod yX2_grown ∈ lw_gd := List.mem_filter.mpr ⟨List.mem_of_getElem? (i := 241) (by decide +kernel), by decide +kernel⟩
theorem tw_242 : Cond.code yX2_grown cX2_grown 7 (some .int) ∈ lw_gd := List.mem_filter.mpr ⟨List.mem_of_getElem? (i := 242) (by decide +kernel), by decide +kernel⟩
theorem tw_243 : Cond.methodLink RX2 131 yX0_way ∈ lw_gd := List.mem_filter.mpr ⟨List.mem_of_getElem? (i := 243) (by decide +kernel), by decide +kernel⟩
theorem tw_244 : Cond.classLink RL 10 RX3 ∈ lw_gd := List.mem_filter.mpr ⟨List.mem_of_getElem? (i := 244) (by decide +kernel), by decide +kernel⟩
theorem tw_245 : Cond.instantiable RX3 10 ∈ lw_gd := List.mem_filter.mpr ⟨List.mem_of_getElem? (i := 245) (by decide +kernel), by decide +kernel⟩
theorem tw_246 : Cond.methodLink RL 12 yX3_init ∈ lw_gd := List.mem_filter.mpr ⟨List.mem_of_getElem? (i := 246) (by decide +kernel), by decide +kernel⟩
theorem tw_247 : Cond.instanceMethod yX3_init ∈ lw_gd := List.mem_filter.mpr ⟨List.mem_of_getElem? (i := 247) (by decide +kernel), by decide +kernel⟩
theorem tw_248 : Cond.code yX3_init cX3_init 2 none ∈ lw_gd := List.mem_filter.mpr ⟨List.mem_of_getElem? (i := 248) (by decide +kernel), by decide +kernel⟩
theorem tw_249 : Cond.methodLink RX3 1 Lib.objectInit ∈ lw_gd := List.mem_filter.mpr ⟨List.mem_of_getElem? (i := 249) (by decide +kernel), by decide +kernel⟩
theorem tw_250 : Cond.fieldLink RX3 7 RX3 "vertices" "[I" ∈ lw_gd := List.mem_filter.mpr ⟨List.mem_of_getElem? (i := 250) (by decide +kernel), by decide +kernel⟩
theorem tw_251 : Cond.fieldLink RX3 13 RX3 "counts" "[I" ∈ lw_gd := List.mem_filter.mpr ⟨List.mem_of_getElem? (i := 251) (by decide +kernel), by decide +kernel⟩
theorem tw_252 : Cond.fieldLink RX3 16 RX3 "open" "[Z" ∈ lw_gd := List.mem_filter.mpr ⟨List.mem_of_getElem? (i := 252) (by decide +kernel), by decide +kernel⟩
theorem tw_253 : Cond.fieldLink RX3 20 RX3 "ends" "[I" ∈ lw_gd := List.mem_filter.mpr ⟨List.mem_of_getElem? (i := 253) (by decide +kernel), by decide +kernel⟩
theorem tw_254 : Cond.fieldLink RX3 23 RX3 "weights" "[I" ∈ lw_gd := List.mem_filter.mpr ⟨List.mem_of_getElem? (i := 254) (by decide +kernel), by decide +kernel⟩
theorem tw_255 : Cond.fieldLink RX3 26 RX3 "made" "[I" ∈ lw_gd := List.mem_filter.mpr ⟨List.mem_of_getElem? (i := 255) (by decide +kernel), by decide +kernel⟩
theorem tw_256 : Cond.fieldLink RX3 54 RX3 "madeCount" "I" ∈ lw_gd := List.mem_filter.mpr ⟨List.mem_of_getElem? (i := 256) (by decide +kernel), by decide +kernel⟩
theorem tw_257 : Cond.fieldLink RX3 29 RX3 "names" "[I" ∈ lw_gd := List.mem_filter.mpr ⟨List.mem_of_getElem? (i := 257) (by decide +kernel), by decide +kernel⟩
theorem tw_258 : Cond.fieldLink RX3 32 RX3 "first" "[B" ∈ lw_gd := List.mem_filter.mpr ⟨List.mem_of_getElem? (i := 258) (by decide +kernel), by decide +kernel⟩
theorem tw_259 : Cond.fieldLink RX3 36 RX3 "second" "[B" ∈ lw_gd := List.mem_filter.mpr ⟨List.mem_of_getElem? (i := 259) (by decide +kernel), by decide +kernel⟩
theorem tw_260 : Cond.laysFinal RX3 RX3 "vertices" "[I" ∈ lw_gd := List.mem_filter.mpr ⟨List.mem_of_getElem? (i := 260) (by decide +kernel), by decide +kernel⟩
theorem tw_262 : Cond.laysFinal RX3 RX3 "counts" "[I" ∈ lw_gd := List.mem_filter.mpr ⟨List.mem_of_getElem? (i := 262) (by decide +kernel), by decide +kernel⟩
theorem tw_264 : Cond.laysFinal RX3 RX3 "open" "[Z" ∈ lw_gd := List.mem_filter.mpr ⟨List.mem_of_getElem? (i := 264) (by decide +kernel), by decide +kernel⟩
theorem tw_266 : Cond.laysFinal RX3 RX3 "ends" "[I" ∈ lw_gd := List.mem_filter.mpr ⟨List.mem_of_getElem? (i := 266) (by decide +kernel), by decide +kernel⟩
theorem tw_268 : Cond.laysFinal RX3 RX3 "weights" "[I" ∈ lw_gd := List.mem_filter.mpr ⟨List.mem_of_getElem? (i := 268) (by decide +kernel), by decide +kernel⟩
theorem tw_270 : Cond.laysFinal RX3 RX3 "made" "[I" ∈ lw_gd := List.mem_filter.mpr ⟨List.mem_of_getElem? (i := 270) (by decide +kernel), by decide +kernel⟩
theorem tw_272 : Cond.lays RX3 RX3 "madeCount" "I" ∈ lw_gd := List.mem_filter.mpr ⟨List.mem_of_getElem? (i := 272) (by decide +kernel), by decide +kernel⟩
theorem tw_274 : Cond.laysFinal RX3 RX3 "names" "[I" ∈ lw_gd := List.mem_filter.mpr ⟨List.mem_of_getElem? (i := 274) (by decide +kernel), by decide +kernel⟩
theorem tw_276 : Cond.laysFinal RX3 RX3 "first" "[B" ∈ lw_gd := List.mem_filter.mpr ⟨List.mem_of_getElem? (i := 276) (by decide +kernel), by decide +kernel⟩
theorem tw_278 : Cond.laysFinal RX3 RX3 "second" "[B" ∈ lw_gd := List.mem_filter.mpr ⟨List.mem_of_getElem? (i := 278) (by decide +kernel), by decide +kernel⟩
theorem tw_281 : Cond.arrayClass .boolean ∈ lw_gd := List.mem_filter.mpr ⟨List.mem_of_getElem? (i := 281) (by decide +kernel), by decide +kernel⟩
theorem tw_282 : Cond.arrayClass .byte ∈ lw_gd := List.mem_filter.mpr ⟨List.mem_of_getElem? (i := 282) (by decide +kernel), by decide +kernel⟩
theorem tw_283 : Cond.methodLink RL 17 yX3_begin ∈ lw_gd := List.mem_filter.mpr ⟨List.mem_of_getElem? (i := 283) (by decide +kernel), by decide +kernel⟩
theorem tw_284 : Cond.instanceMethod yX3_begin ∈ lw_gd := List.mem_filter.mpr ⟨List.mem_of_getElem? (i := 284) (by decide +kernel), by decide +kernel⟩
theorem tw_285 : Cond.selects RX3 yX3_begin yX3_begin ∈ lw_gd := List.mem_filter.mpr ⟨List.mem_of_getElem? (i := 285) (by decide +kernel), by decide +kernel⟩
theorem tw_286 : Cond.code yX3_begin cX3_begin 3 (some .boolean) ∈ lw_gd := List.mem_filter.mpr ⟨List.mem_of_getElem? (i := 286) (by decide +kernel), by decide +kernel⟩
theorem tw_287 : Cond.methodLink RX3 39 yX3_isGraph ∈ lw_gd := List.mem_filter.mpr ⟨List.mem_of_getElem? (i := 287) (by decide +kernel), by decide +kernel⟩
theorem tw_288 : Cond.static yX3_isGraph ∈ lw_gd := List.mem_filter.mpr ⟨List.mem_of_getElem? (i := 288) (by decide +kernel), by decide +kernel⟩
theorem tw_289 : Cond.code yX3_isGraph cX3_isGraph 1 (some .boolean) ∈ lw_gd := List.mem_filter.mpr ⟨List.mem_of_getElem? (i := 289) (by decide +kernel), by decide +kernel⟩
theorem tw_290 : Cond.methodLink RL 22 yX3_add ∈ lw_gd := List.mem_filter.mpr ⟨List.mem_of_getElem? (i := 290) (by decide +kernel), by decide +kernel⟩
theorem tw_291 : Cond.instanceMethod yX3_add ∈ lw_gd := List.mem_filter.mpr ⟨List.mem_of_getElem? (i := 291) (by decide +kernel), by decide +kernel⟩
theorem tw_292 : Cond.selects RX3 yX3_add yX3_add ∈ lw_gd := List.mem_filter.mpr ⟨List.mem_of_getElem? (i := 292) (by decide +kernel), by decide +kernel⟩
theorem tw_293 : Cond.code yX3_add cX3_add 5 (some .int) ∈ lw_gd := List.mem_filter.mpr ⟨List.mem_of_getElem? (i := 293) (by decide +kernel), by decide +kernel⟩
theorem tw_294 : Cond.methodLink RL 27 yX3_weigh ∈ lw_gd := List.mem_filter.mpr ⟨List.mem_of_getElem? (i := 294) (by decide +kernel), by decide +kernel⟩
theorem tw_295 : Cond.instanceMethod yX3_weigh ∈ lw_gd := List.mem_filter.mpr ⟨List.mem_of_getElem? (i := 295) (by decide +kernel), by decide +kernel⟩
theorem tw_296 : Cond.selects RX3 yX3_weigh yX3_weigh ∈ lw_gd := List.mem_filter.mpr ⟨List.mem_of_getElem? (i := 296) (by decide +kernel), by decide +kernel⟩
theorem tw_297 : Cond.code yX3_weigh cX3_weigh 4 (some .boolean) ∈ lw_gd := List.mem_filter.mpr ⟨List.mem_of_getElem? (i := 297) (by decide +kernel), by decide +kernel⟩
theorem tw_298 : Cond.methodLink RX3 50 yX3_isEdge ∈ lw_gd := List.mem_filter.mpr ⟨List.mem_of_getElem? (i := 298) (by decide +kernel), by decide +kernel⟩
theorem tw_299 : Cond.privateMethod yX3_isEdge ∈ lw_tbl := List.mem_of_getElem? (i := 299) (by decide +kernel)
theorem tw_300 : Cond.instanceMethod yX3_isEdge ∈ lw_gd := List.mem_filter.mpr ⟨List.mem_of_getElem? (i := 300) (by decide +kernel), by decide +kernel⟩
theorem tw_301 : Cond.code yX3_isEdge cX3_isEdge 3 (some .boolean) ∈ lw_gd := List.mem_filter.mpr ⟨List.mem_of_getElem? (i := 301) (by decide +kernel), by decide +kernel⟩
theorem tw_302 : Cond.methodLink RL 32 yX3_leave ∈ lw_gd := List.mem_filter.mpr ⟨List.mem_of_getElem? (i := 302) (by decide +kernel), by decide +kernel⟩
theorem tw_303 : Cond.instanceMethod yX3_leave ∈ lw_gd := List.mem_filter.mpr ⟨List.mem_of_getElem? (i := 303) (by decide +kernel), by decide +kernel⟩
theorem tw_304 : Cond.selects RX3 yX3_leave yX3_leave ∈ lw_gd := List.mem_filter.mpr ⟨List.mem_of_getElem? (i := 304) (by decide +kernel), by decide +kernel⟩
theorem tw_305 : Cond.code yX3_leave cX3_leave 6 (some .int) ∈ lw_gd := List.mem_filter.mpr ⟨List.mem_of_getElem? (i := 305) (by decide +kernel), by decide +kernel⟩
theorem tw_306 : Cond.methodLink RX3 58 yX3_isSet ∈ lw_gd := List.mem_filter.mpr ⟨List.mem_of_getElem? (i := 306) (by decide +kernel), by decide +kernel⟩
theorem tw_307 : Cond.privateMethod yX3_isSet ∈ lw_tbl := List.mem_of_getElem? (i := 307) (by decide +kernel)
theorem tw_308 : Cond.instanceMethod yX3_isSet ∈ lw_gd := List.mem_filter.mpr ⟨List.mem_of_getElem? (i := 308) (by decide +kernel), by decide +kernel⟩
theorem tw_309 : Cond.code yX3_isSet cX3_isSet 3 (some .boolean) ∈ lw_gd := List.mem_filter.mpr ⟨List.mem_of_getElem? (i := 309) (by decide +kernel), by decide +kernel⟩
theorem tw_310 : Cond.methodLink RX3 43 yX3_whole ∈ lw_gd := List.mem_filter.mpr ⟨List.mem_of_getElem? (i := 310) (by decide +kernel), by decide +kernel⟩
theorem tw_311 : Cond.privateMethod yX3_whole ∈ lw_tbl := List.mem_of_getElem? (i := 311) (by decide +kernel)
theorem tw_312 : Cond.instanceMethod yX3_whole ∈ lw_gd := List.mem_filter.mpr ⟨List.mem_of_getElem? (i := 312) (by decide +kernel), by decide +kernel⟩
theorem tw_313 : Cond.code yX3_whole cX3_whole 2 (some .int) ∈ lw_gd := List.mem_filter.mpr ⟨List.mem_of_getElem? (i := 313) (by decide +kernel), by decide +kernel⟩
theorem tw_314 : Cond.methodLink RX3 61 yX3_join ∈ lw_gd := List.mem_filter.mpr ⟨List.mem_of_getElem? (i := 314) (by decide +kernel), by decide +kernel⟩
theorem tw_315 : Cond.privateMethod yX3_join ∈ lw_tbl := List.mem_of_getElem? (i := 315) (by decide +kernel)
theorem tw_316 : Cond.instanceMethod yX3_join ∈ lw_gd := List.mem_filter.mpr ⟨List.mem_of_getElem? (i := 316) (by decide +kernel), by decide +kernel⟩
theorem tw_317 : Cond.code yX3_join cX3_join 8 (some .int) ∈ lw_gd := List.mem_filter.mpr ⟨List.mem_of_getElem? (i := 317) (by decide +kernel), by decide +kernel⟩
theorem tw_318 : Cond.methodLink RX3 65 yX3_lay ∈ lw_gd := List.mem_filter.mpr ⟨List.mem_of_getElem? (i := 318) (by decide +kernel), by decide +kernel⟩
theorem tw_319 : Cond.privateMethod yX3_lay ∈ lw_tbl := List.mem_of_getElem? (i := 319) (by decide +kernel)
theorem tw_320 : Cond.instanceMethod yX3_lay ∈ lw_gd := List.mem_filter.mpr ⟨List.mem_of_getElem? (i := 320) (by decide +kernel), by decide +kernel⟩
theorem tw_321 : Cond.code yX3_lay cX3_lay 3 none ∈ lw_gd := List.mem_filter.mpr ⟨List.mem_of_getElem? (i := 321) (by decide +kernel), by decide +kernel⟩
theorem tw_322 : Cond.methodLink RX3 69 yX3_keep ∈ lw_gd := List.mem_filter.mpr ⟨List.mem_of_getElem? (i := 322) (by decide +kernel), by decide +kernel⟩
theorem tw_323 : Cond.privateMethod yX3_keep ∈ lw_tbl := List.mem_of_getElem? (i := 323) (by decide +kernel)
theorem tw_324 : Cond.instanceMethod yX3_keep ∈ lw_gd := List.mem_filter.mpr ⟨List.mem_of_getElem? (i := 324) (by decide +kernel), by decide +kernel⟩
theorem tw_325 : Cond.code yX3_keep cX3_keep 4 (some .int) ∈ lw_gd := List.mem_filter.mpr ⟨List.mem_of_getElem? (i := 325) (by decide +kernel), by decide +kernel⟩
theorem tw_326 : Cond.methodLink RL 36 yX3_beside ∈ lw_gd := List.mem_filter.mpr ⟨List.mem_of_getElem? (i := 326) (by decide +kernel), by decide +kernel⟩
theorem tw_327 : Cond.instanceMethod yX3_beside ∈ lw_gd := List.mem_filter.mpr ⟨List.mem_of_getElem? (i := 327) (by decide +kernel), by decide +kernel⟩
theorem tw_328 : Cond.selects RX3 yX3_beside yX3_beside ∈ lw_gd := List.mem_filter.mpr ⟨List.mem_of_getElem? (i := 328) (by decide +kernel), by decide +kernel⟩
theorem tw_329 : Cond.code yX3_beside cX3_beside 5 (some .int) ∈ lw_gd := List.mem_filter.mpr ⟨List.mem_of_getElem? (i := 329) (by decide +kernel), by decide +kernel⟩
theorem tw_330 : Cond.methodLink RX3 72 yX3_number ∈ lw_gd := List.mem_filter.mpr ⟨List.mem_of_getElem? (i := 330) (by decide +kernel), by decide +kernel⟩
theorem tw_331 : Cond.privateMethod yX3_number ∈ lw_tbl := List.mem_of_getElem? (i := 331) (by decide +kernel)
theorem tw_332 : Cond.instanceMethod yX3_number ∈ lw_gd := List.mem_filter.mpr ⟨List.mem_of_getElem? (i := 332) (by decide +kernel), by decide +kernel⟩
theorem tw_333 : Cond.code yX3_number cX3_number 6 (some .int) ∈ lw_gd := List.mem_filter.mpr ⟨List.mem_of_getElem? (i := 333) (by decide +kernel), by decide +kernel⟩
theorem tw_334 : Cond.methodLink RL 41 yX3_edges ∈ lw_gd := List.mem_filter.mpr ⟨List.mem_of_getElem? (i := 334) (by decide +kernel), by decide +kernel⟩
theorem tw_335 : Cond.instanceMethod yX3_edges ∈ lw_gd := List.mem_filter.mpr ⟨List.mem_of_getElem? (i := 335) (by decide +kernel), by decide +kernel⟩
theorem tw_336 : Cond.selects RX3 yX3_edges yX3_edges ∈ lw_gd := List.mem_filter.mpr ⟨List.mem_of_getElem? (i := 336) (by decide +kernel), by decide +kernel⟩
theorem tw_337 : Cond.code yX3_edges cX3_edges 2 (some .int) ∈ lw_gd := List.mem_filter.mpr ⟨List.mem_of_getElem? (i := 337) (by decide +kernel), by decide +kernel⟩
theorem tw_338 : Cond.methodLink RL 46 yX3_weight ∈ lw_gd := List.mem_filter.mpr ⟨List.mem_of_getElem? (i := 338) (by decide +kernel), by decide +kernel⟩
theorem tw_339 : Cond.instanceMethod yX3_weight ∈ lw_gd := List.mem_filter.mpr ⟨List.mem_of_getElem? (i := 339) (by decide +kernel), by decide +kernel⟩
theorem tw_340 : Cond.selects RX3 yX3_weight yX3_weight ∈ lw_gd := List.mem_filter.mpr ⟨List.mem_of_getElem? (i := 340) (by decide +kernel), by decide +kernel⟩
theorem tw_341 : Cond.code yX3_weight cX3_weight 3 (some .int) ∈ lw_gd := List.mem_filter.mpr ⟨List.mem_of_getElem? (i := 341) (by decide +kernel), by decide +kernel⟩
theorem tw_342 : Cond.methodLink RL 50 yX3_rank ∈ lw_gd := List.mem_filter.mpr ⟨List.mem_of_getElem? (i := 342) (by decide +kernel), by decide +kernel⟩
theorem tw_343 : Cond.instanceMethod yX3_rank ∈ lw_gd := List.mem_filter.mpr ⟨List.mem_of_getElem? (i := 343) (by decide +kernel), by decide +kernel⟩
theorem tw_344 : Cond.selects RX3 yX3_rank yX3_rank ∈ lw_gd := List.mem_filter.mpr ⟨List.mem_of_getElem? (i := 344) (by decide +kernel), by decide +kernel⟩
theorem tw_345 : Cond.code yX3_rank cX3_rank 3 (some .int) ∈ lw_gd := List.mem_filter.mpr ⟨List.mem_of_getElem? (i := 345) (by decide +kernel), by decide +kernel⟩
theorem tw_346 : Cond.methodLink RL 54 yX3_best ∈ lw_gd := List.mem_filter.mpr ⟨List.mem_of_getElem? (i := 346) (by decide +kernel), by decide +kernel⟩
theorem tw_347 : Cond.instanceMethod yX3_best ∈ lw_gd := List.mem_filter.mpr ⟨List.mem_of_getElem? (i := 347) (by decide +kernel), by decide +kernel⟩
theorem tw_348 : Cond.selects RX3 yX3_best yX3_best ∈ lw_gd := List.mem_filter.mpr ⟨List.mem_of_getElem? (i := 348) (by decide +kernel), by decide +kernel⟩
theorem tw_349 : Cond.code yX3_best cX3_best 8 (some .int) ∈ lw_gd := List.mem_filter.mpr ⟨List.mem_of_getElem? (i := 349) (by decide +kernel), by decide +kernel⟩
theorem tw_350 : Cond.methodLink RX3 75 yX3_measure ∈ lw_gd := List.mem_filter.mpr ⟨List.mem_of_getElem? (i := 350) (by decide +kernel), by decide +kernel⟩
theorem tw_351 : Cond.privateMethod yX3_measure ∈ lw_tbl := List.mem_of_getElem? (i := 351) (by decide +kernel)
theorem tw_352 : Cond.instanceMethod yX3_measure ∈ lw_gd := List.mem_filter.mpr ⟨List.mem_of_getElem? (i := 352) (by decide +kernel), by decide +kernel⟩
theorem tw_353 : Cond.code yX3_measure cX3_measure 4 none ∈ lw_gd := List.mem_filter.mpr ⟨List.mem_of_getElem? (i := 353) (by decide +kernel), by decide +kernel⟩
theorem tw_354 : Cond.methodLink RX3 47 yX3_size ∈ lw_gd := List.mem_filter.mpr ⟨List.mem_of_getElem? (i := 354) (by decide +kernel), by decide +kernel⟩
theorem tw_355 : Cond.static yX3_size ∈ lw_gd := List.mem_filter.mpr ⟨List.mem_of_getElem? (i := 355) (by decide +kernel), by decide +kernel⟩
theorem tw_356 : Cond.code yX3_size cX3_size 3 (some .int) ∈ lw_gd := List.mem_filter.mpr ⟨List.mem_of_getElem? (i := 356) (by decide +kernel), by decide +kernel⟩
theorem tw_357 : Cond.methodLink RX3 79 yX3_comesFirst ∈ lw_gd := List.mem_filter.mpr ⟨List.mem_of_getElem? (i := 357) (by decide +kernel), by decide +kernel⟩
theorem tw_358 : Cond.static yX3_comesFirst ∈ lw_gd := List.mem_filter.mpr ⟨List.mem_of_getElem? (i := 358) (by decide +kernel), by decide +kernel⟩
theorem tw_359 : Cond.code yX3_comesFirst cX3_comesFirst 3 (some .boolean) ∈ lw_gd := List.mem_filter.mpr ⟨List.mem_of_getElem? (i := 359) (by decide +kernel), by decide +kernel⟩
theorem tw_360 : Cond.methodLink RL 58 yX3_common ∈ lw_gd := List.mem_filter.mpr ⟨List.mem_of_getElem? (i := 360) (by decide +kernel), by decide +kernel⟩
theorem tw_361 : Cond.instanceMethod yX3_common ∈ lw_gd := List.mem_filter.mpr ⟨List.mem_of_getElem? (i := 361) (by decide +kernel), by decide +kernel⟩
theorem tw_362 : Cond.selects RX3 yX3_common yX3_common ∈ lw_gd := List.mem_filter.mpr ⟨List.mem_of_getElem? (i := 362) (by decide +kernel), by decide +kernel⟩
theorem tw_363 : Cond.code yX3_common cX3_common 3 (some .int) ∈ lw_gd := List.mem_filter.mpr ⟨List.mem_of_getElem? (i := 363) (by decide +kernel), by decide +kernel⟩
theorem tw_364 : Cond.methodLink RX3 82 yX3_areAlike ∈ lw_gd := List.mem_filter.mpr ⟨List.mem_of_getElem? (i := 364) (by decide +kernel), by decide +kernel⟩
theorem tw_365 : Cond.privateMethod yX3_areAlike ∈ lw_tbl := List.mem_of_getElem? (i := 365) (by decide +kernel)
theorem tw_366 : Cond.instanceMethod yX3_areAlike ∈ lw_gd := List.mem_filter.mpr ⟨List.mem_of_getElem? (i := 366) (by decide +kernel), by decide +kernel⟩
theorem tw_367 : Cond.code yX3_areAlike cX3_areAlike 3 (some .boolean) ∈ lw_gd := List.mem_filter.mpr ⟨List.mem_of_getElem? (i := 367) (by decide +kernel), by decide +kernel⟩
theorem tw_368 : Cond.methodLink RX3 85 yX3_commonOf ∈ lw_gd := List.mem_filter.mpr ⟨List.mem_of_getElem? (i := 368) (by decide +kernel), by decide +kernel⟩
theorem tw_369 : Cond.privateMethod yX3_commonOf ∈ lw_tbl := List.mem_of_getElem? (i := 369) (by decide +kernel)
theorem tw_370 : Cond.instanceMethod yX3_commonOf ∈ lw_gd := List.mem_filter.mpr ⟨List.mem_of_getElem? (i := 370) (by decide +kernel), by decide +kernel⟩
theorem tw_371 : Cond.code yX3_commonOf cX3_commonOf 7 (some .int) ∈ lw_gd := List.mem_filter.mpr ⟨List.mem_of_getElem? (i := 371) (by decide +kernel), by decide +kernel⟩
theorem tw_372 : Cond.methodLink RL 62 yX3_cover ∈ lw_gd := List.mem_filter.mpr ⟨List.mem_of_getElem? (i := 372) (by decide +kernel), by decide +kernel⟩
theorem tw_373 : Cond.instanceMethod yX3_cover ∈ lw_gd := List.mem_filter.mpr ⟨List.mem_of_getElem? (i := 373) (by decide +kernel), by decide +kernel⟩
theorem tw_374 : Cond.selects RX3 yX3_cover yX3_cover ∈ lw_gd := List.mem_filter.mpr ⟨List.mem_of_getElem? (i := 374) (by decide +kernel), by decide +kernel⟩
theorem tw_375 : Cond.code yX3_cover cX3_cover 7 (some .int) ∈ lw_gd := List.mem_filter.mpr ⟨List.mem_of_getElem? (i := 375) (by decide +kernel), by decide +kernel⟩
