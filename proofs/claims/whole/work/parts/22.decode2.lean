theorem dX3_isSet_20 : decode cX3_isSet 20 = .ok (.iconst 1, 1) := by decide +kernel
theorem dX3_isSet_21 : decode cX3_isSet 21 = .ok (.goto 4, 3) := by decide +kernel
theorem dX3_isSet_24 : decode cX3_isSet 24 = .ok (.iconst 0, 1) := by decide +kernel
theorem dX3_isSet_25 : decode cX3_isSet 25 = .ok (.ireturn, 1) := by decide +kernel
abbrev wsX3_isSet : List Cond := Cond.code yX3_isSet cX3_isSet 3 (some .boolean) :: lw_gd
theorem dX3_whole_0 : decode cX3_whole 0 = .ok (.iconst 1, 1) := by decide +kernel
theorem dX3_whole_1 : decode cX3_whole 1 = .ok (.aload_n 0, 1) := by decide +kernel
theorem dX3_whole_2 : decode cX3_whole 2 = .ok (.getfield 13, 3) := by decide +kernel
theorem dX3_whole_5 : decode cX3_whole 5 = .ok (.iload_n 1, 1) := by decide +kernel
theorem dX3_whole_6 : decode cX3_whole 6 = .ok (.iaload, 1) := by decide +kernel
theorem dX3_whole_7 : decode cX3_whole 7 = .ok (.ishl, 1) := by decide +kernel
theorem dX3_whole_8 : decode cX3_whole 8 = .ok (.iconst 1, 1) := by decide +kernel
theorem dX3_whole_9 : decode cX3_whole 9 = .ok (.isub, 1) := by decide +kernel
theorem dX3_whole_10 : decode cX3_whole 10 = .ok (.ireturn, 1) := by decide +kernel
abbrev wsX3_whole : List Cond := Cond.code yX3_whole cX3_whole 2 (some .int) :: lw_gd
theorem dX3_join_0 : decode cX3_join 0 = .ok (.iconst 0, 1) := by decide +kernel
theorem dX3_join_1 : decode cX3_join 1 = .ok (.istore_n 3, 1) := by decide +kernel
theorem dX3_join_2 : decode cX3_join 2 = .ok (.iload_n 3, 1) := by decide +kernel
theorem dX3_join_3 : decode cX3_join 3 = .ok (.bipush 32, 2) := by decide +kernel
theorem dX3_join_5 : decode cX3_join 5 = .ok (.if_icmp .ge 16, 3) := by decide +kernel
theorem dX3_join_8 : decode cX3_join 8 = .ok (.aload_n 0, 1) := by decide +kernel
theorem dX3_join_9 : decode cX3_join 9 = .ok (.getfield 29, 3) := by decide +kernel
theorem dX3_join_12 : decode cX3_join 12 = .ok (.iload_n 3, 1) := by decide +kernel
theorem dX3_join_13 : decode cX3_join 13 = .ok (.iload_n 3, 1) := by decide +kernel
theorem dX3_join_14 : decode cX3_join 14 = .ok (.iastore, 1) := by decide +kernel
theorem dX3_join_15 : decode cX3_join 15 = .ok (.iinc 3 1, 3) := by decide +kernel
theorem dX3_join_18 : decode cX3_join 18 = .ok (.goto (-16), 3) := by decide +kernel
theorem dX3_join_21 : decode cX3_join 21 = .ok (.iconst 0, 1) := by decide +kernel
theorem dX3_join_22 : decode cX3_join 22 = .ok (.istore_n 3, 1) := by decide +kernel
theorem dX3_join_23 : decode cX3_join 23 = .ok (.iconst 0, 1) := by decide +kernel
theorem dX3_join_24 : decode cX3_join 24 = .ok (.istore 4, 2) := by decide +kernel
theorem dX3_join_26 : decode cX3_join 26 = .ok (.iload 4, 2) := by decide +kernel
theorem dX3_join_28 : decode cX3_join 28 = .ok (.aload_n 0, 1) := by decide +kernel
theorem dX3_join_29 : decode cX3_join 29 = .ok (.getfield 13, 3) := by decide +kernel
theorem dX3_join_32 : decode cX3_join 32 = .ok (.iload_n 1, 1) := by decide +kernel
theorem dX3_join_33 : decode cX3_join 33 = .ok (.iaload, 1) := by decide +kernel
theorem dX3_join_34 : decode cX3_join 34 = .ok (.if_icmp .ge 120, 3) := by decide +kernel
theorem dX3_join_37 : decode cX3_join 37 = .ok (.aload_n 0, 1) := by decide +kernel
theorem dX3_join_38 : decode cX3_join 38 = .ok (.getfield 29, 3) := by decide +kernel
theorem dX3_join_41 : decode cX3_join 41 = .ok (.aload_n 0, 1) := by decide +kernel
theorem dX3_join_42 : decode cX3_join 42 = .ok (.getfield 20, 3) := by decide +kernel
theorem dX3_join_45 : decode cX3_join 45 = .ok (.bipush 24, 2) := by decide +kernel
theorem dX3_join_47 : decode cX3_join 47 = .ok (.iload_n 1, 1) := by decide +kernel
theorem dX3_join_48 : decode cX3_join 48 = .ok (.imul, 1) := by decide +kernel
theorem dX3_join_49 : decode cX3_join 49 = .ok (.iconst 2, 1) := by decide +kernel
theorem dX3_join_50 : decode cX3_join 50 = .ok (.iload 4, 2) := by decide +kernel
theorem dX3_join_52 : decode cX3_join 52 = .ok (.imul, 1) := by decide +kernel
theorem dX3_join_53 : decode cX3_join 53 = .ok (.iadd, 1) := by decide +kernel
theorem dX3_join_54 : decode cX3_join 54 = .ok (.iaload, 1) := by decide +kernel
theorem dX3_join_55 : decode cX3_join 55 = .ok (.iaload, 1) := by decide +kernel
theorem dX3_join_56 : decode cX3_join 56 = .ok (.istore 5, 2) := by decide +kernel
theorem dX3_join_58 : decode cX3_join 58 = .ok (.aload_n 0, 1) := by decide +kernel
theorem dX3_join_59 : decode cX3_join 59 = .ok (.getfield 29, 3) := by decide +kernel
theorem dX3_join_62 : decode cX3_join 62 = .ok (.aload_n 0, 1) := by decide +kernel
theorem dX3_join_63 : decode cX3_join 63 = .ok (.getfield 20, 3) := by decide +kernel
theorem dX3_join_66 : decode cX3_join 66 = .ok (.bipush 24, 2) := by decide +kernel
theorem dX3_join_68 : decode cX3_join 68 = .ok (.iload_n 1, 1) := by decide +kernel
theorem dX3_join_69 : decode cX3_join 69 = .ok (.imul, 1) := by decide +kernel
theorem dX3_join_70 : decode cX3_join 70 = .ok (.iconst 2, 1) := by decide +kernel
theorem dX3_join_71 : decode cX3_join 71 = .ok (.iload 4, 2) := by decide +kernel
theorem dX3_join_73 : decode cX3_join 73 = .ok (.imul, 1) := by decide +kernel
theorem dX3_join_74 : decode cX3_join 74 = .ok (.iadd, 1) := by decide +kernel
theorem dX3_join_75 : decode cX3_join 75 = .ok (.iconst 1, 1) := by decide +kernel
theorem dX3_join_76 : decode cX3_join 76 = .ok (.iadd, 1) := by decide +kernel
theorem dX3_join_77 : decode cX3_join 77 = .ok (.iaload, 1) := by decide +kernel
theorem dX3_join_78 : decode cX3_join 78 = .ok (.iaload, 1) := by decide +kernel
theorem dX3_join_79 : decode cX3_join 79 = .ok (.istore 6, 2) := by decide +kernel
theorem dX3_join_81 : decode cX3_join 81 = .ok (.iload_n 2, 1) := by decide +kernel
theorem dX3_join_82 : decode cX3_join 82 = .ok (.iload 4, 2) := by decide +kernel
theorem dX3_join_84 : decode cX3_join 84 = .ok (.ishr, 1) := by decide +kernel
theorem dX3_join_85 : decode cX3_join 85 = .ok (.iconst 1, 1) := by decide +kernel
theorem dX3_join_86 : decode cX3_join 86 = .ok (.iand, 1) := by decide +kernel
theorem dX3_join_87 : decode cX3_join 87 = .ok (.iconst 1, 1) := by decide +kernel
theorem dX3_join_88 : decode cX3_join 88 = .ok (.if_icmp .ne 60, 3) := by decide +kernel
theorem dX3_join_91 : decode cX3_join 91 = .ok (.iload 5, 2) := by decide +kernel
theorem dX3_join_93 : decode cX3_join 93 = .ok (.iload 6, 2) := by decide +kernel
theorem dX3_join_95 : decode cX3_join 95 = .ok (.if_icmp .eq 53, 3) := by decide +kernel
theorem dX3_join_98 : decode cX3_join 98 = .ok (.iinc 3 1, 3) := by decide +kernel
theorem dX3_join_101 : decode cX3_join 101 = .ok (.iconst 0, 1) := by decide +kernel
theorem dX3_join_102 : decode cX3_join 102 = .ok (.istore 7, 2) := by decide +kernel
theorem dX3_join_104 : decode cX3_join 104 = .ok (.iload 7, 2) := by decide +kernel
theorem dX3_join_106 : decode cX3_join 106 = .ok (.bipush 32, 2) := by decide +kernel
theorem dX3_join_108 : decode cX3_join 108 = .ok (.if_icmp .ge 40, 3) := by decide +kernel
theorem dX3_join_111 : decode cX3_join 111 = .ok (.aload_n 0, 1) := by decide +kernel
theorem dX3_join_112 : decode cX3_join 112 = .ok (.getfield 29, 3) := by decide +kernel
theorem dX3_join_115 : decode cX3_join 115 = .ok (.iload 7, 2) := by decide +kernel
theorem dX3_join_117 : decode cX3_join 117 = .ok (.aload_n 0, 1) := by decide +kernel
theorem dX3_join_118 : decode cX3_join 118 = .ok (.getfield 29, 3) := by decide +kernel
theorem dX3_join_121 : decode cX3_join 121 = .ok (.iload 7, 2) := by decide +kernel
theorem dX3_join_123 : decode cX3_join 123 = .ok (.iaload, 1) := by decide +kernel
theorem dX3_join_124 : decode cX3_join 124 = .ok (.iload 6, 2) := by decide +kernel
theorem dX3_join_126 : decode cX3_join 126 = .ok (.if_icmp .ne 8, 3) := by decide +kernel
theorem dX3_join_129 : decode cX3_join 129 = .ok (.iload 5, 2) := by decide +kernel
theorem dX3_join_131 : decode cX3_join 131 = .ok (.goto 10, 3) := by decide +kernel
theorem dX3_join_134 : decode cX3_join 134 = .ok (.aload_n 0, 1) := by decide +kernel
theorem dX3_join_135 : decode cX3_join 135 = .ok (.getfield 29, 3) := by decide +kernel
theorem dX3_join_138 : decode cX3_join 138 = .ok (.iload 7, 2) := by decide +kernel
theorem dX3_join_140 : decode cX3_join 140 = .ok (.iaload, 1) := by decide +kernel
theorem dX3_join_141 : decode cX3_join 141 = .ok (.iastore, 1) := by decide +kernel
theorem dX3_join_142 : decode cX3_join 142 = .ok (.iinc 7 1, 3) := by decide +kernel
theorem dX3_join_145 : decode cX3_join 145 = .ok (.goto (-41), 3) := by decide +kernel
theorem dX3_join_148 : decode cX3_join 148 = .ok (.iinc 4 1, 3) := by decide +kernel
theorem dX3_join_151 : decode cX3_join 151 = .ok (.goto (-125), 3) := by decide +kernel
theorem dX3_join_154 : decode cX3_join 154 = .ok (.iload_n 3, 1) := by decide +kernel
theorem dX3_join_155 : decode cX3_join 155 = .ok (.ireturn, 1) := by decide +kernel
abbrev wsX3_join : List Cond := Cond.code yX3_join cX3_join 8 (some .int) :: lw_gd
theorem dX3_lay_0 : decode cX3_lay 0 = .ok (.aload_n 0, 1) := by decide +kernel
theorem dX3_lay_1 : decode cX3_lay 1 = .ok (.getfield 26, 3) := by decide +kernel
theorem dX3_lay_4 : decode cX3_lay 4 = .ok (.iconst 2, 1) := by decide +kernel
theorem dX3_lay_5 : decode cX3_lay 5 = .ok (.aload_n 0, 1) := by decide +kernel
theorem dX3_lay_6 : decode cX3_lay 6 = .ok (.getfield 54, 3) := by decide +kernel
theorem dX3_lay_9 : decode cX3_lay 9 = .ok (.imul, 1) := by decide +kernel
theorem dX3_lay_10 : decode cX3_lay 10 = .ok (.iload_n 1, 1) := by decide +kernel
theorem dX3_lay_11 : decode cX3_lay 11 = .ok (.iastore, 1) := by decide +kernel
theorem dX3_lay_12 : decode cX3_lay 12 = .ok (.aload_n 0, 1) := by decide +kernel
theorem dX3_lay_13 : decode cX3_lay 13 = .ok (.getfield 26, 3) := by decide +kernel
theorem dX3_lay_16 : decode cX3_lay 16 = .ok (.iconst 2, 1) := by decide +kernel
theorem dX3_lay_17 : decode cX3_lay 17 = .ok (.aload_n 0, 1) := by decide +kernel
theorem dX3_lay_18 : decode cX3_lay 18 = .ok (.getfield 54, 3) := by decide +kernel
theorem dX3_lay_21 : decode cX3_lay 21 = .ok (.imul, 1) := by decide +kernel
theorem dX3_lay_22 : decode cX3_lay 22 = .ok (.iconst 1, 1) := by decide +kernel
theorem dX3_lay_23 : decode cX3_lay 23 = .ok (.iadd, 1) := by decide +kernel
theorem dX3_lay_24 : decode cX3_lay 24 = .ok (.iload_n 2, 1) := by decide +kernel
theorem dX3_lay_25 : decode cX3_lay 25 = .ok (.iastore, 1) := by decide +kernel
theorem dX3_lay_26 : decode cX3_lay 26 = .ok (.aload_n 0, 1) := by decide +kernel
theorem dX3_lay_27 : decode cX3_lay 27 = .ok (.dup, 1) := by decide +kernel
theorem dX3_lay_28 : decode cX3_lay 28 = .ok (.getfield 54, 3) := by decide +kernel
theorem dX3_lay_31 : decode cX3_lay 31 = .ok (.iconst 1, 1) := by decide +kernel
theorem dX3_lay_32 : decode cX3_lay 32 = .ok (.iadd, 1) := by decide +kernel
theorem dX3_lay_33 : decode cX3_lay 33 = .ok (.putfield 54, 3) := by decide +kernel
theorem dX3_lay_36 : decode cX3_lay 36 = .ok (.return_, 1) := by decide +kernel
abbrev wsX3_lay : List Cond := Cond.code yX3_lay cX3_lay 3 none :: lw_gd
theorem dX3_keep_0 : decode cX3_keep 0 = .ok (.aload_n 0, 1) := by decide +kernel
theorem dX3_keep_1 : decode cX3_keep 1 = .ok (.getfield 7, 3) := by decide +kernel
theorem dX3_keep_4 : decode cX3_keep 4 = .ok (.iload_n 1, 1) := by decide +kernel
theorem dX3_keep_5 : decode cX3_keep 5 = .ok (.iload_n 2, 1) := by decide +kernel
theorem dX3_keep_6 : decode cX3_keep 6 = .ok (.iastore, 1) := by decide +kernel
theorem dX3_keep_7 : decode cX3_keep 7 = .ok (.aload_n 0, 1) := by decide +kernel
theorem dX3_keep_8 : decode cX3_keep 8 = .ok (.getfield 16, 3) := by decide +kernel
theorem dX3_keep_11 : decode cX3_keep 11 = .ok (.iload_n 1, 1) := by decide +kernel
theorem dX3_keep_12 : decode cX3_keep 12 = .ok (.iconst 0, 1) := by decide +kernel
theorem dX3_keep_13 : decode cX3_keep 13 = .ok (.bastore, 1) := by decide +kernel
theorem dX3_keep_14 : decode cX3_keep 14 = .ok (.aload_n 0, 1) := by decide +kernel
theorem dX3_keep_15 : decode cX3_keep 15 = .ok (.getfield 13, 3) := by decide +kernel
theorem dX3_keep_18 : decode cX3_keep 18 = .ok (.iload_n 1, 1) := by decide +kernel
theorem dX3_keep_19 : decode cX3_keep 19 = .ok (.aload_n 0, 1) := by decide +kernel
theorem dX3_keep_20 : decode cX3_keep 20 = .ok (.getfield 54, 3) := by decide +kernel
theorem dX3_keep_23 : decode cX3_keep 23 = .ok (.iastore, 1) := by decide +kernel
theorem dX3_keep_24 : decode cX3_keep 24 = .ok (.iconst 0, 1) := by decide +kernel
theorem dX3_keep_25 : decode cX3_keep 25 = .ok (.istore_n 3, 1) := by decide +kernel
theorem dX3_keep_26 : decode cX3_keep 26 = .ok (.iload_n 3, 1) := by decide +kernel
theorem dX3_keep_27 : decode cX3_keep 27 = .ok (.aload_n 0, 1) := by decide +kernel
theorem dX3_keep_28 : decode cX3_keep 28 = .ok (.getfield 54, 3) := by decide +kernel
theorem dX3_keep_31 : decode cX3_keep 31 = .ok (.if_icmp .ge 67, 3) := by decide +kernel
theorem dX3_keep_34 : decode cX3_keep 34 = .ok (.aload_n 0, 1) := by decide +kernel
theorem dX3_keep_35 : decode cX3_keep 35 = .ok (.getfield 20, 3) := by decide +kernel
theorem dX3_keep_38 : decode cX3_keep 38 = .ok (.bipush 24, 2) := by decide +kernel
theorem dX3_keep_40 : decode cX3_keep 40 = .ok (.iload_n 1, 1) := by decide +kernel
theorem dX3_keep_41 : decode cX3_keep 41 = .ok (.imul, 1) := by decide +kernel
theorem dX3_keep_42 : decode cX3_keep 42 = .ok (.iconst 2, 1) := by decide +kernel
theorem dX3_keep_43 : decode cX3_keep 43 = .ok (.iload_n 3, 1) := by decide +kernel
theorem dX3_keep_44 : decode cX3_keep 44 = .ok (.imul, 1) := by decide +kernel
theorem dX3_keep_45 : decode cX3_keep 45 = .ok (.iadd, 1) := by decide +kernel
theorem dX3_keep_46 : decode cX3_keep 46 = .ok (.aload_n 0, 1) := by decide +kernel
theorem dX3_keep_47 : decode cX3_keep 47 = .ok (.getfield 26, 3) := by decide +kernel
theorem dX3_keep_50 : decode cX3_keep 50 = .ok (.iconst 2, 1) := by decide +kernel
theorem dX3_keep_51 : decode cX3_keep 51 = .ok (.iload_n 3, 1) := by decide +kernel
theorem dX3_keep_52 : decode cX3_keep 52 = .ok (.imul, 1) := by decide +kernel
theorem dX3_keep_53 : decode cX3_keep 53 = .ok (.iaload, 1) := by decide +kernel
theorem dX3_keep_54 : decode cX3_keep 54 = .ok (.iastore, 1) := by decide +kernel
theorem dX3_keep_55 : decode cX3_keep 55 = .ok (.aload_n 0, 1) := by decide +kernel
theorem dX3_keep_56 : decode cX3_keep 56 = .ok (.getfield 20, 3) := by decide +kernel
theorem dX3_keep_59 : decode cX3_keep 59 = .ok (.bipush 24, 2) := by decide +kernel
theorem dX3_keep_61 : decode cX3_keep 61 = .ok (.iload_n 1, 1) := by decide +kernel
theorem dX3_keep_62 : decode cX3_keep 62 = .ok (.imul, 1) := by decide +kernel
theorem dX3_keep_63 : decode cX3_keep 63 = .ok (.iconst 2, 1) := by decide +kernel
theorem dX3_keep_64 : decode cX3_keep 64 = .ok (.iload_n 3, 1) := by decide +kernel
theorem dX3_keep_65 : decode cX3_keep 65 = .ok (.imul, 1) := by decide +kernel
theorem dX3_keep_66 : decode cX3_keep 66 = .ok (.iadd, 1) := by decide +kernel
theorem dX3_keep_67 : decode cX3_keep 67 = .ok (.iconst 1, 1) := by decide +kernel
theorem dX3_keep_68 : decode cX3_keep 68 = .ok (.iadd, 1) := by decide +kernel
theorem dX3_keep_69 : decode cX3_keep 69 = .ok (.aload_n 0, 1) := by decide +kernel
theorem dX3_keep_70 : decode cX3_keep 70 = .ok (.getfield 26, 3) := by decide +kernel
theorem dX3_keep_73 : decode cX3_keep 73 = .ok (.iconst 2, 1) := by decide +kernel
theorem dX3_keep_74 : decode cX3_keep 74 = .ok (.iload_n 3, 1) := by decide +kernel
theorem dX3_keep_75 : decode cX3_keep 75 = .ok (.imul, 1) := by decide +kernel
theorem dX3_keep_76 : decode cX3_keep 76 = .ok (.iconst 1, 1) := by decide +kernel
theorem dX3_keep_77 : decode cX3_keep 77 = .ok (.iadd, 1) := by decide +kernel
theorem dX3_keep_78 : decode cX3_keep 78 = .ok (.iaload, 1) := by decide +kernel
theorem dX3_keep_79 : decode cX3_keep 79 = .ok (.iastore, 1) := by decide +kernel
theorem dX3_keep_80 : decode cX3_keep 80 = .ok (.aload_n 0, 1) := by decide +kernel
theorem dX3_keep_81 : decode cX3_keep 81 = .ok (.getfield 23, 3) := by decide +kernel
theorem dX3_keep_84 : decode cX3_keep 84 = .ok (.bipush 12, 2) := by decide +kernel
theorem dX3_keep_86 : decode cX3_keep 86 = .ok (.iload_n 1, 1) := by decide +kernel
theorem dX3_keep_87 : decode cX3_keep 87 = .ok (.imul, 1) := by decide +kernel
theorem dX3_keep_88 : decode cX3_keep 88 = .ok (.iload_n 3, 1) := by decide +kernel
theorem dX3_keep_89 : decode cX3_keep 89 = .ok (.iadd, 1) := by decide +kernel
theorem dX3_keep_90 : decode cX3_keep 90 = .ok (.iconst 0, 1) := by decide +kernel
theorem dX3_keep_91 : decode cX3_keep 91 = .ok (.iastore, 1) := by decide +kernel
theorem dX3_keep_92 : decode cX3_keep 92 = .ok (.iinc 3 1, 3) := by decide +kernel
theorem dX3_keep_95 : decode cX3_keep 95 = .ok (.goto (-69), 3) := by decide +kernel
theorem dX3_keep_98 : decode cX3_keep 98 = .ok (.aload_n 0, 1) := by decide +kernel
theorem dX3_keep_99 : decode cX3_keep 99 = .ok (.getfield 54, 3) := by decide +kernel
theorem dX3_keep_102 : decode cX3_keep 102 = .ok (.ireturn, 1) := by decide +kernel
abbrev wsX3_keep : List Cond := Cond.code yX3_keep cX3_keep 4 (some .int) :: lw_gd
theorem dX3_beside_0 : decode cX3_beside 0 = .ok (.iload_n 1, 1) := by decide +kernel
theorem dX3_beside_1 : decode cX3_beside 1 = .ok (.invokestatic 39, 3) := by decide +kernel
theorem dX3_beside_4 : decode cX3_beside 4 = .ok (.ifCond .eq 35, 3) := by decide +kernel
theorem dX3_beside_7 : decode cX3_beside 7 = .ok (.iload_n 2, 1) := by decide +kernel
theorem dX3_beside_8 : decode cX3_beside 8 = .ok (.invokestatic 39, 3) := by decide +kernel
theorem dX3_beside_11 : decode cX3_beside 11 = .ok (.ifCond .eq 28, 3) := by decide +kernel
theorem dX3_beside_14 : decode cX3_beside 14 = .ok (.iload_n 3, 1) := by decide +kernel
theorem dX3_beside_15 : decode cX3_beside 15 = .ok (.invokestatic 39, 3) := by decide +kernel
theorem dX3_beside_18 : decode cX3_beside 18 = .ok (.ifCond .eq 21, 3) := by decide +kernel
theorem dX3_beside_21 : decode cX3_beside 21 = .ok (.aload_n 0, 1) := by decide +kernel
theorem dX3_beside_22 : decode cX3_beside 22 = .ok (.getfield 13, 3) := by decide +kernel
theorem dX3_beside_25 : decode cX3_beside 25 = .ok (.iload_n 2, 1) := by decide +kernel
theorem dX3_beside_26 : decode cX3_beside 26 = .ok (.iaload, 1) := by decide +kernel
theorem dX3_beside_27 : decode cX3_beside 27 = .ok (.aload_n 0, 1) := by decide +kernel
theorem dX3_beside_28 : decode cX3_beside 28 = .ok (.getfield 13, 3) := by decide +kernel
theorem dX3_beside_31 : decode cX3_beside 31 = .ok (.iload_n 3, 1) := by decide +kernel
theorem dX3_beside_32 : decode cX3_beside 32 = .ok (.iaload, 1) := by decide +kernel
theorem dX3_beside_33 : decode cX3_beside 33 = .ok (.iadd, 1) := by decide +kernel
theorem dX3_beside_34 : decode cX3_beside 34 = .ok (.bipush 12, 2) := by decide +kernel
theorem dX3_beside_36 : decode cX3_beside 36 = .ok (.if_icmp .le 5, 3) := by decide +kernel
theorem dX3_beside_39 : decode cX3_beside 39 = .ok (.iconst (-1), 1) := by decide +kernel
theorem dX3_beside_40 : decode cX3_beside 40 = .ok (.ireturn, 1) := by decide +kernel
theorem dX3_beside_41 : decode cX3_beside 41 = .ok (.aload_n 0, 1) := by decide +kernel
theorem dX3_beside_42 : decode cX3_beside 42 = .ok (.iconst 0, 1) := by decide +kernel
theorem dX3_beside_43 : decode cX3_beside 43 = .ok (.putfield 54, 3) := by decide +kernel
theorem dX3_beside_46 : decode cX3_beside 46 = .ok (.aload_n 0, 1) := by decide +kernel
theorem dX3_beside_47 : decode cX3_beside 47 = .ok (.iload_n 2, 1) := by decide +kernel
theorem dX3_beside_48 : decode cX3_beside 48 = .ok (.iconst 0, 1) := by decide +kernel
theorem dX3_beside_49 : decode cX3_beside 49 = .ok (.invokevirtual 72, 3) := by decide +kernel
theorem dX3_beside_52 : decode cX3_beside 52 = .ok (.istore 4, 2) := by decide +kernel
theorem dX3_beside_54 : decode cX3_beside 54 = .ok (.aload_n 0, 1) := by decide +kernel
theorem dX3_beside_55 : decode cX3_beside 55 = .ok (.iload_n 3, 1) := by decide +kernel
theorem dX3_beside_56 : decode cX3_beside 56 = .ok (.iload 4, 2) := by decide +kernel
theorem dX3_beside_58 : decode cX3_beside 58 = .ok (.invokevirtual 72, 3) := by decide +kernel
theorem dX3_beside_61 : decode cX3_beside 61 = .ok (.istore 4, 2) := by decide +kernel
theorem dX3_beside_63 : decode cX3_beside 63 = .ok (.aload_n 0, 1) := by decide +kernel
theorem dX3_beside_64 : decode cX3_beside 64 = .ok (.iload_n 1, 1) := by decide +kernel
theorem dX3_beside_65 : decode cX3_beside 65 = .ok (.iload 4, 2) := by decide +kernel
theorem dX3_beside_67 : decode cX3_beside 67 = .ok (.invokevirtual 69, 3) := by decide +kernel
theorem dX3_beside_70 : decode cX3_beside 70 = .ok (.ireturn, 1) := by decide +kernel
abbrev wsX3_beside : List Cond := Cond.code yX3_beside cX3_beside 5 (some .int) :: lw_gd
theorem dX3_number_0 : decode cX3_number 0 = .ok (.iload_n 2, 1) := by decide +kernel
theorem dX3_number_1 : decode cX3_number 1 = .ok (.istore_n 3, 1) := by decide +kernel
theorem dX3_number_2 : decode cX3_number 2 = .ok (.iconst 0, 1) := by decide +kernel
theorem dX3_number_3 : decode cX3_number 3 = .ok (.istore 4, 2) := by decide +kernel
theorem dX3_number_5 : decode cX3_number 5 = .ok (.iload 4, 2) := by decide +kernel
theorem dX3_number_7 : decode cX3_number 7 = .ok (.iconst 2, 1) := by decide +kernel
theorem dX3_number_8 : decode cX3_number 8 = .ok (.aload_n 0, 1) := by decide +kernel
theorem dX3_number_9 : decode cX3_number 9 = .ok (.getfield 13, 3) := by decide +kernel
theorem dX3_number_12 : decode cX3_number 12 = .ok (.iload_n 1, 1) := by decide +kernel
theorem dX3_number_13 : decode cX3_number 13 = .ok (.iaload, 1) := by decide +kernel
theorem dX3_number_14 : decode cX3_number 14 = .ok (.imul, 1) := by decide +kernel
theorem dX3_number_15 : decode cX3_number 15 = .ok (.if_icmp .ge 85, 3) := by decide +kernel
theorem dX3_number_18 : decode cX3_number 18 = .ok (.iconst 0, 1) := by decide +kernel
theorem dX3_number_19 : decode cX3_number 19 = .ok (.istore 5, 2) := by decide +kernel
theorem dX3_number_21 : decode cX3_number 21 = .ok (.aload_n 0, 1) := by decide +kernel
theorem dX3_number_22 : decode cX3_number 22 = .ok (.getfield 20, 3) := by decide +kernel
theorem dX3_number_25 : decode cX3_number 25 = .ok (.bipush 24, 2) := by decide +kernel
theorem dX3_number_27 : decode cX3_number 27 = .ok (.iload_n 1, 1) := by decide +kernel
theorem dX3_number_28 : decode cX3_number 28 = .ok (.imul, 1) := by decide +kernel
theorem dX3_number_29 : decode cX3_number 29 = .ok (.iload 5, 2) := by decide +kernel
theorem dX3_number_31 : decode cX3_number 31 = .ok (.iadd, 1) := by decide +kernel
theorem dX3_number_32 : decode cX3_number 32 = .ok (.iaload, 1) := by decide +kernel
theorem dX3_number_33 : decode cX3_number 33 = .ok (.aload_n 0, 1) := by decide +kernel
theorem dX3_number_34 : decode cX3_number 34 = .ok (.getfield 20, 3) := by decide +kernel
theorem dX3_number_37 : decode cX3_number 37 = .ok (.bipush 24, 2) := by decide +kernel
theorem dX3_number_39 : decode cX3_number 39 = .ok (.iload_n 1, 1) := by decide +kernel
theorem dX3_number_40 : decode cX3_number 40 = .ok (.imul, 1) := by decide +kernel
theorem dX3_number_41 : decode cX3_number 41 = .ok (.iload 4, 2) := by decide +kernel
theorem dX3_number_43 : decode cX3_number 43 = .ok (.iadd, 1) := by decide +kernel
theorem dX3_number_44 : decode cX3_number 44 = .ok (.iaload, 1) := by decide +kernel
theorem dX3_number_45 : decode cX3_number 45 = .ok (.if_icmp .eq 9, 3) := by decide +kernel
theorem dX3_number_48 : decode cX3_number 48 = .ok (.iinc 5 1, 3) := by decide +kernel
theorem dX3_number_51 : decode cX3_number 51 = .ok (.goto (-30), 3) := by decide +kernel
theorem dX3_number_54 : decode cX3_number 54 = .ok (.aload_n 0, 1) := by decide +kernel
theorem dX3_number_55 : decode cX3_number 55 = .ok (.getfield 29, 3) := by decide +kernel
theorem dX3_number_58 : decode cX3_number 58 = .ok (.iload 4, 2) := by decide +kernel
theorem dX3_number_60 : decode cX3_number 60 = .ok (.iload 5, 2) := by decide +kernel
theorem dX3_number_62 : decode cX3_number 62 = .ok (.iload 4, 2) := by decide +kernel
theorem dX3_number_64 : decode cX3_number 64 = .ok (.if_icmp .ne 7, 3) := by decide +kernel
theorem dX3_number_67 : decode cX3_number 67 = .ok (.iload_n 3, 1) := by decide +kernel
theorem dX3_number_68 : decode cX3_number 68 = .ok (.goto 10, 3) := by decide +kernel
theorem dX3_number_71 : decode cX3_number 71 = .ok (.aload_n 0, 1) := by decide +kernel
theorem dX3_number_72 : decode cX3_number 72 = .ok (.getfield 29, 3) := by decide +kernel
theorem dX3_number_75 : decode cX3_number 75 = .ok (.iload 5, 2) := by decide +kernel
theorem dX3_number_77 : decode cX3_number 77 = .ok (.iaload, 1) := by decide +kernel
theorem dX3_number_78 : decode cX3_number 78 = .ok (.iastore, 1) := by decide +kernel
theorem dX3_number_79 : decode cX3_number 79 = .ok (.iload 5, 2) := by decide +kernel
theorem dX3_number_81 : decode cX3_number 81 = .ok (.iload 4, 2) := by decide +kernel
theorem dX3_number_83 : decode cX3_number 83 = .ok (.if_icmp .ne 9, 3) := by decide +kernel
theorem dX3_number_86 : decode cX3_number 86 = .ok (.iload_n 3, 1) := by decide +kernel
theorem dX3_number_87 : decode cX3_number 87 = .ok (.iconst 1, 1) := by decide +kernel
theorem dX3_number_88 : decode cX3_number 88 = .ok (.iadd, 1) := by decide +kernel
theorem dX3_number_89 : decode cX3_number 89 = .ok (.goto 4, 3) := by decide +kernel
theorem dX3_number_92 : decode cX3_number 92 = .ok (.iload_n 3, 1) := by decide +kernel
theorem dX3_number_93 : decode cX3_number 93 = .ok (.istore_n 3, 1) := by decide +kernel
theorem dX3_number_94 : decode cX3_number 94 = .ok (.iinc 4 1, 3) := by decide +kernel
theorem dX3_number_97 : decode cX3_number 97 = .ok (.goto (-92), 3) := by decide +kernel
theorem dX3_number_100 : decode cX3_number 100 = .ok (.iconst 0, 1) := by decide +kernel
theorem dX3_number_101 : decode cX3_number 101 = .ok (.istore 4, 2) := by decide +kernel
theorem dX3_number_103 : decode cX3_number 103 = .ok (.iload 4, 2) := by decide +kernel
theorem dX3_number_105 : decode cX3_number 105 = .ok (.aload_n 0, 1) := by decide +kernel
theorem dX3_number_106 : decode cX3_number 106 = .ok (.getfield 13, 3) := by decide +kernel
theorem dX3_number_109 : decode cX3_number 109 = .ok (.iload_n 1, 1) := by decide +kernel
theorem dX3_number_110 : decode cX3_number 110 = .ok (.iaload, 1) := by decide +kernel
theorem dX3_number_111 : decode cX3_number 111 = .ok (.if_icmp .ge 33, 3) := by decide +kernel
theorem dX3_number_114 : decode cX3_number 114 = .ok (.aload_n 0, 1) := by decide +kernel
theorem dX3_number_115 : decode cX3_number 115 = .ok (.aload_n 0, 1) := by decide +kernel
theorem dX3_number_116 : decode cX3_number 116 = .ok (.getfield 29, 3) := by decide +kernel
theorem dX3_number_119 : decode cX3_number 119 = .ok (.iconst 2, 1) := by decide +kernel
theorem dX3_number_120 : decode cX3_number 120 = .ok (.iload 4, 2) := by decide +kernel
theorem dX3_number_122 : decode cX3_number 122 = .ok (.imul, 1) := by decide +kernel
theorem dX3_number_123 : decode cX3_number 123 = .ok (.iaload, 1) := by decide +kernel
theorem dX3_number_124 : decode cX3_number 124 = .ok (.aload_n 0, 1) := by decide +kernel
theorem dX3_number_125 : decode cX3_number 125 = .ok (.getfield 29, 3) := by decide +kernel
theorem dX3_number_128 : decode cX3_number 128 = .ok (.iconst 2, 1) := by decide +kernel
theorem dX3_number_129 : decode cX3_number 129 = .ok (.iload 4, 2) := by decide +kernel
theorem dX3_number_131 : decode cX3_number 131 = .ok (.imul, 1) := by decide +kernel
theorem dX3_number_132 : decode cX3_number 132 = .ok (.iconst 1, 1) := by decide +kernel
theorem dX3_number_133 : decode cX3_number 133 = .ok (.iadd, 1) := by decide +kernel
theorem dX3_number_134 : decode cX3_number 134 = .ok (.iaload, 1) := by decide +kernel
theorem dX3_number_135 : decode cX3_number 135 = .ok (.invokevirtual 65, 3) := by decide +kernel
theorem dX3_number_138 : decode cX3_number 138 = .ok (.iinc 4 1, 3) := by decide +kernel
theorem dX3_number_141 : decode cX3_number 141 = .ok (.goto (-38), 3) := by decide +kernel
theorem dX3_number_144 : decode cX3_number 144 = .ok (.iload_n 3, 1) := by decide +kernel
theorem dX3_number_145 : decode cX3_number 145 = .ok (.ireturn, 1) := by decide +kernel
abbrev wsX3_number : List Cond := Cond.code yX3_number cX3_number 6 (some .int) :: lw_gd
theorem dX3_edges_0 : decode cX3_edges 0 = .ok (.iload_n 1, 1) := by decide +kernel
theorem dX3_edges_1 : decode cX3_edges 1 = .ok (.invokestatic 39, 3) := by decide +kernel
theorem dX3_edges_4 : decode cX3_edges 4 = .ok (.ifCond .eq 12, 3) := by decide +kernel
theorem dX3_edges_7 : decode cX3_edges 7 = .ok (.aload_n 0, 1) := by decide +kernel
theorem dX3_edges_8 : decode cX3_edges 8 = .ok (.getfield 13, 3) := by decide +kernel
theorem dX3_edges_11 : decode cX3_edges 11 = .ok (.iload_n 1, 1) := by decide +kernel
theorem dX3_edges_12 : decode cX3_edges 12 = .ok (.iaload, 1) := by decide +kernel
theorem dX3_edges_13 : decode cX3_edges 13 = .ok (.goto 4, 3) := by decide +kernel
theorem dX3_edges_16 : decode cX3_edges 16 = .ok (.iconst (-1), 1) := by decide +kernel
theorem dX3_edges_17 : decode cX3_edges 17 = .ok (.ireturn, 1) := by decide +kernel
abbrev wsX3_edges : List Cond := Cond.code yX3_edges cX3_edges 2 (some .int) :: lw_gd
theorem dX3_weight_0 : decode cX3_weight 0 = .ok (.aload_n 0, 1) := by decide +kernel
theorem dX3_weight_1 : decode cX3_weight 1 = .ok (.iload_n 1, 1) := by decide +kernel
theorem dX3_weight_2 : decode cX3_weight 2 = .ok (.iload_n 2, 1) := by decide +kernel
theorem dX3_weight_3 : decode cX3_weight 3 = .ok (.invokevirtual 50, 3) := by decide +kernel
theorem dX3_weight_6 : decode cX3_weight 6 = .ok (.ifCond .eq 17, 3) := by decide +kernel
theorem dX3_weight_9 : decode cX3_weight 9 = .ok (.aload_n 0, 1) := by decide +kernel
theorem dX3_weight_10 : decode cX3_weight 10 = .ok (.getfield 23, 3) := by decide +kernel
theorem dX3_weight_13 : decode cX3_weight 13 = .ok (.bipush 12, 2) := by decide +kernel
theorem dX3_weight_15 : decode cX3_weight 15 = .ok (.iload_n 1, 1) := by decide +kernel
theorem dX3_weight_16 : decode cX3_weight 16 = .ok (.imul, 1) := by decide +kernel
theorem dX3_weight_17 : decode cX3_weight 17 = .ok (.iload_n 2, 1) := by decide +kernel
theorem dX3_weight_18 : decode cX3_weight 18 = .ok (.iadd, 1) := by decide +kernel
theorem dX3_weight_19 : decode cX3_weight 19 = .ok (.iaload, 1) := by decide +kernel
theorem dX3_weight_20 : decode cX3_weight 20 = .ok (.goto 4, 3) := by decide +kernel
theorem dX3_weight_23 : decode cX3_weight 23 = .ok (.iconst 0, 1) := by decide +kernel
theorem dX3_weight_24 : decode cX3_weight 24 = .ok (.ireturn, 1) := by decide +kernel
abbrev wsX3_weight : List Cond := Cond.code yX3_weight cX3_weight 3 (some .int) :: lw_gd
theorem dX3_rank_0 : decode cX3_rank 0 = .ok (.aload_n 0, 1) := by decide +kernel
theorem dX3_rank_1 : decode cX3_rank 1 = .ok (.iload_n 1, 1) := by decide +kernel
theorem dX3_rank_2 : decode cX3_rank 2 = .ok (.iload_n 2, 1) := by decide +kernel
theorem dX3_rank_3 : decode cX3_rank 3 = .ok (.invokevirtual 58, 3) := by decide +kernel
theorem dX3_rank_6 : decode cX3_rank 6 = .ok (.ifCond .eq 12, 3) := by decide +kernel
theorem dX3_rank_9 : decode cX3_rank 9 = .ok (.aload_n 0, 1) := by decide +kernel
theorem dX3_rank_10 : decode cX3_rank 10 = .ok (.iload_n 1, 1) := by decide +kernel
theorem dX3_rank_11 : decode cX3_rank 11 = .ok (.iload_n 2, 1) := by decide +kernel
theorem dX3_rank_12 : decode cX3_rank 12 = .ok (.invokevirtual 61, 3) := by decide +kernel
theorem dX3_rank_15 : decode cX3_rank 15 = .ok (.goto 4, 3) := by decide +kernel
theorem dX3_rank_18 : decode cX3_rank 18 = .ok (.iconst (-1), 1) := by decide +kernel
theorem dX3_rank_19 : decode cX3_rank 19 = .ok (.ireturn, 1) := by decide +kernel
abbrev wsX3_rank : List Cond := Cond.code yX3_rank cX3_rank 3 (some .int) :: lw_gd
theorem dX3_best_0 : decode cX3_best 0 = .ok (.iload_n 1, 1) := by decide +kernel
theorem dX3_best_1 : decode cX3_best 1 = .ok (.invokestatic 39, 3) := by decide +kernel
theorem dX3_best_4 : decode cX3_best 4 = .ok (.ifCond .ne 5, 3) := by decide +kernel
theorem dX3_best_7 : decode cX3_best 7 = .ok (.iconst (-1), 1) := by decide +kernel
theorem dX3_best_8 : decode cX3_best 8 = .ok (.ireturn, 1) := by decide +kernel
theorem dX3_best_9 : decode cX3_best 9 = .ok (.aload_n 0, 1) := by decide +kernel
theorem dX3_best_10 : decode cX3_best 10 = .ok (.iload_n 1, 1) := by decide +kernel
theorem dX3_best_11 : decode cX3_best 11 = .ok (.aload_n 0, 1) := by decide +kernel
theorem dX3_best_12 : decode cX3_best 12 = .ok (.getfield 32, 3) := by decide +kernel
theorem dX3_best_15 : decode cX3_best 15 = .ok (.invokevirtual 75, 3) := by decide +kernel
theorem dX3_best_18 : decode cX3_best 18 = .ok (.aload_n 0, 1) := by decide +kernel
theorem dX3_best_19 : decode cX3_best 19 = .ok (.getfield 32, 3) := by decide +kernel
theorem dX3_best_22 : decode cX3_best 22 = .ok (.aload_n 0, 1) := by decide +kernel
theorem dX3_best_23 : decode cX3_best 23 = .ok (.iload_n 1, 1) := by decide +kernel
theorem dX3_best_24 : decode cX3_best 24 = .ok (.invokevirtual 43, 3) := by decide +kernel
theorem dX3_best_27 : decode cX3_best 27 = .ok (.baload, 1) := by decide +kernel
theorem dX3_best_28 : decode cX3_best 28 = .ok (.istore_n 2, 1) := by decide +kernel
theorem dX3_best_29 : decode cX3_best 29 = .ok (.iconst (-1), 1) := by decide +kernel
theorem dX3_best_30 : decode cX3_best 30 = .ok (.istore_n 3, 1) := by decide +kernel
theorem dX3_best_31 : decode cX3_best 31 = .ok (.iconst 0, 1) := by decide +kernel
theorem dX3_best_32 : decode cX3_best 32 = .ok (.istore 4, 2) := by decide +kernel
theorem dX3_best_34 : decode cX3_best 34 = .ok (.iconst 0, 1) := by decide +kernel
theorem dX3_best_35 : decode cX3_best 35 = .ok (.istore 5, 2) := by decide +kernel
theorem dX3_best_37 : decode cX3_best 37 = .ok (.iload 5, 2) := by decide +kernel
theorem dX3_best_39 : decode cX3_best 39 = .ok (.aload_n 0, 1) := by decide +kernel
theorem dX3_best_40 : decode cX3_best 40 = .ok (.iload_n 1, 1) := by decide +kernel
theorem dX3_best_41 : decode cX3_best 41 = .ok (.invokevirtual 43, 3) := by decide +kernel
theorem dX3_best_44 : decode cX3_best 44 = .ok (.if_icmp .gt 114, 3) := by decide +kernel
theorem dX3_best_47 : decode cX3_best 47 = .ok (.iload 5, 2) := by decide +kernel
theorem dX3_best_49 : decode cX3_best 49 = .ok (.invokestatic 47, 3) := by decide +kernel
theorem dX3_best_52 : decode cX3_best 52 = .ok (.iload_n 2, 1) := by decide +kernel
theorem dX3_best_53 : decode cX3_best 53 = .ok (.if_icmp .ne 99, 3) := by decide +kernel
theorem dX3_best_56 : decode cX3_best 56 = .ok (.aload_n 0, 1) := by decide +kernel
theorem dX3_best_57 : decode cX3_best 57 = .ok (.getfield 32, 3) := by decide +kernel
theorem dX3_best_60 : decode cX3_best 60 = .ok (.iload 5, 2) := by decide +kernel
theorem dX3_best_62 : decode cX3_best 62 = .ok (.baload, 1) := by decide +kernel
theorem dX3_best_63 : decode cX3_best 63 = .ok (.iload_n 2, 1) := by decide +kernel
theorem dX3_best_64 : decode cX3_best 64 = .ok (.if_icmp .eq 6, 3) := by decide +kernel
theorem dX3_best_67 : decode cX3_best 67 = .ok (.goto 85, 3) := by decide +kernel
theorem dX3_best_70 : decode cX3_best 70 = .ok (.iconst 0, 1) := by decide +kernel
theorem dX3_best_71 : decode cX3_best 71 = .ok (.istore 6, 2) := by decide +kernel
theorem dX3_best_73 : decode cX3_best 73 = .ok (.iconst 0, 1) := by decide +kernel
theorem dX3_best_74 : decode cX3_best 74 = .ok (.istore 7, 2) := by decide +kernel
theorem dX3_best_76 : decode cX3_best 76 = .ok (.iload 7, 2) := by decide +kernel
theorem dX3_best_78 : decode cX3_best 78 = .ok (.aload_n 0, 1) := by decide +kernel
theorem dX3_best_79 : decode cX3_best 79 = .ok (.getfield 13, 3) := by decide +kernel
theorem dX3_best_82 : decode cX3_best 82 = .ok (.iload_n 1, 1) := by decide +kernel
theorem dX3_best_83 : decode cX3_best 83 = .ok (.iaload, 1) := by decide +kernel
theorem dX3_best_84 : decode cX3_best 84 = .ok (.if_icmp .ge 34, 3) := by decide +kernel
theorem dX3_best_87 : decode cX3_best 87 = .ok (.iload 6, 2) := by decide +kernel
theorem dX3_best_89 : decode cX3_best 89 = .ok (.iload 5, 2) := by decide +kernel
theorem dX3_best_91 : decode cX3_best 91 = .ok (.iload 7, 2) := by decide +kernel
theorem dX3_best_93 : decode cX3_best 93 = .ok (.ishr, 1) := by decide +kernel
theorem dX3_best_94 : decode cX3_best 94 = .ok (.iconst 1, 1) := by decide +kernel
theorem dX3_best_95 : decode cX3_best 95 = .ok (.iand, 1) := by decide +kernel
theorem dX3_best_96 : decode cX3_best 96 = .ok (.aload_n 0, 1) := by decide +kernel
theorem dX3_best_97 : decode cX3_best 97 = .ok (.getfield 23, 3) := by decide +kernel
theorem dX3_best_100 : decode cX3_best 100 = .ok (.bipush 12, 2) := by decide +kernel
theorem dX3_best_102 : decode cX3_best 102 = .ok (.iload_n 1, 1) := by decide +kernel
theorem dX3_best_103 : decode cX3_best 103 = .ok (.imul, 1) := by decide +kernel
theorem dX3_best_104 : decode cX3_best 104 = .ok (.iload 7, 2) := by decide +kernel
theorem dX3_best_106 : decode cX3_best 106 = .ok (.iadd, 1) := by decide +kernel
theorem dX3_best_107 : decode cX3_best 107 = .ok (.iaload, 1) := by decide +kernel
theorem dX3_best_108 : decode cX3_best 108 = .ok (.imul, 1) := by decide +kernel
theorem dX3_best_109 : decode cX3_best 109 = .ok (.iadd, 1) := by decide +kernel
theorem dX3_best_110 : decode cX3_best 110 = .ok (.istore 6, 2) := by decide +kernel
theorem dX3_best_112 : decode cX3_best 112 = .ok (.iinc 7 1, 3) := by decide +kernel
theorem dX3_best_115 : decode cX3_best 115 = .ok (.goto (-39), 3) := by decide +kernel
theorem dX3_best_118 : decode cX3_best 118 = .ok (.iload_n 3, 1) := by decide +kernel
theorem dX3_best_119 : decode cX3_best 119 = .ok (.ifCond .lt 26, 3) := by decide +kernel
theorem dX3_best_122 : decode cX3_best 122 = .ok (.iload 6, 2) := by decide +kernel
theorem dX3_best_124 : decode cX3_best 124 = .ok (.iload 4, 2) := by decide +kernel
theorem dX3_best_126 : decode cX3_best 126 = .ok (.if_icmp .gt 19, 3) := by decide +kernel
theorem dX3_best_129 : decode cX3_best 129 = .ok (.iload 6, 2) := by decide +kernel
theorem dX3_best_131 : decode cX3_best 131 = .ok (.iload 4, 2) := by decide +kernel
theorem dX3_best_133 : decode cX3_best 133 = .ok (.if_icmp .ne 19, 3) := by decide +kernel
theorem dX3_best_136 : decode cX3_best 136 = .ok (.iload 5, 2) := by decide +kernel
theorem dX3_best_138 : decode cX3_best 138 = .ok (.iload_n 3, 1) := by decide +kernel
theorem dX3_best_139 : decode cX3_best 139 = .ok (.invokestatic 79, 3) := by decide +kernel
theorem dX3_best_142 : decode cX3_best 142 = .ok (.ifCond .eq 10, 3) := by decide +kernel
theorem dX3_best_145 : decode cX3_best 145 = .ok (.iload 5, 2) := by decide +kernel
theorem dX3_best_147 : decode cX3_best 147 = .ok (.istore_n 3, 1) := by decide +kernel
theorem dX3_best_148 : decode cX3_best 148 = .ok (.iload 6, 2) := by decide +kernel
theorem dX3_best_150 : decode cX3_best 150 = .ok (.istore 4, 2) := by decide +kernel
theorem dX3_best_152 : decode cX3_best 152 = .ok (.iinc 5 1, 3) := by decide +kernel
theorem dX3_best_155 : decode cX3_best 155 = .ok (.goto (-118), 3) := by decide +kernel
theorem dX3_best_158 : decode cX3_best 158 = .ok (.iload_n 3, 1) := by decide +kernel
theorem dX3_best_159 : decode cX3_best 159 = .ok (.ireturn, 1) := by decide +kernel
abbrev wsX3_best : List Cond := Cond.code yX3_best cX3_best 8 (some .int) :: lw_gd
theorem dX3_measure_0 : decode cX3_measure 0 = .ok (.iconst 0, 1) := by decide +kernel
theorem dX3_measure_1 : decode cX3_measure 1 = .ok (.istore_n 3, 1) := by decide +kernel
theorem dX3_measure_2 : decode cX3_measure 2 = .ok (.iload_n 3, 1) := by decide +kernel
theorem dX3_measure_3 : decode cX3_measure 3 = .ok (.aload_n 0, 1) := by decide +kernel
theorem dX3_measure_4 : decode cX3_measure 4 = .ok (.iload_n 1, 1) := by decide +kernel
theorem dX3_measure_5 : decode cX3_measure 5 = .ok (.invokevirtual 43, 3) := by decide +kernel
theorem dX3_measure_8 : decode cX3_measure 8 = .ok (.if_icmp .gt 19, 3) := by decide +kernel
theorem dX3_measure_11 : decode cX3_measure 11 = .ok (.aload_n 2, 1) := by decide +kernel
theorem dX3_measure_12 : decode cX3_measure 12 = .ok (.iload_n 3, 1) := by decide +kernel
theorem dX3_measure_13 : decode cX3_measure 13 = .ok (.aload_n 0, 1) := by decide +kernel
theorem dX3_measure_14 : decode cX3_measure 14 = .ok (.iload_n 1, 1) := by decide +kernel
theorem dX3_measure_15 : decode cX3_measure 15 = .ok (.iload_n 3, 1) := by decide +kernel
theorem dX3_measure_16 : decode cX3_measure 16 = .ok (.invokevirtual 61, 3) := by decide +kernel
theorem dX3_measure_19 : decode cX3_measure 19 = .ok (.i2b, 1) := by decide +kernel
theorem dX3_measure_20 : decode cX3_measure 20 = .ok (.bastore, 1) := by decide +kernel
theorem dX3_measure_21 : decode cX3_measure 21 = .ok (.iinc 3 1, 3) := by decide +kernel
theorem dX3_measure_24 : decode cX3_measure 24 = .ok (.goto (-22), 3) := by decide +kernel
theorem dX3_measure_27 : decode cX3_measure 27 = .ok (.return_, 1) := by decide +kernel
abbrev wsX3_measure : List Cond := Cond.code yX3_measure cX3_measure 4 none :: lw_gd
theorem dX3_size_0 : decode cX3_size 0 = .ok (.iconst 0, 1) := by decide +kernel
theorem dX3_size_1 : decode cX3_size 1 = .ok (.istore_n 1, 1) := by decide +kernel
theorem dX3_size_2 : decode cX3_size 2 = .ok (.iconst 0, 1) := by decide +kernel
theorem dX3_size_3 : decode cX3_size 3 = .ok (.istore_n 2, 1) := by decide +kernel
theorem dX3_size_4 : decode cX3_size 4 = .ok (.iload_n 2, 1) := by decide +kernel
theorem dX3_size_5 : decode cX3_size 5 = .ok (.bipush 12, 2) := by decide +kernel
theorem dX3_size_7 : decode cX3_size 7 = .ok (.if_icmp .ge 17, 3) := by decide +kernel
theorem dX3_size_10 : decode cX3_size 10 = .ok (.iload_n 1, 1) := by decide +kernel
theorem dX3_size_11 : decode cX3_size 11 = .ok (.iload_n 0, 1) := by decide +kernel
theorem dX3_size_12 : decode cX3_size 12 = .ok (.iload_n 2, 1) := by decide +kernel
theorem dX3_size_13 : decode cX3_size 13 = .ok (.ishr, 1) := by decide +kernel
theorem dX3_size_14 : decode cX3_size 14 = .ok (.iconst 1, 1) := by decide +kernel
theorem dX3_size_15 : decode cX3_size 15 = .ok (.iand, 1) := by decide +kernel
theorem dX3_size_16 : decode cX3_size 16 = .ok (.iadd, 1) := by decide +kernel
theorem dX3_size_17 : decode cX3_size 17 = .ok (.istore_n 1, 1) := by decide +kernel
theorem dX3_size_18 : decode cX3_size 18 = .ok (.iinc 2 1, 3) := by decide +kernel
theorem dX3_size_21 : decode cX3_size 21 = .ok (.goto (-17), 3) := by decide +kernel
theorem dX3_size_24 : decode cX3_size 24 = .ok (.iload_n 1, 1) := by decide +kernel
theorem dX3_size_25 : decode cX3_size 25 = .ok (.ireturn, 1) := by decide +kernel
abbrev wsX3_size : List Cond := Cond.code yX3_size cX3_size 3 (some .int) :: lw_gd
theorem dX3_comesFirst_0 : decode cX3_comesFirst 0 = .ok (.iload_n 0, 1) := by decide +kernel
theorem dX3_comesFirst_1 : decode cX3_comesFirst 1 = .ok (.invokestatic 47, 3) := by decide +kernel
theorem dX3_comesFirst_4 : decode cX3_comesFirst 4 = .ok (.iload_n 1, 1) := by decide +kernel
theorem dX3_comesFirst_5 : decode cX3_comesFirst 5 = .ok (.invokestatic 47, 3) := by decide +kernel
theorem dX3_comesFirst_8 : decode cX3_comesFirst 8 = .ok (.if_icmp .eq 20, 3) := by decide +kernel
theorem dX3_comesFirst_11 : decode cX3_comesFirst 11 = .ok (.iload_n 0, 1) := by decide +kernel
theorem dX3_comesFirst_12 : decode cX3_comesFirst 12 = .ok (.invokestatic 47, 3) := by decide +kernel
theorem dX3_comesFirst_15 : decode cX3_comesFirst 15 = .ok (.iload_n 1, 1) := by decide +kernel
theorem dX3_comesFirst_16 : decode cX3_comesFirst 16 = .ok (.invokestatic 47, 3) := by decide +kernel
theorem dX3_comesFirst_19 : decode cX3_comesFirst 19 = .ok (.if_icmp .ge 7, 3) := by decide +kernel
theorem dX3_comesFirst_22 : decode cX3_comesFirst 22 = .ok (.iconst 1, 1) := by decide +kernel
theorem dX3_comesFirst_23 : decode cX3_comesFirst 23 = .ok (.goto 4, 3) := by decide +kernel
theorem dX3_comesFirst_26 : decode cX3_comesFirst 26 = .ok (.iconst 0, 1) := by decide +kernel
theorem dX3_comesFirst_27 : decode cX3_comesFirst 27 = .ok (.ireturn, 1) := by decide +kernel
theorem dX3_comesFirst_28 : decode cX3_comesFirst 28 = .ok (.iconst 0, 1) := by decide +kernel
theorem dX3_comesFirst_29 : decode cX3_comesFirst 29 = .ok (.istore_n 2, 1) := by decide +kernel
theorem dX3_comesFirst_30 : decode cX3_comesFirst 30 = .ok (.iload_n 2, 1) := by decide +kernel
theorem dX3_comesFirst_31 : decode cX3_comesFirst 31 = .ok (.bipush 12, 2) := by decide +kernel
theorem dX3_comesFirst_33 : decode cX3_comesFirst 33 = .ok (.if_icmp .ge 37, 3) := by decide +kernel
theorem dX3_comesFirst_36 : decode cX3_comesFirst 36 = .ok (.iload_n 0, 1) := by decide +kernel
theorem dX3_comesFirst_37 : decode cX3_comesFirst 37 = .ok (.iload_n 2, 1) := by decide +kernel
theorem dX3_comesFirst_38 : decode cX3_comesFirst 38 = .ok (.ishr, 1) := by decide +kernel
theorem dX3_comesFirst_39 : decode cX3_comesFirst 39 = .ok (.iconst 1, 1) := by decide +kernel
theorem dX3_comesFirst_40 : decode cX3_comesFirst 40 = .ok (.iand, 1) := by decide +kernel
theorem dX3_comesFirst_41 : decode cX3_comesFirst 41 = .ok (.iload_n 1, 1) := by decide +kernel
theorem dX3_comesFirst_42 : decode cX3_comesFirst 42 = .ok (.iload_n 2, 1) := by decide +kernel
theorem dX3_comesFirst_43 : decode cX3_comesFirst 43 = .ok (.ishr, 1) := by decide +kernel
theorem dX3_comesFirst_44 : decode cX3_comesFirst 44 = .ok (.iconst 1, 1) := by decide +kernel
theorem dX3_comesFirst_45 : decode cX3_comesFirst 45 = .ok (.iand, 1) := by decide +kernel
theorem dX3_comesFirst_46 : decode cX3_comesFirst 46 = .ok (.if_icmp .eq 18, 3) := by decide +kernel
theorem dX3_comesFirst_49 : decode cX3_comesFirst 49 = .ok (.iload_n 0, 1) := by decide +kernel
theorem dX3_comesFirst_50 : decode cX3_comesFirst 50 = .ok (.iload_n 2, 1) := by decide +kernel
theorem dX3_comesFirst_51 : decode cX3_comesFirst 51 = .ok (.ishr, 1) := by decide +kernel
theorem dX3_comesFirst_52 : decode cX3_comesFirst 52 = .ok (.iconst 1, 1) := by decide +kernel
theorem dX3_comesFirst_53 : decode cX3_comesFirst 53 = .ok (.iand, 1) := by decide +kernel
theorem dX3_comesFirst_54 : decode cX3_comesFirst 54 = .ok (.iconst 1, 1) := by decide +kernel
theorem dX3_comesFirst_55 : decode cX3_comesFirst 55 = .ok (.if_icmp .ne 7, 3) := by decide +kernel
theorem dX3_comesFirst_58 : decode cX3_comesFirst 58 = .ok (.iconst 1, 1) := by decide +kernel
theorem dX3_comesFirst_59 : decode cX3_comesFirst 59 = .ok (.goto 4, 3) := by decide +kernel
theorem dX3_comesFirst_62 : decode cX3_comesFirst 62 = .ok (.iconst 0, 1) := by decide +kernel
theorem dX3_comesFirst_63 : decode cX3_comesFirst 63 = .ok (.ireturn, 1) := by decide +kernel
theorem dX3_comesFirst_64 : decode cX3_comesFirst 64 = .ok (.iinc 2 1, 3) := by decide +kernel
theorem dX3_comesFirst_67 : decode cX3_comesFirst 67 = .ok (.goto (-37), 3) := by decide +kernel
theorem dX3_comesFirst_70 : decode cX3_comesFirst 70 = .ok (.iconst 0, 1) := by decide +kernel
theorem dX3_comesFirst_71 : decode cX3_comesFirst 71 = .ok (.ireturn, 1) := by decide +kernel
abbrev wsX3_comesFirst : List Cond := Cond.code yX3_comesFirst cX3_comesFirst 3 (some .boolean) :: lw_gd
theorem dX3_common_0 : decode cX3_common 0 = .ok (.aload_n 0, 1) := by decide +kernel
theorem dX3_common_1 : decode cX3_common 1 = .ok (.iload_n 1, 1) := by decide +kernel
theorem dX3_common_2 : decode cX3_common 2 = .ok (.iload_n 2, 1) := by decide +kernel
theorem dX3_common_3 : decode cX3_common 3 = .ok (.invokevirtual 82, 3) := by decide +kernel
theorem dX3_common_6 : decode cX3_common 6 = .ok (.ifCond .eq 12, 3) := by decide +kernel
theorem dX3_common_9 : decode cX3_common 9 = .ok (.aload_n 0, 1) := by decide +kernel
theorem dX3_common_10 : decode cX3_common 10 = .ok (.iload_n 1, 1) := by decide +kernel
theorem dX3_common_11 : decode cX3_common 11 = .ok (.iload_n 2, 1) := by decide +kernel
theorem dX3_common_12 : decode cX3_common 12 = .ok (.invokevirtual 85, 3) := by decide +kernel
theorem dX3_common_15 : decode cX3_common 15 = .ok (.goto 4, 3) := by decide +kernel
theorem dX3_common_18 : decode cX3_common 18 = .ok (.iconst (-1), 1) := by decide +kernel
theorem dX3_common_19 : decode cX3_common 19 = .ok (.ireturn, 1) := by decide +kernel
abbrev wsX3_common : List Cond := Cond.code yX3_common cX3_common 3 (some .int) :: lw_gd
theorem dX3_areAlike_0 : decode cX3_areAlike 0 = .ok (.iload_n 1, 1) := by decide +kernel
theorem dX3_areAlike_1 : decode cX3_areAlike 1 = .ok (.invokestatic 39, 3) := by decide +kernel
theorem dX3_areAlike_4 : decode cX3_areAlike 4 = .ok (.ifCond .eq 29, 3) := by decide +kernel
theorem dX3_areAlike_7 : decode cX3_areAlike 7 = .ok (.iload_n 2, 1) := by decide +kernel
theorem dX3_areAlike_8 : decode cX3_areAlike 8 = .ok (.invokestatic 39, 3) := by decide +kernel
theorem dX3_areAlike_11 : decode cX3_areAlike 11 = .ok (.ifCond .eq 22, 3) := by decide +kernel
theorem dX3_areAlike_14 : decode cX3_areAlike 14 = .ok (.aload_n 0, 1) := by decide +kernel
theorem dX3_areAlike_15 : decode cX3_areAlike 15 = .ok (.getfield 13, 3) := by decide +kernel
theorem dX3_areAlike_18 : decode cX3_areAlike 18 = .ok (.iload_n 1, 1) := by decide +kernel
theorem dX3_areAlike_19 : decode cX3_areAlike 19 = .ok (.iaload, 1) := by decide +kernel
theorem dX3_areAlike_20 : decode cX3_areAlike 20 = .ok (.aload_n 0, 1) := by decide +kernel
theorem dX3_areAlike_21 : decode cX3_areAlike 21 = .ok (.getfield 13, 3) := by decide +kernel
theorem dX3_areAlike_24 : decode cX3_areAlike 24 = .ok (.iload_n 2, 1) := by decide +kernel
theorem dX3_areAlike_25 : decode cX3_areAlike 25 = .ok (.iaload, 1) := by decide +kernel
theorem dX3_areAlike_26 : decode cX3_areAlike 26 = .ok (.if_icmp .ne 7, 3) := by decide +kernel
theorem dX3_areAlike_29 : decode cX3_areAlike 29 = .ok (.iconst 1, 1) := by decide +kernel
theorem dX3_areAlike_30 : decode cX3_areAlike 30 = .ok (.goto 4, 3) := by decide +kernel
theorem dX3_areAlike_33 : decode cX3_areAlike 33 = .ok (.iconst 0, 1) := by decide +kernel
theorem dX3_areAlike_34 : decode cX3_areAlike 34 = .ok (.ireturn, 1) := by decide +kernel
abbrev wsX3_areAlike : List Cond := Cond.code yX3_areAlike cX3_areAlike 3 (some .boolean) :: lw_gd
theorem dX3_commonOf_0 : decode cX3_commonOf 0 = .ok (.aload_n 0, 1) := by decide +kernel
theorem dX3_commonOf_1 : decode cX3_commonOf 1 = .ok (.iload_n 1, 1) := by decide +kernel
theorem dX3_commonOf_2 : decode cX3_commonOf 2 = .ok (.aload_n 0, 1) := by decide +kernel
theorem dX3_commonOf_3 : decode cX3_commonOf 3 = .ok (.getfield 32, 3) := by decide +kernel
theorem dX3_commonOf_6 : decode cX3_commonOf 6 = .ok (.invokevirtual 75, 3) := by decide +kernel
theorem dX3_commonOf_9 : decode cX3_commonOf 9 = .ok (.aload_n 0, 1) := by decide +kernel
theorem dX3_commonOf_10 : decode cX3_commonOf 10 = .ok (.iload_n 2, 1) := by decide +kernel
theorem dX3_commonOf_11 : decode cX3_commonOf 11 = .ok (.aload_n 0, 1) := by decide +kernel
theorem dX3_commonOf_12 : decode cX3_commonOf 12 = .ok (.getfield 36, 3) := by decide +kernel
theorem dX3_commonOf_15 : decode cX3_commonOf 15 = .ok (.invokevirtual 75, 3) := by decide +kernel
theorem dX3_commonOf_18 : decode cX3_commonOf 18 = .ok (.iconst 0, 1) := by decide +kernel
theorem dX3_commonOf_19 : decode cX3_commonOf 19 = .ok (.istore_n 3, 1) := by decide +kernel
theorem dX3_commonOf_20 : decode cX3_commonOf 20 = .ok (.iconst 0, 1) := by decide +kernel
theorem dX3_commonOf_21 : decode cX3_commonOf 21 = .ok (.istore 4, 2) := by decide +kernel
theorem dX3_commonOf_23 : decode cX3_commonOf 23 = .ok (.iload 4, 2) := by decide +kernel
theorem dX3_commonOf_25 : decode cX3_commonOf 25 = .ok (.aload_n 0, 1) := by decide +kernel
theorem dX3_commonOf_26 : decode cX3_commonOf 26 = .ok (.iload_n 1, 1) := by decide +kernel
theorem dX3_commonOf_27 : decode cX3_commonOf 27 = .ok (.invokevirtual 43, 3) := by decide +kernel
theorem dX3_commonOf_30 : decode cX3_commonOf 30 = .ok (.if_icmp .gt 82, 3) := by decide +kernel
theorem dX3_commonOf_33 : decode cX3_commonOf 33 = .ok (.iload 4, 2) := by decide +kernel
theorem dX3_commonOf_35 : decode cX3_commonOf 35 = .ok (.invokestatic 47, 3) := by decide +kernel
theorem dX3_commonOf_38 : decode cX3_commonOf 38 = .ok (.istore 5, 2) := by decide +kernel
theorem dX3_commonOf_40 : decode cX3_commonOf 40 = .ok (.aload_n 0, 1) := by decide +kernel
theorem dX3_commonOf_41 : decode cX3_commonOf 41 = .ok (.getfield 32, 3) := by decide +kernel
theorem dX3_commonOf_44 : decode cX3_commonOf 44 = .ok (.iload 4, 2) := by decide +kernel
theorem dX3_commonOf_46 : decode cX3_commonOf 46 = .ok (.baload, 1) := by decide +kernel
theorem dX3_commonOf_47 : decode cX3_commonOf 47 = .ok (.iload 5, 2) := by decide +kernel
theorem dX3_commonOf_49 : decode cX3_commonOf 49 = .ok (.if_icmp .ne 19, 3) := by decide +kernel
theorem dX3_commonOf_52 : decode cX3_commonOf 52 = .ok (.aload_n 0, 1) := by decide +kernel
theorem dX3_commonOf_53 : decode cX3_commonOf 53 = .ok (.getfield 36, 3) := by decide +kernel
theorem dX3_commonOf_56 : decode cX3_commonOf 56 = .ok (.iload 4, 2) := by decide +kernel
theorem dX3_commonOf_58 : decode cX3_commonOf 58 = .ok (.baload, 1) := by decide +kernel
theorem dX3_commonOf_59 : decode cX3_commonOf 59 = .ok (.iload 5, 2) := by decide +kernel
theorem dX3_commonOf_61 : decode cX3_commonOf 61 = .ok (.if_icmp .ne 7, 3) := by decide +kernel
theorem dX3_commonOf_64 : decode cX3_commonOf 64 = .ok (.iconst 1, 1) := by decide +kernel
theorem dX3_commonOf_65 : decode cX3_commonOf 65 = .ok (.goto 4, 3) := by decide +kernel
theorem dX3_commonOf_68 : decode cX3_commonOf 68 = .ok (.iconst 0, 1) := by decide +kernel
theorem dX3_commonOf_69 : decode cX3_commonOf 69 = .ok (.istore 6, 2) := by decide +kernel
theorem dX3_commonOf_71 : decode cX3_commonOf 71 = .ok (.iload 6, 2) := by decide +kernel
theorem dX3_commonOf_73 : decode cX3_commonOf 73 = .ok (.ifCond .eq 33, 3) := by decide +kernel
theorem dX3_commonOf_76 : decode cX3_commonOf 76 = .ok (.iload 5, 2) := by decide +kernel
theorem dX3_commonOf_78 : decode cX3_commonOf 78 = .ok (.iload_n 3, 1) := by decide +kernel
theorem dX3_commonOf_79 : decode cX3_commonOf 79 = .ok (.invokestatic 47, 3) := by decide +kernel
theorem dX3_commonOf_82 : decode cX3_commonOf 82 = .ok (.if_icmp .gt 21, 3) := by decide +kernel
theorem dX3_commonOf_85 : decode cX3_commonOf 85 = .ok (.iload 5, 2) := by decide +kernel
theorem dX3_commonOf_87 : decode cX3_commonOf 87 = .ok (.iload_n 3, 1) := by decide +kernel
theorem dX3_commonOf_88 : decode cX3_commonOf 88 = .ok (.invokestatic 47, 3) := by decide +kernel
theorem dX3_commonOf_91 : decode cX3_commonOf 91 = .ok (.if_icmp .ne 15, 3) := by decide +kernel
theorem dX3_commonOf_94 : decode cX3_commonOf 94 = .ok (.iload 4, 2) := by decide +kernel
theorem dX3_commonOf_96 : decode cX3_commonOf 96 = .ok (.iload_n 3, 1) := by decide +kernel
theorem dX3_commonOf_97 : decode cX3_commonOf 97 = .ok (.invokestatic 79, 3) := by decide +kernel
theorem dX3_commonOf_100 : decode cX3_commonOf 100 = .ok (.ifCond .eq 6, 3) := by decide +kernel
theorem dX3_commonOf_103 : decode cX3_commonOf 103 = .ok (.iload 4, 2) := by decide +kernel
theorem dX3_commonOf_105 : decode cX3_commonOf 105 = .ok (.istore_n 3, 1) := by decide +kernel
theorem dX3_commonOf_106 : decode cX3_commonOf 106 = .ok (.iinc 4 1, 3) := by decide +kernel
theorem dX3_commonOf_109 : decode cX3_commonOf 109 = .ok (.goto (-86), 3) := by decide +kernel
theorem dX3_commonOf_112 : decode cX3_commonOf 112 = .ok (.iload_n 3, 1) := by decide +kernel
theorem dX3_commonOf_113 : decode cX3_commonOf 113 = .ok (.ireturn, 1) := by decide +kernel
abbrev wsX3_commonOf : List Cond := Cond.code yX3_commonOf cX3_commonOf 7 (some .int) :: lw_gd
theorem dX3_cover_0 : decode cX3_cover 0 = .ok (.aload_n 0, 1) := by decide +kernel
theorem dX3_cover_1 : decode cX3_cover 1 = .ok (.iload_n 1, 1) := by decide +kernel
theorem dX3_cover_2 : decode cX3_cover 2 = .ok (.iload_n 2, 1) := by decide +kernel
theorem dX3_cover_3 : decode cX3_cover 3 = .ok (.invokevirtual 82, 3) := by decide +kernel
theorem dX3_cover_6 : decode cX3_cover 6 = .ok (.ifCond .ne 5, 3) := by decide +kernel
theorem dX3_cover_9 : decode cX3_cover 9 = .ok (.iconst (-1), 1) := by decide +kernel
theorem dX3_cover_10 : decode cX3_cover 10 = .ok (.ireturn, 1) := by decide +kernel
theorem dX3_cover_11 : decode cX3_cover 11 = .ok (.aload_n 0, 1) := by decide +kernel
theorem dX3_cover_12 : decode cX3_cover 12 = .ok (.iload_n 1, 1) := by decide +kernel
theorem dX3_cover_13 : decode cX3_cover 13 = .ok (.iload_n 2, 1) := by decide +kernel
theorem dX3_cover_14 : decode cX3_cover 14 = .ok (.invokevirtual 85, 3) := by decide +kernel
theorem dX3_cover_17 : decode cX3_cover 17 = .ok (.invokestatic 47, 3) := by decide +kernel
theorem dX3_cover_20 : decode cX3_cover 20 = .ok (.istore_n 3, 1) := by decide +kernel
theorem dX3_cover_21 : decode cX3_cover 21 = .ok (.aload_n 0, 1) := by decide +kernel
theorem dX3_cover_22 : decode cX3_cover 22 = .ok (.iload_n 1, 1) := by decide +kernel
theorem dX3_cover_23 : decode cX3_cover 23 = .ok (.invokevirtual 43, 3) := by decide +kernel
theorem dX3_cover_26 : decode cX3_cover 26 = .ok (.istore 4, 2) := by decide +kernel
theorem dX3_cover_28 : decode cX3_cover 28 = .ok (.iload 4, 2) := by decide +kernel
theorem dX3_cover_30 : decode cX3_cover 30 = .ok (.istore 5, 2) := by decide +kernel
theorem dX3_cover_32 : decode cX3_cover 32 = .ok (.iconst 0, 1) := by decide +kernel
theorem dX3_cover_33 : decode cX3_cover 33 = .ok (.istore 6, 2) := by decide +kernel
theorem dX3_cover_35 : decode cX3_cover 35 = .ok (.iload 6, 2) := by decide +kernel
theorem dX3_cover_37 : decode cX3_cover 37 = .ok (.iload 4, 2) := by decide +kernel
theorem dX3_cover_39 : decode cX3_cover 39 = .ok (.if_icmp .gt 45, 3) := by decide +kernel
theorem dX3_cover_42 : decode cX3_cover 42 = .ok (.aload_n 0, 1) := by decide +kernel
theorem dX3_cover_43 : decode cX3_cover 43 = .ok (.getfield 32, 3) := by decide +kernel
theorem dX3_cover_46 : decode cX3_cover 46 = .ok (.iload 6, 2) := by decide +kernel
theorem dX3_cover_48 : decode cX3_cover 48 = .ok (.baload, 1) := by decide +kernel
theorem dX3_cover_49 : decode cX3_cover 49 = .ok (.aload_n 0, 1) := by decide +kernel
theorem dX3_cover_50 : decode cX3_cover 50 = .ok (.getfield 36, 3) := by decide +kernel
theorem dX3_cover_53 : decode cX3_cover 53 = .ok (.iload 4, 2) := by decide +kernel
theorem dX3_cover_55 : decode cX3_cover 55 = .ok (.iload 6, 2) := by decide +kernel
theorem dX3_cover_57 : decode cX3_cover 57 = .ok (.iconst (-1), 1) := by decide +kernel
theorem dX3_cover_58 : decode cX3_cover 58 = .ok (.ixor, 1) := by decide +kernel
theorem dX3_cover_59 : decode cX3_cover 59 = .ok (.iand, 1) := by decide +kernel
theorem dX3_cover_60 : decode cX3_cover 60 = .ok (.baload, 1) := by decide +kernel
theorem dX3_cover_61 : decode cX3_cover 61 = .ok (.iadd, 1) := by decide +kernel
theorem dX3_cover_62 : decode cX3_cover 62 = .ok (.iload_n 3, 1) := by decide +kernel
theorem dX3_cover_63 : decode cX3_cover 63 = .ok (.if_icmp .ne 11, 3) := by decide +kernel
theorem dX3_cover_66 : decode cX3_cover 66 = .ok (.iload 5, 2) := by decide +kernel
theorem dX3_cover_68 : decode cX3_cover 68 = .ok (.iload 6, 2) := by decide +kernel
theorem dX3_cover_70 : decode cX3_cover 70 = .ok (.iand, 1) := by decide +kernel
theorem dX3_cover_71 : decode cX3_cover 71 = .ok (.goto 5, 3) := by decide +kernel
theorem dX3_cover_74 : decode cX3_cover 74 = .ok (.iload 5, 2) := by decide +kernel
theorem dX3_cover_76 : decode cX3_cover 76 = .ok (.istore 5, 2) := by decide +kernel
theorem dX3_cover_78 : decode cX3_cover 78 = .ok (.iinc 6 1, 3) := by decide +kernel
theorem dX3_cover_81 : decode cX3_cover 81 = .ok (.goto (-46), 3) := by decide +kernel
theorem dX3_cover_84 : decode cX3_cover 84 = .ok (.iload 5, 2) := by decide +kernel
theorem dX3_cover_86 : decode cX3_cover 86 = .ok (.ireturn, 1) := by decide +kernel
abbrev wsX3_cover : List Cond := Cond.code yX3_cover cX3_cover 7 (some .int) :: lw_gd
theorem dL_law_0 : decode code 0 = .ok (.new 7, 3) := by decide +kernel
theorem dL_law_3 : decode code 3 = .ok (.dup, 1) := by decide +kernel
theorem dL_law_4 : decode code 4 = .ok (.invokespecial 9, 3) := by decide +kernel
theorem dL_law_7 : decode code 7 = .ok (.astore_n 1, 1) := by decide +kernel
theorem dL_law_8 : decode code 8 = .ok (.new 10, 3) := by decide +kernel
theorem dL_law_11 : decode code 11 = .ok (.dup, 1) := by decide +kernel
theorem dL_law_12 : decode code 12 = .ok (.invokespecial 12, 3) := by decide +kernel
theorem dL_law_15 : decode code 15 = .ok (.astore_n 2, 1) := by decide +kernel
theorem dL_law_16 : decode code 16 = .ok (.iconst 0, 1) := by decide +kernel
theorem dL_law_17 : decode code 17 = .ok (.istore_n 3, 1) := by decide +kernel
theorem dL_law_18 : decode code 18 = .ok (.iload_n 3, 1) := by decide +kernel
