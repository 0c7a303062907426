theorem dX2_init_0 : decode cX2_init 0 = .ok (.aload_n 0, 1) := by decide +kernel
theorem dX2_init_1 : decode cX2_init 1 = .ok (.invokespecial 1, 3) := by decide +kernel
theorem dX2_init_4 : decode cX2_init 4 = .ok (.aload_n 0, 1) := by decide +kernel
theorem dX2_init_5 : decode cX2_init 5 = .ok (.bipush 8, 2) := by decide +kernel
theorem dX2_init_7 : decode cX2_init 7 = .ok (.anewarray 9, 3) := by decide +kernel
theorem dX2_init_10 : decode cX2_init 10 = .ok (.putfield 11, 3) := by decide +kernel
theorem dX2_init_13 : decode cX2_init 13 = .ok (.aload_n 0, 1) := by decide +kernel
theorem dX2_init_14 : decode cX2_init 14 = .ok (.new 15, 3) := by decide +kernel
theorem dX2_init_17 : decode cX2_init 17 = .ok (.dup, 1) := by decide +kernel
theorem dX2_init_18 : decode cX2_init 18 = .ok (.invokespecial 17, 3) := by decide +kernel
theorem dX2_init_21 : decode cX2_init 21 = .ok (.putfield 18, 3) := by decide +kernel
theorem dX2_init_24 : decode cX2_init 24 = .ok (.aload_n 0, 1) := by decide +kernel
theorem dX2_init_25 : decode cX2_init 25 = .ok (.new 15, 3) := by decide +kernel
theorem dX2_init_28 : decode cX2_init 28 = .ok (.dup, 1) := by decide +kernel
theorem dX2_init_29 : decode cX2_init 29 = .ok (.invokespecial 17, 3) := by decide +kernel
theorem dX2_init_32 : decode cX2_init 32 = .ok (.putfield 22, 3) := by decide +kernel
theorem dX2_init_35 : decode cX2_init 35 = .ok (.aload_n 0, 1) := by decide +kernel
theorem dX2_init_36 : decode cX2_init 36 = .ok (.bipush 12, 2) := by decide +kernel
theorem dX2_init_38 : decode cX2_init 38 = .ok (.newarray .int, 2) := by decide +kernel
theorem dX2_init_40 : decode cX2_init 40 = .ok (.putfield 25, 3) := by decide +kernel
theorem dX2_init_43 : decode cX2_init 43 = .ok (.iconst 0, 1) := by decide +kernel
theorem dX2_init_44 : decode cX2_init 44 = .ok (.istore_n 1, 1) := by decide +kernel
theorem dX2_init_45 : decode cX2_init 45 = .ok (.iload_n 1, 1) := by decide +kernel
theorem dX2_init_46 : decode cX2_init 46 = .ok (.bipush 8, 2) := by decide +kernel
theorem dX2_init_48 : decode cX2_init 48 = .ok (.if_icmp .ge 22, 3) := by decide +kernel
theorem dX2_init_51 : decode cX2_init 51 = .ok (.aload_n 0, 1) := by decide +kernel
theorem dX2_init_52 : decode cX2_init 52 = .ok (.getfield 11, 3) := by decide +kernel
theorem dX2_init_55 : decode cX2_init 55 = .ok (.iload_n 1, 1) := by decide +kernel
theorem dX2_init_56 : decode cX2_init 56 = .ok (.new 9, 3) := by decide +kernel
theorem dX2_init_59 : decode cX2_init 59 = .ok (.dup, 1) := by decide +kernel
theorem dX2_init_60 : decode cX2_init 60 = .ok (.invokespecial 29, 3) := by decide +kernel
theorem dX2_init_63 : decode cX2_init 63 = .ok (.aastore, 1) := by decide +kernel
theorem dX2_init_64 : decode cX2_init 64 = .ok (.iinc 1 1, 3) := by decide +kernel
theorem dX2_init_67 : decode cX2_init 67 = .ok (.goto (-22), 3) := by decide +kernel
theorem dX2_init_70 : decode cX2_init 70 = .ok (.return_, 1) := by decide +kernel
abbrev wsX2_init : List Cond := Cond.code yX2_init cX2_init 2 none :: lw_gd
theorem dX2_begin_0 : decode cX2_begin 0 = .ok (.iload_n 1, 1) := by decide +kernel
theorem dX2_begin_1 : decode cX2_begin 1 = .ok (.invokestatic 30, 3) := by decide +kernel
theorem dX2_begin_4 : decode cX2_begin 4 = .ok (.ifCond .eq 14, 3) := by decide +kernel
theorem dX2_begin_7 : decode cX2_begin 7 = .ok (.iload_n 2, 1) := by decide +kernel
theorem dX2_begin_8 : decode cX2_begin 8 = .ok (.iconst 1, 1) := by decide +kernel
theorem dX2_begin_9 : decode cX2_begin 9 = .ok (.if_icmp .lt 9, 3) := by decide +kernel
theorem dX2_begin_12 : decode cX2_begin 12 = .ok (.iload_n 2, 1) := by decide +kernel
theorem dX2_begin_13 : decode cX2_begin 13 = .ok (.bipush 13, 2) := by decide +kernel
theorem dX2_begin_15 : decode cX2_begin 15 = .ok (.if_icmp .le 5, 3) := by decide +kernel
theorem dX2_begin_18 : decode cX2_begin 18 = .ok (.iconst 0, 1) := by decide +kernel
theorem dX2_begin_19 : decode cX2_begin 19 = .ok (.ireturn, 1) := by decide +kernel
theorem dX2_begin_20 : decode cX2_begin 20 = .ok (.aload_n 0, 1) := by decide +kernel
theorem dX2_begin_21 : decode cX2_begin 21 = .ok (.getfield 11, 3) := by decide +kernel
theorem dX2_begin_24 : decode cX2_begin 24 = .ok (.iload_n 1, 1) := by decide +kernel
theorem dX2_begin_25 : decode cX2_begin 25 = .ok (.aaload, 1) := by decide +kernel
theorem dX2_begin_26 : decode cX2_begin 26 = .ok (.iload_n 2, 1) := by decide +kernel
theorem dX2_begin_27 : decode cX2_begin 27 = .ok (.invokevirtual 34, 3) := by decide +kernel
theorem dX2_begin_30 : decode cX2_begin 30 = .ok (.iconst 1, 1) := by decide +kernel
theorem dX2_begin_31 : decode cX2_begin 31 = .ok (.ireturn, 1) := by decide +kernel
abbrev wsX2_begin : List Cond := Cond.code yX2_begin cX2_begin 3 (some .boolean) :: lw_gd
theorem dX2_isGraph_0 : decode cX2_isGraph 0 = .ok (.iload_n 0, 1) := by decide +kernel
theorem dX2_isGraph_1 : decode cX2_isGraph 1 = .ok (.ifCond .lt 13, 3) := by decide +kernel
theorem dX2_isGraph_4 : decode cX2_isGraph 4 = .ok (.iload_n 0, 1) := by decide +kernel
theorem dX2_isGraph_5 : decode cX2_isGraph 5 = .ok (.bipush 8, 2) := by decide +kernel
theorem dX2_isGraph_7 : decode cX2_isGraph 7 = .ok (.if_icmp .ge 7, 3) := by decide +kernel
theorem dX2_isGraph_10 : decode cX2_isGraph 10 = .ok (.iconst 1, 1) := by decide +kernel
theorem dX2_isGraph_11 : decode cX2_isGraph 11 = .ok (.goto 4, 3) := by decide +kernel
theorem dX2_isGraph_14 : decode cX2_isGraph 14 = .ok (.iconst 0, 1) := by decide +kernel
theorem dX2_isGraph_15 : decode cX2_isGraph 15 = .ok (.ireturn, 1) := by decide +kernel
abbrev wsX2_isGraph : List Cond := Cond.code yX2_isGraph cX2_isGraph 1 (some .boolean) :: lw_gd
theorem dX2_add_0 : decode cX2_add 0 = .ok (.iload_n 1, 1) := by decide +kernel
theorem dX2_add_1 : decode cX2_add 1 = .ok (.invokestatic 30, 3) := by decide +kernel
theorem dX2_add_4 : decode cX2_add 4 = .ok (.ifCond .ne 5, 3) := by decide +kernel
theorem dX2_add_7 : decode cX2_add 7 = .ok (.iconst (-1), 1) := by decide +kernel
theorem dX2_add_8 : decode cX2_add 8 = .ok (.ireturn, 1) := by decide +kernel
theorem dX2_add_9 : decode cX2_add 9 = .ok (.aload_n 0, 1) := by decide +kernel
theorem dX2_add_10 : decode cX2_add 10 = .ok (.getfield 11, 3) := by decide +kernel
theorem dX2_add_13 : decode cX2_add 13 = .ok (.iload_n 1, 1) := by decide +kernel
theorem dX2_add_14 : decode cX2_add 14 = .ok (.aaload, 1) := by decide +kernel
theorem dX2_add_15 : decode cX2_add 15 = .ok (.astore 4, 2) := by decide +kernel
theorem dX2_add_17 : decode cX2_add 17 = .ok (.aload 4, 2) := by decide +kernel
theorem dX2_add_19 : decode cX2_add 19 = .ok (.iload_n 2, 1) := by decide +kernel
theorem dX2_add_20 : decode cX2_add 20 = .ok (.invokevirtual 38, 3) := by decide +kernel
theorem dX2_add_23 : decode cX2_add 23 = .ok (.ifCond .eq 16, 3) := by decide +kernel
theorem dX2_add_26 : decode cX2_add 26 = .ok (.aload 4, 2) := by decide +kernel
theorem dX2_add_28 : decode cX2_add 28 = .ok (.iload_n 3, 1) := by decide +kernel
theorem dX2_add_29 : decode cX2_add 29 = .ok (.invokevirtual 38, 3) := by decide +kernel
theorem dX2_add_32 : decode cX2_add 32 = .ok (.ifCond .eq 7, 3) := by decide +kernel
theorem dX2_add_35 : decode cX2_add 35 = .ok (.iconst 1, 1) := by decide +kernel
theorem dX2_add_36 : decode cX2_add 36 = .ok (.goto 4, 3) := by decide +kernel
theorem dX2_add_39 : decode cX2_add 39 = .ok (.iconst 0, 1) := by decide +kernel
theorem dX2_add_40 : decode cX2_add 40 = .ok (.istore 5, 2) := by decide +kernel
theorem dX2_add_42 : decode cX2_add 42 = .ok (.iload 5, 2) := by decide +kernel
theorem dX2_add_44 : decode cX2_add 44 = .ok (.ifCond .eq 18, 3) := by decide +kernel
theorem dX2_add_47 : decode cX2_add 47 = .ok (.aload 4, 2) := by decide +kernel
theorem dX2_add_49 : decode cX2_add 49 = .ok (.iconst 1, 1) := by decide +kernel
theorem dX2_add_50 : decode cX2_add 50 = .ok (.iload_n 2, 1) := by decide +kernel
theorem dX2_add_51 : decode cX2_add 51 = .ok (.ishl, 1) := by decide +kernel
theorem dX2_add_52 : decode cX2_add 52 = .ok (.iconst 1, 1) := by decide +kernel
theorem dX2_add_53 : decode cX2_add 53 = .ok (.iload_n 3, 1) := by decide +kernel
theorem dX2_add_54 : decode cX2_add 54 = .ok (.ishl, 1) := by decide +kernel
theorem dX2_add_55 : decode cX2_add 55 = .ok (.ixor, 1) := by decide +kernel
theorem dX2_add_56 : decode cX2_add 56 = .ok (.invokevirtual 41, 3) := by decide +kernel
theorem dX2_add_59 : decode cX2_add 59 = .ok (.goto 4, 3) := by decide +kernel
theorem dX2_add_62 : decode cX2_add 62 = .ok (.iconst (-1), 1) := by decide +kernel
theorem dX2_add_63 : decode cX2_add 63 = .ok (.ireturn, 1) := by decide +kernel
abbrev wsX2_add : List Cond := Cond.code yX2_add cX2_add 6 (some .int) :: lw_gd
theorem dX2_weigh_0 : decode cX2_weigh 0 = .ok (.aload_n 0, 1) := by decide +kernel
theorem dX2_weigh_1 : decode cX2_weigh 1 = .ok (.iload_n 1, 1) := by decide +kernel
theorem dX2_weigh_2 : decode cX2_weigh 2 = .ok (.iload_n 2, 1) := by decide +kernel
theorem dX2_weigh_3 : decode cX2_weigh 3 = .ok (.invokevirtual 45, 3) := by decide +kernel
theorem dX2_weigh_6 : decode cX2_weigh 6 = .ok (.ifCond .eq 17, 3) := by decide +kernel
theorem dX2_weigh_9 : decode cX2_weigh 9 = .ok (.iload_n 3, 1) := by decide +kernel
theorem dX2_weigh_10 : decode cX2_weigh 10 = .ok (.sipush (-999), 3) := by decide +kernel
theorem dX2_weigh_13 : decode cX2_weigh 13 = .ok (.if_icmp .lt 10, 3) := by decide +kernel
theorem dX2_weigh_16 : decode cX2_weigh 16 = .ok (.iload_n 3, 1) := by decide +kernel
theorem dX2_weigh_17 : decode cX2_weigh 17 = .ok (.sipush 999, 3) := by decide +kernel
theorem dX2_weigh_20 : decode cX2_weigh 20 = .ok (.if_icmp .le 5, 3) := by decide +kernel
theorem dX2_weigh_23 : decode cX2_weigh 23 = .ok (.iconst 0, 1) := by decide +kernel
theorem dX2_weigh_24 : decode cX2_weigh 24 = .ok (.ireturn, 1) := by decide +kernel
theorem dX2_weigh_25 : decode cX2_weigh 25 = .ok (.aload_n 0, 1) := by decide +kernel
theorem dX2_weigh_26 : decode cX2_weigh 26 = .ok (.getfield 11, 3) := by decide +kernel
theorem dX2_weigh_29 : decode cX2_weigh 29 = .ok (.iload_n 1, 1) := by decide +kernel
theorem dX2_weigh_30 : decode cX2_weigh 30 = .ok (.aaload, 1) := by decide +kernel
theorem dX2_weigh_31 : decode cX2_weigh 31 = .ok (.getfield 49, 3) := by decide +kernel
theorem dX2_weigh_34 : decode cX2_weigh 34 = .ok (.iload_n 2, 1) := by decide +kernel
theorem dX2_weigh_35 : decode cX2_weigh 35 = .ok (.iload_n 3, 1) := by decide +kernel
theorem dX2_weigh_36 : decode cX2_weigh 36 = .ok (.iastore, 1) := by decide +kernel
theorem dX2_weigh_37 : decode cX2_weigh 37 = .ok (.iconst 1, 1) := by decide +kernel
theorem dX2_weigh_38 : decode cX2_weigh 38 = .ok (.ireturn, 1) := by decide +kernel
abbrev wsX2_weigh : List Cond := Cond.code yX2_weigh cX2_weigh 4 (some .boolean) :: lw_gd
theorem dX2_isEdge_0 : decode cX2_isEdge 0 = .ok (.iload_n 1, 1) := by decide +kernel
theorem dX2_isEdge_1 : decode cX2_isEdge 1 = .ok (.invokestatic 30, 3) := by decide +kernel
theorem dX2_isEdge_4 : decode cX2_isEdge 4 = .ok (.ifCond .eq 24, 3) := by decide +kernel
theorem dX2_isEdge_7 : decode cX2_isEdge 7 = .ok (.iload_n 2, 1) := by decide +kernel
theorem dX2_isEdge_8 : decode cX2_isEdge 8 = .ok (.ifCond .lt 20, 3) := by decide +kernel
theorem dX2_isEdge_11 : decode cX2_isEdge 11 = .ok (.iload_n 2, 1) := by decide +kernel
theorem dX2_isEdge_12 : decode cX2_isEdge 12 = .ok (.aload_n 0, 1) := by decide +kernel
theorem dX2_isEdge_13 : decode cX2_isEdge 13 = .ok (.getfield 11, 3) := by decide +kernel
theorem dX2_isEdge_16 : decode cX2_isEdge 16 = .ok (.iload_n 1, 1) := by decide +kernel
theorem dX2_isEdge_17 : decode cX2_isEdge 17 = .ok (.aaload, 1) := by decide +kernel
theorem dX2_isEdge_18 : decode cX2_isEdge 18 = .ok (.getfield 59, 3) := by decide +kernel
theorem dX2_isEdge_21 : decode cX2_isEdge 21 = .ok (.if_icmp .ge 7, 3) := by decide +kernel
theorem dX2_isEdge_24 : decode cX2_isEdge 24 = .ok (.iconst 1, 1) := by decide +kernel
theorem dX2_isEdge_25 : decode cX2_isEdge 25 = .ok (.goto 4, 3) := by decide +kernel
theorem dX2_isEdge_28 : decode cX2_isEdge 28 = .ok (.iconst 0, 1) := by decide +kernel
theorem dX2_isEdge_29 : decode cX2_isEdge 29 = .ok (.ireturn, 1) := by decide +kernel
abbrev wsX2_isEdge : List Cond := Cond.code yX2_isEdge cX2_isEdge 3 (some .boolean) :: lw_gd
theorem dX2_leave_0 : decode cX2_leave 0 = .ok (.iload_n 1, 1) := by decide +kernel
theorem dX2_leave_1 : decode cX2_leave 1 = .ok (.invokestatic 30, 3) := by decide +kernel
theorem dX2_leave_4 : decode cX2_leave 4 = .ok (.ifCond .eq 12, 3) := by decide +kernel
theorem dX2_leave_7 : decode cX2_leave 7 = .ok (.aload_n 0, 1) := by decide +kernel
theorem dX2_leave_8 : decode cX2_leave 8 = .ok (.iload_n 2, 1) := by decide +kernel
theorem dX2_leave_9 : decode cX2_leave 9 = .ok (.iload_n 3, 1) := by decide +kernel
theorem dX2_leave_10 : decode cX2_leave 10 = .ok (.invokevirtual 52, 3) := by decide +kernel
theorem dX2_leave_13 : decode cX2_leave 13 = .ok (.ifCond .ne 5, 3) := by decide +kernel
theorem dX2_leave_16 : decode cX2_leave 16 = .ok (.iconst (-1), 1) := by decide +kernel
theorem dX2_leave_17 : decode cX2_leave 17 = .ok (.ireturn, 1) := by decide +kernel
theorem dX2_leave_18 : decode cX2_leave 18 = .ok (.aload_n 0, 1) := by decide +kernel
theorem dX2_leave_19 : decode cX2_leave 19 = .ok (.getfield 11, 3) := by decide +kernel
theorem dX2_leave_22 : decode cX2_leave 22 = .ok (.iload_n 2, 1) := by decide +kernel
theorem dX2_leave_23 : decode cX2_leave 23 = .ok (.aaload, 1) := by decide +kernel
theorem dX2_leave_24 : decode cX2_leave 24 = .ok (.astore 5, 2) := by decide +kernel
theorem dX2_leave_26 : decode cX2_leave 26 = .ok (.aload_n 0, 1) := by decide +kernel
theorem dX2_leave_27 : decode cX2_leave 27 = .ok (.getfield 18, 3) := by decide +kernel
theorem dX2_leave_30 : decode cX2_leave 30 = .ok (.aload 5, 2) := by decide +kernel
theorem dX2_leave_32 : decode cX2_leave 32 = .ok (.iload 4, 2) := by decide +kernel
theorem dX2_leave_34 : decode cX2_leave 34 = .ok (.ifCond .eq 7, 3) := by decide +kernel
theorem dX2_leave_37 : decode cX2_leave 37 = .ok (.iload_n 3, 1) := by decide +kernel
theorem dX2_leave_38 : decode cX2_leave 38 = .ok (.goto 4, 3) := by decide +kernel
theorem dX2_leave_41 : decode cX2_leave 41 = .ok (.iconst 0, 1) := by decide +kernel
theorem dX2_leave_42 : decode cX2_leave 42 = .ok (.invokevirtual 55, 3) := by decide +kernel
theorem dX2_leave_45 : decode cX2_leave 45 = .ok (.pop, 1) := by decide +kernel
theorem dX2_leave_46 : decode cX2_leave 46 = .ok (.iconst 0, 1) := by decide +kernel
theorem dX2_leave_47 : decode cX2_leave 47 = .ok (.istore 6, 2) := by decide +kernel
theorem dX2_leave_49 : decode cX2_leave 49 = .ok (.iconst 0, 1) := by decide +kernel
theorem dX2_leave_50 : decode cX2_leave 50 = .ok (.istore 7, 2) := by decide +kernel
theorem dX2_leave_52 : decode cX2_leave 52 = .ok (.iload 7, 2) := by decide +kernel
theorem dX2_leave_54 : decode cX2_leave 54 = .ok (.aload 5, 2) := by decide +kernel
theorem dX2_leave_56 : decode cX2_leave 56 = .ok (.getfield 59, 3) := by decide +kernel
theorem dX2_leave_59 : decode cX2_leave 59 = .ok (.if_icmp .ge 43, 3) := by decide +kernel
theorem dX2_leave_62 : decode cX2_leave 62 = .ok (.iload_n 3, 1) := by decide +kernel
theorem dX2_leave_63 : decode cX2_leave 63 = .ok (.iload 7, 2) := by decide +kernel
theorem dX2_leave_65 : decode cX2_leave 65 = .ok (.invokestatic 63, 3) := by decide +kernel
theorem dX2_leave_68 : decode cX2_leave 68 = .ok (.ifCond .ne 28, 3) := by decide +kernel
theorem dX2_leave_71 : decode cX2_leave 71 = .ok (.aload_n 0, 1) := by decide +kernel
theorem dX2_leave_72 : decode cX2_leave 72 = .ok (.getfield 25, 3) := by decide +kernel
theorem dX2_leave_75 : decode cX2_leave 75 = .ok (.iload 6, 2) := by decide +kernel
theorem dX2_leave_77 : decode cX2_leave 77 = .ok (.aload_n 0, 1) := by decide +kernel
theorem dX2_leave_78 : decode cX2_leave 78 = .ok (.getfield 18, 3) := by decide +kernel
theorem dX2_leave_81 : decode cX2_leave 81 = .ok (.aload 5, 2) := by decide +kernel
theorem dX2_leave_83 : decode cX2_leave 83 = .ok (.getfield 66, 3) := by decide +kernel
theorem dX2_leave_86 : decode cX2_leave 86 = .ok (.iload 7, 2) := by decide +kernel
theorem dX2_leave_88 : decode cX2_leave 88 = .ok (.iaload, 1) := by decide +kernel
theorem dX2_leave_89 : decode cX2_leave 89 = .ok (.invokevirtual 69, 3) := by decide +kernel
theorem dX2_leave_92 : decode cX2_leave 92 = .ok (.iastore, 1) := by decide +kernel
theorem dX2_leave_93 : decode cX2_leave 93 = .ok (.iinc 6 1, 3) := by decide +kernel
theorem dX2_leave_96 : decode cX2_leave 96 = .ok (.iinc 7 1, 3) := by decide +kernel
theorem dX2_leave_99 : decode cX2_leave 99 = .ok (.goto (-47), 3) := by decide +kernel
theorem dX2_leave_102 : decode cX2_leave 102 = .ok (.aload_n 0, 1) := by decide +kernel
theorem dX2_leave_103 : decode cX2_leave 103 = .ok (.getfield 11, 3) := by decide +kernel
theorem dX2_leave_106 : decode cX2_leave 106 = .ok (.iload_n 1, 1) := by decide +kernel
theorem dX2_leave_107 : decode cX2_leave 107 = .ok (.aaload, 1) := by decide +kernel
theorem dX2_leave_108 : decode cX2_leave 108 = .ok (.aload_n 0, 1) := by decide +kernel
theorem dX2_leave_109 : decode cX2_leave 109 = .ok (.getfield 25, 3) := by decide +kernel
theorem dX2_leave_112 : decode cX2_leave 112 = .ok (.iload 6, 2) := by decide +kernel
theorem dX2_leave_114 : decode cX2_leave 114 = .ok (.invokevirtual 72, 3) := by decide +kernel
theorem dX2_leave_117 : decode cX2_leave 117 = .ok (.iload 6, 2) := by decide +kernel
theorem dX2_leave_119 : decode cX2_leave 119 = .ok (.ireturn, 1) := by decide +kernel
abbrev wsX2_leave : List Cond := Cond.code yX2_leave cX2_leave 8 (some .int) :: lw_gd
theorem dX2_isSet_0 : decode cX2_isSet 0 = .ok (.iload_n 1, 1) := by decide +kernel
theorem dX2_isSet_1 : decode cX2_isSet 1 = .ok (.invokestatic 30, 3) := by decide +kernel
theorem dX2_isSet_4 : decode cX2_isSet 4 = .ok (.ifCond .eq 27, 3) := by decide +kernel
theorem dX2_isSet_7 : decode cX2_isSet 7 = .ok (.iload_n 2, 1) := by decide +kernel
theorem dX2_isSet_8 : decode cX2_isSet 8 = .ok (.ifCond .lt 23, 3) := by decide +kernel
theorem dX2_isSet_11 : decode cX2_isSet 11 = .ok (.iload_n 2, 1) := by decide +kernel
theorem dX2_isSet_12 : decode cX2_isSet 12 = .ok (.aload_n 0, 1) := by decide +kernel
theorem dX2_isSet_13 : decode cX2_isSet 13 = .ok (.getfield 11, 3) := by decide +kernel
theorem dX2_isSet_16 : decode cX2_isSet 16 = .ok (.iload_n 1, 1) := by decide +kernel
theorem dX2_isSet_17 : decode cX2_isSet 17 = .ok (.aaload, 1) := by decide +kernel
theorem dX2_isSet_18 : decode cX2_isSet 18 = .ok (.getfield 59, 3) := by decide +kernel
theorem dX2_isSet_21 : decode cX2_isSet 21 = .ok (.invokestatic 89, 3) := by decide +kernel
theorem dX2_isSet_24 : decode cX2_isSet 24 = .ok (.if_icmp .gt 7, 3) := by decide +kernel
theorem dX2_isSet_27 : decode cX2_isSet 27 = .ok (.iconst 1, 1) := by decide +kernel
theorem dX2_isSet_28 : decode cX2_isSet 28 = .ok (.goto 4, 3) := by decide +kernel
theorem dX2_isSet_31 : decode cX2_isSet 31 = .ok (.iconst 0, 1) := by decide +kernel
theorem dX2_isSet_32 : decode cX2_isSet 32 = .ok (.ireturn, 1) := by decide +kernel
abbrev wsX2_isSet : List Cond := Cond.code yX2_isSet cX2_isSet 3 (some .boolean) :: lw_gd
theorem dX2_all_0 : decode cX2_all 0 = .ok (.iconst 1, 1) := by decide +kernel
theorem dX2_all_1 : decode cX2_all 1 = .ok (.iload_n 0, 1) := by decide +kernel
theorem dX2_all_2 : decode cX2_all 2 = .ok (.ishl, 1) := by decide +kernel
theorem dX2_all_3 : decode cX2_all 3 = .ok (.iconst 1, 1) := by decide +kernel
theorem dX2_all_4 : decode cX2_all 4 = .ok (.isub, 1) := by decide +kernel
theorem dX2_all_5 : decode cX2_all 5 = .ok (.ireturn, 1) := by decide +kernel
abbrev wsX2_all : List Cond := Cond.code yX2_all cX2_all 1 (some .int) :: lw_gd
theorem dX2_has_0 : decode cX2_has 0 = .ok (.iload_n 0, 1) := by decide +kernel
theorem dX2_has_1 : decode cX2_has 1 = .ok (.iload_n 1, 1) := by decide +kernel
theorem dX2_has_2 : decode cX2_has 2 = .ok (.ishr, 1) := by decide +kernel
theorem dX2_has_3 : decode cX2_has 3 = .ok (.iconst 1, 1) := by decide +kernel
theorem dX2_has_4 : decode cX2_has 4 = .ok (.iand, 1) := by decide +kernel
theorem dX2_has_5 : decode cX2_has 5 = .ok (.ifCond .eq 7, 3) := by decide +kernel
theorem dX2_has_8 : decode cX2_has 8 = .ok (.iconst 1, 1) := by decide +kernel
theorem dX2_has_9 : decode cX2_has 9 = .ok (.goto 4, 3) := by decide +kernel
theorem dX2_has_12 : decode cX2_has 12 = .ok (.iconst 0, 1) := by decide +kernel
theorem dX2_has_13 : decode cX2_has 13 = .ok (.ireturn, 1) := by decide +kernel
abbrev wsX2_has : List Cond := Cond.code yX2_has cX2_has 2 (some .boolean) :: lw_gd
theorem dX2_beside_0 : decode cX2_beside 0 = .ok (.iload_n 1, 1) := by decide +kernel
theorem dX2_beside_1 : decode cX2_beside 1 = .ok (.invokestatic 30, 3) := by decide +kernel
theorem dX2_beside_4 : decode cX2_beside 4 = .ok (.ifCond .eq 17, 3) := by decide +kernel
theorem dX2_beside_7 : decode cX2_beside 7 = .ok (.iload_n 2, 1) := by decide +kernel
theorem dX2_beside_8 : decode cX2_beside 8 = .ok (.invokestatic 30, 3) := by decide +kernel
theorem dX2_beside_11 : decode cX2_beside 11 = .ok (.ifCond .eq 10, 3) := by decide +kernel
theorem dX2_beside_14 : decode cX2_beside 14 = .ok (.iload_n 3, 1) := by decide +kernel
theorem dX2_beside_15 : decode cX2_beside 15 = .ok (.invokestatic 30, 3) := by decide +kernel
theorem dX2_beside_18 : decode cX2_beside 18 = .ok (.ifCond .ne 5, 3) := by decide +kernel
theorem dX2_beside_21 : decode cX2_beside 21 = .ok (.iconst (-1), 1) := by decide +kernel
theorem dX2_beside_22 : decode cX2_beside 22 = .ok (.ireturn, 1) := by decide +kernel
theorem dX2_beside_23 : decode cX2_beside 23 = .ok (.aload_n 0, 1) := by decide +kernel
theorem dX2_beside_24 : decode cX2_beside 24 = .ok (.getfield 11, 3) := by decide +kernel
theorem dX2_beside_27 : decode cX2_beside 27 = .ok (.iload_n 2, 1) := by decide +kernel
theorem dX2_beside_28 : decode cX2_beside 28 = .ok (.aaload, 1) := by decide +kernel
theorem dX2_beside_29 : decode cX2_beside 29 = .ok (.getfield 59, 3) := by decide +kernel
theorem dX2_beside_32 : decode cX2_beside 32 = .ok (.istore 4, 2) := by decide +kernel
theorem dX2_beside_34 : decode cX2_beside 34 = .ok (.iload 4, 2) := by decide +kernel
theorem dX2_beside_36 : decode cX2_beside 36 = .ok (.aload_n 0, 1) := by decide +kernel
theorem dX2_beside_37 : decode cX2_beside 37 = .ok (.getfield 11, 3) := by decide +kernel
theorem dX2_beside_40 : decode cX2_beside 40 = .ok (.iload_n 3, 1) := by decide +kernel
theorem dX2_beside_41 : decode cX2_beside 41 = .ok (.aaload, 1) := by decide +kernel
theorem dX2_beside_42 : decode cX2_beside 42 = .ok (.getfield 59, 3) := by decide +kernel
theorem dX2_beside_45 : decode cX2_beside 45 = .ok (.iadd, 1) := by decide +kernel
theorem dX2_beside_46 : decode cX2_beside 46 = .ok (.istore 5, 2) := by decide +kernel
theorem dX2_beside_48 : decode cX2_beside 48 = .ok (.iload 5, 2) := by decide +kernel
theorem dX2_beside_50 : decode cX2_beside 50 = .ok (.bipush 12, 2) := by decide +kernel
theorem dX2_beside_52 : decode cX2_beside 52 = .ok (.if_icmp .le 5, 3) := by decide +kernel
theorem dX2_beside_55 : decode cX2_beside 55 = .ok (.iconst (-1), 1) := by decide +kernel
theorem dX2_beside_56 : decode cX2_beside 56 = .ok (.ireturn, 1) := by decide +kernel
theorem dX2_beside_57 : decode cX2_beside 57 = .ok (.aload_n 0, 1) := by decide +kernel
theorem dX2_beside_58 : decode cX2_beside 58 = .ok (.aload_n 0, 1) := by decide +kernel
theorem dX2_beside_59 : decode cX2_beside 59 = .ok (.getfield 11, 3) := by decide +kernel
theorem dX2_beside_62 : decode cX2_beside 62 = .ok (.iload_n 2, 1) := by decide +kernel
theorem dX2_beside_63 : decode cX2_beside 63 = .ok (.aaload, 1) := by decide +kernel
theorem dX2_beside_64 : decode cX2_beside 64 = .ok (.iconst 0, 1) := by decide +kernel
theorem dX2_beside_65 : decode cX2_beside 65 = .ok (.iconst 0, 1) := by decide +kernel
theorem dX2_beside_66 : decode cX2_beside 66 = .ok (.invokevirtual 76, 3) := by decide +kernel
theorem dX2_beside_69 : decode cX2_beside 69 = .ok (.aload_n 0, 1) := by decide +kernel
theorem dX2_beside_70 : decode cX2_beside 70 = .ok (.aload_n 0, 1) := by decide +kernel
theorem dX2_beside_71 : decode cX2_beside 71 = .ok (.getfield 11, 3) := by decide +kernel
theorem dX2_beside_74 : decode cX2_beside 74 = .ok (.iload_n 3, 1) := by decide +kernel
theorem dX2_beside_75 : decode cX2_beside 75 = .ok (.aaload, 1) := by decide +kernel
theorem dX2_beside_76 : decode cX2_beside 76 = .ok (.iload 4, 2) := by decide +kernel
theorem dX2_beside_78 : decode cX2_beside 78 = .ok (.aload_n 0, 1) := by decide +kernel
theorem dX2_beside_79 : decode cX2_beside 79 = .ok (.getfield 11, 3) := by decide +kernel
theorem dX2_beside_82 : decode cX2_beside 82 = .ok (.iload_n 2, 1) := by decide +kernel
theorem dX2_beside_83 : decode cX2_beside 83 = .ok (.aaload, 1) := by decide +kernel
theorem dX2_beside_84 : decode cX2_beside 84 = .ok (.invokevirtual 80, 3) := by decide +kernel
theorem dX2_beside_87 : decode cX2_beside 87 = .ok (.invokestatic 84, 3) := by decide +kernel
theorem dX2_beside_90 : decode cX2_beside 90 = .ok (.invokevirtual 76, 3) := by decide +kernel
theorem dX2_beside_93 : decode cX2_beside 93 = .ok (.aload_n 0, 1) := by decide +kernel
theorem dX2_beside_94 : decode cX2_beside 94 = .ok (.getfield 11, 3) := by decide +kernel
theorem dX2_beside_97 : decode cX2_beside 97 = .ok (.iload_n 1, 1) := by decide +kernel
theorem dX2_beside_98 : decode cX2_beside 98 = .ok (.aaload, 1) := by decide +kernel
theorem dX2_beside_99 : decode cX2_beside 99 = .ok (.aload_n 0, 1) := by decide +kernel
theorem dX2_beside_100 : decode cX2_beside 100 = .ok (.getfield 25, 3) := by decide +kernel
theorem dX2_beside_103 : decode cX2_beside 103 = .ok (.iload 5, 2) := by decide +kernel
theorem dX2_beside_105 : decode cX2_beside 105 = .ok (.invokevirtual 72, 3) := by decide +kernel
theorem dX2_beside_108 : decode cX2_beside 108 = .ok (.iload 5, 2) := by decide +kernel
theorem dX2_beside_110 : decode cX2_beside 110 = .ok (.ireturn, 1) := by decide +kernel
abbrev wsX2_beside : List Cond := Cond.code yX2_beside cX2_beside 6 (some .int) :: lw_gd
theorem dX2_draftPacked_0 : decode cX2_draftPacked 0 = .ok (.aload_n 1, 1) := by decide +kernel
theorem dX2_draftPacked_1 : decode cX2_draftPacked 1 = .ok (.invokevirtual 80, 3) := by decide +kernel
theorem dX2_draftPacked_4 : decode cX2_draftPacked 4 = .ok (.istore 4, 2) := by decide +kernel
theorem dX2_draftPacked_6 : decode cX2_draftPacked 6 = .ok (.iconst 0, 1) := by decide +kernel
theorem dX2_draftPacked_7 : decode cX2_draftPacked 7 = .ok (.istore 5, 2) := by decide +kernel
theorem dX2_draftPacked_9 : decode cX2_draftPacked 9 = .ok (.iload 5, 2) := by decide +kernel
theorem dX2_draftPacked_11 : decode cX2_draftPacked 11 = .ok (.aload_n 1, 1) := by decide +kernel
theorem dX2_draftPacked_12 : decode cX2_draftPacked 12 = .ok (.getfield 59, 3) := by decide +kernel
theorem dX2_draftPacked_15 : decode cX2_draftPacked 15 = .ok (.if_icmp .ge 41, 3) := by decide +kernel
theorem dX2_draftPacked_18 : decode cX2_draftPacked 18 = .ok (.iload_n 2, 1) := by decide +kernel
theorem dX2_draftPacked_19 : decode cX2_draftPacked 19 = .ok (.iload 5, 2) := by decide +kernel
theorem dX2_draftPacked_21 : decode cX2_draftPacked 21 = .ok (.iadd, 1) := by decide +kernel
theorem dX2_draftPacked_22 : decode cX2_draftPacked 22 = .ok (.bipush 12, 2) := by decide +kernel
theorem dX2_draftPacked_24 : decode cX2_draftPacked 24 = .ok (.if_icmp .ge 32, 3) := by decide +kernel
theorem dX2_draftPacked_27 : decode cX2_draftPacked 27 = .ok (.aload_n 0, 1) := by decide +kernel
theorem dX2_draftPacked_28 : decode cX2_draftPacked 28 = .ok (.getfield 25, 3) := by decide +kernel
theorem dX2_draftPacked_31 : decode cX2_draftPacked 31 = .ok (.iload_n 2, 1) := by decide +kernel
theorem dX2_draftPacked_32 : decode cX2_draftPacked 32 = .ok (.iload 5, 2) := by decide +kernel
theorem dX2_draftPacked_34 : decode cX2_draftPacked 34 = .ok (.iadd, 1) := by decide +kernel
theorem dX2_draftPacked_35 : decode cX2_draftPacked 35 = .ok (.aload_n 1, 1) := by decide +kernel
theorem dX2_draftPacked_36 : decode cX2_draftPacked 36 = .ok (.getfield 66, 3) := by decide +kernel
theorem dX2_draftPacked_39 : decode cX2_draftPacked 39 = .ok (.iload 5, 2) := by decide +kernel
theorem dX2_draftPacked_41 : decode cX2_draftPacked 41 = .ok (.iaload, 1) := by decide +kernel
theorem dX2_draftPacked_42 : decode cX2_draftPacked 42 = .ok (.iload 4, 2) := by decide +kernel
theorem dX2_draftPacked_44 : decode cX2_draftPacked 44 = .ok (.invokestatic 111, 3) := by decide +kernel
theorem dX2_draftPacked_47 : decode cX2_draftPacked 47 = .ok (.iload_n 3, 1) := by decide +kernel
theorem dX2_draftPacked_48 : decode cX2_draftPacked 48 = .ok (.ishl, 1) := by decide +kernel
theorem dX2_draftPacked_49 : decode cX2_draftPacked 49 = .ok (.iastore, 1) := by decide +kernel
theorem dX2_draftPacked_50 : decode cX2_draftPacked 50 = .ok (.iinc 5 1, 3) := by decide +kernel
theorem dX2_draftPacked_53 : decode cX2_draftPacked 53 = .ok (.goto (-44), 3) := by decide +kernel
theorem dX2_draftPacked_56 : decode cX2_draftPacked 56 = .ok (.return_, 1) := by decide +kernel
abbrev wsX2_draftPacked : List Cond := Cond.code yX2_draftPacked cX2_draftPacked 6 none :: lw_gd
theorem dX2_packed_0 : decode cX2_packed 0 = .ok (.iload_n 0, 1) := by decide +kernel
theorem dX2_packed_1 : decode cX2_packed 1 = .ok (.ifCond .ne 5, 3) := by decide +kernel
theorem dX2_packed_4 : decode cX2_packed 4 = .ok (.iconst 0, 1) := by decide +kernel
theorem dX2_packed_5 : decode cX2_packed 5 = .ok (.ireturn, 1) := by decide +kernel
theorem dX2_packed_6 : decode cX2_packed 6 = .ok (.iload_n 0, 1) := by decide +kernel
theorem dX2_packed_7 : decode cX2_packed 7 = .ok (.iload_n 0, 1) := by decide +kernel
theorem dX2_packed_8 : decode cX2_packed 8 = .ok (.ineg, 1) := by decide +kernel
theorem dX2_packed_9 : decode cX2_packed 9 = .ok (.iand, 1) := by decide +kernel
theorem dX2_packed_10 : decode cX2_packed 10 = .ok (.istore_n 2, 1) := by decide +kernel
theorem dX2_packed_11 : decode cX2_packed 11 = .ok (.iload_n 0, 1) := by decide +kernel
theorem dX2_packed_12 : decode cX2_packed 12 = .ok (.iload_n 2, 1) := by decide +kernel
theorem dX2_packed_13 : decode cX2_packed 13 = .ok (.ixor, 1) := by decide +kernel
theorem dX2_packed_14 : decode cX2_packed 14 = .ok (.istore_n 3, 1) := by decide +kernel
theorem dX2_packed_15 : decode cX2_packed 15 = .ok (.iconst 1, 1) := by decide +kernel
theorem dX2_packed_16 : decode cX2_packed 16 = .ok (.iload_n 1, 1) := by decide +kernel
theorem dX2_packed_17 : decode cX2_packed 17 = .ok (.iload_n 2, 1) := by decide +kernel
theorem dX2_packed_18 : decode cX2_packed 18 = .ok (.iconst 1, 1) := by decide +kernel
theorem dX2_packed_19 : decode cX2_packed 19 = .ok (.isub, 1) := by decide +kernel
theorem dX2_packed_20 : decode cX2_packed 20 = .ok (.iand, 1) := by decide +kernel
theorem dX2_packed_21 : decode cX2_packed 21 = .ok (.invokestatic 84, 3) := by decide +kernel
theorem dX2_packed_24 : decode cX2_packed 24 = .ok (.ishl, 1) := by decide +kernel
theorem dX2_packed_25 : decode cX2_packed 25 = .ok (.iconst 1, 1) := by decide +kernel
theorem dX2_packed_26 : decode cX2_packed 26 = .ok (.iload_n 1, 1) := by decide +kernel
theorem dX2_packed_27 : decode cX2_packed 27 = .ok (.iload_n 3, 1) := by decide +kernel
theorem dX2_packed_28 : decode cX2_packed 28 = .ok (.iconst 1, 1) := by decide +kernel
theorem dX2_packed_29 : decode cX2_packed 29 = .ok (.isub, 1) := by decide +kernel
theorem dX2_packed_30 : decode cX2_packed 30 = .ok (.iand, 1) := by decide +kernel
theorem dX2_packed_31 : decode cX2_packed 31 = .ok (.invokestatic 84, 3) := by decide +kernel
theorem dX2_packed_34 : decode cX2_packed 34 = .ok (.ishl, 1) := by decide +kernel
theorem dX2_packed_35 : decode cX2_packed 35 = .ok (.ior, 1) := by decide +kernel
theorem dX2_packed_36 : decode cX2_packed 36 = .ok (.ireturn, 1) := by decide +kernel
abbrev wsX2_packed : List Cond := Cond.code yX2_packed cX2_packed 4 (some .int) :: lw_gd
theorem dX2_edges_0 : decode cX2_edges 0 = .ok (.iload_n 1, 1) := by decide +kernel
theorem dX2_edges_1 : decode cX2_edges 1 = .ok (.invokestatic 30, 3) := by decide +kernel
theorem dX2_edges_4 : decode cX2_edges 4 = .ok (.ifCond .eq 15, 3) := by decide +kernel
theorem dX2_edges_7 : decode cX2_edges 7 = .ok (.aload_n 0, 1) := by decide +kernel
theorem dX2_edges_8 : decode cX2_edges 8 = .ok (.getfield 11, 3) := by decide +kernel
theorem dX2_edges_11 : decode cX2_edges 11 = .ok (.iload_n 1, 1) := by decide +kernel
theorem dX2_edges_12 : decode cX2_edges 12 = .ok (.aaload, 1) := by decide +kernel
theorem dX2_edges_13 : decode cX2_edges 13 = .ok (.getfield 59, 3) := by decide +kernel
theorem dX2_edges_16 : decode cX2_edges 16 = .ok (.goto 4, 3) := by decide +kernel
theorem dX2_edges_19 : decode cX2_edges 19 = .ok (.iconst (-1), 1) := by decide +kernel
theorem dX2_edges_20 : decode cX2_edges 20 = .ok (.ireturn, 1) := by decide +kernel
abbrev wsX2_edges : List Cond := Cond.code yX2_edges cX2_edges 2 (some .int) :: lw_gd
theorem dX2_weight_0 : decode cX2_weight 0 = .ok (.aload_n 0, 1) := by decide +kernel
theorem dX2_weight_1 : decode cX2_weight 1 = .ok (.iload_n 1, 1) := by decide +kernel
theorem dX2_weight_2 : decode cX2_weight 2 = .ok (.iload_n 2, 1) := by decide +kernel
theorem dX2_weight_3 : decode cX2_weight 3 = .ok (.invokevirtual 45, 3) := by decide +kernel
theorem dX2_weight_6 : decode cX2_weight 6 = .ok (.ifCond .eq 17, 3) := by decide +kernel
theorem dX2_weight_9 : decode cX2_weight 9 = .ok (.aload_n 0, 1) := by decide +kernel
theorem dX2_weight_10 : decode cX2_weight 10 = .ok (.getfield 11, 3) := by decide +kernel
theorem dX2_weight_13 : decode cX2_weight 13 = .ok (.iload_n 1, 1) := by decide +kernel
theorem dX2_weight_14 : decode cX2_weight 14 = .ok (.aaload, 1) := by decide +kernel
theorem dX2_weight_15 : decode cX2_weight 15 = .ok (.getfield 49, 3) := by decide +kernel
theorem dX2_weight_18 : decode cX2_weight 18 = .ok (.iload_n 2, 1) := by decide +kernel
theorem dX2_weight_19 : decode cX2_weight 19 = .ok (.iaload, 1) := by decide +kernel
theorem dX2_weight_20 : decode cX2_weight 20 = .ok (.goto 4, 3) := by decide +kernel
theorem dX2_weight_23 : decode cX2_weight 23 = .ok (.iconst 0, 1) := by decide +kernel
theorem dX2_weight_24 : decode cX2_weight 24 = .ok (.ireturn, 1) := by decide +kernel
abbrev wsX2_weight : List Cond := Cond.code yX2_weight cX2_weight 3 (some .int) :: lw_gd
theorem dX2_rank_0 : decode cX2_rank 0 = .ok (.aload_n 0, 1) := by decide +kernel
theorem dX2_rank_1 : decode cX2_rank 1 = .ok (.iload_n 1, 1) := by decide +kernel
theorem dX2_rank_2 : decode cX2_rank 2 = .ok (.iload_n 2, 1) := by decide +kernel
theorem dX2_rank_3 : decode cX2_rank 3 = .ok (.invokevirtual 52, 3) := by decide +kernel
theorem dX2_rank_6 : decode cX2_rank 6 = .ok (.ifCond .eq 20, 3) := by decide +kernel
theorem dX2_rank_9 : decode cX2_rank 9 = .ok (.aload_n 0, 1) := by decide +kernel
theorem dX2_rank_10 : decode cX2_rank 10 = .ok (.getfield 18, 3) := by decide +kernel
theorem dX2_rank_13 : decode cX2_rank 13 = .ok (.aload_n 0, 1) := by decide +kernel
theorem dX2_rank_14 : decode cX2_rank 14 = .ok (.getfield 11, 3) := by decide +kernel
theorem dX2_rank_17 : decode cX2_rank 17 = .ok (.iload_n 1, 1) := by decide +kernel
theorem dX2_rank_18 : decode cX2_rank 18 = .ok (.aaload, 1) := by decide +kernel
theorem dX2_rank_19 : decode cX2_rank 19 = .ok (.iload_n 2, 1) := by decide +kernel
theorem dX2_rank_20 : decode cX2_rank 20 = .ok (.invokevirtual 55, 3) := by decide +kernel
theorem dX2_rank_23 : decode cX2_rank 23 = .ok (.goto 4, 3) := by decide +kernel
theorem dX2_rank_26 : decode cX2_rank 26 = .ok (.iconst (-1), 1) := by decide +kernel
theorem dX2_rank_27 : decode cX2_rank 27 = .ok (.ireturn, 1) := by decide +kernel
abbrev wsX2_rank : List Cond := Cond.code yX2_rank cX2_rank 3 (some .int) :: lw_gd
theorem dX2_best_0 : decode cX2_best 0 = .ok (.iload_n 1, 1) := by decide +kernel
theorem dX2_best_1 : decode cX2_best 1 = .ok (.invokestatic 30, 3) := by decide +kernel
theorem dX2_best_4 : decode cX2_best 4 = .ok (.ifCond .ne 5, 3) := by decide +kernel
theorem dX2_best_7 : decode cX2_best 7 = .ok (.iconst (-1), 1) := by decide +kernel
theorem dX2_best_8 : decode cX2_best 8 = .ok (.ireturn, 1) := by decide +kernel
theorem dX2_best_9 : decode cX2_best 9 = .ok (.aload_n 0, 1) := by decide +kernel
theorem dX2_best_10 : decode cX2_best 10 = .ok (.getfield 11, 3) := by decide +kernel
theorem dX2_best_13 : decode cX2_best 13 = .ok (.iload_n 1, 1) := by decide +kernel
theorem dX2_best_14 : decode cX2_best 14 = .ok (.aaload, 1) := by decide +kernel
theorem dX2_best_15 : decode cX2_best 15 = .ok (.astore_n 2, 1) := by decide +kernel
theorem dX2_best_16 : decode cX2_best 16 = .ok (.aload_n 2, 1) := by decide +kernel
theorem dX2_best_17 : decode cX2_best 17 = .ok (.getfield 59, 3) := by decide +kernel
theorem dX2_best_20 : decode cX2_best 20 = .ok (.invokestatic 89, 3) := by decide +kernel
theorem dX2_best_23 : decode cX2_best 23 = .ok (.istore_n 3, 1) := by decide +kernel
theorem dX2_best_24 : decode cX2_best 24 = .ok (.iconst 0, 1) := by decide +kernel
theorem dX2_best_25 : decode cX2_best 25 = .ok (.istore 4, 2) := by decide +kernel
theorem dX2_best_27 : decode cX2_best 27 = .ok (.aload_n 0, 1) := by decide +kernel
theorem dX2_best_28 : decode cX2_best 28 = .ok (.getfield 18, 3) := by decide +kernel
theorem dX2_best_31 : decode cX2_best 31 = .ok (.invokevirtual 92, 3) := by decide +kernel
theorem dX2_best_34 : decode cX2_best 34 = .ok (.iconst 0, 1) := by decide +kernel
theorem dX2_best_35 : decode cX2_best 35 = .ok (.istore 5, 2) := by decide +kernel
theorem dX2_best_37 : decode cX2_best 37 = .ok (.iload 5, 2) := by decide +kernel
theorem dX2_best_39 : decode cX2_best 39 = .ok (.aload_n 2, 1) := by decide +kernel
theorem dX2_best_40 : decode cX2_best 40 = .ok (.getfield 59, 3) := by decide +kernel
theorem dX2_best_43 : decode cX2_best 43 = .ok (.if_icmp .ge 53, 3) := by decide +kernel
theorem dX2_best_46 : decode cX2_best 46 = .ok (.aload_n 2, 1) := by decide +kernel
theorem dX2_best_47 : decode cX2_best 47 = .ok (.iload_n 3, 1) := by decide +kernel
theorem dX2_best_48 : decode cX2_best 48 = .ok (.invokevirtual 95, 3) := by decide +kernel
theorem dX2_best_51 : decode cX2_best 51 = .ok (.istore 6, 2) := by decide +kernel
theorem dX2_best_53 : decode cX2_best 53 = .ok (.iload_n 3, 1) := by decide +kernel
theorem dX2_best_54 : decode cX2_best 54 = .ok (.iconst 1, 1) := by decide +kernel
theorem dX2_best_55 : decode cX2_best 55 = .ok (.iload 6, 2) := by decide +kernel
theorem dX2_best_57 : decode cX2_best 57 = .ok (.ishl, 1) := by decide +kernel
theorem dX2_best_58 : decode cX2_best 58 = .ok (.iconst (-1), 1) := by decide +kernel
theorem dX2_best_59 : decode cX2_best 59 = .ok (.ixor, 1) := by decide +kernel
theorem dX2_best_60 : decode cX2_best 60 = .ok (.iand, 1) := by decide +kernel
theorem dX2_best_61 : decode cX2_best 61 = .ok (.istore_n 3, 1) := by decide +kernel
theorem dX2_best_62 : decode cX2_best 62 = .ok (.aload_n 0, 1) := by decide +kernel
theorem dX2_best_63 : decode cX2_best 63 = .ok (.getfield 18, 3) := by decide +kernel
theorem dX2_best_66 : decode cX2_best 66 = .ok (.iload 6, 2) := by decide +kernel
theorem dX2_best_68 : decode cX2_best 68 = .ok (.aload_n 2, 1) := by decide +kernel
theorem dX2_best_69 : decode cX2_best 69 = .ok (.getfield 66, 3) := by decide +kernel
theorem dX2_best_72 : decode cX2_best 72 = .ok (.iload 6, 2) := by decide +kernel
theorem dX2_best_74 : decode cX2_best 74 = .ok (.iaload, 1) := by decide +kernel
theorem dX2_best_75 : decode cX2_best 75 = .ok (.invokevirtual 98, 3) := by decide +kernel
theorem dX2_best_78 : decode cX2_best 78 = .ok (.ifCond .eq 12, 3) := by decide +kernel
theorem dX2_best_81 : decode cX2_best 81 = .ok (.iload 4, 2) := by decide +kernel
theorem dX2_best_83 : decode cX2_best 83 = .ok (.iconst 1, 1) := by decide +kernel
theorem dX2_best_84 : decode cX2_best 84 = .ok (.iload 6, 2) := by decide +kernel
theorem dX2_best_86 : decode cX2_best 86 = .ok (.ishl, 1) := by decide +kernel
theorem dX2_best_87 : decode cX2_best 87 = .ok (.ior, 1) := by decide +kernel
theorem dX2_best_88 : decode cX2_best 88 = .ok (.istore 4, 2) := by decide +kernel
theorem dX2_best_90 : decode cX2_best 90 = .ok (.iinc 5 1, 3) := by decide +kernel
theorem dX2_best_93 : decode cX2_best 93 = .ok (.goto (-56), 3) := by decide +kernel
theorem dX2_best_96 : decode cX2_best 96 = .ok (.iload 4, 2) := by decide +kernel
theorem dX2_best_98 : decode cX2_best 98 = .ok (.ireturn, 1) := by decide +kernel
abbrev wsX2_best : List Cond := Cond.code yX2_best cX2_best 7 (some .int) :: lw_gd
theorem dX2_common_0 : decode cX2_common 0 = .ok (.aload_n 0, 1) := by decide +kernel
theorem dX2_common_1 : decode cX2_common 1 = .ok (.iload_n 1, 1) := by decide +kernel
theorem dX2_common_2 : decode cX2_common 2 = .ok (.iload_n 2, 1) := by decide +kernel
theorem dX2_common_3 : decode cX2_common 3 = .ok (.invokevirtual 101, 3) := by decide +kernel
theorem dX2_common_6 : decode cX2_common 6 = .ok (.ifCond .eq 22, 3) := by decide +kernel
theorem dX2_common_9 : decode cX2_common 9 = .ok (.aload_n 0, 1) := by decide +kernel
theorem dX2_common_10 : decode cX2_common 10 = .ok (.aload_n 0, 1) := by decide +kernel
theorem dX2_common_11 : decode cX2_common 11 = .ok (.getfield 11, 3) := by decide +kernel
theorem dX2_common_14 : decode cX2_common 14 = .ok (.iload_n 1, 1) := by decide +kernel
theorem dX2_common_15 : decode cX2_common 15 = .ok (.aaload, 1) := by decide +kernel
theorem dX2_common_16 : decode cX2_common 16 = .ok (.aload_n 0, 1) := by decide +kernel
theorem dX2_common_17 : decode cX2_common 17 = .ok (.getfield 11, 3) := by decide +kernel
theorem dX2_common_20 : decode cX2_common 20 = .ok (.iload_n 2, 1) := by decide +kernel
theorem dX2_common_21 : decode cX2_common 21 = .ok (.aaload, 1) := by decide +kernel
theorem dX2_common_22 : decode cX2_common 22 = .ok (.invokevirtual 104, 3) := by decide +kernel
theorem dX2_common_25 : decode cX2_common 25 = .ok (.goto 4, 3) := by decide +kernel
theorem dX2_common_28 : decode cX2_common 28 = .ok (.iconst (-1), 1) := by decide +kernel
theorem dX2_common_29 : decode cX2_common 29 = .ok (.ireturn, 1) := by decide +kernel
abbrev wsX2_common : List Cond := Cond.code yX2_common cX2_common 3 (some .int) :: lw_gd
theorem dX2_areAlike_0 : decode cX2_areAlike 0 = .ok (.iload_n 1, 1) := by decide +kernel
theorem dX2_areAlike_1 : decode cX2_areAlike 1 = .ok (.invokestatic 30, 3) := by decide +kernel
theorem dX2_areAlike_4 : decode cX2_areAlike 4 = .ok (.ifCond .eq 35, 3) := by decide +kernel
theorem dX2_areAlike_7 : decode cX2_areAlike 7 = .ok (.iload_n 2, 1) := by decide +kernel
theorem dX2_areAlike_8 : decode cX2_areAlike 8 = .ok (.invokestatic 30, 3) := by decide +kernel
theorem dX2_areAlike_11 : decode cX2_areAlike 11 = .ok (.ifCond .eq 28, 3) := by decide +kernel
theorem dX2_areAlike_14 : decode cX2_areAlike 14 = .ok (.aload_n 0, 1) := by decide +kernel
theorem dX2_areAlike_15 : decode cX2_areAlike 15 = .ok (.getfield 11, 3) := by decide +kernel
theorem dX2_areAlike_18 : decode cX2_areAlike 18 = .ok (.iload_n 1, 1) := by decide +kernel
theorem dX2_areAlike_19 : decode cX2_areAlike 19 = .ok (.aaload, 1) := by decide +kernel
theorem dX2_areAlike_20 : decode cX2_areAlike 20 = .ok (.getfield 59, 3) := by decide +kernel
theorem dX2_areAlike_23 : decode cX2_areAlike 23 = .ok (.aload_n 0, 1) := by decide +kernel
theorem dX2_areAlike_24 : decode cX2_areAlike 24 = .ok (.getfield 11, 3) := by decide +kernel
theorem dX2_areAlike_27 : decode cX2_areAlike 27 = .ok (.iload_n 2, 1) := by decide +kernel
theorem dX2_areAlike_28 : decode cX2_areAlike 28 = .ok (.aaload, 1) := by decide +kernel
theorem dX2_areAlike_29 : decode cX2_areAlike 29 = .ok (.getfield 59, 3) := by decide +kernel
theorem dX2_areAlike_32 : decode cX2_areAlike 32 = .ok (.if_icmp .ne 7, 3) := by decide +kernel
theorem dX2_areAlike_35 : decode cX2_areAlike 35 = .ok (.iconst 1, 1) := by decide +kernel
theorem dX2_areAlike_36 : decode cX2_areAlike 36 = .ok (.goto 4, 3) := by decide +kernel
theorem dX2_areAlike_39 : decode cX2_areAlike 39 = .ok (.iconst 0, 1) := by decide +kernel
theorem dX2_areAlike_40 : decode cX2_areAlike 40 = .ok (.ireturn, 1) := by decide +kernel
abbrev wsX2_areAlike : List Cond := Cond.code yX2_areAlike cX2_areAlike 3 (some .boolean) :: lw_gd
theorem dX2_largestInBoth_0 : decode cX2_largestInBoth 0 = .ok (.aload_n 0, 1) := by decide +kernel
theorem dX2_largestInBoth_1 : decode cX2_largestInBoth 1 = .ok (.getfield 18, 3) := by decide +kernel
theorem dX2_largestInBoth_4 : decode cX2_largestInBoth 4 = .ok (.aload_n 1, 1) := by decide +kernel
theorem dX2_largestInBoth_5 : decode cX2_largestInBoth 5 = .ok (.aload_n 1, 1) := by decide +kernel
theorem dX2_largestInBoth_6 : decode cX2_largestInBoth 6 = .ok (.getfield 59, 3) := by decide +kernel
theorem dX2_largestInBoth_9 : decode cX2_largestInBoth 9 = .ok (.invokestatic 89, 3) := by decide +kernel
theorem dX2_largestInBoth_12 : decode cX2_largestInBoth 12 = .ok (.invokevirtual 55, 3) := by decide +kernel
theorem dX2_largestInBoth_15 : decode cX2_largestInBoth 15 = .ok (.aload_n 0, 1) := by decide +kernel
theorem dX2_largestInBoth_16 : decode cX2_largestInBoth 16 = .ok (.getfield 22, 3) := by decide +kernel
theorem dX2_largestInBoth_19 : decode cX2_largestInBoth 19 = .ok (.aload_n 2, 1) := by decide +kernel
theorem dX2_largestInBoth_20 : decode cX2_largestInBoth 20 = .ok (.aload_n 2, 1) := by decide +kernel
theorem dX2_largestInBoth_21 : decode cX2_largestInBoth 21 = .ok (.getfield 59, 3) := by decide +kernel
theorem dX2_largestInBoth_24 : decode cX2_largestInBoth 24 = .ok (.invokestatic 89, 3) := by decide +kernel
theorem dX2_largestInBoth_27 : decode cX2_largestInBoth 27 = .ok (.invokevirtual 55, 3) := by decide +kernel
theorem dX2_largestInBoth_30 : decode cX2_largestInBoth 30 = .ok (.invokestatic 115, 3) := by decide +kernel
theorem dX2_largestInBoth_33 : decode cX2_largestInBoth 33 = .ok (.istore_n 3, 1) := by decide +kernel
theorem dX2_largestInBoth_34 : decode cX2_largestInBoth 34 = .ok (.aload_n 0, 1) := by decide +kernel
theorem dX2_largestInBoth_35 : decode cX2_largestInBoth 35 = .ok (.getfield 18, 3) := by decide +kernel
theorem dX2_largestInBoth_38 : decode cX2_largestInBoth 38 = .ok (.invokevirtual 92, 3) := by decide +kernel
theorem dX2_largestInBoth_41 : decode cX2_largestInBoth 41 = .ok (.aload_n 0, 1) := by decide +kernel
theorem dX2_largestInBoth_42 : decode cX2_largestInBoth 42 = .ok (.getfield 22, 3) := by decide +kernel
theorem dX2_largestInBoth_45 : decode cX2_largestInBoth 45 = .ok (.invokevirtual 92, 3) := by decide +kernel
theorem dX2_largestInBoth_48 : decode cX2_largestInBoth 48 = .ok (.aload_n 0, 1) := by decide +kernel
theorem dX2_largestInBoth_49 : decode cX2_largestInBoth 49 = .ok (.aload_n 1, 1) := by decide +kernel
theorem dX2_largestInBoth_50 : decode cX2_largestInBoth 50 = .ok (.aload_n 2, 1) := by decide +kernel
theorem dX2_largestInBoth_51 : decode cX2_largestInBoth 51 = .ok (.iconst 0, 1) := by decide +kernel
theorem dX2_largestInBoth_52 : decode cX2_largestInBoth 52 = .ok (.iconst 0, 1) := by decide +kernel
theorem dX2_largestInBoth_53 : decode cX2_largestInBoth 53 = .ok (.iconst 0, 1) := by decide +kernel
theorem dX2_largestInBoth_54 : decode cX2_largestInBoth 54 = .ok (.iload_n 3, 1) := by decide +kernel
theorem dX2_largestInBoth_55 : decode cX2_largestInBoth 55 = .ok (.invokevirtual 120, 3) := by decide +kernel
theorem dX2_largestInBoth_58 : decode cX2_largestInBoth 58 = .ok (.ireturn, 1) := by decide +kernel
abbrev wsX2_largestInBoth : List Cond := Cond.code yX2_largestInBoth cX2_largestInBoth 4 (some .int) :: lw_gd
theorem dX2_searched_0 : decode cX2_searched 0 = .ok (.iload 6, 2) := by decide +kernel
theorem dX2_searched_2 : decode cX2_searched 2 = .ok (.iload 4, 2) := by decide +kernel
theorem dX2_searched_4 : decode cX2_searched 4 = .ok (.invokestatic 84, 3) := by decide +kernel
theorem dX2_searched_7 : decode cX2_searched 7 = .ok (.aload_n 1, 1) := by decide +kernel
theorem dX2_searched_8 : decode cX2_searched 8 = .ok (.getfield 59, 3) := by decide +kernel
theorem dX2_searched_11 : decode cX2_searched 11 = .ok (.iadd, 1) := by decide +kernel
theorem dX2_searched_12 : decode cX2_searched 12 = .ok (.iload_n 3, 1) := by decide +kernel
theorem dX2_searched_13 : decode cX2_searched 13 = .ok (.isub, 1) := by decide +kernel
theorem dX2_searched_14 : decode cX2_searched 14 = .ok (.invokestatic 115, 3) := by decide +kernel
theorem dX2_searched_17 : decode cX2_searched 17 = .ok (.istore 7, 2) := by decide +kernel
theorem dX2_searched_19 : decode cX2_searched 19 = .ok (.iload 7, 2) := by decide +kernel
theorem dX2_searched_21 : decode cX2_searched 21 = .ok (.iload 5, 2) := by decide +kernel
theorem dX2_searched_23 : decode cX2_searched 23 = .ok (.invokestatic 84, 3) := by decide +kernel
theorem dX2_searched_26 : decode cX2_searched 26 = .ok (.if_icmp .gt 6, 3) := by decide +kernel
theorem dX2_searched_29 : decode cX2_searched 29 = .ok (.iload 5, 2) := by decide +kernel
theorem dX2_searched_31 : decode cX2_searched 31 = .ok (.ireturn, 1) := by decide +kernel
theorem dX2_searched_32 : decode cX2_searched 32 = .ok (.iload_n 3, 1) := by decide +kernel
theorem dX2_searched_33 : decode cX2_searched 33 = .ok (.aload_n 1, 1) := by decide +kernel
theorem dX2_searched_34 : decode cX2_searched 34 = .ok (.getfield 59, 3) := by decide +kernel
theorem dX2_searched_37 : decode cX2_searched 37 = .ok (.if_icmp .lt 6, 3) := by decide +kernel
theorem dX2_searched_40 : decode cX2_searched 40 = .ok (.iload 4, 2) := by decide +kernel
theorem dX2_searched_42 : decode cX2_searched 42 = .ok (.ireturn, 1) := by decide +kernel
theorem dX2_searched_43 : decode cX2_searched 43 = .ok (.iload 5, 2) := by decide +kernel
theorem dX2_searched_45 : decode cX2_searched 45 = .ok (.istore 8, 2) := by decide +kernel
theorem dX2_searched_47 : decode cX2_searched 47 = .ok (.aload_n 0, 1) := by decide +kernel
theorem dX2_searched_48 : decode cX2_searched 48 = .ok (.getfield 18, 3) := by decide +kernel
theorem dX2_searched_51 : decode cX2_searched 51 = .ok (.iload_n 3, 1) := by decide +kernel
theorem dX2_searched_52 : decode cX2_searched 52 = .ok (.aload_n 1, 1) := by decide +kernel
theorem dX2_searched_53 : decode cX2_searched 53 = .ok (.getfield 66, 3) := by decide +kernel
theorem dX2_searched_56 : decode cX2_searched 56 = .ok (.iload_n 3, 1) := by decide +kernel
theorem dX2_searched_57 : decode cX2_searched 57 = .ok (.iaload, 1) := by decide +kernel
theorem dX2_searched_58 : decode cX2_searched 58 = .ok (.invokevirtual 98, 3) := by decide +kernel
theorem dX2_searched_61 : decode cX2_searched 61 = .ok (.ifCond .eq 55, 3) := by decide +kernel
theorem dX2_searched_64 : decode cX2_searched 64 = .ok (.aload_n 0, 1) := by decide +kernel
theorem dX2_searched_65 : decode cX2_searched 65 = .ok (.getfield 22, 3) := by decide +kernel
theorem dX2_searched_68 : decode cX2_searched 68 = .ok (.iload_n 3, 1) := by decide +kernel
theorem dX2_searched_69 : decode cX2_searched 69 = .ok (.aload_n 2, 1) := by decide +kernel
theorem dX2_searched_70 : decode cX2_searched 70 = .ok (.getfield 66, 3) := by decide +kernel
theorem dX2_searched_73 : decode cX2_searched 73 = .ok (.iload_n 3, 1) := by decide +kernel
theorem dX2_searched_74 : decode cX2_searched 74 = .ok (.iaload, 1) := by decide +kernel
theorem dX2_searched_75 : decode cX2_searched 75 = .ok (.invokevirtual 98, 3) := by decide +kernel
theorem dX2_searched_78 : decode cX2_searched 78 = .ok (.ifCond .eq 31, 3) := by decide +kernel
theorem dX2_searched_81 : decode cX2_searched 81 = .ok (.aload_n 0, 1) := by decide +kernel
theorem dX2_searched_82 : decode cX2_searched 82 = .ok (.aload_n 1, 1) := by decide +kernel
theorem dX2_searched_83 : decode cX2_searched 83 = .ok (.aload_n 2, 1) := by decide +kernel
theorem dX2_searched_84 : decode cX2_searched 84 = .ok (.iload_n 3, 1) := by decide +kernel
theorem dX2_searched_85 : decode cX2_searched 85 = .ok (.iconst 1, 1) := by decide +kernel
theorem dX2_searched_86 : decode cX2_searched 86 = .ok (.iadd, 1) := by decide +kernel
theorem dX2_searched_87 : decode cX2_searched 87 = .ok (.iload 4, 2) := by decide +kernel
theorem dX2_searched_89 : decode cX2_searched 89 = .ok (.iconst 1, 1) := by decide +kernel
theorem dX2_searched_90 : decode cX2_searched 90 = .ok (.iload_n 3, 1) := by decide +kernel
theorem dX2_searched_91 : decode cX2_searched 91 = .ok (.ishl, 1) := by decide +kernel
theorem dX2_searched_92 : decode cX2_searched 92 = .ok (.ior, 1) := by decide +kernel
theorem dX2_searched_93 : decode cX2_searched 93 = .ok (.iload 5, 2) := by decide +kernel
theorem dX2_searched_95 : decode cX2_searched 95 = .ok (.iload 6, 2) := by decide +kernel
theorem dX2_searched_97 : decode cX2_searched 97 = .ok (.invokevirtual 120, 3) := by decide +kernel
theorem dX2_searched_100 : decode cX2_searched 100 = .ok (.istore 8, 2) := by decide +kernel
theorem dX2_searched_102 : decode cX2_searched 102 = .ok (.aload_n 0, 1) := by decide +kernel
theorem dX2_searched_103 : decode cX2_searched 103 = .ok (.getfield 22, 3) := by decide +kernel
theorem dX2_searched_106 : decode cX2_searched 106 = .ok (.invokevirtual 124, 3) := by decide +kernel
theorem dX2_searched_109 : decode cX2_searched 109 = .ok (.aload_n 0, 1) := by decide +kernel
theorem dX2_searched_110 : decode cX2_searched 110 = .ok (.getfield 18, 3) := by decide +kernel
theorem dX2_searched_113 : decode cX2_searched 113 = .ok (.invokevirtual 124, 3) := by decide +kernel
theorem dX2_searched_116 : decode cX2_searched 116 = .ok (.aload_n 0, 1) := by decide +kernel
theorem dX2_searched_117 : decode cX2_searched 117 = .ok (.aload_n 1, 1) := by decide +kernel
theorem dX2_searched_118 : decode cX2_searched 118 = .ok (.aload_n 2, 1) := by decide +kernel
theorem dX2_searched_119 : decode cX2_searched 119 = .ok (.iload_n 3, 1) := by decide +kernel
theorem dX2_searched_120 : decode cX2_searched 120 = .ok (.iconst 1, 1) := by decide +kernel
theorem dX2_searched_121 : decode cX2_searched 121 = .ok (.iadd, 1) := by decide +kernel
theorem dX2_searched_122 : decode cX2_searched 122 = .ok (.iload 4, 2) := by decide +kernel
theorem dX2_searched_124 : decode cX2_searched 124 = .ok (.iload 8, 2) := by decide +kernel
theorem dX2_searched_126 : decode cX2_searched 126 = .ok (.iload 6, 2) := by decide +kernel
theorem dX2_searched_128 : decode cX2_searched 128 = .ok (.invokevirtual 120, 3) := by decide +kernel
theorem dX2_searched_131 : decode cX2_searched 131 = .ok (.ireturn, 1) := by decide +kernel
abbrev wsX2_searched : List Cond := Cond.code yX2_searched cX2_searched 9 (some .int) :: lw_gd
theorem dX2_cover_0 : decode cX2_cover 0 = .ok (.aload_n 0, 1) := by decide +kernel
theorem dX2_cover_1 : decode cX2_cover 1 = .ok (.iload_n 1, 1) := by decide +kernel
theorem dX2_cover_2 : decode cX2_cover 2 = .ok (.iload_n 2, 1) := by decide +kernel
theorem dX2_cover_3 : decode cX2_cover 3 = .ok (.invokevirtual 101, 3) := by decide +kernel
theorem dX2_cover_6 : decode cX2_cover 6 = .ok (.ifCond .eq 22, 3) := by decide +kernel
theorem dX2_cover_9 : decode cX2_cover 9 = .ok (.aload_n 0, 1) := by decide +kernel
theorem dX2_cover_10 : decode cX2_cover 10 = .ok (.aload_n 0, 1) := by decide +kernel
theorem dX2_cover_11 : decode cX2_cover 11 = .ok (.getfield 11, 3) := by decide +kernel
theorem dX2_cover_14 : decode cX2_cover 14 = .ok (.iload_n 1, 1) := by decide +kernel
theorem dX2_cover_15 : decode cX2_cover 15 = .ok (.aaload, 1) := by decide +kernel
theorem dX2_cover_16 : decode cX2_cover 16 = .ok (.aload_n 0, 1) := by decide +kernel
theorem dX2_cover_17 : decode cX2_cover 17 = .ok (.getfield 11, 3) := by decide +kernel
theorem dX2_cover_20 : decode cX2_cover 20 = .ok (.iload_n 2, 1) := by decide +kernel
theorem dX2_cover_21 : decode cX2_cover 21 = .ok (.aaload, 1) := by decide +kernel
theorem dX2_cover_22 : decode cX2_cover 22 = .ok (.invokevirtual 108, 3) := by decide +kernel
theorem dX2_cover_25 : decode cX2_cover 25 = .ok (.goto 4, 3) := by decide +kernel
theorem dX2_cover_28 : decode cX2_cover 28 = .ok (.iconst (-1), 1) := by decide +kernel
theorem dX2_cover_29 : decode cX2_cover 29 = .ok (.ireturn, 1) := by decide +kernel
abbrev wsX2_cover : List Cond := Cond.code yX2_cover cX2_cover 3 (some .int) :: lw_gd
theorem dX2_leastCover_0 : decode cX2_leastCover 0 = .ok (.aload_n 0, 1) := by decide +kernel
theorem dX2_leastCover_1 : decode cX2_leastCover 1 = .ok (.aload_n 1, 1) := by decide +kernel
theorem dX2_leastCover_2 : decode cX2_leastCover 2 = .ok (.aload_n 2, 1) := by decide +kernel
theorem dX2_leastCover_3 : decode cX2_leastCover 3 = .ok (.invokevirtual 104, 3) := by decide +kernel
theorem dX2_leastCover_6 : decode cX2_leastCover 6 = .ok (.istore_n 3, 1) := by decide +kernel
theorem dX2_leastCover_7 : decode cX2_leastCover 7 = .ok (.aload_n 0, 1) := by decide +kernel
theorem dX2_leastCover_8 : decode cX2_leastCover 8 = .ok (.getfield 18, 3) := by decide +kernel
theorem dX2_leastCover_11 : decode cX2_leastCover 11 = .ok (.aload_n 1, 1) := by decide +kernel
theorem dX2_leastCover_12 : decode cX2_leastCover 12 = .ok (.iload_n 3, 1) := by decide +kernel
theorem dX2_leastCover_13 : decode cX2_leastCover 13 = .ok (.invokevirtual 55, 3) := by decide +kernel
theorem dX2_leastCover_16 : decode cX2_leastCover 16 = .ok (.pop, 1) := by decide +kernel
theorem dX2_leastCover_17 : decode cX2_leastCover 17 = .ok (.aload_n 0, 1) := by decide +kernel
theorem dX2_leastCover_18 : decode cX2_leastCover 18 = .ok (.getfield 22, 3) := by decide +kernel
theorem dX2_leastCover_21 : decode cX2_leastCover 21 = .ok (.aload_n 2, 1) := by decide +kernel
theorem dX2_leastCover_22 : decode cX2_leastCover 22 = .ok (.iload_n 3, 1) := by decide +kernel
theorem dX2_leastCover_23 : decode cX2_leastCover 23 = .ok (.invokevirtual 55, 3) := by decide +kernel
theorem dX2_leastCover_26 : decode cX2_leastCover 26 = .ok (.pop, 1) := by decide +kernel
theorem dX2_leastCover_27 : decode cX2_leastCover 27 = .ok (.iconst 0, 1) := by decide +kernel
theorem dX2_leastCover_28 : decode cX2_leastCover 28 = .ok (.istore 4, 2) := by decide +kernel
theorem dX2_leastCover_30 : decode cX2_leastCover 30 = .ok (.iconst 0, 1) := by decide +kernel
theorem dX2_leastCover_31 : decode cX2_leastCover 31 = .ok (.istore 5, 2) := by decide +kernel
theorem dX2_leastCover_33 : decode cX2_leastCover 33 = .ok (.iload 5, 2) := by decide +kernel
theorem dX2_leastCover_35 : decode cX2_leastCover 35 = .ok (.aload_n 2, 1) := by decide +kernel
theorem dX2_leastCover_36 : decode cX2_leastCover 36 = .ok (.getfield 59, 3) := by decide +kernel
theorem dX2_leastCover_39 : decode cX2_leastCover 39 = .ok (.if_icmp .ge 35, 3) := by decide +kernel
theorem dX2_leastCover_42 : decode cX2_leastCover 42 = .ok (.aload_n 0, 1) := by decide +kernel
theorem dX2_leastCover_43 : decode cX2_leastCover 43 = .ok (.getfield 22, 3) := by decide +kernel
theorem dX2_leastCover_46 : decode cX2_leastCover 46 = .ok (.aload_n 2, 1) := by decide +kernel
theorem dX2_leastCover_47 : decode cX2_leastCover 47 = .ok (.getfield 66, 3) := by decide +kernel
theorem dX2_leastCover_50 : decode cX2_leastCover 50 = .ok (.iload 5, 2) := by decide +kernel
theorem dX2_leastCover_52 : decode cX2_leastCover 52 = .ok (.iaload, 1) := by decide +kernel
theorem dX2_leastCover_53 : decode cX2_leastCover 53 = .ok (.invokevirtual 69, 3) := by decide +kernel
theorem dX2_leastCover_56 : decode cX2_leastCover 56 = .ok (.ifCond .eq 12, 3) := by decide +kernel
theorem dX2_leastCover_59 : decode cX2_leastCover 59 = .ok (.iload 4, 2) := by decide +kernel
theorem dX2_leastCover_61 : decode cX2_leastCover 61 = .ok (.iconst 1, 1) := by decide +kernel
theorem dX2_leastCover_62 : decode cX2_leastCover 62 = .ok (.iload 5, 2) := by decide +kernel
theorem dX2_leastCover_64 : decode cX2_leastCover 64 = .ok (.ishl, 1) := by decide +kernel
theorem dX2_leastCover_65 : decode cX2_leastCover 65 = .ok (.ior, 1) := by decide +kernel
theorem dX2_leastCover_66 : decode cX2_leastCover 66 = .ok (.istore 4, 2) := by decide +kernel
theorem dX2_leastCover_68 : decode cX2_leastCover 68 = .ok (.iinc 5 1, 3) := by decide +kernel
theorem dX2_leastCover_71 : decode cX2_leastCover 71 = .ok (.goto (-38), 3) := by decide +kernel
theorem dX2_leastCover_74 : decode cX2_leastCover 74 = .ok (.iconst 0, 1) := by decide +kernel
theorem dX2_leastCover_75 : decode cX2_leastCover 75 = .ok (.istore 5, 2) := by decide +kernel
theorem dX2_leastCover_77 : decode cX2_leastCover 77 = .ok (.iload 5, 2) := by decide +kernel
theorem dX2_leastCover_79 : decode cX2_leastCover 79 = .ok (.aload_n 1, 1) := by decide +kernel
theorem dX2_leastCover_80 : decode cX2_leastCover 80 = .ok (.getfield 59, 3) := by decide +kernel
theorem dX2_leastCover_83 : decode cX2_leastCover 83 = .ok (.if_icmp .ge 20, 3) := by decide +kernel
theorem dX2_leastCover_86 : decode cX2_leastCover 86 = .ok (.aload_n 0, 1) := by decide +kernel
theorem dX2_leastCover_87 : decode cX2_leastCover 87 = .ok (.aload_n 1, 1) := by decide +kernel
theorem dX2_leastCover_88 : decode cX2_leastCover 88 = .ok (.aload_n 2, 1) := by decide +kernel
theorem dX2_leastCover_89 : decode cX2_leastCover 89 = .ok (.iload_n 3, 1) := by decide +kernel
theorem dX2_leastCover_90 : decode cX2_leastCover 90 = .ok (.iload 4, 2) := by decide +kernel
theorem dX2_leastCover_92 : decode cX2_leastCover 92 = .ok (.invokevirtual 127, 3) := by decide +kernel
theorem dX2_leastCover_95 : decode cX2_leastCover 95 = .ok (.istore 4, 2) := by decide +kernel
theorem dX2_leastCover_97 : decode cX2_leastCover 97 = .ok (.iinc 5 1, 3) := by decide +kernel
theorem dX2_leastCover_100 : decode cX2_leastCover 100 = .ok (.goto (-23), 3) := by decide +kernel
theorem dX2_leastCover_103 : decode cX2_leastCover 103 = .ok (.iload 4, 2) := by decide +kernel
theorem dX2_leastCover_105 : decode cX2_leastCover 105 = .ok (.ireturn, 1) := by decide +kernel
abbrev wsX2_leastCover : List Cond := Cond.code yX2_leastCover cX2_leastCover 6 (some .int) :: lw_gd
theorem dX2_grown_0 : decode cX2_grown 0 = .ok (.iload 4, 2) := by decide +kernel
theorem dX2_grown_2 : decode cX2_grown 2 = .ok (.istore 5, 2) := by decide +kernel
theorem dX2_grown_4 : decode cX2_grown 4 = .ok (.iconst 0, 1) := by decide +kernel
theorem dX2_grown_5 : decode cX2_grown 5 = .ok (.istore 6, 2) := by decide +kernel
