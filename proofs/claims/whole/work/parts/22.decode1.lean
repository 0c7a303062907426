theorem dX2_grown_7 : decode cX2_grown 7 = .ok (.iload 6, 2) := by decide +kernel
theorem dX2_grown_9 : decode cX2_grown 9 = .ok (.aload_n 1, 1) := by decide +kernel
theorem dX2_grown_10 : decode cX2_grown 10 = .ok (.getfield 59, 3) := by decide +kernel
theorem dX2_grown_13 : decode cX2_grown 13 = .ok (.if_icmp .ge 82, 3) := by decide +kernel
theorem dX2_grown_16 : decode cX2_grown 16 = .ok (.iload_n 3, 1) := by decide +kernel
theorem dX2_grown_17 : decode cX2_grown 17 = .ok (.iload 6, 2) := by decide +kernel
theorem dX2_grown_19 : decode cX2_grown 19 = .ok (.invokestatic 63, 3) := by decide +kernel
theorem dX2_grown_22 : decode cX2_grown 22 = .ok (.ifCond .eq 6, 3) := by decide +kernel
theorem dX2_grown_25 : decode cX2_grown 25 = .ok (.goto 64, 3) := by decide +kernel
theorem dX2_grown_28 : decode cX2_grown 28 = .ok (.iload 5, 2) := by decide +kernel
theorem dX2_grown_30 : decode cX2_grown 30 = .ok (.iload 6, 2) := by decide +kernel
theorem dX2_grown_32 : decode cX2_grown 32 = .ok (.invokestatic 63, 3) := by decide +kernel
theorem dX2_grown_35 : decode cX2_grown 35 = .ok (.ifCond .eq 25, 3) := by decide +kernel
theorem dX2_grown_38 : decode cX2_grown 38 = .ok (.iload 5, 2) := by decide +kernel
theorem dX2_grown_40 : decode cX2_grown 40 = .ok (.aload_n 0, 1) := by decide +kernel
theorem dX2_grown_41 : decode cX2_grown 41 = .ok (.getfield 18, 3) := by decide +kernel
theorem dX2_grown_44 : decode cX2_grown 44 = .ok (.aload_n 1, 1) := by decide +kernel
theorem dX2_grown_45 : decode cX2_grown 45 = .ok (.getfield 66, 3) := by decide +kernel
theorem dX2_grown_48 : decode cX2_grown 48 = .ok (.iload 6, 2) := by decide +kernel
theorem dX2_grown_50 : decode cX2_grown 50 = .ok (.iaload, 1) := by decide +kernel
theorem dX2_grown_51 : decode cX2_grown 51 = .ok (.invokevirtual 131, 3) := by decide +kernel
theorem dX2_grown_54 : decode cX2_grown 54 = .ok (.ior, 1) := by decide +kernel
theorem dX2_grown_55 : decode cX2_grown 55 = .ok (.istore 5, 2) := by decide +kernel
theorem dX2_grown_57 : decode cX2_grown 57 = .ok (.goto 32, 3) := by decide +kernel
theorem dX2_grown_60 : decode cX2_grown 60 = .ok (.aload_n 0, 1) := by decide +kernel
theorem dX2_grown_61 : decode cX2_grown 61 = .ok (.getfield 22, 3) := by decide +kernel
theorem dX2_grown_64 : decode cX2_grown 64 = .ok (.aload_n 2, 1) := by decide +kernel
theorem dX2_grown_65 : decode cX2_grown 65 = .ok (.getfield 66, 3) := by decide +kernel
theorem dX2_grown_68 : decode cX2_grown 68 = .ok (.iload 6, 2) := by decide +kernel
theorem dX2_grown_70 : decode cX2_grown 70 = .ok (.iaload, 1) := by decide +kernel
theorem dX2_grown_71 : decode cX2_grown 71 = .ok (.invokevirtual 131, 3) := by decide +kernel
theorem dX2_grown_74 : decode cX2_grown 74 = .ok (.iload 5, 2) := by decide +kernel
theorem dX2_grown_76 : decode cX2_grown 76 = .ok (.iand, 1) := by decide +kernel
theorem dX2_grown_77 : decode cX2_grown 77 = .ok (.ifCond .eq 12, 3) := by decide +kernel
theorem dX2_grown_80 : decode cX2_grown 80 = .ok (.iload 5, 2) := by decide +kernel
theorem dX2_grown_82 : decode cX2_grown 82 = .ok (.iconst 1, 1) := by decide +kernel
theorem dX2_grown_83 : decode cX2_grown 83 = .ok (.iload 6, 2) := by decide +kernel
theorem dX2_grown_85 : decode cX2_grown 85 = .ok (.ishl, 1) := by decide +kernel
theorem dX2_grown_86 : decode cX2_grown 86 = .ok (.ior, 1) := by decide +kernel
theorem dX2_grown_87 : decode cX2_grown 87 = .ok (.istore 5, 2) := by decide +kernel
theorem dX2_grown_89 : decode cX2_grown 89 = .ok (.iinc 6 1, 3) := by decide +kernel
theorem dX2_grown_92 : decode cX2_grown 92 = .ok (.goto (-85), 3) := by decide +kernel
theorem dX2_grown_95 : decode cX2_grown 95 = .ok (.iload 5, 2) := by decide +kernel
theorem dX2_grown_97 : decode cX2_grown 97 = .ok (.ireturn, 1) := by decide +kernel
abbrev wsX2_grown : List Cond := Cond.code yX2_grown cX2_grown 7 (some .int) :: lw_gd
theorem dX0_init_0 : decode cX0_init 0 = .ok (.aload_n 0, 1) := by decide +kernel
theorem dX0_init_1 : decode cX0_init 1 = .ok (.invokespecial 3, 3) := by decide +kernel
theorem dX0_init_4 : decode cX0_init 4 = .ok (.aload_n 0, 1) := by decide +kernel
theorem dX0_init_5 : decode cX0_init 5 = .ok (.bipush 12, 2) := by decide +kernel
theorem dX0_init_7 : decode cX0_init 7 = .ok (.newarray .int, 2) := by decide +kernel
theorem dX0_init_9 : decode cX0_init 9 = .ok (.putfield 9, 3) := by decide +kernel
theorem dX0_init_12 : decode cX0_init 12 = .ok (.aload_n 0, 1) := by decide +kernel
theorem dX0_init_13 : decode cX0_init 13 = .ok (.bipush 12, 2) := by decide +kernel
theorem dX0_init_15 : decode cX0_init 15 = .ok (.newarray .int, 2) := by decide +kernel
theorem dX0_init_17 : decode cX0_init 17 = .ok (.putfield 15, 3) := by decide +kernel
theorem dX0_init_20 : decode cX0_init 20 = .ok (.aload_n 0, 1) := by decide +kernel
theorem dX0_init_21 : decode cX0_init 21 = .ok (.iconst 0, 1) := by decide +kernel
theorem dX0_init_22 : decode cX0_init 22 = .ok (.putfield 18, 3) := by decide +kernel
theorem dX0_init_25 : decode cX0_init 25 = .ok (.return_, 1) := by decide +kernel
abbrev wsX0_init : List Cond := Cond.code yX0_init cX0_init 1 none :: lw_gd
theorem dX0_fill_0 : decode cX0_fill 0 = .ok (.aload_n 0, 1) := by decide +kernel
theorem dX0_fill_1 : decode cX0_fill 1 = .ok (.invokevirtual 22, 3) := by decide +kernel
theorem dX0_fill_4 : decode cX0_fill 4 = .ok (.iconst 0, 1) := by decide +kernel
theorem dX0_fill_5 : decode cX0_fill 5 = .ok (.istore_n 3, 1) := by decide +kernel
theorem dX0_fill_6 : decode cX0_fill 6 = .ok (.iload_n 3, 1) := by decide +kernel
theorem dX0_fill_7 : decode cX0_fill 7 = .ok (.aload_n 1, 1) := by decide +kernel
theorem dX0_fill_8 : decode cX0_fill 8 = .ok (.getfield 25, 3) := by decide +kernel
theorem dX0_fill_11 : decode cX0_fill 11 = .ok (.if_icmp .ge 29, 3) := by decide +kernel
theorem dX0_fill_14 : decode cX0_fill 14 = .ok (.iload_n 2, 1) := by decide +kernel
theorem dX0_fill_15 : decode cX0_fill 15 = .ok (.iload_n 3, 1) := by decide +kernel
theorem dX0_fill_16 : decode cX0_fill 16 = .ok (.invokestatic 30, 3) := by decide +kernel
theorem dX0_fill_19 : decode cX0_fill 19 = .ok (.ifCond .eq 15, 3) := by decide +kernel
theorem dX0_fill_22 : decode cX0_fill 22 = .ok (.aload_n 0, 1) := by decide +kernel
theorem dX0_fill_23 : decode cX0_fill 23 = .ok (.iload_n 3, 1) := by decide +kernel
theorem dX0_fill_24 : decode cX0_fill 24 = .ok (.aload_n 1, 1) := by decide +kernel
theorem dX0_fill_25 : decode cX0_fill 25 = .ok (.getfield 34, 3) := by decide +kernel
theorem dX0_fill_28 : decode cX0_fill 28 = .ok (.iload_n 3, 1) := by decide +kernel
theorem dX0_fill_29 : decode cX0_fill 29 = .ok (.iaload, 1) := by decide +kernel
theorem dX0_fill_30 : decode cX0_fill 30 = .ok (.invokevirtual 37, 3) := by decide +kernel
theorem dX0_fill_33 : decode cX0_fill 33 = .ok (.pop, 1) := by decide +kernel
theorem dX0_fill_34 : decode cX0_fill 34 = .ok (.iinc 3 1, 3) := by decide +kernel
theorem dX0_fill_37 : decode cX0_fill 37 = .ok (.goto (-31), 3) := by decide +kernel
theorem dX0_fill_40 : decode cX0_fill 40 = .ok (.aload_n 0, 1) := by decide +kernel
theorem dX0_fill_41 : decode cX0_fill 41 = .ok (.getfield 18, 3) := by decide +kernel
theorem dX0_fill_44 : decode cX0_fill 44 = .ok (.ireturn, 1) := by decide +kernel
abbrev wsX0_fill : List Cond := Cond.code yX0_fill cX0_fill 4 (some .int) :: lw_gd
theorem dX0_clear_0 : decode cX0_clear 0 = .ok (.aload_n 0, 1) := by decide +kernel
theorem dX0_clear_1 : decode cX0_clear 1 = .ok (.iconst 0, 1) := by decide +kernel
theorem dX0_clear_2 : decode cX0_clear 2 = .ok (.putfield 18, 3) := by decide +kernel
theorem dX0_clear_5 : decode cX0_clear 5 = .ok (.return_, 1) := by decide +kernel
abbrev wsX0_clear : List Cond := Cond.code yX0_clear cX0_clear 1 none :: lw_gd
theorem dX0_takes_0 : decode cX0_takes 0 = .ok (.aload_n 0, 1) := by decide +kernel
theorem dX0_takes_1 : decode cX0_takes 1 = .ok (.iload_n 2, 1) := by decide +kernel
theorem dX0_takes_2 : decode cX0_takes 2 = .ok (.invokevirtual 40, 3) := by decide +kernel
theorem dX0_takes_5 : decode cX0_takes 5 = .ok (.istore_n 3, 1) := by decide +kernel
theorem dX0_takes_6 : decode cX0_takes 6 = .ok (.iload_n 3, 1) := by decide +kernel
theorem dX0_takes_7 : decode cX0_takes 7 = .ok (.ifCond .eq 12, 3) := by decide +kernel
theorem dX0_takes_10 : decode cX0_takes 10 = .ok (.aload_n 0, 1) := by decide +kernel
theorem dX0_takes_11 : decode cX0_takes 11 = .ok (.getfield 18, 3) := by decide +kernel
theorem dX0_takes_14 : decode cX0_takes 14 = .ok (.bipush 12, 2) := by decide +kernel
theorem dX0_takes_16 : decode cX0_takes 16 = .ok (.if_icmp .lt 5, 3) := by decide +kernel
theorem dX0_takes_19 : decode cX0_takes 19 = .ok (.iconst 0, 1) := by decide +kernel
theorem dX0_takes_20 : decode cX0_takes 20 = .ok (.ireturn, 1) := by decide +kernel
theorem dX0_takes_21 : decode cX0_takes 21 = .ok (.aload_n 0, 1) := by decide +kernel
theorem dX0_takes_22 : decode cX0_takes 22 = .ok (.getfield 15, 3) := by decide +kernel
theorem dX0_takes_25 : decode cX0_takes 25 = .ok (.aload_n 0, 1) := by decide +kernel
theorem dX0_takes_26 : decode cX0_takes 26 = .ok (.getfield 18, 3) := by decide +kernel
theorem dX0_takes_29 : decode cX0_takes 29 = .ok (.aload_n 0, 1) := by decide +kernel
theorem dX0_takes_30 : decode cX0_takes 30 = .ok (.iload_n 2, 1) := by decide +kernel
theorem dX0_takes_31 : decode cX0_takes 31 = .ok (.invokevirtual 44, 3) := by decide +kernel
theorem dX0_takes_34 : decode cX0_takes 34 = .ok (.iconst 1, 1) := by decide +kernel
theorem dX0_takes_35 : decode cX0_takes 35 = .ok (.iload_n 1, 1) := by decide +kernel
theorem dX0_takes_36 : decode cX0_takes 36 = .ok (.ishl, 1) := by decide +kernel
theorem dX0_takes_37 : decode cX0_takes 37 = .ok (.ixor, 1) := by decide +kernel
theorem dX0_takes_38 : decode cX0_takes 38 = .ok (.iastore, 1) := by decide +kernel
theorem dX0_takes_39 : decode cX0_takes 39 = .ok (.aload_n 0, 1) := by decide +kernel
theorem dX0_takes_40 : decode cX0_takes 40 = .ok (.getfield 9, 3) := by decide +kernel
theorem dX0_takes_43 : decode cX0_takes 43 = .ok (.aload_n 0, 1) := by decide +kernel
theorem dX0_takes_44 : decode cX0_takes 44 = .ok (.getfield 18, 3) := by decide +kernel
theorem dX0_takes_47 : decode cX0_takes 47 = .ok (.iload_n 3, 1) := by decide +kernel
theorem dX0_takes_48 : decode cX0_takes 48 = .ok (.iastore, 1) := by decide +kernel
theorem dX0_takes_49 : decode cX0_takes 49 = .ok (.aload_n 0, 1) := by decide +kernel
theorem dX0_takes_50 : decode cX0_takes 50 = .ok (.dup, 1) := by decide +kernel
theorem dX0_takes_51 : decode cX0_takes 51 = .ok (.getfield 18, 3) := by decide +kernel
theorem dX0_takes_54 : decode cX0_takes 54 = .ok (.iconst 1, 1) := by decide +kernel
theorem dX0_takes_55 : decode cX0_takes 55 = .ok (.iadd, 1) := by decide +kernel
theorem dX0_takes_56 : decode cX0_takes 56 = .ok (.putfield 18, 3) := by decide +kernel
theorem dX0_takes_59 : decode cX0_takes 59 = .ok (.iconst 1, 1) := by decide +kernel
theorem dX0_takes_60 : decode cX0_takes 60 = .ok (.ireturn, 1) := by decide +kernel
abbrev wsX0_takes : List Cond := Cond.code yX0_takes cX0_takes 4 (some .boolean) :: lw_gd
theorem dX0_rest_0 : decode cX0_rest 0 = .ok (.iload_n 1, 1) := by decide +kernel
theorem dX0_rest_1 : decode cX0_rest 1 = .ok (.istore_n 2, 1) := by decide +kernel
theorem dX0_rest_2 : decode cX0_rest 2 = .ok (.iconst 0, 1) := by decide +kernel
theorem dX0_rest_3 : decode cX0_rest 3 = .ok (.istore_n 3, 1) := by decide +kernel
theorem dX0_rest_4 : decode cX0_rest 4 = .ok (.iload_n 3, 1) := by decide +kernel
theorem dX0_rest_5 : decode cX0_rest 5 = .ok (.aload_n 0, 1) := by decide +kernel
theorem dX0_rest_6 : decode cX0_rest 6 = .ok (.getfield 18, 3) := by decide +kernel
theorem dX0_rest_9 : decode cX0_rest 9 = .ok (.if_icmp .ge 22, 3) := by decide +kernel
theorem dX0_rest_12 : decode cX0_rest 12 = .ok (.iload_n 2, 1) := by decide +kernel
theorem dX0_rest_13 : decode cX0_rest 13 = .ok (.iload_n 2, 1) := by decide +kernel
theorem dX0_rest_14 : decode cX0_rest 14 = .ok (.aload_n 0, 1) := by decide +kernel
theorem dX0_rest_15 : decode cX0_rest 15 = .ok (.getfield 9, 3) := by decide +kernel
theorem dX0_rest_18 : decode cX0_rest 18 = .ok (.iload_n 3, 1) := by decide +kernel
theorem dX0_rest_19 : decode cX0_rest 19 = .ok (.iaload, 1) := by decide +kernel
theorem dX0_rest_20 : decode cX0_rest 20 = .ok (.ixor, 1) := by decide +kernel
theorem dX0_rest_21 : decode cX0_rest 21 = .ok (.invokestatic 47, 3) := by decide +kernel
theorem dX0_rest_24 : decode cX0_rest 24 = .ok (.istore_n 2, 1) := by decide +kernel
theorem dX0_rest_25 : decode cX0_rest 25 = .ok (.iinc 3 1, 3) := by decide +kernel
theorem dX0_rest_28 : decode cX0_rest 28 = .ok (.goto (-24), 3) := by decide +kernel
theorem dX0_rest_31 : decode cX0_rest 31 = .ok (.iload_n 2, 1) := by decide +kernel
theorem dX0_rest_32 : decode cX0_rest 32 = .ok (.ireturn, 1) := by decide +kernel
abbrev wsX0_rest : List Cond := Cond.code yX0_rest cX0_rest 4 (some .int) :: lw_gd
theorem dX0_way_0 : decode cX0_way 0 = .ok (.iload_n 1, 1) := by decide +kernel
theorem dX0_way_1 : decode cX0_way 1 = .ok (.istore_n 2, 1) := by decide +kernel
theorem dX0_way_2 : decode cX0_way 2 = .ok (.iconst 0, 1) := by decide +kernel
theorem dX0_way_3 : decode cX0_way 3 = .ok (.istore_n 3, 1) := by decide +kernel
theorem dX0_way_4 : decode cX0_way 4 = .ok (.iconst 0, 1) := by decide +kernel
theorem dX0_way_5 : decode cX0_way 5 = .ok (.istore 4, 2) := by decide +kernel
theorem dX0_way_7 : decode cX0_way 7 = .ok (.iload 4, 2) := by decide +kernel
theorem dX0_way_9 : decode cX0_way 9 = .ok (.aload_n 0, 1) := by decide +kernel
theorem dX0_way_10 : decode cX0_way 10 = .ok (.getfield 18, 3) := by decide +kernel
theorem dX0_way_13 : decode cX0_way 13 = .ok (.if_icmp .ge 42, 3) := by decide +kernel
theorem dX0_way_16 : decode cX0_way 16 = .ok (.iload_n 2, 1) := by decide +kernel
theorem dX0_way_17 : decode cX0_way 17 = .ok (.aload_n 0, 1) := by decide +kernel
theorem dX0_way_18 : decode cX0_way 18 = .ok (.getfield 9, 3) := by decide +kernel
theorem dX0_way_21 : decode cX0_way 21 = .ok (.iload 4, 2) := by decide +kernel
theorem dX0_way_23 : decode cX0_way 23 = .ok (.iaload, 1) := by decide +kernel
theorem dX0_way_24 : decode cX0_way 24 = .ok (.ixor, 1) := by decide +kernel
theorem dX0_way_25 : decode cX0_way 25 = .ok (.iload_n 2, 1) := by decide +kernel
theorem dX0_way_26 : decode cX0_way 26 = .ok (.if_icmp .ge 23, 3) := by decide +kernel
theorem dX0_way_29 : decode cX0_way 29 = .ok (.iload_n 2, 1) := by decide +kernel
theorem dX0_way_30 : decode cX0_way 30 = .ok (.aload_n 0, 1) := by decide +kernel
theorem dX0_way_31 : decode cX0_way 31 = .ok (.getfield 9, 3) := by decide +kernel
theorem dX0_way_34 : decode cX0_way 34 = .ok (.iload 4, 2) := by decide +kernel
theorem dX0_way_36 : decode cX0_way 36 = .ok (.iaload, 1) := by decide +kernel
theorem dX0_way_37 : decode cX0_way 37 = .ok (.ixor, 1) := by decide +kernel
theorem dX0_way_38 : decode cX0_way 38 = .ok (.istore_n 2, 1) := by decide +kernel
theorem dX0_way_39 : decode cX0_way 39 = .ok (.iload_n 3, 1) := by decide +kernel
theorem dX0_way_40 : decode cX0_way 40 = .ok (.aload_n 0, 1) := by decide +kernel
theorem dX0_way_41 : decode cX0_way 41 = .ok (.getfield 15, 3) := by decide +kernel
theorem dX0_way_44 : decode cX0_way 44 = .ok (.iload 4, 2) := by decide +kernel
theorem dX0_way_46 : decode cX0_way 46 = .ok (.iaload, 1) := by decide +kernel
theorem dX0_way_47 : decode cX0_way 47 = .ok (.ixor, 1) := by decide +kernel
theorem dX0_way_48 : decode cX0_way 48 = .ok (.istore_n 3, 1) := by decide +kernel
theorem dX0_way_49 : decode cX0_way 49 = .ok (.iinc 4 1, 3) := by decide +kernel
theorem dX0_way_52 : decode cX0_way 52 = .ok (.goto (-45), 3) := by decide +kernel
theorem dX0_way_55 : decode cX0_way 55 = .ok (.iload_n 3, 1) := by decide +kernel
theorem dX0_way_56 : decode cX0_way 56 = .ok (.ireturn, 1) := by decide +kernel
abbrev wsX0_way : List Cond := Cond.code yX0_way cX0_way 5 (some .int) :: lw_gd
theorem dX0_drop_0 : decode cX0_drop 0 = .ok (.aload_n 0, 1) := by decide +kernel
theorem dX0_drop_1 : decode cX0_drop 1 = .ok (.getfield 18, 3) := by decide +kernel
theorem dX0_drop_4 : decode cX0_drop 4 = .ok (.ifCond .le 13, 3) := by decide +kernel
theorem dX0_drop_7 : decode cX0_drop 7 = .ok (.aload_n 0, 1) := by decide +kernel
theorem dX0_drop_8 : decode cX0_drop 8 = .ok (.dup, 1) := by decide +kernel
theorem dX0_drop_9 : decode cX0_drop 9 = .ok (.getfield 18, 3) := by decide +kernel
theorem dX0_drop_12 : decode cX0_drop 12 = .ok (.iconst 1, 1) := by decide +kernel
theorem dX0_drop_13 : decode cX0_drop 13 = .ok (.isub, 1) := by decide +kernel
theorem dX0_drop_14 : decode cX0_drop 14 = .ok (.putfield 18, 3) := by decide +kernel
theorem dX0_drop_17 : decode cX0_drop 17 = .ok (.return_, 1) := by decide +kernel
abbrev wsX0_drop : List Cond := Cond.code yX0_drop cX0_drop 1 none :: lw_gd
theorem dX1_init_0 : decode cX1_init 0 = .ok (.aload_n 0, 1) := by decide +kernel
theorem dX1_init_1 : decode cX1_init 1 = .ok (.invokespecial 3, 3) := by decide +kernel
theorem dX1_init_4 : decode cX1_init 4 = .ok (.aload_n 0, 1) := by decide +kernel
theorem dX1_init_5 : decode cX1_init 5 = .ok (.bipush 12, 2) := by decide +kernel
theorem dX1_init_7 : decode cX1_init 7 = .ok (.newarray .int, 2) := by decide +kernel
theorem dX1_init_9 : decode cX1_init 9 = .ok (.putfield 9, 3) := by decide +kernel
theorem dX1_init_12 : decode cX1_init 12 = .ok (.aload_n 0, 1) := by decide +kernel
theorem dX1_init_13 : decode cX1_init 13 = .ok (.bipush 12, 2) := by decide +kernel
theorem dX1_init_15 : decode cX1_init 15 = .ok (.newarray .int, 2) := by decide +kernel
theorem dX1_init_17 : decode cX1_init 17 = .ok (.putfield 15, 3) := by decide +kernel
theorem dX1_init_20 : decode cX1_init 20 = .ok (.aload_n 0, 1) := by decide +kernel
theorem dX1_init_21 : decode cX1_init 21 = .ok (.iconst 0, 1) := by decide +kernel
theorem dX1_init_22 : decode cX1_init 22 = .ok (.putfield 18, 3) := by decide +kernel
theorem dX1_init_25 : decode cX1_init 25 = .ok (.aload_n 0, 1) := by decide +kernel
theorem dX1_init_26 : decode cX1_init 26 = .ok (.iconst 1, 1) := by decide +kernel
theorem dX1_init_27 : decode cX1_init 27 = .ok (.putfield 22, 3) := by decide +kernel
theorem dX1_init_30 : decode cX1_init 30 = .ok (.aload_n 0, 1) := by decide +kernel
theorem dX1_init_31 : decode cX1_init 31 = .ok (.iconst 1, 1) := by decide +kernel
theorem dX1_init_32 : decode cX1_init 32 = .ok (.putfield 25, 3) := by decide +kernel
theorem dX1_init_35 : decode cX1_init 35 = .ok (.return_, 1) := by decide +kernel
abbrev wsX1_init : List Cond := Cond.code yX1_init cX1_init 1 none :: lw_gd
theorem dX1_restart_0 : decode cX1_restart 0 = .ok (.aload_n 0, 1) := by decide +kernel
theorem dX1_restart_1 : decode cX1_restart 1 = .ok (.iconst 1, 1) := by decide +kernel
theorem dX1_restart_2 : decode cX1_restart 2 = .ok (.putfield 25, 3) := by decide +kernel
theorem dX1_restart_5 : decode cX1_restart 5 = .ok (.aload_n 0, 1) := by decide +kernel
theorem dX1_restart_6 : decode cX1_restart 6 = .ok (.iload_n 1, 1) := by decide +kernel
theorem dX1_restart_7 : decode cX1_restart 7 = .ok (.putfield 22, 3) := by decide +kernel
theorem dX1_restart_10 : decode cX1_restart 10 = .ok (.aload_n 0, 1) := by decide +kernel
theorem dX1_restart_11 : decode cX1_restart 11 = .ok (.iconst 0, 1) := by decide +kernel
theorem dX1_restart_12 : decode cX1_restart 12 = .ok (.putfield 18, 3) := by decide +kernel
theorem dX1_restart_15 : decode cX1_restart 15 = .ok (.return_, 1) := by decide +kernel
abbrev wsX1_restart : List Cond := Cond.code yX1_restart cX1_restart 2 none :: lw_gd
theorem dX1_canMeet_0 : decode cX1_canMeet 0 = .ok (.aload_n 0, 1) := by decide +kernel
theorem dX1_canMeet_1 : decode cX1_canMeet 1 = .ok (.getfield 25, 3) := by decide +kernel
theorem dX1_canMeet_4 : decode cX1_canMeet 4 = .ok (.ifCond .eq 19, 3) := by decide +kernel
theorem dX1_canMeet_7 : decode cX1_canMeet 7 = .ok (.iload_n 1, 1) := by decide +kernel
theorem dX1_canMeet_8 : decode cX1_canMeet 8 = .ok (.ifCond .lt 15, 3) := by decide +kernel
theorem dX1_canMeet_11 : decode cX1_canMeet 11 = .ok (.iload_n 1, 1) := by decide +kernel
theorem dX1_canMeet_12 : decode cX1_canMeet 12 = .ok (.aload_n 0, 1) := by decide +kernel
theorem dX1_canMeet_13 : decode cX1_canMeet 13 = .ok (.getfield 22, 3) := by decide +kernel
theorem dX1_canMeet_16 : decode cX1_canMeet 16 = .ok (.if_icmp .ge 7, 3) := by decide +kernel
theorem dX1_canMeet_19 : decode cX1_canMeet 19 = .ok (.iconst 1, 1) := by decide +kernel
theorem dX1_canMeet_20 : decode cX1_canMeet 20 = .ok (.goto 4, 3) := by decide +kernel
theorem dX1_canMeet_23 : decode cX1_canMeet 23 = .ok (.iconst 0, 1) := by decide +kernel
theorem dX1_canMeet_24 : decode cX1_canMeet 24 = .ok (.ireturn, 1) := by decide +kernel
abbrev wsX1_canMeet : List Cond := Cond.code yX1_canMeet cX1_canMeet 2 (some .boolean) :: lw_gd
theorem dX1_append_0 : decode cX1_append 0 = .ok (.aload_n 0, 1) := by decide +kernel
theorem dX1_append_1 : decode cX1_append 1 = .ok (.getfield 18, 3) := by decide +kernel
theorem dX1_append_4 : decode cX1_append 4 = .ok (.bipush 12, 2) := by decide +kernel
theorem dX1_append_6 : decode cX1_append 6 = .ok (.if_icmp .lt 5, 3) := by decide +kernel
theorem dX1_append_9 : decode cX1_append 9 = .ok (.iconst (-1), 1) := by decide +kernel
theorem dX1_append_10 : decode cX1_append 10 = .ok (.ireturn, 1) := by decide +kernel
theorem dX1_append_11 : decode cX1_append 11 = .ok (.aload_n 0, 1) := by decide +kernel
theorem dX1_append_12 : decode cX1_append 12 = .ok (.getfield 9, 3) := by decide +kernel
theorem dX1_append_15 : decode cX1_append 15 = .ok (.aload_n 0, 1) := by decide +kernel
theorem dX1_append_16 : decode cX1_append 16 = .ok (.getfield 18, 3) := by decide +kernel
theorem dX1_append_19 : decode cX1_append 19 = .ok (.iload_n 1, 1) := by decide +kernel
theorem dX1_append_20 : decode cX1_append 20 = .ok (.iastore, 1) := by decide +kernel
theorem dX1_append_21 : decode cX1_append 21 = .ok (.aload_n 0, 1) := by decide +kernel
theorem dX1_append_22 : decode cX1_append 22 = .ok (.getfield 15, 3) := by decide +kernel
theorem dX1_append_25 : decode cX1_append 25 = .ok (.aload_n 0, 1) := by decide +kernel
theorem dX1_append_26 : decode cX1_append 26 = .ok (.getfield 18, 3) := by decide +kernel
theorem dX1_append_29 : decode cX1_append 29 = .ok (.iconst 0, 1) := by decide +kernel
theorem dX1_append_30 : decode cX1_append 30 = .ok (.iastore, 1) := by decide +kernel
theorem dX1_append_31 : decode cX1_append 31 = .ok (.aload_n 0, 1) := by decide +kernel
theorem dX1_append_32 : decode cX1_append 32 = .ok (.dup, 1) := by decide +kernel
theorem dX1_append_33 : decode cX1_append 33 = .ok (.getfield 18, 3) := by decide +kernel
theorem dX1_append_36 : decode cX1_append 36 = .ok (.iconst 1, 1) := by decide +kernel
theorem dX1_append_37 : decode cX1_append 37 = .ok (.iadd, 1) := by decide +kernel
theorem dX1_append_38 : decode cX1_append 38 = .ok (.putfield 18, 3) := by decide +kernel
theorem dX1_append_41 : decode cX1_append 41 = .ok (.aload_n 0, 1) := by decide +kernel
theorem dX1_append_42 : decode cX1_append 42 = .ok (.getfield 18, 3) := by decide +kernel
theorem dX1_append_45 : decode cX1_append 45 = .ok (.iconst 1, 1) := by decide +kernel
theorem dX1_append_46 : decode cX1_append 46 = .ok (.isub, 1) := by decide +kernel
theorem dX1_append_47 : decode cX1_append 47 = .ok (.ireturn, 1) := by decide +kernel
abbrev wsX1_append : List Cond := Cond.code yX1_append cX1_append 2 (some .int) :: lw_gd
theorem dX1_become_0 : decode cX1_become 0 = .ok (.aload_n 0, 1) := by decide +kernel
theorem dX1_become_1 : decode cX1_become 1 = .ok (.iconst 0, 1) := by decide +kernel
theorem dX1_become_2 : decode cX1_become 2 = .ok (.putfield 25, 3) := by decide +kernel
theorem dX1_become_5 : decode cX1_become 5 = .ok (.aload_n 0, 1) := by decide +kernel
theorem dX1_become_6 : decode cX1_become 6 = .ok (.iconst 0, 1) := by decide +kernel
theorem dX1_become_7 : decode cX1_become 7 = .ok (.putfield 18, 3) := by decide +kernel
theorem dX1_become_10 : decode cX1_become 10 = .ok (.iconst 0, 1) := by decide +kernel
theorem dX1_become_11 : decode cX1_become 11 = .ok (.istore_n 3, 1) := by decide +kernel
theorem dX1_become_12 : decode cX1_become 12 = .ok (.iload_n 3, 1) := by decide +kernel
theorem dX1_become_13 : decode cX1_become 13 = .ok (.iload_n 2, 1) := by decide +kernel
theorem dX1_become_14 : decode cX1_become 14 = .ok (.if_icmp .ge 23, 3) := by decide +kernel
theorem dX1_become_17 : decode cX1_become 17 = .ok (.iload_n 3, 1) := by decide +kernel
theorem dX1_become_18 : decode cX1_become 18 = .ok (.aload_n 1, 1) := by decide +kernel
theorem dX1_become_19 : decode cX1_become 19 = .ok (.arraylength, 1) := by decide +kernel
theorem dX1_become_20 : decode cX1_become 20 = .ok (.if_icmp .ge 17, 3) := by decide +kernel
theorem dX1_become_23 : decode cX1_become 23 = .ok (.aload_n 0, 1) := by decide +kernel
theorem dX1_become_24 : decode cX1_become 24 = .ok (.aload_n 1, 1) := by decide +kernel
theorem dX1_become_25 : decode cX1_become 25 = .ok (.iload_n 3, 1) := by decide +kernel
theorem dX1_become_26 : decode cX1_become 26 = .ok (.iaload, 1) := by decide +kernel
theorem dX1_become_27 : decode cX1_become 27 = .ok (.invokevirtual 29, 3) := by decide +kernel
theorem dX1_become_30 : decode cX1_become 30 = .ok (.pop, 1) := by decide +kernel
theorem dX1_become_31 : decode cX1_become 31 = .ok (.iinc 3 1, 3) := by decide +kernel
theorem dX1_become_34 : decode cX1_become 34 = .ok (.goto (-22), 3) := by decide +kernel
theorem dX1_become_37 : decode cX1_become 37 = .ok (.return_, 1) := by decide +kernel
abbrev wsX1_become : List Cond := Cond.code yX1_become cX1_become 4 none :: lw_gd
theorem dX1_met_0 : decode cX1_met 0 = .ok (.iconst 0, 1) := by decide +kernel
theorem dX1_met_1 : decode cX1_met 1 = .ok (.istore_n 1, 1) := by decide +kernel
theorem dX1_met_2 : decode cX1_met 2 = .ok (.iconst 0, 1) := by decide +kernel
theorem dX1_met_3 : decode cX1_met 3 = .ok (.istore_n 2, 1) := by decide +kernel
theorem dX1_met_4 : decode cX1_met 4 = .ok (.iload_n 2, 1) := by decide +kernel
theorem dX1_met_5 : decode cX1_met 5 = .ok (.aload_n 0, 1) := by decide +kernel
theorem dX1_met_6 : decode cX1_met 6 = .ok (.getfield 18, 3) := by decide +kernel
theorem dX1_met_9 : decode cX1_met 9 = .ok (.if_icmp .ge 18, 3) := by decide +kernel
theorem dX1_met_12 : decode cX1_met 12 = .ok (.iload_n 1, 1) := by decide +kernel
theorem dX1_met_13 : decode cX1_met 13 = .ok (.aload_n 0, 1) := by decide +kernel
theorem dX1_met_14 : decode cX1_met 14 = .ok (.getfield 9, 3) := by decide +kernel
theorem dX1_met_17 : decode cX1_met 17 = .ok (.iload_n 2, 1) := by decide +kernel
theorem dX1_met_18 : decode cX1_met 18 = .ok (.iaload, 1) := by decide +kernel
theorem dX1_met_19 : decode cX1_met 19 = .ok (.ior, 1) := by decide +kernel
theorem dX1_met_20 : decode cX1_met 20 = .ok (.istore_n 1, 1) := by decide +kernel
theorem dX1_met_21 : decode cX1_met 21 = .ok (.iinc 2 1, 3) := by decide +kernel
theorem dX1_met_24 : decode cX1_met 24 = .ok (.goto (-20), 3) := by decide +kernel
theorem dX1_met_27 : decode cX1_met 27 = .ok (.iload_n 1, 1) := by decide +kernel
theorem dX1_met_28 : decode cX1_met 28 = .ok (.ireturn, 1) := by decide +kernel
abbrev wsX1_met : List Cond := Cond.code yX1_met cX1_met 3 (some .int) :: lw_gd
theorem dX1_heaviest_0 : decode cX1_heaviest 0 = .ok (.sipush (-1000), 3) := by decide +kernel
theorem dX1_heaviest_3 : decode cX1_heaviest 3 = .ok (.istore_n 2, 1) := by decide +kernel
theorem dX1_heaviest_4 : decode cX1_heaviest 4 = .ok (.iconst 0, 1) := by decide +kernel
theorem dX1_heaviest_5 : decode cX1_heaviest 5 = .ok (.istore_n 3, 1) := by decide +kernel
theorem dX1_heaviest_6 : decode cX1_heaviest 6 = .ok (.iconst 0, 1) := by decide +kernel
theorem dX1_heaviest_7 : decode cX1_heaviest 7 = .ok (.istore 4, 2) := by decide +kernel
theorem dX1_heaviest_9 : decode cX1_heaviest 9 = .ok (.iload 4, 2) := by decide +kernel
theorem dX1_heaviest_11 : decode cX1_heaviest 11 = .ok (.aload_n 0, 1) := by decide +kernel
theorem dX1_heaviest_12 : decode cX1_heaviest 12 = .ok (.getfield 18, 3) := by decide +kernel
theorem dX1_heaviest_15 : decode cX1_heaviest 15 = .ok (.if_icmp .ge 40, 3) := by decide +kernel
theorem dX1_heaviest_18 : decode cX1_heaviest 18 = .ok (.iload_n 1, 1) := by decide +kernel
theorem dX1_heaviest_19 : decode cX1_heaviest 19 = .ok (.iload 4, 2) := by decide +kernel
theorem dX1_heaviest_21 : decode cX1_heaviest 21 = .ok (.invokestatic 33, 3) := by decide +kernel
theorem dX1_heaviest_24 : decode cX1_heaviest 24 = .ok (.ifCond .eq 25, 3) := by decide +kernel
theorem dX1_heaviest_27 : decode cX1_heaviest 27 = .ok (.aload_n 0, 1) := by decide +kernel
theorem dX1_heaviest_28 : decode cX1_heaviest 28 = .ok (.getfield 15, 3) := by decide +kernel
theorem dX1_heaviest_31 : decode cX1_heaviest 31 = .ok (.iload 4, 2) := by decide +kernel
theorem dX1_heaviest_33 : decode cX1_heaviest 33 = .ok (.iaload, 1) := by decide +kernel
theorem dX1_heaviest_34 : decode cX1_heaviest 34 = .ok (.iload_n 2, 1) := by decide +kernel
theorem dX1_heaviest_35 : decode cX1_heaviest 35 = .ok (.if_icmp .le 14, 3) := by decide +kernel
theorem dX1_heaviest_38 : decode cX1_heaviest 38 = .ok (.aload_n 0, 1) := by decide +kernel
theorem dX1_heaviest_39 : decode cX1_heaviest 39 = .ok (.getfield 15, 3) := by decide +kernel
theorem dX1_heaviest_42 : decode cX1_heaviest 42 = .ok (.iload 4, 2) := by decide +kernel
theorem dX1_heaviest_44 : decode cX1_heaviest 44 = .ok (.iaload, 1) := by decide +kernel
theorem dX1_heaviest_45 : decode cX1_heaviest 45 = .ok (.istore_n 2, 1) := by decide +kernel
theorem dX1_heaviest_46 : decode cX1_heaviest 46 = .ok (.iload 4, 2) := by decide +kernel
theorem dX1_heaviest_48 : decode cX1_heaviest 48 = .ok (.istore_n 3, 1) := by decide +kernel
theorem dX1_heaviest_49 : decode cX1_heaviest 49 = .ok (.iinc 4 1, 3) := by decide +kernel
theorem dX1_heaviest_52 : decode cX1_heaviest 52 = .ok (.goto (-43), 3) := by decide +kernel
theorem dX1_heaviest_55 : decode cX1_heaviest 55 = .ok (.iload_n 3, 1) := by decide +kernel
theorem dX1_heaviest_56 : decode cX1_heaviest 56 = .ok (.ireturn, 1) := by decide +kernel
abbrev wsX1_heaviest : List Cond := Cond.code yX1_heaviest cX1_heaviest 5 (some .int) :: lw_gd
theorem dJ6_bitCount_0 : decode cJ6_bitCount 0 = .ok (.iload_n 0, 1) := by decide +kernel
theorem dJ6_bitCount_1 : decode cJ6_bitCount 1 = .ok (.iload_n 0, 1) := by decide +kernel
theorem dJ6_bitCount_2 : decode cJ6_bitCount 2 = .ok (.iconst 1, 1) := by decide +kernel
theorem dJ6_bitCount_3 : decode cJ6_bitCount 3 = .ok (.iushr, 1) := by decide +kernel
theorem dJ6_bitCount_4 : decode cJ6_bitCount 4 = .ok (.ldc_w 265, 3) := by decide +kernel
theorem dJ6_bitCount_7 : decode cJ6_bitCount 7 = .ok (.iand, 1) := by decide +kernel
theorem dJ6_bitCount_8 : decode cJ6_bitCount 8 = .ok (.isub, 1) := by decide +kernel
theorem dJ6_bitCount_9 : decode cJ6_bitCount 9 = .ok (.istore_n 0, 1) := by decide +kernel
theorem dJ6_bitCount_10 : decode cJ6_bitCount 10 = .ok (.iload_n 0, 1) := by decide +kernel
theorem dJ6_bitCount_11 : decode cJ6_bitCount 11 = .ok (.ldc_w 266, 3) := by decide +kernel
theorem dJ6_bitCount_14 : decode cJ6_bitCount 14 = .ok (.iand, 1) := by decide +kernel
theorem dJ6_bitCount_15 : decode cJ6_bitCount 15 = .ok (.iload_n 0, 1) := by decide +kernel
theorem dJ6_bitCount_16 : decode cJ6_bitCount 16 = .ok (.iconst 2, 1) := by decide +kernel
theorem dJ6_bitCount_17 : decode cJ6_bitCount 17 = .ok (.iushr, 1) := by decide +kernel
theorem dJ6_bitCount_18 : decode cJ6_bitCount 18 = .ok (.ldc_w 266, 3) := by decide +kernel
theorem dJ6_bitCount_21 : decode cJ6_bitCount 21 = .ok (.iand, 1) := by decide +kernel
theorem dJ6_bitCount_22 : decode cJ6_bitCount 22 = .ok (.iadd, 1) := by decide +kernel
theorem dJ6_bitCount_23 : decode cJ6_bitCount 23 = .ok (.istore_n 0, 1) := by decide +kernel
theorem dJ6_bitCount_24 : decode cJ6_bitCount 24 = .ok (.iload_n 0, 1) := by decide +kernel
theorem dJ6_bitCount_25 : decode cJ6_bitCount 25 = .ok (.iload_n 0, 1) := by decide +kernel
theorem dJ6_bitCount_26 : decode cJ6_bitCount 26 = .ok (.iconst 4, 1) := by decide +kernel
theorem dJ6_bitCount_27 : decode cJ6_bitCount 27 = .ok (.iushr, 1) := by decide +kernel
theorem dJ6_bitCount_28 : decode cJ6_bitCount 28 = .ok (.iadd, 1) := by decide +kernel
theorem dJ6_bitCount_29 : decode cJ6_bitCount 29 = .ok (.ldc_w 267, 3) := by decide +kernel
theorem dJ6_bitCount_32 : decode cJ6_bitCount 32 = .ok (.iand, 1) := by decide +kernel
theorem dJ6_bitCount_33 : decode cJ6_bitCount 33 = .ok (.istore_n 0, 1) := by decide +kernel
theorem dJ6_bitCount_34 : decode cJ6_bitCount 34 = .ok (.iload_n 0, 1) := by decide +kernel
theorem dJ6_bitCount_35 : decode cJ6_bitCount 35 = .ok (.iload_n 0, 1) := by decide +kernel
theorem dJ6_bitCount_36 : decode cJ6_bitCount 36 = .ok (.bipush 8, 2) := by decide +kernel
theorem dJ6_bitCount_38 : decode cJ6_bitCount 38 = .ok (.iushr, 1) := by decide +kernel
theorem dJ6_bitCount_39 : decode cJ6_bitCount 39 = .ok (.iadd, 1) := by decide +kernel
theorem dJ6_bitCount_40 : decode cJ6_bitCount 40 = .ok (.istore_n 0, 1) := by decide +kernel
theorem dJ6_bitCount_41 : decode cJ6_bitCount 41 = .ok (.iload_n 0, 1) := by decide +kernel
theorem dJ6_bitCount_42 : decode cJ6_bitCount 42 = .ok (.iload_n 0, 1) := by decide +kernel
theorem dJ6_bitCount_43 : decode cJ6_bitCount 43 = .ok (.bipush 16, 2) := by decide +kernel
theorem dJ6_bitCount_45 : decode cJ6_bitCount 45 = .ok (.iushr, 1) := by decide +kernel
theorem dJ6_bitCount_46 : decode cJ6_bitCount 46 = .ok (.iadd, 1) := by decide +kernel
theorem dJ6_bitCount_47 : decode cJ6_bitCount 47 = .ok (.istore_n 0, 1) := by decide +kernel
theorem dJ6_bitCount_48 : decode cJ6_bitCount 48 = .ok (.iload_n 0, 1) := by decide +kernel
theorem dJ6_bitCount_49 : decode cJ6_bitCount 49 = .ok (.bipush 63, 2) := by decide +kernel
theorem dJ6_bitCount_51 : decode cJ6_bitCount 51 = .ok (.iand, 1) := by decide +kernel
theorem dJ6_bitCount_52 : decode cJ6_bitCount 52 = .ok (.ireturn, 1) := by decide +kernel
abbrev wsJ6_bitCount : List Cond := Cond.code yJ6_bitCount cJ6_bitCount 1 (some .int) :: lw_gd
theorem dX3_init_0 : decode cX3_init 0 = .ok (.aload_n 0, 1) := by decide +kernel
theorem dX3_init_1 : decode cX3_init 1 = .ok (.invokespecial 1, 3) := by decide +kernel
theorem dX3_init_4 : decode cX3_init 4 = .ok (.aload_n 0, 1) := by decide +kernel
theorem dX3_init_5 : decode cX3_init 5 = .ok (.bipush 8, 2) := by decide +kernel
theorem dX3_init_7 : decode cX3_init 7 = .ok (.newarray .int, 2) := by decide +kernel
theorem dX3_init_9 : decode cX3_init 9 = .ok (.putfield 7, 3) := by decide +kernel
theorem dX3_init_12 : decode cX3_init 12 = .ok (.aload_n 0, 1) := by decide +kernel
theorem dX3_init_13 : decode cX3_init 13 = .ok (.bipush 8, 2) := by decide +kernel
theorem dX3_init_15 : decode cX3_init 15 = .ok (.newarray .int, 2) := by decide +kernel
theorem dX3_init_17 : decode cX3_init 17 = .ok (.putfield 13, 3) := by decide +kernel
theorem dX3_init_20 : decode cX3_init 20 = .ok (.aload_n 0, 1) := by decide +kernel
theorem dX3_init_21 : decode cX3_init 21 = .ok (.bipush 8, 2) := by decide +kernel
theorem dX3_init_23 : decode cX3_init 23 = .ok (.newarray .boolean, 2) := by decide +kernel
theorem dX3_init_25 : decode cX3_init 25 = .ok (.putfield 16, 3) := by decide +kernel
theorem dX3_init_28 : decode cX3_init 28 = .ok (.aload_n 0, 1) := by decide +kernel
theorem dX3_init_29 : decode cX3_init 29 = .ok (.sipush 192, 3) := by decide +kernel
theorem dX3_init_32 : decode cX3_init 32 = .ok (.newarray .int, 2) := by decide +kernel
theorem dX3_init_34 : decode cX3_init 34 = .ok (.putfield 20, 3) := by decide +kernel
theorem dX3_init_37 : decode cX3_init 37 = .ok (.aload_n 0, 1) := by decide +kernel
theorem dX3_init_38 : decode cX3_init 38 = .ok (.bipush 96, 2) := by decide +kernel
theorem dX3_init_40 : decode cX3_init 40 = .ok (.newarray .int, 2) := by decide +kernel
theorem dX3_init_42 : decode cX3_init 42 = .ok (.putfield 23, 3) := by decide +kernel
theorem dX3_init_45 : decode cX3_init 45 = .ok (.aload_n 0, 1) := by decide +kernel
theorem dX3_init_46 : decode cX3_init 46 = .ok (.bipush 24, 2) := by decide +kernel
theorem dX3_init_48 : decode cX3_init 48 = .ok (.newarray .int, 2) := by decide +kernel
theorem dX3_init_50 : decode cX3_init 50 = .ok (.putfield 26, 3) := by decide +kernel
theorem dX3_init_53 : decode cX3_init 53 = .ok (.aload_n 0, 1) := by decide +kernel
theorem dX3_init_54 : decode cX3_init 54 = .ok (.bipush 32, 2) := by decide +kernel
theorem dX3_init_56 : decode cX3_init 56 = .ok (.newarray .int, 2) := by decide +kernel
theorem dX3_init_58 : decode cX3_init 58 = .ok (.putfield 29, 3) := by decide +kernel
theorem dX3_init_61 : decode cX3_init 61 = .ok (.aload_n 0, 1) := by decide +kernel
theorem dX3_init_62 : decode cX3_init 62 = .ok (.sipush 4096, 3) := by decide +kernel
theorem dX3_init_65 : decode cX3_init 65 = .ok (.newarray .byte, 2) := by decide +kernel
theorem dX3_init_67 : decode cX3_init 67 = .ok (.putfield 32, 3) := by decide +kernel
theorem dX3_init_70 : decode cX3_init 70 = .ok (.aload_n 0, 1) := by decide +kernel
theorem dX3_init_71 : decode cX3_init 71 = .ok (.sipush 4096, 3) := by decide +kernel
theorem dX3_init_74 : decode cX3_init 74 = .ok (.newarray .byte, 2) := by decide +kernel
theorem dX3_init_76 : decode cX3_init 76 = .ok (.putfield 36, 3) := by decide +kernel
theorem dX3_init_79 : decode cX3_init 79 = .ok (.iconst 0, 1) := by decide +kernel
theorem dX3_init_80 : decode cX3_init 80 = .ok (.istore_n 1, 1) := by decide +kernel
theorem dX3_init_81 : decode cX3_init 81 = .ok (.iload_n 1, 1) := by decide +kernel
theorem dX3_init_82 : decode cX3_init 82 = .ok (.bipush 8, 2) := by decide +kernel
theorem dX3_init_84 : decode cX3_init 84 = .ok (.if_icmp .ge 23, 3) := by decide +kernel
theorem dX3_init_87 : decode cX3_init 87 = .ok (.aload_n 0, 1) := by decide +kernel
theorem dX3_init_88 : decode cX3_init 88 = .ok (.getfield 7, 3) := by decide +kernel
theorem dX3_init_91 : decode cX3_init 91 = .ok (.iload_n 1, 1) := by decide +kernel
theorem dX3_init_92 : decode cX3_init 92 = .ok (.iconst 1, 1) := by decide +kernel
theorem dX3_init_93 : decode cX3_init 93 = .ok (.iastore, 1) := by decide +kernel
theorem dX3_init_94 : decode cX3_init 94 = .ok (.aload_n 0, 1) := by decide +kernel
theorem dX3_init_95 : decode cX3_init 95 = .ok (.getfield 16, 3) := by decide +kernel
theorem dX3_init_98 : decode cX3_init 98 = .ok (.iload_n 1, 1) := by decide +kernel
theorem dX3_init_99 : decode cX3_init 99 = .ok (.iconst 1, 1) := by decide +kernel
theorem dX3_init_100 : decode cX3_init 100 = .ok (.bastore, 1) := by decide +kernel
theorem dX3_init_101 : decode cX3_init 101 = .ok (.iinc 1 1, 3) := by decide +kernel
theorem dX3_init_104 : decode cX3_init 104 = .ok (.goto (-23), 3) := by decide +kernel
theorem dX3_init_107 : decode cX3_init 107 = .ok (.return_, 1) := by decide +kernel
abbrev wsX3_init : List Cond := Cond.code yX3_init cX3_init 2 none :: lw_gd
theorem dX3_begin_0 : decode cX3_begin 0 = .ok (.iload_n 1, 1) := by decide +kernel
theorem dX3_begin_1 : decode cX3_begin 1 = .ok (.invokestatic 39, 3) := by decide +kernel
theorem dX3_begin_4 : decode cX3_begin 4 = .ok (.ifCond .eq 14, 3) := by decide +kernel
theorem dX3_begin_7 : decode cX3_begin 7 = .ok (.iload_n 2, 1) := by decide +kernel
theorem dX3_begin_8 : decode cX3_begin 8 = .ok (.iconst 1, 1) := by decide +kernel
theorem dX3_begin_9 : decode cX3_begin 9 = .ok (.if_icmp .lt 9, 3) := by decide +kernel
theorem dX3_begin_12 : decode cX3_begin 12 = .ok (.iload_n 2, 1) := by decide +kernel
theorem dX3_begin_13 : decode cX3_begin 13 = .ok (.bipush 13, 2) := by decide +kernel
theorem dX3_begin_15 : decode cX3_begin 15 = .ok (.if_icmp .le 5, 3) := by decide +kernel
theorem dX3_begin_18 : decode cX3_begin 18 = .ok (.iconst 0, 1) := by decide +kernel
theorem dX3_begin_19 : decode cX3_begin 19 = .ok (.ireturn, 1) := by decide +kernel
theorem dX3_begin_20 : decode cX3_begin 20 = .ok (.aload_n 0, 1) := by decide +kernel
theorem dX3_begin_21 : decode cX3_begin 21 = .ok (.getfield 7, 3) := by decide +kernel
theorem dX3_begin_24 : decode cX3_begin 24 = .ok (.iload_n 1, 1) := by decide +kernel
theorem dX3_begin_25 : decode cX3_begin 25 = .ok (.iload_n 2, 1) := by decide +kernel
theorem dX3_begin_26 : decode cX3_begin 26 = .ok (.iastore, 1) := by decide +kernel
theorem dX3_begin_27 : decode cX3_begin 27 = .ok (.aload_n 0, 1) := by decide +kernel
theorem dX3_begin_28 : decode cX3_begin 28 = .ok (.getfield 13, 3) := by decide +kernel
theorem dX3_begin_31 : decode cX3_begin 31 = .ok (.iload_n 1, 1) := by decide +kernel
theorem dX3_begin_32 : decode cX3_begin 32 = .ok (.iconst 0, 1) := by decide +kernel
theorem dX3_begin_33 : decode cX3_begin 33 = .ok (.iastore, 1) := by decide +kernel
theorem dX3_begin_34 : decode cX3_begin 34 = .ok (.aload_n 0, 1) := by decide +kernel
theorem dX3_begin_35 : decode cX3_begin 35 = .ok (.getfield 16, 3) := by decide +kernel
theorem dX3_begin_38 : decode cX3_begin 38 = .ok (.iload_n 1, 1) := by decide +kernel
theorem dX3_begin_39 : decode cX3_begin 39 = .ok (.iconst 1, 1) := by decide +kernel
theorem dX3_begin_40 : decode cX3_begin 40 = .ok (.bastore, 1) := by decide +kernel
theorem dX3_begin_41 : decode cX3_begin 41 = .ok (.iconst 1, 1) := by decide +kernel
theorem dX3_begin_42 : decode cX3_begin 42 = .ok (.ireturn, 1) := by decide +kernel
abbrev wsX3_begin : List Cond := Cond.code yX3_begin cX3_begin 3 (some .boolean) :: lw_gd
theorem dX3_isGraph_0 : decode cX3_isGraph 0 = .ok (.iload_n 0, 1) := by decide +kernel
theorem dX3_isGraph_1 : decode cX3_isGraph 1 = .ok (.ifCond .lt 13, 3) := by decide +kernel
theorem dX3_isGraph_4 : decode cX3_isGraph 4 = .ok (.iload_n 0, 1) := by decide +kernel
theorem dX3_isGraph_5 : decode cX3_isGraph 5 = .ok (.bipush 8, 2) := by decide +kernel
theorem dX3_isGraph_7 : decode cX3_isGraph 7 = .ok (.if_icmp .ge 7, 3) := by decide +kernel
theorem dX3_isGraph_10 : decode cX3_isGraph 10 = .ok (.iconst 1, 1) := by decide +kernel
theorem dX3_isGraph_11 : decode cX3_isGraph 11 = .ok (.goto 4, 3) := by decide +kernel
theorem dX3_isGraph_14 : decode cX3_isGraph 14 = .ok (.iconst 0, 1) := by decide +kernel
theorem dX3_isGraph_15 : decode cX3_isGraph 15 = .ok (.ireturn, 1) := by decide +kernel
abbrev wsX3_isGraph : List Cond := Cond.code yX3_isGraph cX3_isGraph 1 (some .boolean) :: lw_gd
theorem dX3_add_0 : decode cX3_add 0 = .ok (.iload_n 1, 1) := by decide +kernel
theorem dX3_add_1 : decode cX3_add 1 = .ok (.invokestatic 39, 3) := by decide +kernel
theorem dX3_add_4 : decode cX3_add 4 = .ok (.ifCond .eq 51, 3) := by decide +kernel
theorem dX3_add_7 : decode cX3_add 7 = .ok (.aload_n 0, 1) := by decide +kernel
theorem dX3_add_8 : decode cX3_add 8 = .ok (.getfield 16, 3) := by decide +kernel
theorem dX3_add_11 : decode cX3_add 11 = .ok (.iload_n 1, 1) := by decide +kernel
theorem dX3_add_12 : decode cX3_add 12 = .ok (.baload, 1) := by decide +kernel
theorem dX3_add_13 : decode cX3_add 13 = .ok (.ifCond .eq 42, 3) := by decide +kernel
theorem dX3_add_16 : decode cX3_add 16 = .ok (.aload_n 0, 1) := by decide +kernel
theorem dX3_add_17 : decode cX3_add 17 = .ok (.getfield 13, 3) := by decide +kernel
theorem dX3_add_20 : decode cX3_add 20 = .ok (.iload_n 1, 1) := by decide +kernel
theorem dX3_add_21 : decode cX3_add 21 = .ok (.iaload, 1) := by decide +kernel
theorem dX3_add_22 : decode cX3_add 22 = .ok (.bipush 12, 2) := by decide +kernel
theorem dX3_add_24 : decode cX3_add 24 = .ok (.if_icmp .eq 31, 3) := by decide +kernel
theorem dX3_add_27 : decode cX3_add 27 = .ok (.iload_n 2, 1) := by decide +kernel
theorem dX3_add_28 : decode cX3_add 28 = .ok (.ifCond .lt 27, 3) := by decide +kernel
theorem dX3_add_31 : decode cX3_add 31 = .ok (.iload_n 3, 1) := by decide +kernel
theorem dX3_add_32 : decode cX3_add 32 = .ok (.ifCond .lt 23, 3) := by decide +kernel
theorem dX3_add_35 : decode cX3_add 35 = .ok (.iload_n 2, 1) := by decide +kernel
theorem dX3_add_36 : decode cX3_add 36 = .ok (.aload_n 0, 1) := by decide +kernel
theorem dX3_add_37 : decode cX3_add 37 = .ok (.getfield 7, 3) := by decide +kernel
theorem dX3_add_40 : decode cX3_add 40 = .ok (.iload_n 1, 1) := by decide +kernel
theorem dX3_add_41 : decode cX3_add 41 = .ok (.iaload, 1) := by decide +kernel
theorem dX3_add_42 : decode cX3_add 42 = .ok (.if_icmp .ge 13, 3) := by decide +kernel
theorem dX3_add_45 : decode cX3_add 45 = .ok (.iload_n 3, 1) := by decide +kernel
theorem dX3_add_46 : decode cX3_add 46 = .ok (.aload_n 0, 1) := by decide +kernel
theorem dX3_add_47 : decode cX3_add 47 = .ok (.getfield 7, 3) := by decide +kernel
theorem dX3_add_50 : decode cX3_add 50 = .ok (.iload_n 1, 1) := by decide +kernel
theorem dX3_add_51 : decode cX3_add 51 = .ok (.iaload, 1) := by decide +kernel
theorem dX3_add_52 : decode cX3_add 52 = .ok (.if_icmp .lt 5, 3) := by decide +kernel
theorem dX3_add_55 : decode cX3_add 55 = .ok (.iconst (-1), 1) := by decide +kernel
theorem dX3_add_56 : decode cX3_add 56 = .ok (.ireturn, 1) := by decide +kernel
theorem dX3_add_57 : decode cX3_add 57 = .ok (.aload_n 0, 1) := by decide +kernel
theorem dX3_add_58 : decode cX3_add 58 = .ok (.getfield 13, 3) := by decide +kernel
theorem dX3_add_61 : decode cX3_add 61 = .ok (.iload_n 1, 1) := by decide +kernel
theorem dX3_add_62 : decode cX3_add 62 = .ok (.iaload, 1) := by decide +kernel
theorem dX3_add_63 : decode cX3_add 63 = .ok (.istore 4, 2) := by decide +kernel
theorem dX3_add_65 : decode cX3_add 65 = .ok (.aload_n 0, 1) := by decide +kernel
theorem dX3_add_66 : decode cX3_add 66 = .ok (.getfield 20, 3) := by decide +kernel
theorem dX3_add_69 : decode cX3_add 69 = .ok (.bipush 24, 2) := by decide +kernel
theorem dX3_add_71 : decode cX3_add 71 = .ok (.iload_n 1, 1) := by decide +kernel
theorem dX3_add_72 : decode cX3_add 72 = .ok (.imul, 1) := by decide +kernel
theorem dX3_add_73 : decode cX3_add 73 = .ok (.iconst 2, 1) := by decide +kernel
theorem dX3_add_74 : decode cX3_add 74 = .ok (.iload 4, 2) := by decide +kernel
theorem dX3_add_76 : decode cX3_add 76 = .ok (.imul, 1) := by decide +kernel
theorem dX3_add_77 : decode cX3_add 77 = .ok (.iadd, 1) := by decide +kernel
theorem dX3_add_78 : decode cX3_add 78 = .ok (.iload_n 2, 1) := by decide +kernel
theorem dX3_add_79 : decode cX3_add 79 = .ok (.iastore, 1) := by decide +kernel
theorem dX3_add_80 : decode cX3_add 80 = .ok (.aload_n 0, 1) := by decide +kernel
theorem dX3_add_81 : decode cX3_add 81 = .ok (.getfield 20, 3) := by decide +kernel
theorem dX3_add_84 : decode cX3_add 84 = .ok (.bipush 24, 2) := by decide +kernel
theorem dX3_add_86 : decode cX3_add 86 = .ok (.iload_n 1, 1) := by decide +kernel
theorem dX3_add_87 : decode cX3_add 87 = .ok (.imul, 1) := by decide +kernel
theorem dX3_add_88 : decode cX3_add 88 = .ok (.iconst 2, 1) := by decide +kernel
theorem dX3_add_89 : decode cX3_add 89 = .ok (.iload 4, 2) := by decide +kernel
theorem dX3_add_91 : decode cX3_add 91 = .ok (.imul, 1) := by decide +kernel
theorem dX3_add_92 : decode cX3_add 92 = .ok (.iadd, 1) := by decide +kernel
theorem dX3_add_93 : decode cX3_add 93 = .ok (.iconst 1, 1) := by decide +kernel
theorem dX3_add_94 : decode cX3_add 94 = .ok (.iadd, 1) := by decide +kernel
theorem dX3_add_95 : decode cX3_add 95 = .ok (.iload_n 3, 1) := by decide +kernel
theorem dX3_add_96 : decode cX3_add 96 = .ok (.iastore, 1) := by decide +kernel
theorem dX3_add_97 : decode cX3_add 97 = .ok (.aload_n 0, 1) := by decide +kernel
theorem dX3_add_98 : decode cX3_add 98 = .ok (.getfield 23, 3) := by decide +kernel
theorem dX3_add_101 : decode cX3_add 101 = .ok (.bipush 12, 2) := by decide +kernel
theorem dX3_add_103 : decode cX3_add 103 = .ok (.iload_n 1, 1) := by decide +kernel
theorem dX3_add_104 : decode cX3_add 104 = .ok (.imul, 1) := by decide +kernel
theorem dX3_add_105 : decode cX3_add 105 = .ok (.iload 4, 2) := by decide +kernel
theorem dX3_add_107 : decode cX3_add 107 = .ok (.iadd, 1) := by decide +kernel
theorem dX3_add_108 : decode cX3_add 108 = .ok (.iconst 0, 1) := by decide +kernel
theorem dX3_add_109 : decode cX3_add 109 = .ok (.iastore, 1) := by decide +kernel
theorem dX3_add_110 : decode cX3_add 110 = .ok (.aload_n 0, 1) := by decide +kernel
theorem dX3_add_111 : decode cX3_add 111 = .ok (.getfield 13, 3) := by decide +kernel
theorem dX3_add_114 : decode cX3_add 114 = .ok (.iload_n 1, 1) := by decide +kernel
theorem dX3_add_115 : decode cX3_add 115 = .ok (.iload 4, 2) := by decide +kernel
theorem dX3_add_117 : decode cX3_add 117 = .ok (.iconst 1, 1) := by decide +kernel
theorem dX3_add_118 : decode cX3_add 118 = .ok (.iadd, 1) := by decide +kernel
theorem dX3_add_119 : decode cX3_add 119 = .ok (.iastore, 1) := by decide +kernel
theorem dX3_add_120 : decode cX3_add 120 = .ok (.iload 4, 2) := by decide +kernel
theorem dX3_add_122 : decode cX3_add 122 = .ok (.ireturn, 1) := by decide +kernel
abbrev wsX3_add : List Cond := Cond.code yX3_add cX3_add 5 (some .int) :: lw_gd
theorem dX3_weigh_0 : decode cX3_weigh 0 = .ok (.aload_n 0, 1) := by decide +kernel
theorem dX3_weigh_1 : decode cX3_weigh 1 = .ok (.iload_n 1, 1) := by decide +kernel
theorem dX3_weigh_2 : decode cX3_weigh 2 = .ok (.iload_n 2, 1) := by decide +kernel
theorem dX3_weigh_3 : decode cX3_weigh 3 = .ok (.invokevirtual 50, 3) := by decide +kernel
theorem dX3_weigh_6 : decode cX3_weigh 6 = .ok (.ifCond .eq 17, 3) := by decide +kernel
theorem dX3_weigh_9 : decode cX3_weigh 9 = .ok (.iload_n 3, 1) := by decide +kernel
theorem dX3_weigh_10 : decode cX3_weigh 10 = .ok (.sipush (-999), 3) := by decide +kernel
theorem dX3_weigh_13 : decode cX3_weigh 13 = .ok (.if_icmp .lt 10, 3) := by decide +kernel
theorem dX3_weigh_16 : decode cX3_weigh 16 = .ok (.iload_n 3, 1) := by decide +kernel
theorem dX3_weigh_17 : decode cX3_weigh 17 = .ok (.sipush 999, 3) := by decide +kernel
theorem dX3_weigh_20 : decode cX3_weigh 20 = .ok (.if_icmp .le 5, 3) := by decide +kernel
theorem dX3_weigh_23 : decode cX3_weigh 23 = .ok (.iconst 0, 1) := by decide +kernel
theorem dX3_weigh_24 : decode cX3_weigh 24 = .ok (.ireturn, 1) := by decide +kernel
theorem dX3_weigh_25 : decode cX3_weigh 25 = .ok (.aload_n 0, 1) := by decide +kernel
theorem dX3_weigh_26 : decode cX3_weigh 26 = .ok (.getfield 23, 3) := by decide +kernel
theorem dX3_weigh_29 : decode cX3_weigh 29 = .ok (.bipush 12, 2) := by decide +kernel
theorem dX3_weigh_31 : decode cX3_weigh 31 = .ok (.iload_n 1, 1) := by decide +kernel
theorem dX3_weigh_32 : decode cX3_weigh 32 = .ok (.imul, 1) := by decide +kernel
theorem dX3_weigh_33 : decode cX3_weigh 33 = .ok (.iload_n 2, 1) := by decide +kernel
theorem dX3_weigh_34 : decode cX3_weigh 34 = .ok (.iadd, 1) := by decide +kernel
theorem dX3_weigh_35 : decode cX3_weigh 35 = .ok (.iload_n 3, 1) := by decide +kernel
theorem dX3_weigh_36 : decode cX3_weigh 36 = .ok (.iastore, 1) := by decide +kernel
theorem dX3_weigh_37 : decode cX3_weigh 37 = .ok (.iconst 1, 1) := by decide +kernel
theorem dX3_weigh_38 : decode cX3_weigh 38 = .ok (.ireturn, 1) := by decide +kernel
abbrev wsX3_weigh : List Cond := Cond.code yX3_weigh cX3_weigh 4 (some .boolean) :: lw_gd
theorem dX3_isEdge_0 : decode cX3_isEdge 0 = .ok (.iload_n 1, 1) := by decide +kernel
theorem dX3_isEdge_1 : decode cX3_isEdge 1 = .ok (.invokestatic 39, 3) := by decide +kernel
theorem dX3_isEdge_4 : decode cX3_isEdge 4 = .ok (.ifCond .eq 21, 3) := by decide +kernel
theorem dX3_isEdge_7 : decode cX3_isEdge 7 = .ok (.iload_n 2, 1) := by decide +kernel
theorem dX3_isEdge_8 : decode cX3_isEdge 8 = .ok (.ifCond .lt 17, 3) := by decide +kernel
theorem dX3_isEdge_11 : decode cX3_isEdge 11 = .ok (.iload_n 2, 1) := by decide +kernel
theorem dX3_isEdge_12 : decode cX3_isEdge 12 = .ok (.aload_n 0, 1) := by decide +kernel
theorem dX3_isEdge_13 : decode cX3_isEdge 13 = .ok (.getfield 13, 3) := by decide +kernel
theorem dX3_isEdge_16 : decode cX3_isEdge 16 = .ok (.iload_n 1, 1) := by decide +kernel
theorem dX3_isEdge_17 : decode cX3_isEdge 17 = .ok (.iaload, 1) := by decide +kernel
theorem dX3_isEdge_18 : decode cX3_isEdge 18 = .ok (.if_icmp .ge 7, 3) := by decide +kernel
theorem dX3_isEdge_21 : decode cX3_isEdge 21 = .ok (.iconst 1, 1) := by decide +kernel
theorem dX3_isEdge_22 : decode cX3_isEdge 22 = .ok (.goto 4, 3) := by decide +kernel
theorem dX3_isEdge_25 : decode cX3_isEdge 25 = .ok (.iconst 0, 1) := by decide +kernel
theorem dX3_isEdge_26 : decode cX3_isEdge 26 = .ok (.ireturn, 1) := by decide +kernel
abbrev wsX3_isEdge : List Cond := Cond.code yX3_isEdge cX3_isEdge 3 (some .boolean) :: lw_gd
theorem dX3_leave_0 : decode cX3_leave 0 = .ok (.iload_n 1, 1) := by decide +kernel
theorem dX3_leave_1 : decode cX3_leave 1 = .ok (.invokestatic 39, 3) := by decide +kernel
theorem dX3_leave_4 : decode cX3_leave 4 = .ok (.ifCond .eq 12, 3) := by decide +kernel
theorem dX3_leave_7 : decode cX3_leave 7 = .ok (.aload_n 0, 1) := by decide +kernel
theorem dX3_leave_8 : decode cX3_leave 8 = .ok (.iload_n 2, 1) := by decide +kernel
theorem dX3_leave_9 : decode cX3_leave 9 = .ok (.iload_n 3, 1) := by decide +kernel
theorem dX3_leave_10 : decode cX3_leave 10 = .ok (.invokevirtual 58, 3) := by decide +kernel
theorem dX3_leave_13 : decode cX3_leave 13 = .ok (.ifCond .ne 5, 3) := by decide +kernel
theorem dX3_leave_16 : decode cX3_leave 16 = .ok (.iconst (-1), 1) := by decide +kernel
theorem dX3_leave_17 : decode cX3_leave 17 = .ok (.ireturn, 1) := by decide +kernel
theorem dX3_leave_18 : decode cX3_leave 18 = .ok (.aload_n 0, 1) := by decide +kernel
theorem dX3_leave_19 : decode cX3_leave 19 = .ok (.iload_n 2, 1) := by decide +kernel
theorem dX3_leave_20 : decode cX3_leave 20 = .ok (.iload 4, 2) := by decide +kernel
theorem dX3_leave_22 : decode cX3_leave 22 = .ok (.ifCond .eq 7, 3) := by decide +kernel
theorem dX3_leave_25 : decode cX3_leave 25 = .ok (.iload_n 3, 1) := by decide +kernel
theorem dX3_leave_26 : decode cX3_leave 26 = .ok (.goto 4, 3) := by decide +kernel
theorem dX3_leave_29 : decode cX3_leave 29 = .ok (.iconst 0, 1) := by decide +kernel
theorem dX3_leave_30 : decode cX3_leave 30 = .ok (.invokevirtual 61, 3) := by decide +kernel
theorem dX3_leave_33 : decode cX3_leave 33 = .ok (.pop, 1) := by decide +kernel
theorem dX3_leave_34 : decode cX3_leave 34 = .ok (.aload_n 0, 1) := by decide +kernel
theorem dX3_leave_35 : decode cX3_leave 35 = .ok (.iconst 0, 1) := by decide +kernel
theorem dX3_leave_36 : decode cX3_leave 36 = .ok (.putfield 54, 3) := by decide +kernel
theorem dX3_leave_39 : decode cX3_leave 39 = .ok (.iconst 0, 1) := by decide +kernel
theorem dX3_leave_40 : decode cX3_leave 40 = .ok (.istore 5, 2) := by decide +kernel
theorem dX3_leave_42 : decode cX3_leave 42 = .ok (.iload 5, 2) := by decide +kernel
theorem dX3_leave_44 : decode cX3_leave 44 = .ok (.aload_n 0, 1) := by decide +kernel
theorem dX3_leave_45 : decode cX3_leave 45 = .ok (.getfield 13, 3) := by decide +kernel
theorem dX3_leave_48 : decode cX3_leave 48 = .ok (.iload_n 2, 1) := by decide +kernel
theorem dX3_leave_49 : decode cX3_leave 49 = .ok (.iaload, 1) := by decide +kernel
theorem dX3_leave_50 : decode cX3_leave 50 = .ok (.if_icmp .ge 62, 3) := by decide +kernel
theorem dX3_leave_53 : decode cX3_leave 53 = .ok (.iload_n 3, 1) := by decide +kernel
theorem dX3_leave_54 : decode cX3_leave 54 = .ok (.iload 5, 2) := by decide +kernel
theorem dX3_leave_56 : decode cX3_leave 56 = .ok (.ishr, 1) := by decide +kernel
theorem dX3_leave_57 : decode cX3_leave 57 = .ok (.iconst 1, 1) := by decide +kernel
theorem dX3_leave_58 : decode cX3_leave 58 = .ok (.iand, 1) := by decide +kernel
theorem dX3_leave_59 : decode cX3_leave 59 = .ok (.ifCond .ne 47, 3) := by decide +kernel
theorem dX3_leave_62 : decode cX3_leave 62 = .ok (.aload_n 0, 1) := by decide +kernel
theorem dX3_leave_63 : decode cX3_leave 63 = .ok (.aload_n 0, 1) := by decide +kernel
theorem dX3_leave_64 : decode cX3_leave 64 = .ok (.getfield 29, 3) := by decide +kernel
theorem dX3_leave_67 : decode cX3_leave 67 = .ok (.aload_n 0, 1) := by decide +kernel
theorem dX3_leave_68 : decode cX3_leave 68 = .ok (.getfield 20, 3) := by decide +kernel
theorem dX3_leave_71 : decode cX3_leave 71 = .ok (.bipush 24, 2) := by decide +kernel
theorem dX3_leave_73 : decode cX3_leave 73 = .ok (.iload_n 2, 1) := by decide +kernel
theorem dX3_leave_74 : decode cX3_leave 74 = .ok (.imul, 1) := by decide +kernel
theorem dX3_leave_75 : decode cX3_leave 75 = .ok (.iconst 2, 1) := by decide +kernel
theorem dX3_leave_76 : decode cX3_leave 76 = .ok (.iload 5, 2) := by decide +kernel
theorem dX3_leave_78 : decode cX3_leave 78 = .ok (.imul, 1) := by decide +kernel
theorem dX3_leave_79 : decode cX3_leave 79 = .ok (.iadd, 1) := by decide +kernel
theorem dX3_leave_80 : decode cX3_leave 80 = .ok (.iaload, 1) := by decide +kernel
theorem dX3_leave_81 : decode cX3_leave 81 = .ok (.iaload, 1) := by decide +kernel
theorem dX3_leave_82 : decode cX3_leave 82 = .ok (.aload_n 0, 1) := by decide +kernel
theorem dX3_leave_83 : decode cX3_leave 83 = .ok (.getfield 29, 3) := by decide +kernel
theorem dX3_leave_86 : decode cX3_leave 86 = .ok (.aload_n 0, 1) := by decide +kernel
theorem dX3_leave_87 : decode cX3_leave 87 = .ok (.getfield 20, 3) := by decide +kernel
theorem dX3_leave_90 : decode cX3_leave 90 = .ok (.bipush 24, 2) := by decide +kernel
theorem dX3_leave_92 : decode cX3_leave 92 = .ok (.iload_n 2, 1) := by decide +kernel
theorem dX3_leave_93 : decode cX3_leave 93 = .ok (.imul, 1) := by decide +kernel
theorem dX3_leave_94 : decode cX3_leave 94 = .ok (.iconst 2, 1) := by decide +kernel
theorem dX3_leave_95 : decode cX3_leave 95 = .ok (.iload 5, 2) := by decide +kernel
theorem dX3_leave_97 : decode cX3_leave 97 = .ok (.imul, 1) := by decide +kernel
theorem dX3_leave_98 : decode cX3_leave 98 = .ok (.iadd, 1) := by decide +kernel
theorem dX3_leave_99 : decode cX3_leave 99 = .ok (.iconst 1, 1) := by decide +kernel
theorem dX3_leave_100 : decode cX3_leave 100 = .ok (.iadd, 1) := by decide +kernel
theorem dX3_leave_101 : decode cX3_leave 101 = .ok (.iaload, 1) := by decide +kernel
theorem dX3_leave_102 : decode cX3_leave 102 = .ok (.iaload, 1) := by decide +kernel
theorem dX3_leave_103 : decode cX3_leave 103 = .ok (.invokevirtual 65, 3) := by decide +kernel
theorem dX3_leave_106 : decode cX3_leave 106 = .ok (.iinc 5 1, 3) := by decide +kernel
theorem dX3_leave_109 : decode cX3_leave 109 = .ok (.goto (-67), 3) := by decide +kernel
theorem dX3_leave_112 : decode cX3_leave 112 = .ok (.aload_n 0, 1) := by decide +kernel
theorem dX3_leave_113 : decode cX3_leave 113 = .ok (.iload_n 1, 1) := by decide +kernel
theorem dX3_leave_114 : decode cX3_leave 114 = .ok (.aload_n 0, 1) := by decide +kernel
theorem dX3_leave_115 : decode cX3_leave 115 = .ok (.getfield 7, 3) := by decide +kernel
theorem dX3_leave_118 : decode cX3_leave 118 = .ok (.iload_n 2, 1) := by decide +kernel
theorem dX3_leave_119 : decode cX3_leave 119 = .ok (.iaload, 1) := by decide +kernel
theorem dX3_leave_120 : decode cX3_leave 120 = .ok (.invokevirtual 69, 3) := by decide +kernel
theorem dX3_leave_123 : decode cX3_leave 123 = .ok (.ireturn, 1) := by decide +kernel
abbrev wsX3_leave : List Cond := Cond.code yX3_leave cX3_leave 6 (some .int) :: lw_gd
theorem dX3_isSet_0 : decode cX3_isSet 0 = .ok (.iload_n 1, 1) := by decide +kernel
theorem dX3_isSet_1 : decode cX3_isSet 1 = .ok (.invokestatic 39, 3) := by decide +kernel
theorem dX3_isSet_4 : decode cX3_isSet 4 = .ok (.ifCond .eq 20, 3) := by decide +kernel
theorem dX3_isSet_7 : decode cX3_isSet 7 = .ok (.iload_n 2, 1) := by decide +kernel
theorem dX3_isSet_8 : decode cX3_isSet 8 = .ok (.ifCond .lt 16, 3) := by decide +kernel
theorem dX3_isSet_11 : decode cX3_isSet 11 = .ok (.iload_n 2, 1) := by decide +kernel
theorem dX3_isSet_12 : decode cX3_isSet 12 = .ok (.aload_n 0, 1) := by decide +kernel
theorem dX3_isSet_13 : decode cX3_isSet 13 = .ok (.iload_n 1, 1) := by decide +kernel
theorem dX3_isSet_14 : decode cX3_isSet 14 = .ok (.invokevirtual 43, 3) := by decide +kernel
theorem dX3_isSet_17 : decode cX3_isSet 17 = .ok (.if_icmp .gt 7, 3) := by decide +kernel
