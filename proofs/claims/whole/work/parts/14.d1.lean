theorem dX0_init_0 : decode cX0_init 0 = .ok (.aload_n 0, 1) := by decide +kernel
theorem dX0_init_1 : decode cX0_init 1 = .ok (.invokespecial 3, 3) := by decide +kernel
theorem dX0_init_4 : decode cX0_init 4 = .ok (.aload_n 0, 1) := by decide +kernel
theorem dX0_init_5 : decode cX0_init 5 = .ok (.bipush 12, 2) := by decide +kernel
theorem dX0_init_7 : decode cX0_init 7 = .ok (.newarray .int, 2) := by decide +kernel
theorem dX0_init_9 : decode cX0_init 9 = .ok (.putfield 9, 3) := by decide +kernel
theorem dX0_init_12 : decode cX0_init 12 = .ok (.aload_n 0, 1) := by decide +kernel
theorem dX0_init_13 : decode cX0_init 13 = .ok (.bipush 12, 2) := by decide +kernel
theorem dX0_init_15 : decode cX0_init 15 = .ok (.newarray .int, 2) := by decide +kernel
theorem dX0_init_17 : decode cX0_init 17 = .ok (.putfield 15, 3) := by decide +kernel
theorem dX0_init_20 : decode cX0_init 20 = .ok (.aload_n 0, 1) := by decide +kernel
theorem dX0_init_21 : decode cX0_init 21 = .ok (.bipush 12, 2) := by decide +kernel
theorem dX0_init_23 : decode cX0_init 23 = .ok (.newarray .boolean, 2) := by decide +kernel
theorem dX0_init_25 : decode cX0_init 25 = .ok (.putfield 18, 3) := by decide +kernel
theorem dX0_init_28 : decode cX0_init 28 = .ok (.aload_n 0, 1) := by decide +kernel
theorem dX0_init_29 : decode cX0_init 29 = .ok (.bipush 12, 2) := by decide +kernel
theorem dX0_init_31 : decode cX0_init 31 = .ok (.newarray .int, 2) := by decide +kernel
theorem dX0_init_33 : decode cX0_init 33 = .ok (.putfield 22, 3) := by decide +kernel
theorem dX0_init_36 : decode cX0_init 36 = .ok (.aload_n 0, 1) := by decide +kernel
theorem dX0_init_37 : decode cX0_init 37 = .ok (.bipush 12, 2) := by decide +kernel
theorem dX0_init_39 : decode cX0_init 39 = .ok (.newarray .int, 2) := by decide +kernel
theorem dX0_init_41 : decode cX0_init 41 = .ok (.putfield 25, 3) := by decide +kernel
theorem dX0_init_44 : decode cX0_init 44 = .ok (.aload_n 0, 1) := by decide +kernel
theorem dX0_init_45 : decode cX0_init 45 = .ok (.aload_n 1, 1) := by decide +kernel
theorem dX0_init_46 : decode cX0_init 46 = .ok (.putfield 28, 3) := by decide +kernel
theorem dX0_init_49 : decode cX0_init 49 = .ok (.return_, 1) := by decide +kernel
theorem dX0_build_0 : decode cX0_build 0 = .ok (.aload_n 0, 1) := by decide +kernel
theorem dX0_build_1 : decode cX0_build 1 = .ok (.iconst (-1), 1) := by decide +kernel
theorem dX0_build_2 : decode cX0_build 2 = .ok (.invokevirtual 32, 3) := by decide +kernel
theorem dX0_build_5 : decode cX0_build 5 = .ok (.return_, 1) := by decide +kernel
theorem dX0_buildExchanged_0 : decode cX0_buildExchanged 0 = .ok (.aload_n 0, 1) := by decide +kernel
theorem dX0_buildExchanged_1 : decode cX0_buildExchanged 1 = .ok (.invokevirtual 36, 3) := by decide +kernel
theorem dX0_buildExchanged_4 : decode cX0_buildExchanged 4 = .ok (.iconst 0, 1) := by decide +kernel
theorem dX0_buildExchanged_5 : decode cX0_buildExchanged 5 = .ok (.istore_n 3, 1) := by decide +kernel
theorem dX0_buildExchanged_6 : decode cX0_buildExchanged 6 = .ok (.iload_n 3, 1) := by decide +kernel
theorem dX0_buildExchanged_7 : decode cX0_buildExchanged 7 = .ok (.aload_n 0, 1) := by decide +kernel
theorem dX0_buildExchanged_8 : decode cX0_buildExchanged 8 = .ok (.getfield 28, 3) := by decide +kernel
theorem dX0_buildExchanged_11 : decode cX0_buildExchanged 11 = .ok (.getfield 39, 3) := by decide +kernel
theorem dX0_buildExchanged_14 : decode cX0_buildExchanged 14 = .ok (.if_icmp .ge 28, 3) := by decide +kernel
theorem dX0_buildExchanged_17 : decode cX0_buildExchanged 17 = .ok (.aload_n 0, 1) := by decide +kernel
theorem dX0_buildExchanged_18 : decode cX0_buildExchanged 18 = .ok (.iload_n 3, 1) := by decide +kernel
theorem dX0_buildExchanged_19 : decode cX0_buildExchanged 19 = .ok (.aload_n 0, 1) := by decide +kernel
theorem dX0_buildExchanged_20 : decode cX0_buildExchanged 20 = .ok (.getfield 28, 3) := by decide +kernel
theorem dX0_buildExchanged_23 : decode cX0_buildExchanged 23 = .ok (.getfield 44, 3) := by decide +kernel
theorem dX0_buildExchanged_26 : decode cX0_buildExchanged 26 = .ok (.iload_n 3, 1) := by decide +kernel
theorem dX0_buildExchanged_27 : decode cX0_buildExchanged 27 = .ok (.iaload, 1) := by decide +kernel
theorem dX0_buildExchanged_28 : decode cX0_buildExchanged 28 = .ok (.iload_n 1, 1) := by decide +kernel
theorem dX0_buildExchanged_29 : decode cX0_buildExchanged 29 = .ok (.iload_n 2, 1) := by decide +kernel
theorem dX0_buildExchanged_30 : decode cX0_buildExchanged 30 = .ok (.invokestatic 47, 3) := by decide +kernel
theorem dX0_buildExchanged_33 : decode cX0_buildExchanged 33 = .ok (.invokevirtual 51, 3) := by decide +kernel
theorem dX0_buildExchanged_36 : decode cX0_buildExchanged 36 = .ok (.iinc 3 1, 3) := by decide +kernel
theorem dX0_buildExchanged_39 : decode cX0_buildExchanged 39 = .ok (.goto (-33), 3) := by decide +kernel
theorem dX0_buildExchanged_42 : decode cX0_buildExchanged 42 = .ok (.return_, 1) := by decide +kernel
theorem dX0_moveScene_0 : decode cX0_moveScene 0 = .ok (.aload_n 0, 1) := by decide +kernel
theorem dX0_moveScene_1 : decode cX0_moveScene 1 = .ok (.iload_n 1, 1) := by decide +kernel
theorem dX0_moveScene_2 : decode cX0_moveScene 2 = .ok (.invokevirtual 32, 3) := by decide +kernel
theorem dX0_moveScene_5 : decode cX0_moveScene 5 = .ok (.aload_n 0, 1) := by decide +kernel
theorem dX0_moveScene_6 : decode cX0_moveScene 6 = .ok (.iload_n 1, 1) := by decide +kernel
theorem dX0_moveScene_7 : decode cX0_moveScene 7 = .ok (.iload_n 2, 1) := by decide +kernel
theorem dX0_moveScene_8 : decode cX0_moveScene 8 = .ok (.invokevirtual 55, 3) := by decide +kernel
theorem dX0_moveScene_11 : decode cX0_moveScene 11 = .ok (.istore_n 3, 1) := by decide +kernel
theorem dX0_moveScene_12 : decode cX0_moveScene 12 = .ok (.iload_n 3, 1) := by decide +kernel
theorem dX0_moveScene_13 : decode cX0_moveScene 13 = .ok (.ifCond .ne 9, 3) := by decide +kernel
theorem dX0_moveScene_16 : decode cX0_moveScene 16 = .ok (.aload_n 0, 1) := by decide +kernel
theorem dX0_moveScene_17 : decode cX0_moveScene 17 = .ok (.iload_n 1, 1) := by decide +kernel
theorem dX0_moveScene_18 : decode cX0_moveScene 18 = .ok (.iload_n 2, 1) := by decide +kernel
theorem dX0_moveScene_19 : decode cX0_moveScene 19 = .ok (.invokevirtual 51, 3) := by decide +kernel
theorem dX0_moveScene_22 : decode cX0_moveScene 22 = .ok (.iload_n 3, 1) := by decide +kernel
theorem dX0_moveScene_23 : decode cX0_moveScene 23 = .ok (.ireturn, 1) := by decide +kernel
theorem dX0_reasonAgainst_0 : decode cX0_reasonAgainst 0 = .ok (.aload_n 0, 1) := by decide +kernel
theorem dX0_reasonAgainst_1 : decode cX0_reasonAgainst 1 = .ok (.iload_n 2, 1) := by decide +kernel
theorem dX0_reasonAgainst_2 : decode cX0_reasonAgainst 2 = .ok (.invokevirtual 59, 3) := by decide +kernel
theorem dX0_reasonAgainst_5 : decode cX0_reasonAgainst 5 = .ok (.ifCond .ne 23, 3) := by decide +kernel
theorem dX0_reasonAgainst_8 : decode cX0_reasonAgainst 8 = .ok (.aload_n 0, 1) := by decide +kernel
theorem dX0_reasonAgainst_9 : decode cX0_reasonAgainst 9 = .ok (.getfield 15, 3) := by decide +kernel
theorem dX0_reasonAgainst_12 : decode cX0_reasonAgainst 12 = .ok (.iload_n 2, 1) := by decide +kernel
theorem dX0_reasonAgainst_13 : decode cX0_reasonAgainst 13 = .ok (.iaload, 1) := by decide +kernel
theorem dX0_reasonAgainst_14 : decode cX0_reasonAgainst 14 = .ok (.aload_n 0, 1) := by decide +kernel
theorem dX0_reasonAgainst_15 : decode cX0_reasonAgainst 15 = .ok (.getfield 28, 3) := by decide +kernel
theorem dX0_reasonAgainst_18 : decode cX0_reasonAgainst 18 = .ok (.getfield 63, 3) := by decide +kernel
theorem dX0_reasonAgainst_21 : decode cX0_reasonAgainst 21 = .ok (.iload_n 1, 1) := by decide +kernel
theorem dX0_reasonAgainst_22 : decode cX0_reasonAgainst 22 = .ok (.iaload, 1) := by decide +kernel
theorem dX0_reasonAgainst_23 : decode cX0_reasonAgainst 23 = .ok (.if_icmp .eq 5, 3) := by decide +kernel
theorem dX0_reasonAgainst_26 : decode cX0_reasonAgainst 26 = .ok (.iconst 1, 1) := by decide +kernel
theorem dX0_reasonAgainst_27 : decode cX0_reasonAgainst 27 = .ok (.ireturn, 1) := by decide +kernel
theorem dX0_reasonAgainst_28 : decode cX0_reasonAgainst 28 = .ok (.aload_n 0, 1) := by decide +kernel
theorem dX0_reasonAgainst_29 : decode cX0_reasonAgainst 29 = .ok (.iload_n 2, 1) := by decide +kernel
theorem dX0_reasonAgainst_30 : decode cX0_reasonAgainst 30 = .ok (.invokevirtual 59, 3) := by decide +kernel
theorem dX0_reasonAgainst_33 : decode cX0_reasonAgainst 33 = .ok (.ifCond .ne 23, 3) := by decide +kernel
theorem dX0_reasonAgainst_36 : decode cX0_reasonAgainst 36 = .ok (.aload_n 0, 1) := by decide +kernel
theorem dX0_reasonAgainst_37 : decode cX0_reasonAgainst 37 = .ok (.getfield 18, 3) := by decide +kernel
theorem dX0_reasonAgainst_40 : decode cX0_reasonAgainst 40 = .ok (.iload_n 2, 1) := by decide +kernel
theorem dX0_reasonAgainst_41 : decode cX0_reasonAgainst 41 = .ok (.baload, 1) := by decide +kernel
theorem dX0_reasonAgainst_42 : decode cX0_reasonAgainst 42 = .ok (.aload_n 0, 1) := by decide +kernel
theorem dX0_reasonAgainst_43 : decode cX0_reasonAgainst 43 = .ok (.getfield 28, 3) := by decide +kernel
theorem dX0_reasonAgainst_46 : decode cX0_reasonAgainst 46 = .ok (.getfield 66, 3) := by decide +kernel
theorem dX0_reasonAgainst_49 : decode cX0_reasonAgainst 49 = .ok (.iload_n 1, 1) := by decide +kernel
theorem dX0_reasonAgainst_50 : decode cX0_reasonAgainst 50 = .ok (.baload, 1) := by decide +kernel
theorem dX0_reasonAgainst_51 : decode cX0_reasonAgainst 51 = .ok (.if_icmp .eq 5, 3) := by decide +kernel
theorem dX0_reasonAgainst_54 : decode cX0_reasonAgainst 54 = .ok (.iconst 2, 1) := by decide +kernel
theorem dX0_reasonAgainst_55 : decode cX0_reasonAgainst 55 = .ok (.ireturn, 1) := by decide +kernel
theorem dX0_reasonAgainst_56 : decode cX0_reasonAgainst 56 = .ok (.aload_n 0, 1) := by decide +kernel
theorem dX0_reasonAgainst_57 : decode cX0_reasonAgainst 57 = .ok (.getfield 22, 3) := by decide +kernel
theorem dX0_reasonAgainst_60 : decode cX0_reasonAgainst 60 = .ok (.iload_n 2, 1) := by decide +kernel
theorem dX0_reasonAgainst_61 : decode cX0_reasonAgainst 61 = .ok (.iaload, 1) := by decide +kernel
theorem dX0_reasonAgainst_62 : decode cX0_reasonAgainst 62 = .ok (.aload_n 0, 1) := by decide +kernel
theorem dX0_reasonAgainst_63 : decode cX0_reasonAgainst 63 = .ok (.getfield 28, 3) := by decide +kernel
theorem dX0_reasonAgainst_66 : decode cX0_reasonAgainst 66 = .ok (.getfield 69, 3) := by decide +kernel
theorem dX0_reasonAgainst_69 : decode cX0_reasonAgainst 69 = .ok (.iload_n 1, 1) := by decide +kernel
theorem dX0_reasonAgainst_70 : decode cX0_reasonAgainst 70 = .ok (.iaload, 1) := by decide +kernel
theorem dX0_reasonAgainst_71 : decode cX0_reasonAgainst 71 = .ok (.iadd, 1) := by decide +kernel
theorem dX0_reasonAgainst_72 : decode cX0_reasonAgainst 72 = .ok (.aload_n 0, 1) := by decide +kernel
theorem dX0_reasonAgainst_73 : decode cX0_reasonAgainst 73 = .ok (.getfield 28, 3) := by decide +kernel
theorem dX0_reasonAgainst_76 : decode cX0_reasonAgainst 76 = .ok (.getfield 72, 3) := by decide +kernel
theorem dX0_reasonAgainst_79 : decode cX0_reasonAgainst 79 = .ok (.iconst 0, 1) := by decide +kernel
theorem dX0_reasonAgainst_80 : decode cX0_reasonAgainst 80 = .ok (.iaload, 1) := by decide +kernel
theorem dX0_reasonAgainst_81 : decode cX0_reasonAgainst 81 = .ok (.if_icmp .le 5, 3) := by decide +kernel
theorem dX0_reasonAgainst_84 : decode cX0_reasonAgainst 84 = .ok (.iconst 3, 1) := by decide +kernel
theorem dX0_reasonAgainst_85 : decode cX0_reasonAgainst 85 = .ok (.ireturn, 1) := by decide +kernel
theorem dX0_reasonAgainst_86 : decode cX0_reasonAgainst 86 = .ok (.aload_n 0, 1) := by decide +kernel
theorem dX0_reasonAgainst_87 : decode cX0_reasonAgainst 87 = .ok (.iload_n 1, 1) := by decide +kernel
theorem dX0_reasonAgainst_88 : decode cX0_reasonAgainst 88 = .ok (.iload_n 2, 1) := by decide +kernel
theorem dX0_reasonAgainst_89 : decode cX0_reasonAgainst 89 = .ok (.invokevirtual 75, 3) := by decide +kernel
theorem dX0_reasonAgainst_92 : decode cX0_reasonAgainst 92 = .ok (.ifCond .eq 7, 3) := by decide +kernel
theorem dX0_reasonAgainst_95 : decode cX0_reasonAgainst 95 = .ok (.iconst 4, 1) := by decide +kernel
theorem dX0_reasonAgainst_96 : decode cX0_reasonAgainst 96 = .ok (.goto 4, 3) := by decide +kernel
theorem dX0_reasonAgainst_99 : decode cX0_reasonAgainst 99 = .ok (.iconst 0, 1) := by decide +kernel
theorem dX0_reasonAgainst_100 : decode cX0_reasonAgainst 100 = .ok (.ireturn, 1) := by decide +kernel
theorem dX0_addScene_0 : decode cX0_addScene 0 = .ok (.iload_n 2, 1) := by decide +kernel
theorem dX0_addScene_1 : decode cX0_addScene 1 = .ok (.ifCond .lt 87, 3) := by decide +kernel
theorem dX0_addScene_4 : decode cX0_addScene 4 = .ok (.iload_n 2, 1) := by decide +kernel
theorem dX0_addScene_5 : decode cX0_addScene 5 = .ok (.bipush 12, 2) := by decide +kernel
theorem dX0_addScene_7 : decode cX0_addScene 7 = .ok (.if_icmp .ge 81, 3) := by decide +kernel
theorem dX0_addScene_10 : decode cX0_addScene 10 = .ok (.aload_n 0, 1) := by decide +kernel
theorem dX0_addScene_11 : decode cX0_addScene 11 = .ok (.getfield 9, 3) := by decide +kernel
theorem dX0_addScene_14 : decode cX0_addScene 14 = .ok (.iload_n 2, 1) := by decide +kernel
theorem dX0_addScene_15 : decode cX0_addScene 15 = .ok (.dup2, 1) := by decide +kernel
theorem dX0_addScene_16 : decode cX0_addScene 16 = .ok (.iaload, 1) := by decide +kernel
theorem dX0_addScene_17 : decode cX0_addScene 17 = .ok (.iconst 1, 1) := by decide +kernel
theorem dX0_addScene_18 : decode cX0_addScene 18 = .ok (.iload_n 1, 1) := by decide +kernel
theorem dX0_addScene_19 : decode cX0_addScene 19 = .ok (.ishl, 1) := by decide +kernel
theorem dX0_addScene_20 : decode cX0_addScene 20 = .ok (.ior, 1) := by decide +kernel
theorem dX0_addScene_21 : decode cX0_addScene 21 = .ok (.iastore, 1) := by decide +kernel
theorem dX0_addScene_22 : decode cX0_addScene 22 = .ok (.aload_n 0, 1) := by decide +kernel
theorem dX0_addScene_23 : decode cX0_addScene 23 = .ok (.getfield 15, 3) := by decide +kernel
theorem dX0_addScene_26 : decode cX0_addScene 26 = .ok (.iload_n 2, 1) := by decide +kernel
theorem dX0_addScene_27 : decode cX0_addScene 27 = .ok (.aload_n 0, 1) := by decide +kernel
theorem dX0_addScene_28 : decode cX0_addScene 28 = .ok (.getfield 28, 3) := by decide +kernel
theorem dX0_addScene_31 : decode cX0_addScene 31 = .ok (.getfield 63, 3) := by decide +kernel
theorem dX0_addScene_34 : decode cX0_addScene 34 = .ok (.iload_n 1, 1) := by decide +kernel
theorem dX0_addScene_35 : decode cX0_addScene 35 = .ok (.iaload, 1) := by decide +kernel
theorem dX0_addScene_36 : decode cX0_addScene 36 = .ok (.iastore, 1) := by decide +kernel
theorem dX0_addScene_37 : decode cX0_addScene 37 = .ok (.aload_n 0, 1) := by decide +kernel
theorem dX0_addScene_38 : decode cX0_addScene 38 = .ok (.getfield 18, 3) := by decide +kernel
theorem dX0_addScene_41 : decode cX0_addScene 41 = .ok (.iload_n 2, 1) := by decide +kernel
theorem dX0_addScene_42 : decode cX0_addScene 42 = .ok (.aload_n 0, 1) := by decide +kernel
theorem dX0_addScene_43 : decode cX0_addScene 43 = .ok (.getfield 28, 3) := by decide +kernel
theorem dX0_addScene_46 : decode cX0_addScene 46 = .ok (.getfield 66, 3) := by decide +kernel
theorem dX0_addScene_49 : decode cX0_addScene 49 = .ok (.iload_n 1, 1) := by decide +kernel
theorem dX0_addScene_50 : decode cX0_addScene 50 = .ok (.baload, 1) := by decide +kernel
theorem dX0_addScene_51 : decode cX0_addScene 51 = .ok (.bastore, 1) := by decide +kernel
theorem dX0_addScene_52 : decode cX0_addScene 52 = .ok (.aload_n 0, 1) := by decide +kernel
theorem dX0_addScene_53 : decode cX0_addScene 53 = .ok (.getfield 22, 3) := by decide +kernel
theorem dX0_addScene_56 : decode cX0_addScene 56 = .ok (.iload_n 2, 1) := by decide +kernel
theorem dX0_addScene_57 : decode cX0_addScene 57 = .ok (.dup2, 1) := by decide +kernel
theorem dX0_addScene_58 : decode cX0_addScene 58 = .ok (.iaload, 1) := by decide +kernel
theorem dX0_addScene_59 : decode cX0_addScene 59 = .ok (.aload_n 0, 1) := by decide +kernel
theorem dX0_addScene_60 : decode cX0_addScene 60 = .ok (.getfield 28, 3) := by decide +kernel
theorem dX0_addScene_63 : decode cX0_addScene 63 = .ok (.getfield 69, 3) := by decide +kernel
theorem dX0_addScene_66 : decode cX0_addScene 66 = .ok (.iload_n 1, 1) := by decide +kernel
theorem dX0_addScene_67 : decode cX0_addScene 67 = .ok (.iaload, 1) := by decide +kernel
theorem dX0_addScene_68 : decode cX0_addScene 68 = .ok (.iadd, 1) := by decide +kernel
theorem dX0_addScene_69 : decode cX0_addScene 69 = .ok (.iastore, 1) := by decide +kernel
theorem dX0_addScene_70 : decode cX0_addScene 70 = .ok (.aload_n 0, 1) := by decide +kernel
theorem dX0_addScene_71 : decode cX0_addScene 71 = .ok (.getfield 25, 3) := by decide +kernel
theorem dX0_addScene_74 : decode cX0_addScene 74 = .ok (.iload_n 2, 1) := by decide +kernel
theorem dX0_addScene_75 : decode cX0_addScene 75 = .ok (.dup2, 1) := by decide +kernel
theorem dX0_addScene_76 : decode cX0_addScene 76 = .ok (.iaload, 1) := by decide +kernel
theorem dX0_addScene_77 : decode cX0_addScene 77 = .ok (.aload_n 0, 1) := by decide +kernel
theorem dX0_addScene_78 : decode cX0_addScene 78 = .ok (.getfield 28, 3) := by decide +kernel
theorem dX0_addScene_81 : decode cX0_addScene 81 = .ok (.getfield 79, 3) := by decide +kernel
theorem dX0_addScene_84 : decode cX0_addScene 84 = .ok (.iload_n 1, 1) := by decide +kernel
theorem dX0_addScene_85 : decode cX0_addScene 85 = .ok (.iaload, 1) := by decide +kernel
theorem dX0_addScene_86 : decode cX0_addScene 86 = .ok (.ior, 1) := by decide +kernel
theorem dX0_addScene_87 : decode cX0_addScene 87 = .ok (.iastore, 1) := by decide +kernel
theorem dX0_addScene_88 : decode cX0_addScene 88 = .ok (.return_, 1) := by decide +kernel
theorem dX0_isFree_0 : decode cX0_isFree 0 = .ok (.aload_n 0, 1) := by decide +kernel
theorem dX0_isFree_1 : decode cX0_isFree 1 = .ok (.getfield 9, 3) := by decide +kernel
theorem dX0_isFree_4 : decode cX0_isFree 4 = .ok (.iload_n 1, 1) := by decide +kernel
theorem dX0_isFree_5 : decode cX0_isFree 5 = .ok (.iaload, 1) := by decide +kernel
theorem dX0_isFree_6 : decode cX0_isFree 6 = .ok (.ifCond .ne 7, 3) := by decide +kernel
theorem dX0_isFree_9 : decode cX0_isFree 9 = .ok (.iconst 1, 1) := by decide +kernel
theorem dX0_isFree_10 : decode cX0_isFree 10 = .ok (.goto 4, 3) := by decide +kernel
theorem dX0_isFree_13 : decode cX0_isFree 13 = .ok (.iconst 0, 1) := by decide +kernel
theorem dX0_isFree_14 : decode cX0_isFree 14 = .ok (.ireturn, 1) := by decide +kernel
theorem dX0_isOutdoors_0 : decode cX0_isOutdoors 0 = .ok (.aload_n 0, 1) := by decide +kernel
theorem dX0_isOutdoors_1 : decode cX0_isOutdoors 1 = .ok (.iload_n 1, 1) := by decide +kernel
theorem dX0_isOutdoors_2 : decode cX0_isOutdoors 2 = .ok (.invokevirtual 59, 3) := by decide +kernel
theorem dX0_isOutdoors_5 : decode cX0_isOutdoors 5 = .ok (.ifCond .ne 24, 3) := by decide +kernel
theorem dX0_isOutdoors_8 : decode cX0_isOutdoors 8 = .ok (.aload_n 0, 1) := by decide +kernel
theorem dX0_isOutdoors_9 : decode cX0_isOutdoors 9 = .ok (.getfield 28, 3) := by decide +kernel
theorem dX0_isOutdoors_12 : decode cX0_isOutdoors 12 = .ok (.getfield 82, 3) := by decide +kernel
theorem dX0_isOutdoors_15 : decode cX0_isOutdoors 15 = .ok (.aload_n 0, 1) := by decide +kernel
theorem dX0_isOutdoors_16 : decode cX0_isOutdoors 16 = .ok (.getfield 15, 3) := by decide +kernel
theorem dX0_isOutdoors_19 : decode cX0_isOutdoors 19 = .ok (.iload_n 1, 1) := by decide +kernel
theorem dX0_isOutdoors_20 : decode cX0_isOutdoors 20 = .ok (.iaload, 1) := by decide +kernel
theorem dX0_isOutdoors_21 : decode cX0_isOutdoors 21 = .ok (.baload, 1) := by decide +kernel
theorem dX0_isOutdoors_22 : decode cX0_isOutdoors 22 = .ok (.ifCond .ne 7, 3) := by decide +kernel
theorem dX0_isOutdoors_25 : decode cX0_isOutdoors 25 = .ok (.iconst 1, 1) := by decide +kernel
theorem dX0_isOutdoors_26 : decode cX0_isOutdoors 26 = .ok (.goto 4, 3) := by decide +kernel
theorem dX0_isOutdoors_29 : decode cX0_isOutdoors 29 = .ok (.iconst 0, 1) := by decide +kernel
theorem dX0_isOutdoors_30 : decode cX0_isOutdoors 30 = .ok (.ireturn, 1) := by decide +kernel
theorem dX0_clash_0 : decode cX0_clash 0 = .ok (.aload_n 0, 1) := by decide +kernel
theorem dX0_clash_1 : decode cX0_clash 1 = .ok (.getfield 18, 3) := by decide +kernel
theorem dX0_clash_4 : decode cX0_clash 4 = .ok (.iload_n 1, 1) := by decide +kernel
theorem dX0_clash_5 : decode cX0_clash 5 = .ok (.baload, 1) := by decide +kernel
theorem dX0_clash_6 : decode cX0_clash 6 = .ok (.ifCond .eq 32, 3) := by decide +kernel
theorem dX0_clash_9 : decode cX0_clash 9 = .ok (.aload_n 0, 1) := by decide +kernel
theorem dX0_clash_10 : decode cX0_clash 10 = .ok (.getfield 18, 3) := by decide +kernel
theorem dX0_clash_13 : decode cX0_clash 13 = .ok (.iload_n 2, 1) := by decide +kernel
theorem dX0_clash_14 : decode cX0_clash 14 = .ok (.baload, 1) := by decide +kernel
theorem dX0_clash_15 : decode cX0_clash 15 = .ok (.ifCond .ne 23, 3) := by decide +kernel
theorem dX0_clash_18 : decode cX0_clash 18 = .ok (.aload_n 0, 1) := by decide +kernel
theorem dX0_clash_19 : decode cX0_clash 19 = .ok (.getfield 25, 3) := by decide +kernel
theorem dX0_clash_22 : decode cX0_clash 22 = .ok (.iload_n 1, 1) := by decide +kernel
theorem dX0_clash_23 : decode cX0_clash 23 = .ok (.iaload, 1) := by decide +kernel
theorem dX0_clash_24 : decode cX0_clash 24 = .ok (.aload_n 0, 1) := by decide +kernel
theorem dX0_clash_25 : decode cX0_clash 25 = .ok (.getfield 25, 3) := by decide +kernel
theorem dX0_clash_28 : decode cX0_clash 28 = .ok (.iload_n 2, 1) := by decide +kernel
theorem dX0_clash_29 : decode cX0_clash 29 = .ok (.iaload, 1) := by decide +kernel
theorem dX0_clash_30 : decode cX0_clash 30 = .ok (.iand, 1) := by decide +kernel
theorem dX0_clash_31 : decode cX0_clash 31 = .ok (.ifCond .eq 7, 3) := by decide +kernel
theorem dX0_clash_34 : decode cX0_clash 34 = .ok (.iconst 1, 1) := by decide +kernel
theorem dX0_clash_35 : decode cX0_clash 35 = .ok (.goto 4, 3) := by decide +kernel
theorem dX0_clash_38 : decode cX0_clash 38 = .ok (.iconst 0, 1) := by decide +kernel
theorem dX0_clash_39 : decode cX0_clash 39 = .ok (.ireturn, 1) := by decide +kernel
theorem dX0_breaksTurnaround_0 : decode cX0_breaksTurnaround 0 = .ok (.iconst 0, 1) := by decide +kernel
theorem dX0_breaksTurnaround_1 : decode cX0_breaksTurnaround 1 = .ok (.istore_n 1, 1) := by decide +kernel
theorem dX0_breaksTurnaround_2 : decode cX0_breaksTurnaround 2 = .ok (.iload_n 1, 1) := by decide +kernel
theorem dX0_breaksTurnaround_3 : decode cX0_breaksTurnaround 3 = .ok (.iconst 1, 1) := by decide +kernel
theorem dX0_breaksTurnaround_4 : decode cX0_breaksTurnaround 4 = .ok (.iadd, 1) := by decide +kernel
theorem dX0_breaksTurnaround_5 : decode cX0_breaksTurnaround 5 = .ok (.bipush 12, 2) := by decide +kernel
theorem dX0_breaksTurnaround_7 : decode cX0_breaksTurnaround 7 = .ok (.if_icmp .ge 22, 3) := by decide +kernel
theorem dX0_breaksTurnaround_10 : decode cX0_breaksTurnaround 10 = .ok (.aload_n 0, 1) := by decide +kernel
theorem dX0_breaksTurnaround_11 : decode cX0_breaksTurnaround 11 = .ok (.iload_n 1, 1) := by decide +kernel
theorem dX0_breaksTurnaround_12 : decode cX0_breaksTurnaround 12 = .ok (.iload_n 1, 1) := by decide +kernel
theorem dX0_breaksTurnaround_13 : decode cX0_breaksTurnaround 13 = .ok (.iconst 1, 1) := by decide +kernel
theorem dX0_breaksTurnaround_14 : decode cX0_breaksTurnaround 14 = .ok (.iadd, 1) := by decide +kernel
theorem dX0_breaksTurnaround_15 : decode cX0_breaksTurnaround 15 = .ok (.invokevirtual 85, 3) := by decide +kernel
theorem dX0_breaksTurnaround_18 : decode cX0_breaksTurnaround 18 = .ok (.ifCond .eq 5, 3) := by decide +kernel
theorem dX0_breaksTurnaround_21 : decode cX0_breaksTurnaround 21 = .ok (.iconst 1, 1) := by decide +kernel
theorem dX0_breaksTurnaround_22 : decode cX0_breaksTurnaround 22 = .ok (.ireturn, 1) := by decide +kernel
theorem dX0_breaksTurnaround_23 : decode cX0_breaksTurnaround 23 = .ok (.iinc 1 1, 3) := by decide +kernel
theorem dX0_breaksTurnaround_26 : decode cX0_breaksTurnaround 26 = .ok (.goto (-24), 3) := by decide +kernel
theorem dX0_breaksTurnaround_29 : decode cX0_breaksTurnaround 29 = .ok (.iconst 0, 1) := by decide +kernel
theorem dX0_breaksTurnaround_30 : decode cX0_breaksTurnaround 30 = .ok (.ireturn, 1) := by decide +kernel
theorem dX0_longestDay_0 : decode cX0_longestDay 0 = .ok (.iconst 0, 1) := by decide +kernel
theorem dX0_longestDay_1 : decode cX0_longestDay 1 = .ok (.istore_n 1, 1) := by decide +kernel
theorem dX0_longestDay_2 : decode cX0_longestDay 2 = .ok (.iconst 0, 1) := by decide +kernel
theorem dX0_longestDay_3 : decode cX0_longestDay 3 = .ok (.istore_n 2, 1) := by decide +kernel
theorem dX0_longestDay_4 : decode cX0_longestDay 4 = .ok (.iload_n 2, 1) := by decide +kernel
theorem dX0_longestDay_5 : decode cX0_longestDay 5 = .ok (.bipush 12, 2) := by decide +kernel
theorem dX0_longestDay_7 : decode cX0_longestDay 7 = .ok (.if_icmp .ge 20, 3) := by decide +kernel
theorem dX0_longestDay_10 : decode cX0_longestDay 10 = .ok (.iload_n 1, 1) := by decide +kernel
theorem dX0_longestDay_11 : decode cX0_longestDay 11 = .ok (.aload_n 0, 1) := by decide +kernel
theorem dX0_longestDay_12 : decode cX0_longestDay 12 = .ok (.getfield 22, 3) := by decide +kernel
theorem dX0_longestDay_15 : decode cX0_longestDay 15 = .ok (.iload_n 2, 1) := by decide +kernel
theorem dX0_longestDay_16 : decode cX0_longestDay 16 = .ok (.iaload, 1) := by decide +kernel
theorem dX0_longestDay_17 : decode cX0_longestDay 17 = .ok (.invokestatic 88, 3) := by decide +kernel
theorem dX0_longestDay_20 : decode cX0_longestDay 20 = .ok (.istore_n 1, 1) := by decide +kernel
theorem dX0_longestDay_21 : decode cX0_longestDay 21 = .ok (.iinc 2 1, 3) := by decide +kernel
theorem dX0_longestDay_24 : decode cX0_longestDay 24 = .ok (.goto (-20), 3) := by decide +kernel
theorem dX0_longestDay_27 : decode cX0_longestDay 27 = .ok (.iload_n 1, 1) := by decide +kernel
theorem dX0_longestDay_28 : decode cX0_longestDay 28 = .ok (.ireturn, 1) := by decide +kernel
theorem dX0_daysUpToLast_0 : decode cX0_daysUpToLast 0 = .ok (.bipush 12, 2) := by decide +kernel
theorem dX0_daysUpToLast_2 : decode cX0_daysUpToLast 2 = .ok (.istore_n 1, 1) := by decide +kernel
theorem dX0_daysUpToLast_3 : decode cX0_daysUpToLast 3 = .ok (.iload_n 1, 1) := by decide +kernel
theorem dX0_daysUpToLast_4 : decode cX0_daysUpToLast 4 = .ok (.ifCond .le 19, 3) := by decide +kernel
theorem dX0_daysUpToLast_7 : decode cX0_daysUpToLast 7 = .ok (.aload_n 0, 1) := by decide +kernel
theorem dX0_daysUpToLast_8 : decode cX0_daysUpToLast 8 = .ok (.iload_n 1, 1) := by decide +kernel
theorem dX0_daysUpToLast_9 : decode cX0_daysUpToLast 9 = .ok (.iconst 1, 1) := by decide +kernel
theorem dX0_daysUpToLast_10 : decode cX0_daysUpToLast 10 = .ok (.isub, 1) := by decide +kernel
theorem dX0_daysUpToLast_11 : decode cX0_daysUpToLast 11 = .ok (.invokevirtual 59, 3) := by decide +kernel
theorem dX0_daysUpToLast_14 : decode cX0_daysUpToLast 14 = .ok (.ifCond .eq 9, 3) := by decide +kernel
theorem dX0_daysUpToLast_17 : decode cX0_daysUpToLast 17 = .ok (.iinc 1 (-1), 3) := by decide +kernel
theorem dX0_daysUpToLast_20 : decode cX0_daysUpToLast 20 = .ok (.goto (-17), 3) := by decide +kernel
theorem dX0_daysUpToLast_23 : decode cX0_daysUpToLast 23 = .ok (.iload_n 1, 1) := by decide +kernel
theorem dX0_daysUpToLast_24 : decode cX0_daysUpToLast 24 = .ok (.ireturn, 1) := by decide +kernel
theorem dX0_workOf_0 : decode cX0_workOf 0 = .ok (.iconst 0, 1) := by decide +kernel
theorem dX0_workOf_1 : decode cX0_workOf 1 = .ok (.istore_n 2, 1) := by decide +kernel
theorem dX0_workOf_2 : decode cX0_workOf 2 = .ok (.iconst 0, 1) := by decide +kernel
theorem dX0_workOf_3 : decode cX0_workOf 3 = .ok (.istore_n 3, 1) := by decide +kernel
theorem dX0_workOf_4 : decode cX0_workOf 4 = .ok (.iload_n 3, 1) := by decide +kernel
theorem dX0_workOf_5 : decode cX0_workOf 5 = .ok (.bipush 12, 2) := by decide +kernel
theorem dX0_workOf_7 : decode cX0_workOf 7 = .ok (.if_icmp .ge 28, 3) := by decide +kernel
theorem dX0_workOf_10 : decode cX0_workOf 10 = .ok (.aload_n 0, 1) := by decide +kernel
theorem dX0_workOf_11 : decode cX0_workOf 11 = .ok (.getfield 25, 3) := by decide +kernel
theorem dX0_workOf_14 : decode cX0_workOf 14 = .ok (.iload_n 3, 1) := by decide +kernel
theorem dX0_workOf_15 : decode cX0_workOf 15 = .ok (.iaload, 1) := by decide +kernel
theorem dX0_workOf_16 : decode cX0_workOf 16 = .ok (.iload_n 1, 1) := by decide +kernel
theorem dX0_workOf_17 : decode cX0_workOf 17 = .ok (.invokestatic 93, 3) := by decide +kernel
theorem dX0_workOf_20 : decode cX0_workOf 20 = .ok (.ifCond .eq 9, 3) := by decide +kernel
theorem dX0_workOf_23 : decode cX0_workOf 23 = .ok (.iload_n 2, 1) := by decide +kernel
theorem dX0_workOf_24 : decode cX0_workOf 24 = .ok (.iconst 1, 1) := by decide +kernel
theorem dX0_workOf_25 : decode cX0_workOf 25 = .ok (.iload_n 3, 1) := by decide +kernel
theorem dX0_workOf_26 : decode cX0_workOf 26 = .ok (.ishl, 1) := by decide +kernel
theorem dX0_workOf_27 : decode cX0_workOf 27 = .ok (.ior, 1) := by decide +kernel
theorem dX0_workOf_28 : decode cX0_workOf 28 = .ok (.istore_n 2, 1) := by decide +kernel
theorem dX0_workOf_29 : decode cX0_workOf 29 = .ok (.iinc 3 1, 3) := by decide +kernel
theorem dX0_workOf_32 : decode cX0_workOf 32 = .ok (.goto (-28), 3) := by decide +kernel
theorem dX0_workOf_35 : decode cX0_workOf 35 = .ok (.iload_n 2, 1) := by decide +kernel
theorem dX0_workOf_36 : decode cX0_workOf 36 = .ok (.ireturn, 1) := by decide +kernel
theorem dX0_holdingPayOf_0 : decode cX0_holdingPayOf 0 = .ok (.aload_n 0, 1) := by decide +kernel
theorem dX0_holdingPayOf_1 : decode cX0_holdingPayOf 1 = .ok (.iload_n 1, 1) := by decide +kernel
theorem dX0_holdingPayOf_2 : decode cX0_holdingPayOf 2 = .ok (.invokevirtual 96, 3) := by decide +kernel
theorem dX0_holdingPayOf_5 : decode cX0_holdingPayOf 5 = .ok (.aload_n 0, 1) := by decide +kernel
theorem dX0_holdingPayOf_6 : decode cX0_holdingPayOf 6 = .ok (.getfield 28, 3) := by decide +kernel
theorem dX0_holdingPayOf_9 : decode cX0_holdingPayOf 9 = .ok (.getfield 72, 3) := by decide +kernel
theorem dX0_holdingPayOf_12 : decode cX0_holdingPayOf 12 = .ok (.iconst 3, 1) := by decide +kernel
theorem dX0_holdingPayOf_13 : decode cX0_holdingPayOf 13 = .ok (.iaload, 1) := by decide +kernel
theorem dX0_holdingPayOf_14 : decode cX0_holdingPayOf 14 = .ok (.invokestatic 100, 3) := by decide +kernel
theorem dX0_holdingPayOf_17 : decode cX0_holdingPayOf 17 = .ok (.istore_n 2, 1) := by decide +kernel
theorem dX0_holdingPayOf_18 : decode cX0_holdingPayOf 18 = .ok (.aload_n 0, 1) := by decide +kernel
theorem dX0_holdingPayOf_19 : decode cX0_holdingPayOf 19 = .ok (.getfield 28, 3) := by decide +kernel
theorem dX0_holdingPayOf_22 : decode cX0_holdingPayOf 22 = .ok (.iload_n 1, 1) := by decide +kernel
theorem dX0_holdingPayOf_23 : decode cX0_holdingPayOf 23 = .ok (.invokevirtual 105, 3) := by decide +kernel
theorem dX0_holdingPayOf_26 : decode cX0_holdingPayOf 26 = .ok (.iload_n 2, 1) := by decide +kernel
theorem dX0_holdingPayOf_27 : decode cX0_holdingPayOf 27 = .ok (.invokestatic 108, 3) := by decide +kernel
theorem dX0_holdingPayOf_30 : decode cX0_holdingPayOf 30 = .ok (.imul, 1) := by decide +kernel
theorem dX0_holdingPayOf_31 : decode cX0_holdingPayOf 31 = .ok (.ireturn, 1) := by decide +kernel
theorem dX0_payOf_0 : decode cX0_payOf 0 = .ok (.aload_n 0, 1) := by decide +kernel
theorem dX0_payOf_1 : decode cX0_payOf 1 = .ok (.getfield 28, 3) := by decide +kernel
theorem dX0_payOf_4 : decode cX0_payOf 4 = .ok (.getfield 113, 3) := by decide +kernel
theorem dX0_payOf_7 : decode cX0_payOf 7 = .ok (.iload_n 1, 1) := by decide +kernel
theorem dX0_payOf_8 : decode cX0_payOf 8 = .ok (.iaload, 1) := by decide +kernel
theorem dX0_payOf_9 : decode cX0_payOf 9 = .ok (.aload_n 0, 1) := by decide +kernel
theorem dX0_payOf_10 : decode cX0_payOf 10 = .ok (.iload_n 1, 1) := by decide +kernel
theorem dX0_payOf_11 : decode cX0_payOf 11 = .ok (.invokevirtual 96, 3) := by decide +kernel
theorem dX0_payOf_14 : decode cX0_payOf 14 = .ok (.invokestatic 108, 3) := by decide +kernel
theorem dX0_payOf_17 : decode cX0_payOf 17 = .ok (.imul, 1) := by decide +kernel
theorem dX0_payOf_18 : decode cX0_payOf 18 = .ok (.aload_n 0, 1) := by decide +kernel
theorem dX0_payOf_19 : decode cX0_payOf 19 = .ok (.iload_n 1, 1) := by decide +kernel
theorem dX0_payOf_20 : decode cX0_payOf 20 = .ok (.invokevirtual 116, 3) := by decide +kernel
theorem dX0_payOf_23 : decode cX0_payOf 23 = .ok (.iadd, 1) := by decide +kernel
theorem dX0_payOf_24 : decode cX0_payOf 24 = .ok (.ireturn, 1) := by decide +kernel
theorem dX0_countMoves_0 : decode cX0_countMoves 0 = .ok (.iconst 0, 1) := by decide +kernel
theorem dX0_countMoves_1 : decode cX0_countMoves 1 = .ok (.istore_n 1, 1) := by decide +kernel
theorem dX0_countMoves_2 : decode cX0_countMoves 2 = .ok (.iconst (-1), 1) := by decide +kernel
theorem dX0_countMoves_3 : decode cX0_countMoves 3 = .ok (.istore_n 2, 1) := by decide +kernel
theorem dX0_countMoves_4 : decode cX0_countMoves 4 = .ok (.iconst 0, 1) := by decide +kernel
theorem dX0_countMoves_5 : decode cX0_countMoves 5 = .ok (.istore_n 3, 1) := by decide +kernel
theorem dX0_countMoves_6 : decode cX0_countMoves 6 = .ok (.iload_n 3, 1) := by decide +kernel
theorem dX0_countMoves_7 : decode cX0_countMoves 7 = .ok (.bipush 12, 2) := by decide +kernel
theorem dX0_countMoves_9 : decode cX0_countMoves 9 = .ok (.if_icmp .ge 42, 3) := by decide +kernel
theorem dX0_countMoves_12 : decode cX0_countMoves 12 = .ok (.aload_n 0, 1) := by decide +kernel
theorem dX0_countMoves_13 : decode cX0_countMoves 13 = .ok (.iload_n 3, 1) := by decide +kernel
theorem dX0_countMoves_14 : decode cX0_countMoves 14 = .ok (.invokevirtual 59, 3) := by decide +kernel
theorem dX0_countMoves_17 : decode cX0_countMoves 17 = .ok (.ifCond .ne 28, 3) := by decide +kernel
theorem dX0_countMoves_20 : decode cX0_countMoves 20 = .ok (.iload_n 2, 1) := by decide +kernel
theorem dX0_countMoves_21 : decode cX0_countMoves 21 = .ok (.iconst (-1), 1) := by decide +kernel
theorem dX0_countMoves_22 : decode cX0_countMoves 22 = .ok (.if_icmp .eq 21, 3) := by decide +kernel
theorem dX0_countMoves_25 : decode cX0_countMoves 25 = .ok (.aload_n 0, 1) := by decide +kernel
theorem dX0_countMoves_26 : decode cX0_countMoves 26 = .ok (.getfield 15, 3) := by decide +kernel
theorem dX0_countMoves_29 : decode cX0_countMoves 29 = .ok (.iload_n 2, 1) := by decide +kernel
theorem dX0_countMoves_30 : decode cX0_countMoves 30 = .ok (.iaload, 1) := by decide +kernel
theorem dX0_countMoves_31 : decode cX0_countMoves 31 = .ok (.aload_n 0, 1) := by decide +kernel
theorem dX0_countMoves_32 : decode cX0_countMoves 32 = .ok (.getfield 15, 3) := by decide +kernel
theorem dX0_countMoves_35 : decode cX0_countMoves 35 = .ok (.iload_n 3, 1) := by decide +kernel
theorem dX0_countMoves_36 : decode cX0_countMoves 36 = .ok (.iaload, 1) := by decide +kernel
theorem dX0_countMoves_37 : decode cX0_countMoves 37 = .ok (.if_icmp .eq 6, 3) := by decide +kernel
theorem dX0_countMoves_40 : decode cX0_countMoves 40 = .ok (.iinc 1 1, 3) := by decide +kernel
theorem dX0_countMoves_43 : decode cX0_countMoves 43 = .ok (.iload_n 3, 1) := by decide +kernel
theorem dX0_countMoves_44 : decode cX0_countMoves 44 = .ok (.istore_n 2, 1) := by decide +kernel
theorem dX0_countMoves_45 : decode cX0_countMoves 45 = .ok (.iinc 3 1, 3) := by decide +kernel
theorem dX0_countMoves_48 : decode cX0_countMoves 48 = .ok (.goto (-42), 3) := by decide +kernel
theorem dX0_countMoves_51 : decode cX0_countMoves 51 = .ok (.iload_n 1, 1) := by decide +kernel
theorem dX0_countMoves_52 : decode cX0_countMoves 52 = .ok (.ireturn, 1) := by decide +kernel
theorem dX0_totalCost_0 : decode cX0_totalCost 0 = .ok (.aload_n 0, 1) := by decide +kernel
theorem dX0_totalCost_1 : decode cX0_totalCost 1 = .ok (.invokevirtual 119, 3) := by decide +kernel
theorem dX0_totalCost_4 : decode cX0_totalCost 4 = .ok (.aload_n 0, 1) := by decide +kernel
theorem dX0_totalCost_5 : decode cX0_totalCost 5 = .ok (.getfield 28, 3) := by decide +kernel
theorem dX0_totalCost_8 : decode cX0_totalCost 8 = .ok (.getfield 72, 3) := by decide +kernel
theorem dX0_totalCost_11 : decode cX0_totalCost 11 = .ok (.iconst 1, 1) := by decide +kernel
theorem dX0_totalCost_12 : decode cX0_totalCost 12 = .ok (.iaload, 1) := by decide +kernel
theorem dX0_totalCost_13 : decode cX0_totalCost 13 = .ok (.imul, 1) := by decide +kernel
theorem dX0_totalCost_14 : decode cX0_totalCost 14 = .ok (.istore_n 1, 1) := by decide +kernel
theorem dX0_totalCost_15 : decode cX0_totalCost 15 = .ok (.iconst 0, 1) := by decide +kernel
theorem dX0_totalCost_16 : decode cX0_totalCost 16 = .ok (.istore_n 2, 1) := by decide +kernel
theorem dX0_totalCost_17 : decode cX0_totalCost 17 = .ok (.iload_n 2, 1) := by decide +kernel
theorem dX0_totalCost_18 : decode cX0_totalCost 18 = .ok (.bipush 12, 2) := by decide +kernel
theorem dX0_totalCost_20 : decode cX0_totalCost 20 = .ok (.if_icmp .ge 34, 3) := by decide +kernel
theorem dX0_totalCost_23 : decode cX0_totalCost 23 = .ok (.aload_n 0, 1) := by decide +kernel
theorem dX0_totalCost_24 : decode cX0_totalCost 24 = .ok (.iload_n 2, 1) := by decide +kernel
theorem dX0_totalCost_25 : decode cX0_totalCost 25 = .ok (.invokevirtual 59, 3) := by decide +kernel
theorem dX0_totalCost_28 : decode cX0_totalCost 28 = .ok (.ifCond .ne 20, 3) := by decide +kernel
theorem dX0_totalCost_31 : decode cX0_totalCost 31 = .ok (.iload_n 1, 1) := by decide +kernel
theorem dX0_totalCost_32 : decode cX0_totalCost 32 = .ok (.aload_n 0, 1) := by decide +kernel
theorem dX0_totalCost_33 : decode cX0_totalCost 33 = .ok (.getfield 28, 3) := by decide +kernel
theorem dX0_totalCost_36 : decode cX0_totalCost 36 = .ok (.getfield 123, 3) := by decide +kernel
theorem dX0_totalCost_39 : decode cX0_totalCost 39 = .ok (.aload_n 0, 1) := by decide +kernel
theorem dX0_totalCost_40 : decode cX0_totalCost 40 = .ok (.getfield 15, 3) := by decide +kernel
theorem dX0_totalCost_43 : decode cX0_totalCost 43 = .ok (.iload_n 2, 1) := by decide +kernel
theorem dX0_totalCost_44 : decode cX0_totalCost 44 = .ok (.iaload, 1) := by decide +kernel
theorem dX0_totalCost_45 : decode cX0_totalCost 45 = .ok (.iaload, 1) := by decide +kernel
theorem dX0_totalCost_46 : decode cX0_totalCost 46 = .ok (.iadd, 1) := by decide +kernel
theorem dX0_totalCost_47 : decode cX0_totalCost 47 = .ok (.istore_n 1, 1) := by decide +kernel
theorem dX0_totalCost_48 : decode cX0_totalCost 48 = .ok (.iinc 2 1, 3) := by decide +kernel
theorem dX0_totalCost_51 : decode cX0_totalCost 51 = .ok (.goto (-34), 3) := by decide +kernel
theorem dX0_totalCost_54 : decode cX0_totalCost 54 = .ok (.iconst 0, 1) := by decide +kernel
theorem dX0_totalCost_55 : decode cX0_totalCost 55 = .ok (.istore_n 2, 1) := by decide +kernel
theorem dX0_totalCost_56 : decode cX0_totalCost 56 = .ok (.iload_n 2, 1) := by decide +kernel
theorem dX0_totalCost_57 : decode cX0_totalCost 57 = .ok (.aload_n 0, 1) := by decide +kernel
theorem dX0_totalCost_58 : decode cX0_totalCost 58 = .ok (.getfield 28, 3) := by decide +kernel
theorem dX0_totalCost_61 : decode cX0_totalCost 61 = .ok (.getfield 126, 3) := by decide +kernel
theorem dX0_totalCost_64 : decode cX0_totalCost 64 = .ok (.if_icmp .ge 17, 3) := by decide +kernel
theorem dX0_totalCost_67 : decode cX0_totalCost 67 = .ok (.iload_n 1, 1) := by decide +kernel
theorem dX0_totalCost_68 : decode cX0_totalCost 68 = .ok (.aload_n 0, 1) := by decide +kernel
theorem dX0_totalCost_69 : decode cX0_totalCost 69 = .ok (.iload_n 2, 1) := by decide +kernel
theorem dX0_totalCost_70 : decode cX0_totalCost 70 = .ok (.invokevirtual 129, 3) := by decide +kernel
theorem dX0_totalCost_73 : decode cX0_totalCost 73 = .ok (.iadd, 1) := by decide +kernel
theorem dX0_totalCost_74 : decode cX0_totalCost 74 = .ok (.istore_n 1, 1) := by decide +kernel
theorem dX0_totalCost_75 : decode cX0_totalCost 75 = .ok (.iinc 2 1, 3) := by decide +kernel
theorem dX0_totalCost_78 : decode cX0_totalCost 78 = .ok (.goto (-22), 3) := by decide +kernel
theorem dX0_totalCost_81 : decode cX0_totalCost 81 = .ok (.iload_n 1, 1) := by decide +kernel
theorem dX0_totalCost_82 : decode cX0_totalCost 82 = .ok (.ireturn, 1) := by decide +kernel
theorem dX0_clearDays_0 : decode cX0_clearDays 0 = .ok (.iconst 0, 1) := by decide +kernel
theorem dX0_clearDays_1 : decode cX0_clearDays 1 = .ok (.istore_n 1, 1) := by decide +kernel
theorem dX0_clearDays_2 : decode cX0_clearDays 2 = .ok (.iload_n 1, 1) := by decide +kernel
theorem dX0_clearDays_3 : decode cX0_clearDays 3 = .ok (.bipush 12, 2) := by decide +kernel
theorem dX0_clearDays_5 : decode cX0_clearDays 5 = .ok (.if_icmp .ge 44, 3) := by decide +kernel
theorem dX0_clearDays_8 : decode cX0_clearDays 8 = .ok (.aload_n 0, 1) := by decide +kernel
theorem dX0_clearDays_9 : decode cX0_clearDays 9 = .ok (.getfield 9, 3) := by decide +kernel
theorem dX0_clearDays_12 : decode cX0_clearDays 12 = .ok (.iload_n 1, 1) := by decide +kernel
theorem dX0_clearDays_13 : decode cX0_clearDays 13 = .ok (.iconst 0, 1) := by decide +kernel
theorem dX0_clearDays_14 : decode cX0_clearDays 14 = .ok (.iastore, 1) := by decide +kernel
theorem dX0_clearDays_15 : decode cX0_clearDays 15 = .ok (.aload_n 0, 1) := by decide +kernel
theorem dX0_clearDays_16 : decode cX0_clearDays 16 = .ok (.getfield 15, 3) := by decide +kernel
theorem dX0_clearDays_19 : decode cX0_clearDays 19 = .ok (.iload_n 1, 1) := by decide +kernel
theorem dX0_clearDays_20 : decode cX0_clearDays 20 = .ok (.iconst (-1), 1) := by decide +kernel
theorem dX0_clearDays_21 : decode cX0_clearDays 21 = .ok (.iastore, 1) := by decide +kernel
theorem dX0_clearDays_22 : decode cX0_clearDays 22 = .ok (.aload_n 0, 1) := by decide +kernel
theorem dX0_clearDays_23 : decode cX0_clearDays 23 = .ok (.getfield 18, 3) := by decide +kernel
theorem dX0_clearDays_26 : decode cX0_clearDays 26 = .ok (.iload_n 1, 1) := by decide +kernel
theorem dX0_clearDays_27 : decode cX0_clearDays 27 = .ok (.iconst 0, 1) := by decide +kernel
theorem dX0_clearDays_28 : decode cX0_clearDays 28 = .ok (.bastore, 1) := by decide +kernel
theorem dX0_clearDays_29 : decode cX0_clearDays 29 = .ok (.aload_n 0, 1) := by decide +kernel
theorem dX0_clearDays_30 : decode cX0_clearDays 30 = .ok (.getfield 22, 3) := by decide +kernel
theorem dX0_clearDays_33 : decode cX0_clearDays 33 = .ok (.iload_n 1, 1) := by decide +kernel
theorem dX0_clearDays_34 : decode cX0_clearDays 34 = .ok (.iconst 0, 1) := by decide +kernel
theorem dX0_clearDays_35 : decode cX0_clearDays 35 = .ok (.iastore, 1) := by decide +kernel
theorem dX0_clearDays_36 : decode cX0_clearDays 36 = .ok (.aload_n 0, 1) := by decide +kernel
theorem dX0_clearDays_37 : decode cX0_clearDays 37 = .ok (.getfield 25, 3) := by decide +kernel
theorem dX0_clearDays_40 : decode cX0_clearDays 40 = .ok (.iload_n 1, 1) := by decide +kernel
theorem dX0_clearDays_41 : decode cX0_clearDays 41 = .ok (.iconst 0, 1) := by decide +kernel
theorem dX0_clearDays_42 : decode cX0_clearDays 42 = .ok (.iastore, 1) := by decide +kernel
theorem dX0_clearDays_43 : decode cX0_clearDays 43 = .ok (.iinc 1 1, 3) := by decide +kernel
theorem dX0_clearDays_46 : decode cX0_clearDays 46 = .ok (.goto (-44), 3) := by decide +kernel
theorem dX0_clearDays_49 : decode cX0_clearDays 49 = .ok (.return_, 1) := by decide +kernel
theorem dX0_buildWithout_0 : decode cX0_buildWithout 0 = .ok (.aload_n 0, 1) := by decide +kernel
theorem dX0_buildWithout_1 : decode cX0_buildWithout 1 = .ok (.invokevirtual 36, 3) := by decide +kernel
theorem dX0_buildWithout_4 : decode cX0_buildWithout 4 = .ok (.iconst 0, 1) := by decide +kernel
theorem dX0_buildWithout_5 : decode cX0_buildWithout 5 = .ok (.istore_n 2, 1) := by decide +kernel
theorem dX0_buildWithout_6 : decode cX0_buildWithout 6 = .ok (.iload_n 2, 1) := by decide +kernel
theorem dX0_buildWithout_7 : decode cX0_buildWithout 7 = .ok (.aload_n 0, 1) := by decide +kernel
theorem dX0_buildWithout_8 : decode cX0_buildWithout 8 = .ok (.getfield 28, 3) := by decide +kernel
theorem dX0_buildWithout_11 : decode cX0_buildWithout 11 = .ok (.getfield 39, 3) := by decide +kernel
theorem dX0_buildWithout_14 : decode cX0_buildWithout 14 = .ok (.if_icmp .ge 28, 3) := by decide +kernel
theorem dX0_buildWithout_17 : decode cX0_buildWithout 17 = .ok (.iload_n 2, 1) := by decide +kernel
theorem dX0_buildWithout_18 : decode cX0_buildWithout 18 = .ok (.iload_n 1, 1) := by decide +kernel
theorem dX0_buildWithout_19 : decode cX0_buildWithout 19 = .ok (.if_icmp .eq 17, 3) := by decide +kernel
theorem dX0_buildWithout_22 : decode cX0_buildWithout 22 = .ok (.aload_n 0, 1) := by decide +kernel
theorem dX0_buildWithout_23 : decode cX0_buildWithout 23 = .ok (.iload_n 2, 1) := by decide +kernel
theorem dX0_buildWithout_24 : decode cX0_buildWithout 24 = .ok (.aload_n 0, 1) := by decide +kernel
theorem dX0_buildWithout_25 : decode cX0_buildWithout 25 = .ok (.getfield 28, 3) := by decide +kernel
theorem dX0_buildWithout_28 : decode cX0_buildWithout 28 = .ok (.getfield 44, 3) := by decide +kernel
theorem dX0_buildWithout_31 : decode cX0_buildWithout 31 = .ok (.iload_n 2, 1) := by decide +kernel
theorem dX0_buildWithout_32 : decode cX0_buildWithout 32 = .ok (.iaload, 1) := by decide +kernel
theorem dX0_buildWithout_33 : decode cX0_buildWithout 33 = .ok (.invokevirtual 51, 3) := by decide +kernel
theorem dX0_buildWithout_36 : decode cX0_buildWithout 36 = .ok (.iinc 2 1, 3) := by decide +kernel
theorem dX0_buildWithout_39 : decode cX0_buildWithout 39 = .ok (.goto (-33), 3) := by decide +kernel
theorem dX0_buildWithout_42 : decode cX0_buildWithout 42 = .ok (.return_, 1) := by decide +kernel
theorem dX0_wouldBreakTurnaround_0 : decode cX0_wouldBreakTurnaround 0 = .ok (.aload_n 0, 1) := by decide +kernel
theorem dX0_wouldBreakTurnaround_1 : decode cX0_wouldBreakTurnaround 1 = .ok (.getfield 28, 3) := by decide +kernel
theorem dX0_wouldBreakTurnaround_4 : decode cX0_wouldBreakTurnaround 4 = .ok (.getfield 79, 3) := by decide +kernel
theorem dX0_wouldBreakTurnaround_7 : decode cX0_wouldBreakTurnaround 7 = .ok (.iload_n 1, 1) := by decide +kernel
theorem dX0_wouldBreakTurnaround_8 : decode cX0_wouldBreakTurnaround 8 = .ok (.iaload, 1) := by decide +kernel
theorem dX0_wouldBreakTurnaround_9 : decode cX0_wouldBreakTurnaround 9 = .ok (.istore_n 3, 1) := by decide +kernel
theorem dX0_wouldBreakTurnaround_10 : decode cX0_wouldBreakTurnaround 10 = .ok (.aload_n 0, 1) := by decide +kernel
theorem dX0_wouldBreakTurnaround_11 : decode cX0_wouldBreakTurnaround 11 = .ok (.getfield 28, 3) := by decide +kernel
theorem dX0_wouldBreakTurnaround_14 : decode cX0_wouldBreakTurnaround 14 = .ok (.getfield 66, 3) := by decide +kernel
theorem dX0_wouldBreakTurnaround_17 : decode cX0_wouldBreakTurnaround 17 = .ok (.iload_n 1, 1) := by decide +kernel
theorem dX0_wouldBreakTurnaround_18 : decode cX0_wouldBreakTurnaround 18 = .ok (.baload, 1) := by decide +kernel
theorem dX0_wouldBreakTurnaround_19 : decode cX0_wouldBreakTurnaround 19 = .ok (.ifCond .eq 41, 3) := by decide +kernel
theorem dX0_wouldBreakTurnaround_22 : decode cX0_wouldBreakTurnaround 22 = .ok (.iload_n 2, 1) := by decide +kernel
theorem dX0_wouldBreakTurnaround_23 : decode cX0_wouldBreakTurnaround 23 = .ok (.iconst 1, 1) := by decide +kernel
theorem dX0_wouldBreakTurnaround_24 : decode cX0_wouldBreakTurnaround 24 = .ok (.iadd, 1) := by decide +kernel
theorem dX0_wouldBreakTurnaround_25 : decode cX0_wouldBreakTurnaround 25 = .ok (.bipush 12, 2) := by decide +kernel
theorem dX0_wouldBreakTurnaround_27 : decode cX0_wouldBreakTurnaround 27 = .ok (.if_icmp .ge 31, 3) := by decide +kernel
theorem dX0_wouldBreakTurnaround_30 : decode cX0_wouldBreakTurnaround 30 = .ok (.aload_n 0, 1) := by decide +kernel
theorem dX0_wouldBreakTurnaround_31 : decode cX0_wouldBreakTurnaround 31 = .ok (.getfield 18, 3) := by decide +kernel
theorem dX0_wouldBreakTurnaround_34 : decode cX0_wouldBreakTurnaround 34 = .ok (.iload_n 2, 1) := by decide +kernel
theorem dX0_wouldBreakTurnaround_35 : decode cX0_wouldBreakTurnaround 35 = .ok (.iconst 1, 1) := by decide +kernel
theorem dX0_wouldBreakTurnaround_36 : decode cX0_wouldBreakTurnaround 36 = .ok (.iadd, 1) := by decide +kernel
theorem dX0_wouldBreakTurnaround_37 : decode cX0_wouldBreakTurnaround 37 = .ok (.baload, 1) := by decide +kernel
theorem dX0_wouldBreakTurnaround_38 : decode cX0_wouldBreakTurnaround 38 = .ok (.ifCond .ne 20, 3) := by decide +kernel
theorem dX0_wouldBreakTurnaround_41 : decode cX0_wouldBreakTurnaround 41 = .ok (.aload_n 0, 1) := by decide +kernel
theorem dX0_wouldBreakTurnaround_42 : decode cX0_wouldBreakTurnaround 42 = .ok (.getfield 25, 3) := by decide +kernel
theorem dX0_wouldBreakTurnaround_45 : decode cX0_wouldBreakTurnaround 45 = .ok (.iload_n 2, 1) := by decide +kernel
theorem dX0_wouldBreakTurnaround_46 : decode cX0_wouldBreakTurnaround 46 = .ok (.iconst 1, 1) := by decide +kernel
theorem dX0_wouldBreakTurnaround_47 : decode cX0_wouldBreakTurnaround 47 = .ok (.iadd, 1) := by decide +kernel
theorem dX0_wouldBreakTurnaround_48 : decode cX0_wouldBreakTurnaround 48 = .ok (.iaload, 1) := by decide +kernel
theorem dX0_wouldBreakTurnaround_49 : decode cX0_wouldBreakTurnaround 49 = .ok (.iload_n 3, 1) := by decide +kernel
theorem dX0_wouldBreakTurnaround_50 : decode cX0_wouldBreakTurnaround 50 = .ok (.iand, 1) := by decide +kernel
theorem dX0_wouldBreakTurnaround_51 : decode cX0_wouldBreakTurnaround 51 = .ok (.ifCond .eq 7, 3) := by decide +kernel
theorem dX0_wouldBreakTurnaround_54 : decode cX0_wouldBreakTurnaround 54 = .ok (.iconst 1, 1) := by decide +kernel
theorem dX0_wouldBreakTurnaround_55 : decode cX0_wouldBreakTurnaround 55 = .ok (.goto 4, 3) := by decide +kernel
theorem dX0_wouldBreakTurnaround_58 : decode cX0_wouldBreakTurnaround 58 = .ok (.iconst 0, 1) := by decide +kernel
theorem dX0_wouldBreakTurnaround_59 : decode cX0_wouldBreakTurnaround 59 = .ok (.ireturn, 1) := by decide +kernel
theorem dX0_wouldBreakTurnaround_60 : decode cX0_wouldBreakTurnaround 60 = .ok (.iload_n 2, 1) := by decide +kernel
theorem dX0_wouldBreakTurnaround_61 : decode cX0_wouldBreakTurnaround 61 = .ok (.ifCond .le 31, 3) := by decide +kernel
theorem dX0_wouldBreakTurnaround_64 : decode cX0_wouldBreakTurnaround 64 = .ok (.aload_n 0, 1) := by decide +kernel
theorem dX0_wouldBreakTurnaround_65 : decode cX0_wouldBreakTurnaround 65 = .ok (.getfield 18, 3) := by decide +kernel
theorem dX0_wouldBreakTurnaround_68 : decode cX0_wouldBreakTurnaround 68 = .ok (.iload_n 2, 1) := by decide +kernel
theorem dX0_wouldBreakTurnaround_69 : decode cX0_wouldBreakTurnaround 69 = .ok (.iconst 1, 1) := by decide +kernel
theorem dX0_wouldBreakTurnaround_70 : decode cX0_wouldBreakTurnaround 70 = .ok (.isub, 1) := by decide +kernel
theorem dX0_wouldBreakTurnaround_71 : decode cX0_wouldBreakTurnaround 71 = .ok (.baload, 1) := by decide +kernel
theorem dX0_wouldBreakTurnaround_72 : decode cX0_wouldBreakTurnaround 72 = .ok (.ifCond .eq 20, 3) := by decide +kernel
theorem dX0_wouldBreakTurnaround_75 : decode cX0_wouldBreakTurnaround 75 = .ok (.aload_n 0, 1) := by decide +kernel
theorem dX0_wouldBreakTurnaround_76 : decode cX0_wouldBreakTurnaround 76 = .ok (.getfield 25, 3) := by decide +kernel
theorem dX0_wouldBreakTurnaround_79 : decode cX0_wouldBreakTurnaround 79 = .ok (.iload_n 2, 1) := by decide +kernel
theorem dX0_wouldBreakTurnaround_80 : decode cX0_wouldBreakTurnaround 80 = .ok (.iconst 1, 1) := by decide +kernel
theorem dX0_wouldBreakTurnaround_81 : decode cX0_wouldBreakTurnaround 81 = .ok (.isub, 1) := by decide +kernel
theorem dX0_wouldBreakTurnaround_82 : decode cX0_wouldBreakTurnaround 82 = .ok (.iaload, 1) := by decide +kernel
theorem dX0_wouldBreakTurnaround_83 : decode cX0_wouldBreakTurnaround 83 = .ok (.iload_n 3, 1) := by decide +kernel
theorem dX0_wouldBreakTurnaround_84 : decode cX0_wouldBreakTurnaround 84 = .ok (.iand, 1) := by decide +kernel
theorem dX0_wouldBreakTurnaround_85 : decode cX0_wouldBreakTurnaround 85 = .ok (.ifCond .eq 7, 3) := by decide +kernel
theorem dX0_wouldBreakTurnaround_88 : decode cX0_wouldBreakTurnaround 88 = .ok (.iconst 1, 1) := by decide +kernel
theorem dX0_wouldBreakTurnaround_89 : decode cX0_wouldBreakTurnaround 89 = .ok (.goto 4, 3) := by decide +kernel
theorem dX0_wouldBreakTurnaround_92 : decode cX0_wouldBreakTurnaround 92 = .ok (.iconst 0, 1) := by decide +kernel
theorem dX0_wouldBreakTurnaround_93 : decode cX0_wouldBreakTurnaround 93 = .ok (.ireturn, 1) := by decide +kernel
theorem dX1_init_0 : decode cX1_init 0 = .ok (.aload_n 0, 1) := by decide +kernel
theorem dX1_init_1 : decode cX1_init 1 = .ok (.invokespecial 3, 3) := by decide +kernel
theorem dX1_init_4 : decode cX1_init 4 = .ok (.aload_n 0, 1) := by decide +kernel
theorem dX1_init_5 : decode cX1_init 5 = .ok (.sipush 216, 3) := by decide +kernel
theorem dX1_init_8 : decode cX1_init 8 = .ok (.newarray .int, 2) := by decide +kernel
theorem dX1_init_10 : decode cX1_init 10 = .ok (.putfield 11, 3) := by decide +kernel
theorem dX1_init_13 : decode cX1_init 13 = .ok (.return_, 1) := by decide +kernel
theorem dX1_forgetAll_0 : decode cX1_forgetAll 0 = .ok (.aload_n 0, 1) := by decide +kernel
theorem dX1_forgetAll_1 : decode cX1_forgetAll 1 = .ok (.iconst 0, 1) := by decide +kernel
theorem dX1_forgetAll_2 : decode cX1_forgetAll 2 = .ok (.putfield 15, 3) := by decide +kernel
theorem dX1_forgetAll_5 : decode cX1_forgetAll 5 = .ok (.return_, 1) := by decide +kernel
theorem dX1_keep_0 : decode cX1_keep 0 = .ok (.aload_n 0, 1) := by decide +kernel
theorem dX1_keep_1 : decode cX1_keep 1 = .ok (.getfield 15, 3) := by decide +kernel
theorem dX1_keep_4 : decode cX1_keep 4 = .ok (.bipush 12, 2) := by decide +kernel
theorem dX1_keep_6 : decode cX1_keep 6 = .ok (.if_icmp .lt 30, 3) := by decide +kernel
theorem dX1_keep_9 : decode cX1_keep 9 = .ok (.aload_n 0, 1) := by decide +kernel
theorem dX1_keep_10 : decode cX1_keep 10 = .ok (.bipush 11, 2) := by decide +kernel
theorem dX1_keep_12 : decode cX1_keep 12 = .ok (.putfield 15, 3) := by decide +kernel
theorem dX1_keep_15 : decode cX1_keep 15 = .ok (.aload_n 0, 1) := by decide +kernel
theorem dX1_keep_16 : decode cX1_keep 16 = .ok (.getfield 11, 3) := by decide +kernel
theorem dX1_keep_19 : decode cX1_keep 19 = .ok (.bipush 18, 2) := by decide +kernel
theorem dX1_keep_21 : decode cX1_keep 21 = .ok (.aload_n 0, 1) := by decide +kernel
theorem dX1_keep_22 : decode cX1_keep 22 = .ok (.getfield 11, 3) := by decide +kernel
theorem dX1_keep_25 : decode cX1_keep 25 = .ok (.iconst 0, 1) := by decide +kernel
theorem dX1_keep_26 : decode cX1_keep 26 = .ok (.aload_n 0, 1) := by decide +kernel
theorem dX1_keep_27 : decode cX1_keep 27 = .ok (.getfield 15, 3) := by decide +kernel
theorem dX1_keep_30 : decode cX1_keep 30 = .ok (.bipush 18, 2) := by decide +kernel
theorem dX1_keep_32 : decode cX1_keep 32 = .ok (.imul, 1) := by decide +kernel
theorem dX1_keep_33 : decode cX1_keep 33 = .ok (.invokestatic 19, 3) := by decide +kernel
theorem dX1_keep_36 : decode cX1_keep 36 = .ok (.aload_n 1, 1) := by decide +kernel
theorem dX1_keep_37 : decode cX1_keep 37 = .ok (.getfield 25, 3) := by decide +kernel
theorem dX1_keep_40 : decode cX1_keep 40 = .ok (.iconst 0, 1) := by decide +kernel
theorem dX1_keep_41 : decode cX1_keep 41 = .ok (.aload_n 0, 1) := by decide +kernel
theorem dX1_keep_42 : decode cX1_keep 42 = .ok (.getfield 11, 3) := by decide +kernel
theorem dX1_keep_45 : decode cX1_keep 45 = .ok (.aload_n 0, 1) := by decide +kernel
theorem dX1_keep_46 : decode cX1_keep 46 = .ok (.getfield 15, 3) := by decide +kernel
theorem dX1_keep_49 : decode cX1_keep 49 = .ok (.bipush 18, 2) := by decide +kernel
theorem dX1_keep_51 : decode cX1_keep 51 = .ok (.imul, 1) := by decide +kernel
theorem dX1_keep_52 : decode cX1_keep 52 = .ok (.iconst 4, 1) := by decide +kernel
theorem dX1_keep_53 : decode cX1_keep 53 = .ok (.invokestatic 19, 3) := by decide +kernel
theorem dX1_keep_56 : decode cX1_keep 56 = .ok (.aload_n 1, 1) := by decide +kernel
theorem dX1_keep_57 : decode cX1_keep 57 = .ok (.getfield 30, 3) := by decide +kernel
theorem dX1_keep_60 : decode cX1_keep 60 = .ok (.iconst 0, 1) := by decide +kernel
theorem dX1_keep_61 : decode cX1_keep 61 = .ok (.aload_n 0, 1) := by decide +kernel
theorem dX1_keep_62 : decode cX1_keep 62 = .ok (.getfield 11, 3) := by decide +kernel
theorem dX1_keep_65 : decode cX1_keep 65 = .ok (.aload_n 0, 1) := by decide +kernel
theorem dX1_keep_66 : decode cX1_keep 66 = .ok (.getfield 15, 3) := by decide +kernel
theorem dX1_keep_69 : decode cX1_keep 69 = .ok (.bipush 18, 2) := by decide +kernel
theorem dX1_keep_71 : decode cX1_keep 71 = .ok (.imul, 1) := by decide +kernel
theorem dX1_keep_72 : decode cX1_keep 72 = .ok (.iconst 4, 1) := by decide +kernel
theorem dX1_keep_73 : decode cX1_keep 73 = .ok (.iadd, 1) := by decide +kernel
theorem dX1_keep_74 : decode cX1_keep 74 = .ok (.bipush 14, 2) := by decide +kernel
theorem dX1_keep_76 : decode cX1_keep 76 = .ok (.invokestatic 19, 3) := by decide +kernel
theorem dX1_keep_79 : decode cX1_keep 79 = .ok (.aload_n 0, 1) := by decide +kernel
theorem dX1_keep_80 : decode cX1_keep 80 = .ok (.dup, 1) := by decide +kernel
theorem dX1_keep_81 : decode cX1_keep 81 = .ok (.getfield 15, 3) := by decide +kernel
theorem dX1_keep_84 : decode cX1_keep 84 = .ok (.iconst 1, 1) := by decide +kernel
theorem dX1_keep_85 : decode cX1_keep 85 = .ok (.iadd, 1) := by decide +kernel
theorem dX1_keep_86 : decode cX1_keep 86 = .ok (.putfield 15, 3) := by decide +kernel
theorem dX1_keep_89 : decode cX1_keep 89 = .ok (.return_, 1) := by decide +kernel
theorem dX1_giveBack_0 : decode cX1_giveBack 0 = .ok (.aload_n 0, 1) := by decide +kernel
theorem dX1_giveBack_1 : decode cX1_giveBack 1 = .ok (.getfield 15, 3) := by decide +kernel
theorem dX1_giveBack_4 : decode cX1_giveBack 4 = .ok (.ifCond .le 56, 3) := by decide +kernel
theorem dX1_giveBack_7 : decode cX1_giveBack 7 = .ok (.aload_n 0, 1) := by decide +kernel
theorem dX1_giveBack_8 : decode cX1_giveBack 8 = .ok (.dup, 1) := by decide +kernel
theorem dX1_giveBack_9 : decode cX1_giveBack 9 = .ok (.getfield 15, 3) := by decide +kernel
theorem dX1_giveBack_12 : decode cX1_giveBack 12 = .ok (.iconst 1, 1) := by decide +kernel
theorem dX1_giveBack_13 : decode cX1_giveBack 13 = .ok (.isub, 1) := by decide +kernel
theorem dX1_giveBack_14 : decode cX1_giveBack 14 = .ok (.putfield 15, 3) := by decide +kernel
theorem dX1_giveBack_17 : decode cX1_giveBack 17 = .ok (.aload_n 0, 1) := by decide +kernel
theorem dX1_giveBack_18 : decode cX1_giveBack 18 = .ok (.getfield 11, 3) := by decide +kernel
theorem dX1_giveBack_21 : decode cX1_giveBack 21 = .ok (.aload_n 0, 1) := by decide +kernel
theorem dX1_giveBack_22 : decode cX1_giveBack 22 = .ok (.getfield 15, 3) := by decide +kernel
theorem dX1_giveBack_25 : decode cX1_giveBack 25 = .ok (.bipush 18, 2) := by decide +kernel
theorem dX1_giveBack_27 : decode cX1_giveBack 27 = .ok (.imul, 1) := by decide +kernel
theorem dX1_giveBack_28 : decode cX1_giveBack 28 = .ok (.aload_n 1, 1) := by decide +kernel
theorem dX1_giveBack_29 : decode cX1_giveBack 29 = .ok (.getfield 25, 3) := by decide +kernel
theorem dX1_giveBack_32 : decode cX1_giveBack 32 = .ok (.iconst 0, 1) := by decide +kernel
theorem dX1_giveBack_33 : decode cX1_giveBack 33 = .ok (.iconst 4, 1) := by decide +kernel
theorem dX1_giveBack_34 : decode cX1_giveBack 34 = .ok (.invokestatic 19, 3) := by decide +kernel
theorem dX1_giveBack_37 : decode cX1_giveBack 37 = .ok (.aload_n 0, 1) := by decide +kernel
theorem dX1_giveBack_38 : decode cX1_giveBack 38 = .ok (.getfield 11, 3) := by decide +kernel
theorem dX1_giveBack_41 : decode cX1_giveBack 41 = .ok (.aload_n 0, 1) := by decide +kernel
theorem dX1_giveBack_42 : decode cX1_giveBack 42 = .ok (.getfield 15, 3) := by decide +kernel
theorem dX1_giveBack_45 : decode cX1_giveBack 45 = .ok (.bipush 18, 2) := by decide +kernel
theorem dX1_giveBack_47 : decode cX1_giveBack 47 = .ok (.imul, 1) := by decide +kernel
theorem dX1_giveBack_48 : decode cX1_giveBack 48 = .ok (.iconst 4, 1) := by decide +kernel
theorem dX1_giveBack_49 : decode cX1_giveBack 49 = .ok (.iadd, 1) := by decide +kernel
theorem dX1_giveBack_50 : decode cX1_giveBack 50 = .ok (.aload_n 1, 1) := by decide +kernel
theorem dX1_giveBack_51 : decode cX1_giveBack 51 = .ok (.getfield 30, 3) := by decide +kernel
theorem dX1_giveBack_54 : decode cX1_giveBack 54 = .ok (.iconst 0, 1) := by decide +kernel
theorem dX1_giveBack_55 : decode cX1_giveBack 55 = .ok (.bipush 14, 2) := by decide +kernel
theorem dX1_giveBack_57 : decode cX1_giveBack 57 = .ok (.invokestatic 19, 3) := by decide +kernel
theorem dX1_giveBack_60 : decode cX1_giveBack 60 = .ok (.return_, 1) := by decide +kernel
theorem dX2_init_0 : decode cX2_init 0 = .ok (.aload_n 0, 1) := by decide +kernel
theorem dX2_init_1 : decode cX2_init 1 = .ok (.invokespecial 3, 3) := by decide +kernel
theorem dX2_init_4 : decode cX2_init 4 = .ok (.aload_n 0, 1) := by decide +kernel
theorem dX2_init_5 : decode cX2_init 5 = .ok (.new 9, 3) := by decide +kernel
theorem dX2_init_8 : decode cX2_init 8 = .ok (.dup, 1) := by decide +kernel
theorem dX2_init_9 : decode cX2_init 9 = .ok (.invokespecial 11, 3) := by decide +kernel
theorem dX2_init_12 : decode cX2_init 12 = .ok (.putfield 12, 3) := by decide +kernel
theorem dX2_init_15 : decode cX2_init 15 = .ok (.aload_n 0, 1) := by decide +kernel
theorem dX2_init_16 : decode cX2_init 16 = .ok (.new 18, 3) := by decide +kernel
theorem dX2_init_19 : decode cX2_init 19 = .ok (.dup, 1) := by decide +kernel
theorem dX2_init_20 : decode cX2_init 20 = .ok (.aload_n 0, 1) := by decide +kernel
theorem dX2_init_21 : decode cX2_init 21 = .ok (.getfield 12, 3) := by decide +kernel
theorem dX2_init_24 : decode cX2_init 24 = .ok (.invokespecial 20, 3) := by decide +kernel
theorem dX2_init_27 : decode cX2_init 27 = .ok (.putfield 23, 3) := by decide +kernel
theorem dX2_init_30 : decode cX2_init 30 = .ok (.aload_n 0, 1) := by decide +kernel
theorem dX2_init_31 : decode cX2_init 31 = .ok (.new 27, 3) := by decide +kernel
theorem dX2_init_34 : decode cX2_init 34 = .ok (.dup, 1) := by decide +kernel
theorem dX2_init_35 : decode cX2_init 35 = .ok (.aload_n 1, 1) := by decide +kernel
theorem dX2_init_36 : decode cX2_init 36 = .ok (.invokespecial 29, 3) := by decide +kernel
theorem dX2_init_39 : decode cX2_init 39 = .ok (.putfield 32, 3) := by decide +kernel
theorem dX2_init_42 : decode cX2_init 42 = .ok (.return_, 1) := by decide +kernel
theorem dX2_readText_0 : decode cX2_readText 0 = .ok (.aload_n 0, 1) := by decide +kernel
theorem dX2_readText_1 : decode cX2_readText 1 = .ok (.getfield 12, 3) := by decide +kernel
theorem dX2_readText_4 : decode cX2_readText 4 = .ok (.invokevirtual 36, 3) := by decide +kernel
theorem dX2_readText_7 : decode cX2_readText 7 = .ok (.aload_n 0, 1) := by decide +kernel
theorem dX2_readText_8 : decode cX2_readText 8 = .ok (.getfield 23, 3) := by decide +kernel
theorem dX2_readText_11 : decode cX2_readText 11 = .ok (.invokevirtual 39, 3) := by decide +kernel
theorem dX2_readText_14 : decode cX2_readText 14 = .ok (.aload_n 0, 1) := by decide +kernel
theorem dX2_readText_15 : decode cX2_readText 15 = .ok (.iconst 0, 1) := by decide +kernel
theorem dX2_readText_16 : decode cX2_readText 16 = .ok (.putfield 42, 3) := by decide +kernel
theorem dX2_readText_19 : decode cX2_readText 19 = .ok (.aload_n 0, 1) := by decide +kernel
theorem dX2_readText_20 : decode cX2_readText 20 = .ok (.iconst 0, 1) := by decide +kernel
theorem dX2_readText_21 : decode cX2_readText 21 = .ok (.putfield 46, 3) := by decide +kernel
theorem dX2_readText_24 : decode cX2_readText 24 = .ok (.aload_n 0, 1) := by decide +kernel
theorem dX2_readText_25 : decode cX2_readText 25 = .ok (.getfield 32, 3) := by decide +kernel
theorem dX2_readText_28 : decode cX2_readText 28 = .ok (.iload_n 1, 1) := by decide +kernel
theorem dX2_readText_29 : decode cX2_readText 29 = .ok (.invokevirtual 50, 3) := by decide +kernel
theorem dX2_readText_32 : decode cX2_readText 32 = .ok (.iconst 0, 1) := by decide +kernel
theorem dX2_readText_33 : decode cX2_readText 33 = .ok (.istore_n 2, 1) := by decide +kernel
theorem dX2_readText_34 : decode cX2_readText 34 = .ok (.aload_n 0, 1) := by decide +kernel
theorem dX2_readText_35 : decode cX2_readText 35 = .ok (.getfield 32, 3) := by decide +kernel
theorem dX2_readText_38 : decode cX2_readText 38 = .ok (.getfield 54, 3) := by decide +kernel
theorem dX2_readText_41 : decode cX2_readText 41 = .ok (.ifCond .eq 26, 3) := by decide +kernel
theorem dX2_readText_44 : decode cX2_readText 44 = .ok (.iload_n 2, 1) := by decide +kernel
theorem dX2_readText_45 : decode cX2_readText 45 = .ok (.iload_n 1, 1) := by decide +kernel
theorem dX2_readText_46 : decode cX2_readText 46 = .ok (.if_icmp .ge 21, 3) := by decide +kernel
theorem dX2_readText_49 : decode cX2_readText 49 = .ok (.aload_n 0, 1) := by decide +kernel
theorem dX2_readText_50 : decode cX2_readText 50 = .ok (.invokevirtual 57, 3) := by decide +kernel
theorem dX2_readText_53 : decode cX2_readText 53 = .ok (.ifCond .ne 8, 3) := by decide +kernel
theorem dX2_readText_56 : decode cX2_readText 56 = .ok (.aload_n 0, 1) := by decide +kernel
theorem dX2_readText_57 : decode cX2_readText 57 = .ok (.getfield 61, 3) := by decide +kernel
theorem dX2_readText_60 : decode cX2_readText 60 = .ok (.ireturn, 1) := by decide +kernel
theorem dX2_readText_61 : decode cX2_readText 61 = .ok (.iinc 2 1, 3) := by decide +kernel
theorem dX2_readText_64 : decode cX2_readText 64 = .ok (.goto (-30), 3) := by decide +kernel
theorem dX2_readText_67 : decode cX2_readText 67 = .ok (.iload_n 2, 1) := by decide +kernel
theorem dX2_readText_68 : decode cX2_readText 68 = .ok (.ireturn, 1) := by decide +kernel
theorem dX2_readStatement_0 : decode cX2_readStatement 0 = .ok (.aload_n 0, 1) := by decide +kernel
theorem dX2_readStatement_1 : decode cX2_readStatement 1 = .ok (.getfield 32, 3) := by decide +kernel
theorem dX2_readStatement_4 : decode cX2_readStatement 4 = .ok (.ldc 64, 2) := by decide +kernel
theorem dX2_readStatement_6 : decode cX2_readStatement 6 = .ok (.invokevirtual 66, 3) := by decide +kernel
theorem dX2_readStatement_9 : decode cX2_readStatement 9 = .ok (.ifCond .eq 8, 3) := by decide +kernel
theorem dX2_readStatement_12 : decode cX2_readStatement 12 = .ok (.aload_n 0, 1) := by decide +kernel
theorem dX2_readStatement_13 : decode cX2_readStatement 13 = .ok (.invokevirtual 70, 3) := by decide +kernel
theorem dX2_readStatement_16 : decode cX2_readStatement 16 = .ok (.ireturn, 1) := by decide +kernel
theorem dX2_readStatement_17 : decode cX2_readStatement 17 = .ok (.aload_n 0, 1) := by decide +kernel
theorem dX2_readStatement_18 : decode cX2_readStatement 18 = .ok (.getfield 32, 3) := by decide +kernel
theorem dX2_readStatement_21 : decode cX2_readStatement 21 = .ok (.ldc 73, 2) := by decide +kernel
theorem dX2_readStatement_23 : decode cX2_readStatement 23 = .ok (.invokevirtual 66, 3) := by decide +kernel
theorem dX2_readStatement_26 : decode cX2_readStatement 26 = .ok (.ifCond .eq 8, 3) := by decide +kernel
theorem dX2_readStatement_29 : decode cX2_readStatement 29 = .ok (.aload_n 0, 1) := by decide +kernel
theorem dX2_readStatement_30 : decode cX2_readStatement 30 = .ok (.invokevirtual 75, 3) := by decide +kernel
theorem dX2_readStatement_33 : decode cX2_readStatement 33 = .ok (.ireturn, 1) := by decide +kernel
theorem dX2_readStatement_34 : decode cX2_readStatement 34 = .ok (.aload_n 0, 1) := by decide +kernel
theorem dX2_readStatement_35 : decode cX2_readStatement 35 = .ok (.getfield 32, 3) := by decide +kernel
theorem dX2_readStatement_38 : decode cX2_readStatement 38 = .ok (.ldc 78, 2) := by decide +kernel
theorem dX2_readStatement_40 : decode cX2_readStatement 40 = .ok (.invokevirtual 66, 3) := by decide +kernel
theorem dX2_readStatement_43 : decode cX2_readStatement 43 = .ok (.ifCond .eq 8, 3) := by decide +kernel
theorem dX2_readStatement_46 : decode cX2_readStatement 46 = .ok (.aload_n 0, 1) := by decide +kernel
theorem dX2_readStatement_47 : decode cX2_readStatement 47 = .ok (.invokevirtual 80, 3) := by decide +kernel
theorem dX2_readStatement_50 : decode cX2_readStatement 50 = .ok (.ireturn, 1) := by decide +kernel
theorem dX2_readStatement_51 : decode cX2_readStatement 51 = .ok (.aload_n 0, 1) := by decide +kernel
theorem dX2_readStatement_52 : decode cX2_readStatement 52 = .ok (.getfield 32, 3) := by decide +kernel
theorem dX2_readStatement_55 : decode cX2_readStatement 55 = .ok (.ldc 83, 2) := by decide +kernel
theorem dX2_readStatement_57 : decode cX2_readStatement 57 = .ok (.invokevirtual 66, 3) := by decide +kernel
theorem dX2_readStatement_60 : decode cX2_readStatement 60 = .ok (.ifCond .eq 8, 3) := by decide +kernel
theorem dX2_readStatement_63 : decode cX2_readStatement 63 = .ok (.aload_n 0, 1) := by decide +kernel
theorem dX2_readStatement_64 : decode cX2_readStatement 64 = .ok (.invokevirtual 85, 3) := by decide +kernel
theorem dX2_readStatement_67 : decode cX2_readStatement 67 = .ok (.ireturn, 1) := by decide +kernel
theorem dX2_readStatement_68 : decode cX2_readStatement 68 = .ok (.aload_n 0, 1) := by decide +kernel
theorem dX2_readStatement_69 : decode cX2_readStatement 69 = .ok (.getfield 32, 3) := by decide +kernel
theorem dX2_readStatement_72 : decode cX2_readStatement 72 = .ok (.ldc 88, 2) := by decide +kernel
theorem dX2_readStatement_74 : decode cX2_readStatement 74 = .ok (.invokevirtual 66, 3) := by decide +kernel
theorem dX2_readStatement_77 : decode cX2_readStatement 77 = .ok (.ifCond .eq 10, 3) := by decide +kernel
theorem dX2_readStatement_80 : decode cX2_readStatement 80 = .ok (.aload_n 0, 1) := by decide +kernel
theorem dX2_readStatement_81 : decode cX2_readStatement 81 = .ok (.invokevirtual 90, 3) := by decide +kernel
theorem dX2_readStatement_84 : decode cX2_readStatement 84 = .ok (.goto 9, 3) := by decide +kernel
theorem dX2_readStatement_87 : decode cX2_readStatement 87 = .ok (.aload_n 0, 1) := by decide +kernel
theorem dX2_readStatement_88 : decode cX2_readStatement 88 = .ok (.bipush (-11), 2) := by decide +kernel
theorem dX2_readStatement_90 : decode cX2_readStatement 90 = .ok (.invokevirtual 93, 3) := by decide +kernel
theorem dX2_readStatement_93 : decode cX2_readStatement 93 = .ok (.ireturn, 1) := by decide +kernel
theorem dX2_readLocation_0 : decode cX2_readLocation 0 = .ok (.aload_n 0, 1) := by decide +kernel
theorem dX2_readLocation_1 : decode cX2_readLocation 1 = .ok (.getfield 12, 3) := by decide +kernel
theorem dX2_readLocation_4 : decode cX2_readLocation 4 = .ok (.getfield 97, 3) := by decide +kernel
theorem dX2_readLocation_7 : decode cX2_readLocation 7 = .ok (.iconst 4, 1) := by decide +kernel
theorem dX2_readLocation_8 : decode cX2_readLocation 8 = .ok (.if_icmp .lt 10, 3) := by decide +kernel
theorem dX2_readLocation_11 : decode cX2_readLocation 11 = .ok (.aload_n 0, 1) := by decide +kernel
theorem dX2_readLocation_12 : decode cX2_readLocation 12 = .ok (.bipush (-17), 2) := by decide +kernel
theorem dX2_readLocation_14 : decode cX2_readLocation 14 = .ok (.invokevirtual 93, 3) := by decide +kernel
theorem dX2_readLocation_17 : decode cX2_readLocation 17 = .ok (.ireturn, 1) := by decide +kernel
theorem dX2_readLocation_18 : decode cX2_readLocation 18 = .ok (.aload_n 0, 1) := by decide +kernel
theorem dX2_readLocation_19 : decode cX2_readLocation 19 = .ok (.getfield 32, 3) := by decide +kernel
theorem dX2_readLocation_22 : decode cX2_readLocation 22 = .ok (.invokevirtual 100, 3) := by decide +kernel
theorem dX2_readLocation_25 : decode cX2_readLocation 25 = .ok (.aload_n 0, 1) := by decide +kernel
theorem dX2_readLocation_26 : decode cX2_readLocation 26 = .ok (.invokevirtual 103, 3) := by decide +kernel
theorem dX2_readLocation_29 : decode cX2_readLocation 29 = .ok (.istore_n 1, 1) := by decide +kernel
theorem dX2_readLocation_30 : decode cX2_readLocation 30 = .ok (.iload_n 1, 1) := by decide +kernel
theorem dX2_readLocation_31 : decode cX2_readLocation 31 = .ok (.iconst (-1), 1) := by decide +kernel
theorem dX2_readLocation_32 : decode cX2_readLocation 32 = .ok (.if_icmp .ne 7, 3) := by decide +kernel
theorem dX2_readLocation_35 : decode cX2_readLocation 35 = .ok (.iconst (-1), 1) := by decide +kernel
theorem dX2_readLocation_36 : decode cX2_readLocation 36 = .ok (.goto 11, 3) := by decide +kernel
theorem dX2_readLocation_39 : decode cX2_readLocation 39 = .ok (.aload_n 0, 1) := by decide +kernel
theorem dX2_readLocation_40 : decode cX2_readLocation 40 = .ok (.iconst 0, 1) := by decide +kernel
theorem dX2_readLocation_41 : decode cX2_readLocation 41 = .ok (.sipush 9999, 3) := by decide +kernel
theorem dX2_readLocation_44 : decode cX2_readLocation 44 = .ok (.invokevirtual 107, 3) := by decide +kernel
theorem dX2_readLocation_47 : decode cX2_readLocation 47 = .ok (.istore_n 2, 1) := by decide +kernel
theorem dX2_readLocation_48 : decode cX2_readLocation 48 = .ok (.iload_n 2, 1) := by decide +kernel
theorem dX2_readLocation_49 : decode cX2_readLocation 49 = .ok (.iconst (-1), 1) := by decide +kernel
theorem dX2_readLocation_50 : decode cX2_readLocation 50 = .ok (.if_icmp .ne 5, 3) := by decide +kernel
theorem dX2_readLocation_53 : decode cX2_readLocation 53 = .ok (.iconst 0, 1) := by decide +kernel
theorem dX2_readLocation_54 : decode cX2_readLocation 54 = .ok (.ireturn, 1) := by decide +kernel
theorem dX2_readLocation_55 : decode cX2_readLocation 55 = .ok (.aload_n 0, 1) := by decide +kernel
theorem dX2_readLocation_56 : decode cX2_readLocation 56 = .ok (.getfield 32, 3) := by decide +kernel
theorem dX2_readLocation_59 : decode cX2_readLocation 59 = .ok (.ldc 111, 2) := by decide +kernel
theorem dX2_readLocation_61 : decode cX2_readLocation 61 = .ok (.invokevirtual 66, 3) := by decide +kernel
theorem dX2_readLocation_64 : decode cX2_readLocation 64 = .ok (.istore_n 3, 1) := by decide +kernel
theorem dX2_readLocation_65 : decode cX2_readLocation 65 = .ok (.iload_n 3, 1) := by decide +kernel
theorem dX2_readLocation_66 : decode cX2_readLocation 66 = .ok (.ifCond .ne 22, 3) := by decide +kernel
theorem dX2_readLocation_69 : decode cX2_readLocation 69 = .ok (.aload_n 0, 1) := by decide +kernel
theorem dX2_readLocation_70 : decode cX2_readLocation 70 = .ok (.getfield 32, 3) := by decide +kernel
theorem dX2_readLocation_73 : decode cX2_readLocation 73 = .ok (.ldc 113, 2) := by decide +kernel
theorem dX2_readLocation_75 : decode cX2_readLocation 75 = .ok (.invokevirtual 66, 3) := by decide +kernel
theorem dX2_readLocation_78 : decode cX2_readLocation 78 = .ok (.ifCond .ne 10, 3) := by decide +kernel
theorem dX2_readLocation_81 : decode cX2_readLocation 81 = .ok (.aload_n 0, 1) := by decide +kernel
theorem dX2_readLocation_82 : decode cX2_readLocation 82 = .ok (.bipush (-11), 2) := by decide +kernel
theorem dX2_readLocation_84 : decode cX2_readLocation 84 = .ok (.invokevirtual 93, 3) := by decide +kernel
theorem dX2_readLocation_87 : decode cX2_readLocation 87 = .ok (.ireturn, 1) := by decide +kernel
theorem dX2_readLocation_88 : decode cX2_readLocation 88 = .ok (.aload_n 0, 1) := by decide +kernel
theorem dX2_readLocation_89 : decode cX2_readLocation 89 = .ok (.getfield 32, 3) := by decide +kernel
theorem dX2_readLocation_92 : decode cX2_readLocation 92 = .ok (.invokevirtual 100, 3) := by decide +kernel
theorem dX2_readLocation_95 : decode cX2_readLocation 95 = .ok (.aload_n 0, 1) := by decide +kernel
theorem dX2_readLocation_96 : decode cX2_readLocation 96 = .ok (.getfield 12, 3) := by decide +kernel
theorem dX2_readLocation_99 : decode cX2_readLocation 99 = .ok (.iload_n 1, 1) := by decide +kernel
theorem dX2_readLocation_100 : decode cX2_readLocation 100 = .ok (.iload_n 2, 1) := by decide +kernel
theorem dX2_readLocation_101 : decode cX2_readLocation 101 = .ok (.iload_n 3, 1) := by decide +kernel
theorem dX2_readLocation_102 : decode cX2_readLocation 102 = .ok (.invokevirtual 115, 3) := by decide +kernel
theorem dX2_readLocation_105 : decode cX2_readLocation 105 = .ok (.aload_n 0, 1) := by decide +kernel
theorem dX2_readLocation_106 : decode cX2_readLocation 106 = .ok (.invokevirtual 119, 3) := by decide +kernel
theorem dX2_readLocation_109 : decode cX2_readLocation 109 = .ok (.ireturn, 1) := by decide +kernel
theorem dX2_readActor_0 : decode cX2_readActor 0 = .ok (.aload_n 0, 1) := by decide +kernel
theorem dX2_readActor_1 : decode cX2_readActor 1 = .ok (.getfield 12, 3) := by decide +kernel
theorem dX2_readActor_4 : decode cX2_readActor 4 = .ok (.getfield 122, 3) := by decide +kernel
theorem dX2_readActor_7 : decode cX2_readActor 7 = .ok (.bipush 6, 2) := by decide +kernel
theorem dX2_readActor_9 : decode cX2_readActor 9 = .ok (.if_icmp .lt 10, 3) := by decide +kernel
theorem dX2_readActor_12 : decode cX2_readActor 12 = .ok (.aload_n 0, 1) := by decide +kernel
theorem dX2_readActor_13 : decode cX2_readActor 13 = .ok (.bipush (-17), 2) := by decide +kernel
theorem dX2_readActor_15 : decode cX2_readActor 15 = .ok (.invokevirtual 93, 3) := by decide +kernel
theorem dX2_readActor_18 : decode cX2_readActor 18 = .ok (.ireturn, 1) := by decide +kernel
theorem dX2_readActor_19 : decode cX2_readActor 19 = .ok (.aload_n 0, 1) := by decide +kernel
theorem dX2_readActor_20 : decode cX2_readActor 20 = .ok (.getfield 32, 3) := by decide +kernel
theorem dX2_readActor_23 : decode cX2_readActor 23 = .ok (.invokevirtual 100, 3) := by decide +kernel
theorem dX2_readActor_26 : decode cX2_readActor 26 = .ok (.aload_n 0, 1) := by decide +kernel
theorem dX2_readActor_27 : decode cX2_readActor 27 = .ok (.invokevirtual 103, 3) := by decide +kernel
theorem dX2_readActor_30 : decode cX2_readActor 30 = .ok (.istore_n 1, 1) := by decide +kernel
theorem dX2_readActor_31 : decode cX2_readActor 31 = .ok (.iload_n 1, 1) := by decide +kernel
theorem dX2_readActor_32 : decode cX2_readActor 32 = .ok (.iconst (-1), 1) := by decide +kernel
theorem dX2_readActor_33 : decode cX2_readActor 33 = .ok (.if_icmp .ne 7, 3) := by decide +kernel
theorem dX2_readActor_36 : decode cX2_readActor 36 = .ok (.iconst (-1), 1) := by decide +kernel
theorem dX2_readActor_37 : decode cX2_readActor 37 = .ok (.goto 11, 3) := by decide +kernel
theorem dX2_readActor_40 : decode cX2_readActor 40 = .ok (.aload_n 0, 1) := by decide +kernel
theorem dX2_readActor_41 : decode cX2_readActor 41 = .ok (.iconst 0, 1) := by decide +kernel
theorem dX2_readActor_42 : decode cX2_readActor 42 = .ok (.sipush 9999, 3) := by decide +kernel
theorem dX2_readActor_45 : decode cX2_readActor 45 = .ok (.invokevirtual 107, 3) := by decide +kernel
theorem dX2_readActor_48 : decode cX2_readActor 48 = .ok (.istore_n 2, 1) := by decide +kernel
theorem dX2_readActor_49 : decode cX2_readActor 49 = .ok (.iload_n 2, 1) := by decide +kernel
theorem dX2_readActor_50 : decode cX2_readActor 50 = .ok (.iconst (-1), 1) := by decide +kernel
theorem dX2_readActor_51 : decode cX2_readActor 51 = .ok (.if_icmp .ne 5, 3) := by decide +kernel
theorem dX2_readActor_54 : decode cX2_readActor 54 = .ok (.iconst 0, 1) := by decide +kernel
theorem dX2_readActor_55 : decode cX2_readActor 55 = .ok (.ireturn, 1) := by decide +kernel
theorem dX2_readActor_56 : decode cX2_readActor 56 = .ok (.aload_n 0, 1) := by decide +kernel
theorem dX2_readActor_57 : decode cX2_readActor 57 = .ok (.getfield 12, 3) := by decide +kernel
theorem dX2_readActor_60 : decode cX2_readActor 60 = .ok (.iload_n 1, 1) := by decide +kernel
theorem dX2_readActor_61 : decode cX2_readActor 61 = .ok (.iload_n 2, 1) := by decide +kernel
theorem dX2_readActor_62 : decode cX2_readActor 62 = .ok (.invokevirtual 125, 3) := by decide +kernel
theorem dX2_readActor_65 : decode cX2_readActor 65 = .ok (.aload_n 0, 1) := by decide +kernel
theorem dX2_readActor_66 : decode cX2_readActor 66 = .ok (.invokevirtual 119, 3) := by decide +kernel
theorem dX2_readActor_69 : decode cX2_readActor 69 = .ok (.ireturn, 1) := by decide +kernel
theorem dX2_readScene_0 : decode cX2_readScene 0 = .ok (.aload_n 0, 1) := by decide +kernel
theorem dX2_readScene_1 : decode cX2_readScene 1 = .ok (.getfield 12, 3) := by decide +kernel
theorem dX2_readScene_4 : decode cX2_readScene 4 = .ok (.getfield 129, 3) := by decide +kernel
theorem dX2_readScene_7 : decode cX2_readScene 7 = .ok (.bipush 14, 2) := by decide +kernel
theorem dX2_readScene_9 : decode cX2_readScene 9 = .ok (.if_icmp .lt 10, 3) := by decide +kernel
theorem dX2_readScene_12 : decode cX2_readScene 12 = .ok (.aload_n 0, 1) := by decide +kernel
theorem dX2_readScene_13 : decode cX2_readScene 13 = .ok (.bipush (-17), 2) := by decide +kernel
theorem dX2_readScene_15 : decode cX2_readScene 15 = .ok (.invokevirtual 93, 3) := by decide +kernel
theorem dX2_readScene_18 : decode cX2_readScene 18 = .ok (.ireturn, 1) := by decide +kernel
theorem dX2_readScene_19 : decode cX2_readScene 19 = .ok (.aload_n 0, 1) := by decide +kernel
theorem dX2_readScene_20 : decode cX2_readScene 20 = .ok (.getfield 32, 3) := by decide +kernel
theorem dX2_readScene_23 : decode cX2_readScene 23 = .ok (.invokevirtual 100, 3) := by decide +kernel
theorem dX2_readScene_26 : decode cX2_readScene 26 = .ok (.aload_n 0, 1) := by decide +kernel
theorem dX2_readScene_27 : decode cX2_readScene 27 = .ok (.invokevirtual 132, 3) := by decide +kernel
theorem dX2_readScene_30 : decode cX2_readScene 30 = .ok (.istore_n 1, 1) := by decide +kernel
theorem dX2_readScene_31 : decode cX2_readScene 31 = .ok (.iload_n 1, 1) := by decide +kernel
theorem dX2_readScene_32 : decode cX2_readScene 32 = .ok (.iconst (-1), 1) := by decide +kernel
theorem dX2_readScene_33 : decode cX2_readScene 33 = .ok (.if_icmp .ne 7, 3) := by decide +kernel
theorem dX2_readScene_36 : decode cX2_readScene 36 = .ok (.iconst (-1), 1) := by decide +kernel
theorem dX2_readScene_37 : decode cX2_readScene 37 = .ok (.goto 10, 3) := by decide +kernel
theorem dX2_readScene_40 : decode cX2_readScene 40 = .ok (.aload_n 0, 1) := by decide +kernel
theorem dX2_readScene_41 : decode cX2_readScene 41 = .ok (.iconst 1, 1) := by decide +kernel
theorem dX2_readScene_42 : decode cX2_readScene 42 = .ok (.bipush 60, 2) := by decide +kernel
theorem dX2_readScene_44 : decode cX2_readScene 44 = .ok (.invokevirtual 107, 3) := by decide +kernel
theorem dX2_readScene_47 : decode cX2_readScene 47 = .ok (.istore_n 2, 1) := by decide +kernel
theorem dX2_readScene_48 : decode cX2_readScene 48 = .ok (.iload_n 2, 1) := by decide +kernel
theorem dX2_readScene_49 : decode cX2_readScene 49 = .ok (.iconst (-1), 1) := by decide +kernel
theorem dX2_readScene_50 : decode cX2_readScene 50 = .ok (.if_icmp .ne 5, 3) := by decide +kernel
theorem dX2_readScene_53 : decode cX2_readScene 53 = .ok (.iconst 0, 1) := by decide +kernel
theorem dX2_readScene_54 : decode cX2_readScene 54 = .ok (.ireturn, 1) := by decide +kernel
theorem dX2_readScene_55 : decode cX2_readScene 55 = .ok (.aload_n 0, 1) := by decide +kernel
theorem dX2_readScene_56 : decode cX2_readScene 56 = .ok (.getfield 32, 3) := by decide +kernel
theorem dX2_readScene_59 : decode cX2_readScene 59 = .ok (.ldc 135, 2) := by decide +kernel
theorem dX2_readScene_61 : decode cX2_readScene 61 = .ok (.invokevirtual 66, 3) := by decide +kernel
theorem dX2_readScene_64 : decode cX2_readScene 64 = .ok (.istore_n 3, 1) := by decide +kernel
theorem dX2_readScene_65 : decode cX2_readScene 65 = .ok (.iload_n 3, 1) := by decide +kernel
theorem dX2_readScene_66 : decode cX2_readScene 66 = .ok (.ifCond .eq 10, 3) := by decide +kernel
theorem dX2_readScene_69 : decode cX2_readScene 69 = .ok (.aload_n 0, 1) := by decide +kernel
theorem dX2_readScene_70 : decode cX2_readScene 70 = .ok (.getfield 32, 3) := by decide +kernel
theorem dX2_readScene_73 : decode cX2_readScene 73 = .ok (.invokevirtual 100, 3) := by decide +kernel
theorem dX2_readScene_76 : decode cX2_readScene 76 = .ok (.aload_n 0, 1) := by decide +kernel
theorem dX2_readScene_77 : decode cX2_readScene 77 = .ok (.invokevirtual 137, 3) := by decide +kernel
theorem dX2_readScene_80 : decode cX2_readScene 80 = .ok (.istore 4, 2) := by decide +kernel
theorem dX2_readScene_82 : decode cX2_readScene 82 = .ok (.iload 4, 2) := by decide +kernel
theorem dX2_readScene_84 : decode cX2_readScene 84 = .ok (.iconst (-1), 1) := by decide +kernel
theorem dX2_readScene_85 : decode cX2_readScene 85 = .ok (.if_icmp .ne 5, 3) := by decide +kernel
theorem dX2_readScene_88 : decode cX2_readScene 88 = .ok (.iconst 0, 1) := by decide +kernel
theorem dX2_readScene_89 : decode cX2_readScene 89 = .ok (.ireturn, 1) := by decide +kernel
theorem dX2_readScene_90 : decode cX2_readScene 90 = .ok (.aload_n 0, 1) := by decide +kernel
theorem dX2_readScene_91 : decode cX2_readScene 91 = .ok (.getfield 12, 3) := by decide +kernel
theorem dX2_readScene_94 : decode cX2_readScene 94 = .ok (.iload_n 1, 1) := by decide +kernel
theorem dX2_readScene_95 : decode cX2_readScene 95 = .ok (.iload_n 2, 1) := by decide +kernel
theorem dX2_readScene_96 : decode cX2_readScene 96 = .ok (.iload_n 3, 1) := by decide +kernel
theorem dX2_readScene_97 : decode cX2_readScene 97 = .ok (.iload 4, 2) := by decide +kernel
theorem dX2_readScene_99 : decode cX2_readScene 99 = .ok (.invokevirtual 140, 3) := by decide +kernel
theorem dX2_readScene_102 : decode cX2_readScene 102 = .ok (.aload_n 0, 1) := by decide +kernel
theorem dX2_readScene_103 : decode cX2_readScene 103 = .ok (.invokevirtual 119, 3) := by decide +kernel
theorem dX2_readScene_106 : decode cX2_readScene 106 = .ok (.ireturn, 1) := by decide +kernel
theorem dX2_readSetting_0 : decode cX2_readSetting 0 = .ok (.aload_n 0, 1) := by decide +kernel
theorem dX2_readSetting_1 : decode cX2_readSetting 1 = .ok (.getfield 46, 3) := by decide +kernel
theorem dX2_readSetting_4 : decode cX2_readSetting 4 = .ok (.ifCond .eq 10, 3) := by decide +kernel
theorem dX2_readSetting_7 : decode cX2_readSetting 7 = .ok (.aload_n 0, 1) := by decide +kernel
theorem dX2_readSetting_8 : decode cX2_readSetting 8 = .ok (.bipush (-15), 2) := by decide +kernel
theorem dX2_readSetting_10 : decode cX2_readSetting 10 = .ok (.invokevirtual 93, 3) := by decide +kernel
theorem dX2_readSetting_13 : decode cX2_readSetting 13 = .ok (.ireturn, 1) := by decide +kernel
theorem dX2_readSetting_14 : decode cX2_readSetting 14 = .ok (.aload_n 0, 1) := by decide +kernel
theorem dX2_readSetting_15 : decode cX2_readSetting 15 = .ok (.getfield 32, 3) := by decide +kernel
theorem dX2_readSetting_18 : decode cX2_readSetting 18 = .ok (.invokevirtual 100, 3) := by decide +kernel
theorem dX2_readSetting_21 : decode cX2_readSetting 21 = .ok (.aload_n 0, 1) := by decide +kernel
theorem dX2_readSetting_22 : decode cX2_readSetting 22 = .ok (.invokevirtual 144, 3) := by decide +kernel
theorem dX2_readSetting_25 : decode cX2_readSetting 25 = .ok (.istore_n 1, 1) := by decide +kernel
theorem dX2_readSetting_26 : decode cX2_readSetting 26 = .ok (.iload_n 1, 1) := by decide +kernel
theorem dX2_readSetting_27 : decode cX2_readSetting 27 = .ok (.invokestatic 147, 3) := by decide +kernel
theorem dX2_readSetting_30 : decode cX2_readSetting 30 = .ok (.ifCond .ne 10, 3) := by decide +kernel
theorem dX2_readSetting_33 : decode cX2_readSetting 33 = .ok (.aload_n 0, 1) := by decide +kernel
theorem dX2_readSetting_34 : decode cX2_readSetting 34 = .ok (.bipush (-11), 2) := by decide +kernel
theorem dX2_readSetting_36 : decode cX2_readSetting 36 = .ok (.invokevirtual 93, 3) := by decide +kernel
theorem dX2_readSetting_39 : decode cX2_readSetting 39 = .ok (.ireturn, 1) := by decide +kernel
theorem dX2_readSetting_40 : decode cX2_readSetting 40 = .ok (.aload_n 0, 1) := by decide +kernel
theorem dX2_readSetting_41 : decode cX2_readSetting 41 = .ok (.getfield 42, 3) := by decide +kernel
theorem dX2_readSetting_44 : decode cX2_readSetting 44 = .ok (.iload_n 1, 1) := by decide +kernel
theorem dX2_readSetting_45 : decode cX2_readSetting 45 = .ok (.invokestatic 150, 3) := by decide +kernel
theorem dX2_readSetting_48 : decode cX2_readSetting 48 = .ok (.ifCond .eq 10, 3) := by decide +kernel
theorem dX2_readSetting_51 : decode cX2_readSetting 51 = .ok (.aload_n 0, 1) := by decide +kernel
theorem dX2_readSetting_52 : decode cX2_readSetting 52 = .ok (.bipush (-14), 2) := by decide +kernel
theorem dX2_readSetting_54 : decode cX2_readSetting 54 = .ok (.invokevirtual 93, 3) := by decide +kernel
theorem dX2_readSetting_57 : decode cX2_readSetting 57 = .ok (.ireturn, 1) := by decide +kernel
theorem dX2_readSetting_58 : decode cX2_readSetting 58 = .ok (.aload_n 0, 1) := by decide +kernel
theorem dX2_readSetting_59 : decode cX2_readSetting 59 = .ok (.dup, 1) := by decide +kernel
theorem dX2_readSetting_60 : decode cX2_readSetting 60 = .ok (.getfield 42, 3) := by decide +kernel
theorem dX2_readSetting_63 : decode cX2_readSetting 63 = .ok (.iconst 1, 1) := by decide +kernel
theorem dX2_readSetting_64 : decode cX2_readSetting 64 = .ok (.iload_n 1, 1) := by decide +kernel
theorem dX2_readSetting_65 : decode cX2_readSetting 65 = .ok (.ishl, 1) := by decide +kernel
theorem dX2_readSetting_66 : decode cX2_readSetting 66 = .ok (.ior, 1) := by decide +kernel
theorem dX2_readSetting_67 : decode cX2_readSetting 67 = .ok (.putfield 42, 3) := by decide +kernel
theorem dX2_readSetting_70 : decode cX2_readSetting 70 = .ok (.aload_n 0, 1) := by decide +kernel
theorem dX2_readSetting_71 : decode cX2_readSetting 71 = .ok (.getfield 32, 3) := by decide +kernel
theorem dX2_readSetting_74 : decode cX2_readSetting 74 = .ok (.invokevirtual 100, 3) := by decide +kernel
theorem dX2_readSetting_77 : decode cX2_readSetting 77 = .ok (.aload_n 0, 1) := by decide +kernel
theorem dX2_readSetting_78 : decode cX2_readSetting 78 = .ok (.getstatic 154, 3) := by decide +kernel
theorem dX2_readSetting_81 : decode cX2_readSetting 81 = .ok (.iload_n 1, 1) := by decide +kernel
theorem dX2_readSetting_82 : decode cX2_readSetting 82 = .ok (.iaload, 1) := by decide +kernel
theorem dX2_readSetting_83 : decode cX2_readSetting 83 = .ok (.getstatic 158, 3) := by decide +kernel
theorem dX2_readSetting_86 : decode cX2_readSetting 86 = .ok (.iload_n 1, 1) := by decide +kernel
theorem dX2_readSetting_87 : decode cX2_readSetting 87 = .ok (.iaload, 1) := by decide +kernel
theorem dX2_readSetting_88 : decode cX2_readSetting 88 = .ok (.invokevirtual 107, 3) := by decide +kernel
theorem dX2_readSetting_91 : decode cX2_readSetting 91 = .ok (.istore_n 2, 1) := by decide +kernel
theorem dX2_readSetting_92 : decode cX2_readSetting 92 = .ok (.iload_n 2, 1) := by decide +kernel
theorem dX2_readSetting_93 : decode cX2_readSetting 93 = .ok (.iconst (-1), 1) := by decide +kernel
theorem dX2_readSetting_94 : decode cX2_readSetting 94 = .ok (.if_icmp .ne 5, 3) := by decide +kernel
theorem dX2_readSetting_97 : decode cX2_readSetting 97 = .ok (.iconst 0, 1) := by decide +kernel
theorem dX2_readSetting_98 : decode cX2_readSetting 98 = .ok (.ireturn, 1) := by decide +kernel
theorem dX2_readSetting_99 : decode cX2_readSetting 99 = .ok (.aload_n 0, 1) := by decide +kernel
theorem dX2_readSetting_100 : decode cX2_readSetting 100 = .ok (.getfield 12, 3) := by decide +kernel
theorem dX2_readSetting_103 : decode cX2_readSetting 103 = .ok (.getfield 161, 3) := by decide +kernel
theorem dX2_readSetting_106 : decode cX2_readSetting 106 = .ok (.iload_n 1, 1) := by decide +kernel
theorem dX2_readSetting_107 : decode cX2_readSetting 107 = .ok (.iload_n 2, 1) := by decide +kernel
theorem dX2_readSetting_108 : decode cX2_readSetting 108 = .ok (.iastore, 1) := by decide +kernel
theorem dX2_readSetting_109 : decode cX2_readSetting 109 = .ok (.aload_n 0, 1) := by decide +kernel
theorem dX2_readSetting_110 : decode cX2_readSetting 110 = .ok (.invokevirtual 119, 3) := by decide +kernel
theorem dX2_readSetting_113 : decode cX2_readSetting 113 = .ok (.ireturn, 1) := by decide +kernel
theorem dX2_readDay_0 : decode cX2_readDay 0 = .ok (.aload_n 0, 1) := by decide +kernel
theorem dX2_readDay_1 : decode cX2_readDay 1 = .ok (.iconst 1, 1) := by decide +kernel
theorem dX2_readDay_2 : decode cX2_readDay 2 = .ok (.putfield 46, 3) := by decide +kernel
theorem dX2_readDay_5 : decode cX2_readDay 5 = .ok (.aload_n 0, 1) := by decide +kernel
theorem dX2_readDay_6 : decode cX2_readDay 6 = .ok (.getfield 32, 3) := by decide +kernel
theorem dX2_readDay_9 : decode cX2_readDay 9 = .ok (.invokevirtual 100, 3) := by decide +kernel
theorem dX2_readDay_12 : decode cX2_readDay 12 = .ok (.aload_n 0, 1) := by decide +kernel
theorem dX2_readDay_13 : decode cX2_readDay 13 = .ok (.iconst 0, 1) := by decide +kernel
theorem dX2_readDay_14 : decode cX2_readDay 14 = .ok (.bipush 11, 2) := by decide +kernel
theorem dX2_readDay_16 : decode cX2_readDay 16 = .ok (.invokevirtual 107, 3) := by decide +kernel
theorem dX2_readDay_19 : decode cX2_readDay 19 = .ok (.istore_n 1, 1) := by decide +kernel
theorem dX2_readDay_20 : decode cX2_readDay 20 = .ok (.iload_n 1, 1) := by decide +kernel
theorem dX2_readDay_21 : decode cX2_readDay 21 = .ok (.iconst (-1), 1) := by decide +kernel
theorem dX2_readDay_22 : decode cX2_readDay 22 = .ok (.if_icmp .eq 11, 3) := by decide +kernel
theorem dX2_readDay_25 : decode cX2_readDay 25 = .ok (.aload_n 0, 1) := by decide +kernel
theorem dX2_readDay_26 : decode cX2_readDay 26 = .ok (.iload_n 1, 1) := by decide +kernel
theorem dX2_readDay_27 : decode cX2_readDay 27 = .ok (.invokevirtual 164, 3) := by decide +kernel
theorem dX2_readDay_30 : decode cX2_readDay 30 = .ok (.ifCond .ne 5, 3) := by decide +kernel
theorem dX2_readDay_33 : decode cX2_readDay 33 = .ok (.iconst 0, 1) := by decide +kernel
theorem dX2_readDay_34 : decode cX2_readDay 34 = .ok (.ireturn, 1) := by decide +kernel
theorem dX2_readDay_35 : decode cX2_readDay 35 = .ok (.iconst 1, 1) := by decide +kernel
theorem dX2_readDay_36 : decode cX2_readDay 36 = .ok (.istore_n 2, 1) := by decide +kernel
theorem dX2_readDay_37 : decode cX2_readDay 37 = .ok (.iload_n 2, 1) := by decide +kernel
theorem dX2_readDay_38 : decode cX2_readDay 38 = .ok (.bipush 14, 2) := by decide +kernel
theorem dX2_readDay_40 : decode cX2_readDay 40 = .ok (.if_icmp .gt 30, 3) := by decide +kernel
theorem dX2_readDay_43 : decode cX2_readDay 43 = .ok (.aload_n 0, 1) := by decide +kernel
theorem dX2_readDay_44 : decode cX2_readDay 44 = .ok (.getfield 32, 3) := by decide +kernel
theorem dX2_readDay_47 : decode cX2_readDay 47 = .ok (.getfield 54, 3) := by decide +kernel
theorem dX2_readDay_50 : decode cX2_readDay 50 = .ok (.iconst 3, 1) := by decide +kernel
theorem dX2_readDay_51 : decode cX2_readDay 51 = .ok (.if_icmp .eq 19, 3) := by decide +kernel
theorem dX2_readDay_54 : decode cX2_readDay 54 = .ok (.aload_n 0, 1) := by decide +kernel
theorem dX2_readDay_55 : decode cX2_readDay 55 = .ok (.iload_n 1, 1) := by decide +kernel
theorem dX2_readDay_56 : decode cX2_readDay 56 = .ok (.invokevirtual 164, 3) := by decide +kernel
theorem dX2_readDay_59 : decode cX2_readDay 59 = .ok (.ifCond .ne 5, 3) := by decide +kernel
theorem dX2_readDay_62 : decode cX2_readDay 62 = .ok (.iconst 0, 1) := by decide +kernel
theorem dX2_readDay_63 : decode cX2_readDay 63 = .ok (.ireturn, 1) := by decide +kernel
theorem dX2_readDay_64 : decode cX2_readDay 64 = .ok (.iinc 2 1, 3) := by decide +kernel
theorem dX2_readDay_67 : decode cX2_readDay 67 = .ok (.goto (-30), 3) := by decide +kernel
theorem dX2_readDay_70 : decode cX2_readDay 70 = .ok (.aload_n 0, 1) := by decide +kernel
theorem dX2_readDay_71 : decode cX2_readDay 71 = .ok (.invokevirtual 119, 3) := by decide +kernel
theorem dX2_readDay_74 : decode cX2_readDay 74 = .ok (.ireturn, 1) := by decide +kernel
theorem dX2_takeSceneOf_0 : decode cX2_takeSceneOf 0 = .ok (.aload_n 0, 1) := by decide +kernel
theorem dX2_takeSceneOf_1 : decode cX2_takeSceneOf 1 = .ok (.getfield 32, 3) := by decide +kernel
theorem dX2_takeSceneOf_4 : decode cX2_takeSceneOf 4 = .ok (.getfield 54, 3) := by decide +kernel
theorem dX2_takeSceneOf_7 : decode cX2_takeSceneOf 7 = .ok (.iconst 2, 1) := by decide +kernel
theorem dX2_takeSceneOf_8 : decode cX2_takeSceneOf 8 = .ok (.if_icmp .eq 10, 3) := by decide +kernel
theorem dX2_takeSceneOf_11 : decode cX2_takeSceneOf 11 = .ok (.aload_n 0, 1) := by decide +kernel
theorem dX2_takeSceneOf_12 : decode cX2_takeSceneOf 12 = .ok (.bipush (-11), 2) := by decide +kernel
theorem dX2_takeSceneOf_14 : decode cX2_takeSceneOf 14 = .ok (.invokevirtual 93, 3) := by decide +kernel
theorem dX2_takeSceneOf_17 : decode cX2_takeSceneOf 17 = .ok (.ireturn, 1) := by decide +kernel
theorem dX2_takeSceneOf_18 : decode cX2_takeSceneOf 18 = .ok (.aload_n 0, 1) := by decide +kernel
theorem dX2_takeSceneOf_19 : decode cX2_takeSceneOf 19 = .ok (.getfield 32, 3) := by decide +kernel
theorem dX2_takeSceneOf_22 : decode cX2_takeSceneOf 22 = .ok (.getfield 167, 3) := by decide +kernel
theorem dX2_takeSceneOf_25 : decode cX2_takeSceneOf 25 = .ok (.istore_n 2, 1) := by decide +kernel
theorem dX2_takeSceneOf_26 : decode cX2_takeSceneOf 26 = .ok (.iload_n 2, 1) := by decide +kernel
theorem dX2_takeSceneOf_27 : decode cX2_takeSceneOf 27 = .ok (.ifCond .lt 14, 3) := by decide +kernel
theorem dX2_takeSceneOf_30 : decode cX2_takeSceneOf 30 = .ok (.iload_n 2, 1) := by decide +kernel
theorem dX2_takeSceneOf_31 : decode cX2_takeSceneOf 31 = .ok (.aload_n 0, 1) := by decide +kernel
theorem dX2_takeSceneOf_32 : decode cX2_takeSceneOf 32 = .ok (.getfield 12, 3) := by decide +kernel
theorem dX2_takeSceneOf_35 : decode cX2_takeSceneOf 35 = .ok (.getfield 129, 3) := by decide +kernel
theorem dX2_takeSceneOf_38 : decode cX2_takeSceneOf 38 = .ok (.if_icmp .lt 10, 3) := by decide +kernel
theorem dX2_takeSceneOf_41 : decode cX2_takeSceneOf 41 = .ok (.aload_n 0, 1) := by decide +kernel
theorem dX2_takeSceneOf_42 : decode cX2_takeSceneOf 42 = .ok (.bipush (-12), 2) := by decide +kernel
theorem dX2_takeSceneOf_44 : decode cX2_takeSceneOf 44 = .ok (.invokevirtual 93, 3) := by decide +kernel
theorem dX2_takeSceneOf_47 : decode cX2_takeSceneOf 47 = .ok (.ireturn, 1) := by decide +kernel
theorem dX2_takeSceneOf_48 : decode cX2_takeSceneOf 48 = .ok (.aload_n 0, 1) := by decide +kernel
theorem dX2_takeSceneOf_49 : decode cX2_takeSceneOf 49 = .ok (.getfield 12, 3) := by decide +kernel
theorem dX2_takeSceneOf_52 : decode cX2_takeSceneOf 52 = .ok (.getfield 170, 3) := by decide +kernel
theorem dX2_takeSceneOf_55 : decode cX2_takeSceneOf 55 = .ok (.iload_n 2, 1) := by decide +kernel
theorem dX2_takeSceneOf_56 : decode cX2_takeSceneOf 56 = .ok (.iaload, 1) := by decide +kernel
theorem dX2_takeSceneOf_57 : decode cX2_takeSceneOf 57 = .ok (.iconst (-1), 1) := by decide +kernel
theorem dX2_takeSceneOf_58 : decode cX2_takeSceneOf 58 = .ok (.if_icmp .eq 10, 3) := by decide +kernel
theorem dX2_takeSceneOf_61 : decode cX2_takeSceneOf 61 = .ok (.aload_n 0, 1) := by decide +kernel
theorem dX2_takeSceneOf_62 : decode cX2_takeSceneOf 62 = .ok (.bipush (-14), 2) := by decide +kernel
theorem dX2_takeSceneOf_64 : decode cX2_takeSceneOf 64 = .ok (.invokevirtual 93, 3) := by decide +kernel
theorem dX2_takeSceneOf_67 : decode cX2_takeSceneOf 67 = .ok (.ireturn, 1) := by decide +kernel
theorem dX2_takeSceneOf_68 : decode cX2_takeSceneOf 68 = .ok (.aload_n 0, 1) := by decide +kernel
theorem dX2_takeSceneOf_69 : decode cX2_takeSceneOf 69 = .ok (.getfield 23, 3) := by decide +kernel
theorem dX2_takeSceneOf_72 : decode cX2_takeSceneOf 72 = .ok (.iload_n 2, 1) := by decide +kernel
theorem dX2_takeSceneOf_73 : decode cX2_takeSceneOf 73 = .ok (.iload_n 1, 1) := by decide +kernel
theorem dX2_takeSceneOf_74 : decode cX2_takeSceneOf 74 = .ok (.invokevirtual 173, 3) := by decide +kernel
theorem dX2_takeSceneOf_77 : decode cX2_takeSceneOf 77 = .ok (.ifCond .eq 10, 3) := by decide +kernel
theorem dX2_takeSceneOf_80 : decode cX2_takeSceneOf 80 = .ok (.aload_n 0, 1) := by decide +kernel
theorem dX2_takeSceneOf_81 : decode cX2_takeSceneOf 81 = .ok (.bipush (-16), 2) := by decide +kernel
theorem dX2_takeSceneOf_83 : decode cX2_takeSceneOf 83 = .ok (.invokevirtual 93, 3) := by decide +kernel
theorem dX2_takeSceneOf_86 : decode cX2_takeSceneOf 86 = .ok (.ireturn, 1) := by decide +kernel
theorem dX2_takeSceneOf_87 : decode cX2_takeSceneOf 87 = .ok (.aload_n 0, 1) := by decide +kernel
theorem dX2_takeSceneOf_88 : decode cX2_takeSceneOf 88 = .ok (.getfield 12, 3) := by decide +kernel
theorem dX2_takeSceneOf_91 : decode cX2_takeSceneOf 91 = .ok (.getfield 170, 3) := by decide +kernel
theorem dX2_takeSceneOf_94 : decode cX2_takeSceneOf 94 = .ok (.iload_n 2, 1) := by decide +kernel
theorem dX2_takeSceneOf_95 : decode cX2_takeSceneOf 95 = .ok (.iload_n 1, 1) := by decide +kernel
theorem dX2_takeSceneOf_96 : decode cX2_takeSceneOf 96 = .ok (.iastore, 1) := by decide +kernel
theorem dX2_takeSceneOf_97 : decode cX2_takeSceneOf 97 = .ok (.aload_n 0, 1) := by decide +kernel
theorem dX2_takeSceneOf_98 : decode cX2_takeSceneOf 98 = .ok (.getfield 23, 3) := by decide +kernel
theorem dX2_takeSceneOf_101 : decode cX2_takeSceneOf 101 = .ok (.iload_n 2, 1) := by decide +kernel
theorem dX2_takeSceneOf_102 : decode cX2_takeSceneOf 102 = .ok (.iload_n 1, 1) := by decide +kernel
theorem dX2_takeSceneOf_103 : decode cX2_takeSceneOf 103 = .ok (.invokevirtual 176, 3) := by decide +kernel
theorem dX2_takeSceneOf_106 : decode cX2_takeSceneOf 106 = .ok (.aload_n 0, 1) := by decide +kernel
theorem dX2_takeSceneOf_107 : decode cX2_takeSceneOf 107 = .ok (.getfield 32, 3) := by decide +kernel
theorem dX2_takeSceneOf_110 : decode cX2_takeSceneOf 110 = .ok (.invokevirtual 100, 3) := by decide +kernel
theorem dX2_takeSceneOf_113 : decode cX2_takeSceneOf 113 = .ok (.iconst 1, 1) := by decide +kernel
theorem dX2_takeSceneOf_114 : decode cX2_takeSceneOf 114 = .ok (.ireturn, 1) := by decide +kernel
theorem dX2_takeCast_0 : decode cX2_takeCast 0 = .ok (.iconst 0, 1) := by decide +kernel
theorem dX2_takeCast_1 : decode cX2_takeCast 1 = .ok (.istore_n 1, 1) := by decide +kernel
theorem dX2_takeCast_2 : decode cX2_takeCast 2 = .ok (.iconst 0, 1) := by decide +kernel
theorem dX2_takeCast_3 : decode cX2_takeCast 3 = .ok (.istore_n 2, 1) := by decide +kernel
theorem dX2_takeCast_4 : decode cX2_takeCast 4 = .ok (.iload_n 2, 1) := by decide +kernel
theorem dX2_takeCast_5 : decode cX2_takeCast 5 = .ok (.bipush 6, 2) := by decide +kernel
theorem dX2_takeCast_7 : decode cX2_takeCast 7 = .ok (.if_icmp .gt 92, 3) := by decide +kernel
theorem dX2_takeCast_10 : decode cX2_takeCast 10 = .ok (.aload_n 0, 1) := by decide +kernel
theorem dX2_takeCast_11 : decode cX2_takeCast 11 = .ok (.getfield 32, 3) := by decide +kernel
theorem dX2_takeCast_14 : decode cX2_takeCast 14 = .ok (.getfield 54, 3) := by decide +kernel
theorem dX2_takeCast_17 : decode cX2_takeCast 17 = .ok (.iconst 3, 1) := by decide +kernel
theorem dX2_takeCast_18 : decode cX2_takeCast 18 = .ok (.if_icmp .eq 81, 3) := by decide +kernel
theorem dX2_takeCast_21 : decode cX2_takeCast 21 = .ok (.aload_n 0, 1) := by decide +kernel
theorem dX2_takeCast_22 : decode cX2_takeCast 22 = .ok (.getfield 32, 3) := by decide +kernel
theorem dX2_takeCast_25 : decode cX2_takeCast 25 = .ok (.invokevirtual 178, 3) := by decide +kernel
theorem dX2_takeCast_28 : decode cX2_takeCast 28 = .ok (.ifCond .ne 10, 3) := by decide +kernel
theorem dX2_takeCast_31 : decode cX2_takeCast 31 = .ok (.aload_n 0, 1) := by decide +kernel
theorem dX2_takeCast_32 : decode cX2_takeCast 32 = .ok (.bipush (-11), 2) := by decide +kernel
theorem dX2_takeCast_34 : decode cX2_takeCast 34 = .ok (.invokevirtual 181, 3) := by decide +kernel
theorem dX2_takeCast_37 : decode cX2_takeCast 37 = .ok (.ireturn, 1) := by decide +kernel
theorem dX2_takeCast_38 : decode cX2_takeCast 38 = .ok (.aload_n 0, 1) := by decide +kernel
theorem dX2_takeCast_39 : decode cX2_takeCast 39 = .ok (.getfield 12, 3) := by decide +kernel
theorem dX2_takeCast_42 : decode cX2_takeCast 42 = .ok (.aload_n 0, 1) := by decide +kernel
theorem dX2_takeCast_43 : decode cX2_takeCast 43 = .ok (.getfield 32, 3) := by decide +kernel
theorem dX2_takeCast_46 : decode cX2_takeCast 46 = .ok (.invokevirtual 185, 3) := by decide +kernel
theorem dX2_takeCast_49 : decode cX2_takeCast 49 = .ok (.invokevirtual 188, 3) := by decide +kernel
theorem dX2_takeCast_52 : decode cX2_takeCast 52 = .ok (.istore_n 3, 1) := by decide +kernel
theorem dX2_takeCast_53 : decode cX2_takeCast 53 = .ok (.iload_n 3, 1) := by decide +kernel
theorem dX2_takeCast_54 : decode cX2_takeCast 54 = .ok (.iconst (-1), 1) := by decide +kernel
theorem dX2_takeCast_55 : decode cX2_takeCast 55 = .ok (.if_icmp .ne 10, 3) := by decide +kernel
theorem dX2_takeCast_58 : decode cX2_takeCast 58 = .ok (.aload_n 0, 1) := by decide +kernel
theorem dX2_takeCast_59 : decode cX2_takeCast 59 = .ok (.bipush (-13), 2) := by decide +kernel
theorem dX2_takeCast_61 : decode cX2_takeCast 61 = .ok (.invokevirtual 181, 3) := by decide +kernel
theorem dX2_takeCast_64 : decode cX2_takeCast 64 = .ok (.ireturn, 1) := by decide +kernel
theorem dX2_takeCast_65 : decode cX2_takeCast 65 = .ok (.iload_n 1, 1) := by decide +kernel
theorem dX2_takeCast_66 : decode cX2_takeCast 66 = .ok (.iload_n 3, 1) := by decide +kernel
theorem dX2_takeCast_67 : decode cX2_takeCast 67 = .ok (.invokestatic 150, 3) := by decide +kernel
theorem dX2_takeCast_70 : decode cX2_takeCast 70 = .ok (.ifCond .eq 10, 3) := by decide +kernel
theorem dX2_takeCast_73 : decode cX2_takeCast 73 = .ok (.aload_n 0, 1) := by decide +kernel
theorem dX2_takeCast_74 : decode cX2_takeCast 74 = .ok (.bipush (-14), 2) := by decide +kernel
theorem dX2_takeCast_76 : decode cX2_takeCast 76 = .ok (.invokevirtual 181, 3) := by decide +kernel
theorem dX2_takeCast_79 : decode cX2_takeCast 79 = .ok (.ireturn, 1) := by decide +kernel
theorem dX2_takeCast_80 : decode cX2_takeCast 80 = .ok (.iload_n 1, 1) := by decide +kernel
theorem dX2_takeCast_81 : decode cX2_takeCast 81 = .ok (.iconst 1, 1) := by decide +kernel
theorem dX2_takeCast_82 : decode cX2_takeCast 82 = .ok (.iload_n 3, 1) := by decide +kernel
theorem dX2_takeCast_83 : decode cX2_takeCast 83 = .ok (.ishl, 1) := by decide +kernel
theorem dX2_takeCast_84 : decode cX2_takeCast 84 = .ok (.ior, 1) := by decide +kernel
theorem dX2_takeCast_85 : decode cX2_takeCast 85 = .ok (.istore_n 1, 1) := by decide +kernel
theorem dX2_takeCast_86 : decode cX2_takeCast 86 = .ok (.aload_n 0, 1) := by decide +kernel
theorem dX2_takeCast_87 : decode cX2_takeCast 87 = .ok (.getfield 32, 3) := by decide +kernel
theorem dX2_takeCast_90 : decode cX2_takeCast 90 = .ok (.invokevirtual 100, 3) := by decide +kernel
theorem dX2_takeCast_93 : decode cX2_takeCast 93 = .ok (.iinc 2 1, 3) := by decide +kernel
theorem dX2_takeCast_96 : decode cX2_takeCast 96 = .ok (.goto (-92), 3) := by decide +kernel
theorem dX2_takeCast_99 : decode cX2_takeCast 99 = .ok (.iload_n 1, 1) := by decide +kernel
theorem dX2_takeCast_100 : decode cX2_takeCast 100 = .ok (.ireturn, 1) := by decide +kernel
theorem dX2_takeNewName_0 : decode cX2_takeNewName 0 = .ok (.aload_n 0, 1) := by decide +kernel
theorem dX2_takeNewName_1 : decode cX2_takeNewName 1 = .ok (.getfield 32, 3) := by decide +kernel
theorem dX2_takeNewName_4 : decode cX2_takeNewName 4 = .ok (.invokevirtual 178, 3) := by decide +kernel
theorem dX2_takeNewName_7 : decode cX2_takeNewName 7 = .ok (.ifCond .ne 10, 3) := by decide +kernel
theorem dX2_takeNewName_10 : decode cX2_takeNewName 10 = .ok (.aload_n 0, 1) := by decide +kernel
theorem dX2_takeNewName_11 : decode cX2_takeNewName 11 = .ok (.bipush (-11), 2) := by decide +kernel
theorem dX2_takeNewName_13 : decode cX2_takeNewName 13 = .ok (.invokevirtual 181, 3) := by decide +kernel
theorem dX2_takeNewName_16 : decode cX2_takeNewName 16 = .ok (.ireturn, 1) := by decide +kernel
theorem dX2_takeNewName_17 : decode cX2_takeNewName 17 = .ok (.aload_n 0, 1) := by decide +kernel
theorem dX2_takeNewName_18 : decode cX2_takeNewName 18 = .ok (.getfield 32, 3) := by decide +kernel
theorem dX2_takeNewName_21 : decode cX2_takeNewName 21 = .ok (.invokevirtual 185, 3) := by decide +kernel
theorem dX2_takeNewName_24 : decode cX2_takeNewName 24 = .ok (.istore_n 1, 1) := by decide +kernel
theorem dX2_takeNewName_25 : decode cX2_takeNewName 25 = .ok (.aload_n 0, 1) := by decide +kernel
theorem dX2_takeNewName_26 : decode cX2_takeNewName 26 = .ok (.getfield 12, 3) := by decide +kernel
theorem dX2_takeNewName_29 : decode cX2_takeNewName 29 = .ok (.iload_n 1, 1) := by decide +kernel
theorem dX2_takeNewName_30 : decode cX2_takeNewName 30 = .ok (.invokevirtual 191, 3) := by decide +kernel
theorem dX2_takeNewName_33 : decode cX2_takeNewName 33 = .ok (.iconst (-1), 1) := by decide +kernel
theorem dX2_takeNewName_34 : decode cX2_takeNewName 34 = .ok (.if_icmp .ne 15, 3) := by decide +kernel
theorem dX2_takeNewName_37 : decode cX2_takeNewName 37 = .ok (.aload_n 0, 1) := by decide +kernel
theorem dX2_takeNewName_38 : decode cX2_takeNewName 38 = .ok (.getfield 12, 3) := by decide +kernel
theorem dX2_takeNewName_41 : decode cX2_takeNewName 41 = .ok (.iload_n 1, 1) := by decide +kernel
theorem dX2_takeNewName_42 : decode cX2_takeNewName 42 = .ok (.invokevirtual 188, 3) := by decide +kernel
theorem dX2_takeNewName_45 : decode cX2_takeNewName 45 = .ok (.iconst (-1), 1) := by decide +kernel
theorem dX2_takeNewName_46 : decode cX2_takeNewName 46 = .ok (.if_icmp .eq 10, 3) := by decide +kernel
theorem dX2_takeNewName_49 : decode cX2_takeNewName 49 = .ok (.aload_n 0, 1) := by decide +kernel
theorem dX2_takeNewName_50 : decode cX2_takeNewName 50 = .ok (.bipush (-14), 2) := by decide +kernel
theorem dX2_takeNewName_52 : decode cX2_takeNewName 52 = .ok (.invokevirtual 181, 3) := by decide +kernel
theorem dX2_takeNewName_55 : decode cX2_takeNewName 55 = .ok (.ireturn, 1) := by decide +kernel
theorem dX2_takeNewName_56 : decode cX2_takeNewName 56 = .ok (.aload_n 0, 1) := by decide +kernel
theorem dX2_takeNewName_57 : decode cX2_takeNewName 57 = .ok (.getfield 32, 3) := by decide +kernel
theorem dX2_takeNewName_60 : decode cX2_takeNewName 60 = .ok (.invokevirtual 100, 3) := by decide +kernel
theorem dX2_takeNewName_63 : decode cX2_takeNewName 63 = .ok (.iload_n 1, 1) := by decide +kernel
theorem dX2_takeNewName_64 : decode cX2_takeNewName 64 = .ok (.ireturn, 1) := by decide +kernel
theorem dX2_takeLocation_0 : decode cX2_takeLocation 0 = .ok (.aload_n 0, 1) := by decide +kernel
theorem dX2_takeLocation_1 : decode cX2_takeLocation 1 = .ok (.getfield 32, 3) := by decide +kernel
theorem dX2_takeLocation_4 : decode cX2_takeLocation 4 = .ok (.invokevirtual 178, 3) := by decide +kernel
theorem dX2_takeLocation_7 : decode cX2_takeLocation 7 = .ok (.ifCond .ne 10, 3) := by decide +kernel
theorem dX2_takeLocation_10 : decode cX2_takeLocation 10 = .ok (.aload_n 0, 1) := by decide +kernel
theorem dX2_takeLocation_11 : decode cX2_takeLocation 11 = .ok (.bipush (-11), 2) := by decide +kernel
theorem dX2_takeLocation_13 : decode cX2_takeLocation 13 = .ok (.invokevirtual 181, 3) := by decide +kernel
theorem dX2_takeLocation_16 : decode cX2_takeLocation 16 = .ok (.ireturn, 1) := by decide +kernel
theorem dX2_takeLocation_17 : decode cX2_takeLocation 17 = .ok (.aload_n 0, 1) := by decide +kernel
theorem dX2_takeLocation_18 : decode cX2_takeLocation 18 = .ok (.getfield 12, 3) := by decide +kernel
theorem dX2_takeLocation_21 : decode cX2_takeLocation 21 = .ok (.aload_n 0, 1) := by decide +kernel
theorem dX2_takeLocation_22 : decode cX2_takeLocation 22 = .ok (.getfield 32, 3) := by decide +kernel
theorem dX2_takeLocation_25 : decode cX2_takeLocation 25 = .ok (.invokevirtual 185, 3) := by decide +kernel
theorem dX2_takeLocation_28 : decode cX2_takeLocation 28 = .ok (.invokevirtual 191, 3) := by decide +kernel
theorem dX2_takeLocation_31 : decode cX2_takeLocation 31 = .ok (.istore_n 1, 1) := by decide +kernel
theorem dX2_takeLocation_32 : decode cX2_takeLocation 32 = .ok (.iload_n 1, 1) := by decide +kernel
theorem dX2_takeLocation_33 : decode cX2_takeLocation 33 = .ok (.iconst (-1), 1) := by decide +kernel
theorem dX2_takeLocation_34 : decode cX2_takeLocation 34 = .ok (.if_icmp .ne 10, 3) := by decide +kernel
theorem dX2_takeLocation_37 : decode cX2_takeLocation 37 = .ok (.aload_n 0, 1) := by decide +kernel
theorem dX2_takeLocation_38 : decode cX2_takeLocation 38 = .ok (.bipush (-13), 2) := by decide +kernel
theorem dX2_takeLocation_40 : decode cX2_takeLocation 40 = .ok (.invokevirtual 181, 3) := by decide +kernel
theorem dX2_takeLocation_43 : decode cX2_takeLocation 43 = .ok (.ireturn, 1) := by decide +kernel
theorem dX2_takeLocation_44 : decode cX2_takeLocation 44 = .ok (.aload_n 0, 1) := by decide +kernel
theorem dX2_takeLocation_45 : decode cX2_takeLocation 45 = .ok (.getfield 32, 3) := by decide +kernel
theorem dX2_takeLocation_48 : decode cX2_takeLocation 48 = .ok (.invokevirtual 100, 3) := by decide +kernel
theorem dX2_takeLocation_51 : decode cX2_takeLocation 51 = .ok (.iload_n 1, 1) := by decide +kernel
theorem dX2_takeLocation_52 : decode cX2_takeLocation 52 = .ok (.ireturn, 1) := by decide +kernel
theorem dX2_takeInteger_0 : decode cX2_takeInteger 0 = .ok (.aload_n 0, 1) := by decide +kernel
theorem dX2_takeInteger_1 : decode cX2_takeInteger 1 = .ok (.getfield 32, 3) := by decide +kernel
theorem dX2_takeInteger_4 : decode cX2_takeInteger 4 = .ok (.getfield 54, 3) := by decide +kernel
theorem dX2_takeInteger_7 : decode cX2_takeInteger 7 = .ok (.iconst 2, 1) := by decide +kernel
theorem dX2_takeInteger_8 : decode cX2_takeInteger 8 = .ok (.if_icmp .eq 10, 3) := by decide +kernel
theorem dX2_takeInteger_11 : decode cX2_takeInteger 11 = .ok (.aload_n 0, 1) := by decide +kernel
theorem dX2_takeInteger_12 : decode cX2_takeInteger 12 = .ok (.bipush (-11), 2) := by decide +kernel
theorem dX2_takeInteger_14 : decode cX2_takeInteger 14 = .ok (.invokevirtual 181, 3) := by decide +kernel
theorem dX2_takeInteger_17 : decode cX2_takeInteger 17 = .ok (.ireturn, 1) := by decide +kernel
theorem dX2_takeInteger_18 : decode cX2_takeInteger 18 = .ok (.aload_n 0, 1) := by decide +kernel
theorem dX2_takeInteger_19 : decode cX2_takeInteger 19 = .ok (.getfield 32, 3) := by decide +kernel
theorem dX2_takeInteger_22 : decode cX2_takeInteger 22 = .ok (.getfield 167, 3) := by decide +kernel
theorem dX2_takeInteger_25 : decode cX2_takeInteger 25 = .ok (.istore_n 3, 1) := by decide +kernel
theorem dX2_takeInteger_26 : decode cX2_takeInteger 26 = .ok (.iload_n 3, 1) := by decide +kernel
theorem dX2_takeInteger_27 : decode cX2_takeInteger 27 = .ok (.iload_n 1, 1) := by decide +kernel
theorem dX2_takeInteger_28 : decode cX2_takeInteger 28 = .ok (.if_icmp .lt 8, 3) := by decide +kernel
theorem dX2_takeInteger_31 : decode cX2_takeInteger 31 = .ok (.iload_n 3, 1) := by decide +kernel
theorem dX2_takeInteger_32 : decode cX2_takeInteger 32 = .ok (.iload_n 2, 1) := by decide +kernel
theorem dX2_takeInteger_33 : decode cX2_takeInteger 33 = .ok (.if_icmp .le 10, 3) := by decide +kernel
theorem dX2_takeInteger_36 : decode cX2_takeInteger 36 = .ok (.aload_n 0, 1) := by decide +kernel
theorem dX2_takeInteger_37 : decode cX2_takeInteger 37 = .ok (.bipush (-12), 2) := by decide +kernel
theorem dX2_takeInteger_39 : decode cX2_takeInteger 39 = .ok (.invokevirtual 181, 3) := by decide +kernel
theorem dX2_takeInteger_42 : decode cX2_takeInteger 42 = .ok (.ireturn, 1) := by decide +kernel
theorem dX2_takeInteger_43 : decode cX2_takeInteger 43 = .ok (.aload_n 0, 1) := by decide +kernel
theorem dX2_takeInteger_44 : decode cX2_takeInteger 44 = .ok (.getfield 32, 3) := by decide +kernel
theorem dX2_takeInteger_47 : decode cX2_takeInteger 47 = .ok (.invokevirtual 100, 3) := by decide +kernel
theorem dX2_takeInteger_50 : decode cX2_takeInteger 50 = .ok (.iload_n 3, 1) := by decide +kernel
theorem dX2_takeInteger_51 : decode cX2_takeInteger 51 = .ok (.ireturn, 1) := by decide +kernel
theorem dX2_takeSemicolon_0 : decode cX2_takeSemicolon 0 = .ok (.aload_n 0, 1) := by decide +kernel
theorem dX2_takeSemicolon_1 : decode cX2_takeSemicolon 1 = .ok (.getfield 32, 3) := by decide +kernel
theorem dX2_takeSemicolon_4 : decode cX2_takeSemicolon 4 = .ok (.getfield 54, 3) := by decide +kernel
theorem dX2_takeSemicolon_7 : decode cX2_takeSemicolon 7 = .ok (.iconst 3, 1) := by decide +kernel
theorem dX2_takeSemicolon_8 : decode cX2_takeSemicolon 8 = .ok (.if_icmp .eq 10, 3) := by decide +kernel
theorem dX2_takeSemicolon_11 : decode cX2_takeSemicolon 11 = .ok (.aload_n 0, 1) := by decide +kernel
theorem dX2_takeSemicolon_12 : decode cX2_takeSemicolon 12 = .ok (.bipush (-11), 2) := by decide +kernel
theorem dX2_takeSemicolon_14 : decode cX2_takeSemicolon 14 = .ok (.invokevirtual 93, 3) := by decide +kernel
theorem dX2_takeSemicolon_17 : decode cX2_takeSemicolon 17 = .ok (.ireturn, 1) := by decide +kernel
theorem dX2_takeSemicolon_18 : decode cX2_takeSemicolon 18 = .ok (.aload_n 0, 1) := by decide +kernel
theorem dX2_takeSemicolon_19 : decode cX2_takeSemicolon 19 = .ok (.getfield 32, 3) := by decide +kernel
theorem dX2_takeSemicolon_22 : decode cX2_takeSemicolon 22 = .ok (.invokevirtual 100, 3) := by decide +kernel
theorem dX2_takeSemicolon_25 : decode cX2_takeSemicolon 25 = .ok (.iconst 1, 1) := by decide +kernel
theorem dX2_takeSemicolon_26 : decode cX2_takeSemicolon 26 = .ok (.ireturn, 1) := by decide +kernel
theorem dX2_settingHere_0 : decode cX2_settingHere 0 = .ok (.aload_n 0, 1) := by decide +kernel
theorem dX2_settingHere_1 : decode cX2_settingHere 1 = .ok (.getfield 32, 3) := by decide +kernel
theorem dX2_settingHere_4 : decode cX2_settingHere 4 = .ok (.ldc 194, 2) := by decide +kernel
theorem dX2_settingHere_6 : decode cX2_settingHere 6 = .ok (.invokevirtual 66, 3) := by decide +kernel
theorem dX2_settingHere_9 : decode cX2_settingHere 9 = .ok (.ifCond .eq 5, 3) := by decide +kernel
theorem dX2_settingHere_12 : decode cX2_settingHere 12 = .ok (.iconst 0, 1) := by decide +kernel
theorem dX2_settingHere_13 : decode cX2_settingHere 13 = .ok (.ireturn, 1) := by decide +kernel
theorem dX2_settingHere_14 : decode cX2_settingHere 14 = .ok (.aload_n 0, 1) := by decide +kernel
theorem dX2_settingHere_15 : decode cX2_settingHere 15 = .ok (.getfield 32, 3) := by decide +kernel
theorem dX2_settingHere_18 : decode cX2_settingHere 18 = .ok (.ldc 196, 2) := by decide +kernel
theorem dX2_settingHere_20 : decode cX2_settingHere 20 = .ok (.invokevirtual 66, 3) := by decide +kernel
theorem dX2_settingHere_23 : decode cX2_settingHere 23 = .ok (.ifCond .eq 5, 3) := by decide +kernel
theorem dX2_settingHere_26 : decode cX2_settingHere 26 = .ok (.iconst 1, 1) := by decide +kernel
theorem dX2_settingHere_27 : decode cX2_settingHere 27 = .ok (.ireturn, 1) := by decide +kernel
theorem dX2_settingHere_28 : decode cX2_settingHere 28 = .ok (.aload_n 0, 1) := by decide +kernel
theorem dX2_settingHere_29 : decode cX2_settingHere 29 = .ok (.getfield 32, 3) := by decide +kernel
theorem dX2_settingHere_32 : decode cX2_settingHere 32 = .ok (.ldc 198, 2) := by decide +kernel
theorem dX2_settingHere_34 : decode cX2_settingHere 34 = .ok (.invokevirtual 66, 3) := by decide +kernel
theorem dX2_settingHere_37 : decode cX2_settingHere 37 = .ok (.ifCond .eq 5, 3) := by decide +kernel
theorem dX2_settingHere_40 : decode cX2_settingHere 40 = .ok (.iconst 2, 1) := by decide +kernel
theorem dX2_settingHere_41 : decode cX2_settingHere 41 = .ok (.ireturn, 1) := by decide +kernel
theorem dX2_settingHere_42 : decode cX2_settingHere 42 = .ok (.aload_n 0, 1) := by decide +kernel
theorem dX2_settingHere_43 : decode cX2_settingHere 43 = .ok (.getfield 32, 3) := by decide +kernel
theorem dX2_settingHere_46 : decode cX2_settingHere 46 = .ok (.ldc 200, 2) := by decide +kernel
theorem dX2_settingHere_48 : decode cX2_settingHere 48 = .ok (.invokevirtual 66, 3) := by decide +kernel
theorem dX2_settingHere_51 : decode cX2_settingHere 51 = .ok (.ifCond .eq 7, 3) := by decide +kernel
theorem dX2_settingHere_54 : decode cX2_settingHere 54 = .ok (.iconst 3, 1) := by decide +kernel
theorem dX2_settingHere_55 : decode cX2_settingHere 55 = .ok (.goto 4, 3) := by decide +kernel
theorem dX2_settingHere_58 : decode cX2_settingHere 58 = .ok (.iconst (-1), 1) := by decide +kernel
theorem dX2_settingHere_59 : decode cX2_settingHere 59 = .ok (.ireturn, 1) := by decide +kernel
theorem dX2_fail_0 : decode cX2_fail 0 = .ok (.aload_n 0, 1) := by decide +kernel
theorem dX2_fail_1 : decode cX2_fail 1 = .ok (.iload_n 1, 1) := by decide +kernel
theorem dX2_fail_2 : decode cX2_fail 2 = .ok (.putfield 61, 3) := by decide +kernel
theorem dX2_fail_5 : decode cX2_fail 5 = .ok (.aload_n 0, 1) := by decide +kernel
theorem dX2_fail_6 : decode cX2_fail 6 = .ok (.aload_n 0, 1) := by decide +kernel
theorem dX2_fail_7 : decode cX2_fail 7 = .ok (.getfield 32, 3) := by decide +kernel
theorem dX2_fail_10 : decode cX2_fail 10 = .ok (.getfield 202, 3) := by decide +kernel
theorem dX2_fail_13 : decode cX2_fail 13 = .ok (.putfield 205, 3) := by decide +kernel
theorem dX2_fail_16 : decode cX2_fail 16 = .ok (.iconst 0, 1) := by decide +kernel
theorem dX2_fail_17 : decode cX2_fail 17 = .ok (.ireturn, 1) := by decide +kernel
theorem dX2_failed_0 : decode cX2_failed 0 = .ok (.aload_n 0, 1) := by decide +kernel
theorem dX2_failed_1 : decode cX2_failed 1 = .ok (.iload_n 1, 1) := by decide +kernel
theorem dX2_failed_2 : decode cX2_failed 2 = .ok (.invokevirtual 93, 3) := by decide +kernel
theorem dX2_failed_5 : decode cX2_failed 5 = .ok (.pop, 1) := by decide +kernel
theorem dX2_failed_6 : decode cX2_failed 6 = .ok (.iconst (-1), 1) := by decide +kernel
theorem dX2_failed_7 : decode cX2_failed 7 = .ok (.ireturn, 1) := by decide +kernel
theorem dX3_init_0 : decode cX3_init 0 = .ok (.aload_n 0, 1) := by decide +kernel
theorem dX3_init_1 : decode cX3_init 1 = .ok (.invokespecial 3, 3) := by decide +kernel
theorem dX3_init_4 : decode cX3_init 4 = .ok (.aload_n 0, 1) := by decide +kernel
theorem dX3_init_5 : decode cX3_init 5 = .ok (.bipush 7, 2) := by decide +kernel
theorem dX3_init_7 : decode cX3_init 7 = .ok (.newarray .int, 2) := by decide +kernel
theorem dX3_init_9 : decode cX3_init 9 = .ok (.putfield 11, 3) := by decide +kernel
theorem dX3_init_12 : decode cX3_init 12 = .ok (.aload_n 0, 1) := by decide +kernel
theorem dX3_init_13 : decode cX3_init 13 = .ok (.bipush 7, 2) := by decide +kernel
theorem dX3_init_15 : decode cX3_init 15 = .ok (.newarray .int, 2) := by decide +kernel
theorem dX3_init_17 : decode cX3_init 17 = .ok (.putfield 15, 3) := by decide +kernel
theorem dX3_init_20 : decode cX3_init 20 = .ok (.aload_n 0, 1) := by decide +kernel
theorem dX3_init_21 : decode cX3_init 21 = .ok (.bipush 7, 2) := by decide +kernel
theorem dX3_init_23 : decode cX3_init 23 = .ok (.newarray .int, 2) := by decide +kernel
theorem dX3_init_25 : decode cX3_init 25 = .ok (.putfield 18, 3) := by decide +kernel
theorem dX3_init_28 : decode cX3_init 28 = .ok (.aload_n 0, 1) := by decide +kernel
theorem dX3_init_29 : decode cX3_init 29 = .ok (.bipush 6, 2) := by decide +kernel
theorem dX3_init_31 : decode cX3_init 31 = .ok (.newarray .int, 2) := by decide +kernel
theorem dX3_init_33 : decode cX3_init 33 = .ok (.putfield 21, 3) := by decide +kernel
theorem dX3_init_36 : decode cX3_init 36 = .ok (.aload_n 0, 1) := by decide +kernel
theorem dX3_init_37 : decode cX3_init 37 = .ok (.sipush 128, 3) := by decide +kernel
theorem dX3_init_40 : decode cX3_init 40 = .ok (.newarray .int, 2) := by decide +kernel
theorem dX3_init_42 : decode cX3_init 42 = .ok (.putfield 24, 3) := by decide +kernel
theorem dX3_init_45 : decode cX3_init 45 = .ok (.aload_n 0, 1) := by decide +kernel
theorem dX3_init_46 : decode cX3_init 46 = .ok (.aload_n 1, 1) := by decide +kernel
theorem dX3_init_47 : decode cX3_init 47 = .ok (.putfield 27, 3) := by decide +kernel
theorem dX3_init_50 : decode cX3_init 50 = .ok (.aload_n 0, 1) := by decide +kernel
theorem dX3_init_51 : decode cX3_init 51 = .ok (.aload_n 2, 1) := by decide +kernel
theorem dX3_init_52 : decode cX3_init 52 = .ok (.putfield 31, 3) := by decide +kernel
theorem dX3_init_55 : decode cX3_init 55 = .ok (.return_, 1) := by decide +kernel
theorem dX3_forgetResult_0 : decode cX3_forgetResult 0 = .ok (.aload_n 0, 1) := by decide +kernel
theorem dX3_forgetResult_1 : decode cX3_forgetResult 1 = .ok (.iconst 0, 1) := by decide +kernel
theorem dX3_forgetResult_2 : decode cX3_forgetResult 2 = .ok (.putfield 35, 3) := by decide +kernel
theorem dX3_forgetResult_5 : decode cX3_forgetResult 5 = .ok (.return_, 1) := by decide +kernel
theorem dX3_leastCost_0 : decode cX3_leastCost 0 = .ok (.aload_n 0, 1) := by decide +kernel
theorem dX3_leastCost_1 : decode cX3_leastCost 1 = .ok (.getfield 35, 3) := by decide +kernel
theorem dX3_leastCost_4 : decode cX3_leastCost 4 = .ok (.ifCond .ne 43, 3) := by decide +kernel
theorem dX3_leastCost_7 : decode cX3_leastCost 7 = .ok (.aload_n 0, 1) := by decide +kernel
theorem dX3_leastCost_8 : decode cX3_leastCost 8 = .ok (.iconst 1, 1) := by decide +kernel
theorem dX3_leastCost_9 : decode cX3_leastCost 9 = .ok (.putfield 35, 3) := by decide +kernel
theorem dX3_leastCost_12 : decode cX3_leastCost 12 = .ok (.aload_n 0, 1) := by decide +kernel
theorem dX3_leastCost_13 : decode cX3_leastCost 13 = .ok (.iconst (-1), 1) := by decide +kernel
theorem dX3_leastCost_14 : decode cX3_leastCost 14 = .ok (.putfield 39, 3) := by decide +kernel
theorem dX3_leastCost_17 : decode cX3_leastCost 17 = .ok (.aload_n 0, 1) := by decide +kernel
theorem dX3_leastCost_18 : decode cX3_leastCost 18 = .ok (.invokevirtual 43, 3) := by decide +kernel
theorem dX3_leastCost_21 : decode cX3_leastCost 21 = .ok (.ifCond .eq 20, 3) := by decide +kernel
theorem dX3_leastCost_24 : decode cX3_leastCost 24 = .ok (.aload_n 0, 1) := by decide +kernel
theorem dX3_leastCost_25 : decode cX3_leastCost 25 = .ok (.invokevirtual 47, 3) := by decide +kernel
theorem dX3_leastCost_28 : decode cX3_leastCost 28 = .ok (.aload_n 0, 1) := by decide +kernel
theorem dX3_leastCost_29 : decode cX3_leastCost 29 = .ok (.iconst 0, 1) := by decide +kernel
theorem dX3_leastCost_30 : decode cX3_leastCost 30 = .ok (.iconst 0, 1) := by decide +kernel
theorem dX3_leastCost_31 : decode cX3_leastCost 31 = .ok (.aload_n 0, 1) := by decide +kernel
theorem dX3_leastCost_32 : decode cX3_leastCost 32 = .ok (.invokevirtual 50, 3) := by decide +kernel
theorem dX3_leastCost_35 : decode cX3_leastCost 35 = .ok (.invokevirtual 54, 3) := by decide +kernel
theorem dX3_leastCost_38 : decode cX3_leastCost 38 = .ok (.goto 9, 3) := by decide +kernel
theorem dX3_leastCost_41 : decode cX3_leastCost 41 = .ok (.aload_n 0, 1) := by decide +kernel
theorem dX3_leastCost_42 : decode cX3_leastCost 42 = .ok (.bipush (-4), 2) := by decide +kernel
theorem dX3_leastCost_44 : decode cX3_leastCost 44 = .ok (.putfield 39, 3) := by decide +kernel
theorem dX3_leastCost_47 : decode cX3_leastCost 47 = .ok (.aload_n 0, 1) := by decide +kernel
theorem dX3_leastCost_48 : decode cX3_leastCost 48 = .ok (.getfield 39, 3) := by decide +kernel
theorem dX3_leastCost_51 : decode cX3_leastCost 51 = .ok (.ireturn, 1) := by decide +kernel
theorem dX3_placeOf_0 : decode cX3_placeOf 0 = .ok (.iconst 0, 1) := by decide +kernel
theorem dX3_placeOf_1 : decode cX3_placeOf 1 = .ok (.istore_n 2, 1) := by decide +kernel
theorem dX3_placeOf_2 : decode cX3_placeOf 2 = .ok (.iload_n 2, 1) := by decide +kernel
theorem dX3_placeOf_3 : decode cX3_placeOf 3 = .ok (.aload_n 0, 1) := by decide +kernel
theorem dX3_placeOf_4 : decode cX3_placeOf 4 = .ok (.getfield 58, 3) := by decide +kernel
theorem dX3_placeOf_7 : decode cX3_placeOf 7 = .ok (.if_icmp .ge 21, 3) := by decide +kernel
theorem dX3_placeOf_10 : decode cX3_placeOf 10 = .ok (.aload_n 0, 1) := by decide +kernel
theorem dX3_placeOf_11 : decode cX3_placeOf 11 = .ok (.getfield 11, 3) := by decide +kernel
theorem dX3_placeOf_14 : decode cX3_placeOf 14 = .ok (.iload_n 2, 1) := by decide +kernel
theorem dX3_placeOf_15 : decode cX3_placeOf 15 = .ok (.iaload, 1) := by decide +kernel
theorem dX3_placeOf_16 : decode cX3_placeOf 16 = .ok (.iload_n 1, 1) := by decide +kernel
theorem dX3_placeOf_17 : decode cX3_placeOf 17 = .ok (.if_icmp .ne 5, 3) := by decide +kernel
theorem dX3_placeOf_20 : decode cX3_placeOf 20 = .ok (.iload_n 2, 1) := by decide +kernel
theorem dX3_placeOf_21 : decode cX3_placeOf 21 = .ok (.ireturn, 1) := by decide +kernel
theorem dX3_placeOf_22 : decode cX3_placeOf 22 = .ok (.iinc 2 1, 3) := by decide +kernel
theorem dX3_placeOf_25 : decode cX3_placeOf 25 = .ok (.goto (-23), 3) := by decide +kernel
theorem dX3_placeOf_28 : decode cX3_placeOf 28 = .ok (.iconst (-1), 1) := by decide +kernel
theorem dX3_placeOf_29 : decode cX3_placeOf 29 = .ok (.ireturn, 1) := by decide +kernel
theorem dX3_listDays_0 : decode cX3_listDays 0 = .ok (.aload_n 0, 1) := by decide +kernel
theorem dX3_listDays_1 : decode cX3_listDays 1 = .ok (.iconst 0, 1) := by decide +kernel
theorem dX3_listDays_2 : decode cX3_listDays 2 = .ok (.putfield 58, 3) := by decide +kernel
theorem dX3_listDays_5 : decode cX3_listDays 5 = .ok (.iconst 0, 1) := by decide +kernel
theorem dX3_listDays_6 : decode cX3_listDays 6 = .ok (.istore_n 1, 1) := by decide +kernel
theorem dX3_listDays_7 : decode cX3_listDays 7 = .ok (.iload_n 1, 1) := by decide +kernel
theorem dX3_listDays_8 : decode cX3_listDays 8 = .ok (.bipush 12, 2) := by decide +kernel
theorem dX3_listDays_10 : decode cX3_listDays 10 = .ok (.if_icmp .ge 51, 3) := by decide +kernel
theorem dX3_listDays_13 : decode cX3_listDays 13 = .ok (.aload_n 0, 1) := by decide +kernel
theorem dX3_listDays_14 : decode cX3_listDays 14 = .ok (.getfield 31, 3) := by decide +kernel
theorem dX3_listDays_17 : decode cX3_listDays 17 = .ok (.iload_n 1, 1) := by decide +kernel
theorem dX3_listDays_18 : decode cX3_listDays 18 = .ok (.invokevirtual 61, 3) := by decide +kernel
theorem dX3_listDays_21 : decode cX3_listDays 21 = .ok (.ifCond .ne 34, 3) := by decide +kernel
theorem dX3_listDays_24 : decode cX3_listDays 24 = .ok (.aload_n 0, 1) := by decide +kernel
theorem dX3_listDays_25 : decode cX3_listDays 25 = .ok (.getfield 58, 3) := by decide +kernel
theorem dX3_listDays_28 : decode cX3_listDays 28 = .ok (.bipush 7, 2) := by decide +kernel
theorem dX3_listDays_30 : decode cX3_listDays 30 = .ok (.if_icmp .lt 5, 3) := by decide +kernel
theorem dX3_listDays_33 : decode cX3_listDays 33 = .ok (.iconst 0, 1) := by decide +kernel
theorem dX3_listDays_34 : decode cX3_listDays 34 = .ok (.ireturn, 1) := by decide +kernel
theorem dX3_listDays_35 : decode cX3_listDays 35 = .ok (.aload_n 0, 1) := by decide +kernel
theorem dX3_listDays_36 : decode cX3_listDays 36 = .ok (.getfield 15, 3) := by decide +kernel
theorem dX3_listDays_39 : decode cX3_listDays 39 = .ok (.aload_n 0, 1) := by decide +kernel
theorem dX3_listDays_40 : decode cX3_listDays 40 = .ok (.getfield 58, 3) := by decide +kernel
theorem dX3_listDays_43 : decode cX3_listDays 43 = .ok (.iload_n 1, 1) := by decide +kernel
theorem dX3_listDays_44 : decode cX3_listDays 44 = .ok (.iastore, 1) := by decide +kernel
theorem dX3_listDays_45 : decode cX3_listDays 45 = .ok (.aload_n 0, 1) := by decide +kernel
theorem dX3_listDays_46 : decode cX3_listDays 46 = .ok (.dup, 1) := by decide +kernel
theorem dX3_listDays_47 : decode cX3_listDays 47 = .ok (.getfield 58, 3) := by decide +kernel
theorem dX3_listDays_50 : decode cX3_listDays 50 = .ok (.iconst 1, 1) := by decide +kernel
theorem dX3_listDays_51 : decode cX3_listDays 51 = .ok (.iadd, 1) := by decide +kernel
theorem dX3_listDays_52 : decode cX3_listDays 52 = .ok (.putfield 58, 3) := by decide +kernel
theorem dX3_listDays_55 : decode cX3_listDays 55 = .ok (.iinc 1 1, 3) := by decide +kernel
theorem dX3_listDays_58 : decode cX3_listDays 58 = .ok (.goto (-51), 3) := by decide +kernel
theorem dX3_listDays_61 : decode cX3_listDays 61 = .ok (.iconst 1, 1) := by decide +kernel
theorem dX3_listDays_62 : decode cX3_listDays 62 = .ok (.ireturn, 1) := by decide +kernel
theorem dX3_prepareWork_0 : decode cX3_prepareWork 0 = .ok (.aload_n 0, 1) := by decide +kernel
theorem dX3_prepareWork_1 : decode cX3_prepareWork 1 = .ok (.getfield 21, 3) := by decide +kernel
theorem dX3_prepareWork_4 : decode cX3_prepareWork 4 = .ok (.iconst 0, 1) := by decide +kernel
theorem dX3_prepareWork_5 : decode cX3_prepareWork 5 = .ok (.invokestatic 67, 3) := by decide +kernel
theorem dX3_prepareWork_8 : decode cX3_prepareWork 8 = .ok (.iconst 0, 1) := by decide +kernel
theorem dX3_prepareWork_9 : decode cX3_prepareWork 9 = .ok (.istore_n 1, 1) := by decide +kernel
theorem dX3_prepareWork_10 : decode cX3_prepareWork 10 = .ok (.iload_n 1, 1) := by decide +kernel
theorem dX3_prepareWork_11 : decode cX3_prepareWork 11 = .ok (.sipush 128, 3) := by decide +kernel
theorem dX3_prepareWork_14 : decode cX3_prepareWork 14 = .ok (.if_icmp .ge 31, 3) := by decide +kernel
theorem dX3_prepareWork_17 : decode cX3_prepareWork 17 = .ok (.aload_n 0, 1) := by decide +kernel
theorem dX3_prepareWork_18 : decode cX3_prepareWork 18 = .ok (.getfield 24, 3) := by decide +kernel
theorem dX3_prepareWork_21 : decode cX3_prepareWork 21 = .ok (.iload_n 1, 1) := by decide +kernel
theorem dX3_prepareWork_22 : decode cX3_prepareWork 22 = .ok (.iload_n 1, 1) := by decide +kernel
theorem dX3_prepareWork_23 : decode cX3_prepareWork 23 = .ok (.aload_n 0, 1) := by decide +kernel
theorem dX3_prepareWork_24 : decode cX3_prepareWork 24 = .ok (.getfield 27, 3) := by decide +kernel
theorem dX3_prepareWork_27 : decode cX3_prepareWork 27 = .ok (.getfield 73, 3) := by decide +kernel
theorem dX3_prepareWork_30 : decode cX3_prepareWork 30 = .ok (.iconst 3, 1) := by decide +kernel
theorem dX3_prepareWork_31 : decode cX3_prepareWork 31 = .ok (.iaload, 1) := by decide +kernel
theorem dX3_prepareWork_32 : decode cX3_prepareWork 32 = .ok (.invokestatic 78, 3) := by decide +kernel
theorem dX3_prepareWork_35 : decode cX3_prepareWork 35 = .ok (.invokestatic 84, 3) := by decide +kernel
theorem dX3_prepareWork_38 : decode cX3_prepareWork 38 = .ok (.iastore, 1) := by decide +kernel
theorem dX3_prepareWork_39 : decode cX3_prepareWork 39 = .ok (.iinc 1 1, 3) := by decide +kernel
theorem dX3_prepareWork_42 : decode cX3_prepareWork 42 = .ok (.goto (-32), 3) := by decide +kernel
theorem dX3_prepareWork_45 : decode cX3_prepareWork 45 = .ok (.return_, 1) := by decide +kernel
theorem dX3_fixedCost_0 : decode cX3_fixedCost 0 = .ok (.iconst 0, 1) := by decide +kernel
theorem dX3_fixedCost_1 : decode cX3_fixedCost 1 = .ok (.istore_n 1, 1) := by decide +kernel
theorem dX3_fixedCost_2 : decode cX3_fixedCost 2 = .ok (.iconst 0, 1) := by decide +kernel
theorem dX3_fixedCost_3 : decode cX3_fixedCost 3 = .ok (.istore_n 2, 1) := by decide +kernel
theorem dX3_fixedCost_4 : decode cX3_fixedCost 4 = .ok (.iload_n 2, 1) := by decide +kernel
theorem dX3_fixedCost_5 : decode cX3_fixedCost 5 = .ok (.aload_n 0, 1) := by decide +kernel
theorem dX3_fixedCost_6 : decode cX3_fixedCost 6 = .ok (.getfield 58, 3) := by decide +kernel
theorem dX3_fixedCost_9 : decode cX3_fixedCost 9 = .ok (.if_icmp .ge 34, 3) := by decide +kernel
theorem dX3_fixedCost_12 : decode cX3_fixedCost 12 = .ok (.iload_n 1, 1) := by decide +kernel
theorem dX3_fixedCost_13 : decode cX3_fixedCost 13 = .ok (.aload_n 0, 1) := by decide +kernel
theorem dX3_fixedCost_14 : decode cX3_fixedCost 14 = .ok (.getfield 27, 3) := by decide +kernel
theorem dX3_fixedCost_17 : decode cX3_fixedCost 17 = .ok (.getfield 90, 3) := by decide +kernel
theorem dX3_fixedCost_20 : decode cX3_fixedCost 20 = .ok (.aload_n 0, 1) := by decide +kernel
theorem dX3_fixedCost_21 : decode cX3_fixedCost 21 = .ok (.getfield 31, 3) := by decide +kernel
theorem dX3_fixedCost_24 : decode cX3_fixedCost 24 = .ok (.getfield 93, 3) := by decide +kernel
theorem dX3_fixedCost_27 : decode cX3_fixedCost 27 = .ok (.aload_n 0, 1) := by decide +kernel
theorem dX3_fixedCost_28 : decode cX3_fixedCost 28 = .ok (.getfield 15, 3) := by decide +kernel
theorem dX3_fixedCost_31 : decode cX3_fixedCost 31 = .ok (.iload_n 2, 1) := by decide +kernel
theorem dX3_fixedCost_32 : decode cX3_fixedCost 32 = .ok (.iaload, 1) := by decide +kernel
theorem dX3_fixedCost_33 : decode cX3_fixedCost 33 = .ok (.iaload, 1) := by decide +kernel
theorem dX3_fixedCost_34 : decode cX3_fixedCost 34 = .ok (.iaload, 1) := by decide +kernel
theorem dX3_fixedCost_35 : decode cX3_fixedCost 35 = .ok (.iadd, 1) := by decide +kernel
theorem dX3_fixedCost_36 : decode cX3_fixedCost 36 = .ok (.istore_n 1, 1) := by decide +kernel
theorem dX3_fixedCost_37 : decode cX3_fixedCost 37 = .ok (.iinc 2 1, 3) := by decide +kernel
theorem dX3_fixedCost_40 : decode cX3_fixedCost 40 = .ok (.goto (-36), 3) := by decide +kernel
theorem dX3_fixedCost_43 : decode cX3_fixedCost 43 = .ok (.iconst 0, 1) := by decide +kernel
theorem dX3_fixedCost_44 : decode cX3_fixedCost 44 = .ok (.istore_n 2, 1) := by decide +kernel
theorem dX3_fixedCost_45 : decode cX3_fixedCost 45 = .ok (.iload_n 2, 1) := by decide +kernel
theorem dX3_fixedCost_46 : decode cX3_fixedCost 46 = .ok (.aload_n 0, 1) := by decide +kernel
theorem dX3_fixedCost_47 : decode cX3_fixedCost 47 = .ok (.getfield 27, 3) := by decide +kernel
theorem dX3_fixedCost_50 : decode cX3_fixedCost 50 = .ok (.getfield 96, 3) := by decide +kernel
theorem dX3_fixedCost_53 : decode cX3_fixedCost 53 = .ok (.if_icmp .ge 33, 3) := by decide +kernel
theorem dX3_fixedCost_56 : decode cX3_fixedCost 56 = .ok (.iload_n 1, 1) := by decide +kernel
theorem dX3_fixedCost_57 : decode cX3_fixedCost 57 = .ok (.aload_n 0, 1) := by decide +kernel
theorem dX3_fixedCost_58 : decode cX3_fixedCost 58 = .ok (.getfield 27, 3) := by decide +kernel
theorem dX3_fixedCost_61 : decode cX3_fixedCost 61 = .ok (.getfield 99, 3) := by decide +kernel
theorem dX3_fixedCost_64 : decode cX3_fixedCost 64 = .ok (.iload_n 2, 1) := by decide +kernel
theorem dX3_fixedCost_65 : decode cX3_fixedCost 65 = .ok (.iaload, 1) := by decide +kernel
theorem dX3_fixedCost_66 : decode cX3_fixedCost 66 = .ok (.aload_n 0, 1) := by decide +kernel
theorem dX3_fixedCost_67 : decode cX3_fixedCost 67 = .ok (.getfield 31, 3) := by decide +kernel
theorem dX3_fixedCost_70 : decode cX3_fixedCost 70 = .ok (.iload_n 2, 1) := by decide +kernel
theorem dX3_fixedCost_71 : decode cX3_fixedCost 71 = .ok (.invokevirtual 102, 3) := by decide +kernel
theorem dX3_fixedCost_74 : decode cX3_fixedCost 74 = .ok (.invokestatic 84, 3) := by decide +kernel
theorem dX3_fixedCost_77 : decode cX3_fixedCost 77 = .ok (.imul, 1) := by decide +kernel
theorem dX3_fixedCost_78 : decode cX3_fixedCost 78 = .ok (.iadd, 1) := by decide +kernel
theorem dX3_fixedCost_79 : decode cX3_fixedCost 79 = .ok (.istore_n 1, 1) := by decide +kernel
theorem dX3_fixedCost_80 : decode cX3_fixedCost 80 = .ok (.iinc 2 1, 3) := by decide +kernel
theorem dX3_fixedCost_83 : decode cX3_fixedCost 83 = .ok (.goto (-38), 3) := by decide +kernel
theorem dX3_fixedCost_86 : decode cX3_fixedCost 86 = .ok (.iload_n 1, 1) := by decide +kernel
theorem dX3_fixedCost_87 : decode cX3_fixedCost 87 = .ok (.ireturn, 1) := by decide +kernel
theorem dX3_extend_0 : decode cX3_extend 0 = .ok (.iload_n 3, 1) := by decide +kernel
theorem dX3_extend_1 : decode cX3_extend 1 = .ok (.aload_n 0, 1) := by decide +kernel
theorem dX3_extend_2 : decode cX3_extend 2 = .ok (.invokevirtual 105, 3) := by decide +kernel
theorem dX3_extend_5 : decode cX3_extend 5 = .ok (.iadd, 1) := by decide +kernel
theorem dX3_extend_6 : decode cX3_extend 6 = .ok (.istore 4, 2) := by decide +kernel
theorem dX3_extend_8 : decode cX3_extend 8 = .ok (.aload_n 0, 1) := by decide +kernel
theorem dX3_extend_9 : decode cX3_extend 9 = .ok (.getfield 39, 3) := by decide +kernel
theorem dX3_extend_12 : decode cX3_extend 12 = .ok (.iconst (-1), 1) := by decide +kernel
theorem dX3_extend_13 : decode cX3_extend 13 = .ok (.if_icmp .eq 13, 3) := by decide +kernel
theorem dX3_extend_16 : decode cX3_extend 16 = .ok (.iload 4, 2) := by decide +kernel
theorem dX3_extend_18 : decode cX3_extend 18 = .ok (.aload_n 0, 1) := by decide +kernel
theorem dX3_extend_19 : decode cX3_extend 19 = .ok (.getfield 39, 3) := by decide +kernel
theorem dX3_extend_22 : decode cX3_extend 22 = .ok (.if_icmp .lt 4, 3) := by decide +kernel
theorem dX3_extend_25 : decode cX3_extend 25 = .ok (.return_, 1) := by decide +kernel
theorem dX3_extend_26 : decode cX3_extend 26 = .ok (.iload_n 1, 1) := by decide +kernel
theorem dX3_extend_27 : decode cX3_extend 27 = .ok (.aload_n 0, 1) := by decide +kernel
theorem dX3_extend_28 : decode cX3_extend 28 = .ok (.getfield 58, 3) := by decide +kernel
theorem dX3_extend_31 : decode cX3_extend 31 = .ok (.if_icmp .lt 27, 3) := by decide +kernel
theorem dX3_extend_34 : decode cX3_extend 34 = .ok (.aload_n 0, 1) := by decide +kernel
theorem dX3_extend_35 : decode cX3_extend 35 = .ok (.iload 4, 2) := by decide +kernel
theorem dX3_extend_37 : decode cX3_extend 37 = .ok (.putfield 39, 3) := by decide +kernel
theorem dX3_extend_40 : decode cX3_extend 40 = .ok (.aload_n 0, 1) := by decide +kernel
theorem dX3_extend_41 : decode cX3_extend 41 = .ok (.getfield 18, 3) := by decide +kernel
theorem dX3_extend_44 : decode cX3_extend 44 = .ok (.iconst 0, 1) := by decide +kernel
theorem dX3_extend_45 : decode cX3_extend 45 = .ok (.aload_n 0, 1) := by decide +kernel
theorem dX3_extend_46 : decode cX3_extend 46 = .ok (.getfield 11, 3) := by decide +kernel
theorem dX3_extend_49 : decode cX3_extend 49 = .ok (.iconst 0, 1) := by decide +kernel
theorem dX3_extend_50 : decode cX3_extend 50 = .ok (.aload_n 0, 1) := by decide +kernel
theorem dX3_extend_51 : decode cX3_extend 51 = .ok (.getfield 58, 3) := by decide +kernel
theorem dX3_extend_54 : decode cX3_extend 54 = .ok (.invokestatic 108, 3) := by decide +kernel
theorem dX3_extend_57 : decode cX3_extend 57 = .ok (.return_, 1) := by decide +kernel
theorem dX3_extend_58 : decode cX3_extend 58 = .ok (.iconst 0, 1) := by decide +kernel
theorem dX3_extend_59 : decode cX3_extend 59 = .ok (.istore 5, 2) := by decide +kernel
theorem dX3_extend_61 : decode cX3_extend 61 = .ok (.iload 5, 2) := by decide +kernel
theorem dX3_extend_63 : decode cX3_extend 63 = .ok (.aload_n 0, 1) := by decide +kernel
theorem dX3_extend_64 : decode cX3_extend 64 = .ok (.getfield 58, 3) := by decide +kernel
theorem dX3_extend_67 : decode cX3_extend 67 = .ok (.if_icmp .ge 27, 3) := by decide +kernel
theorem dX3_extend_70 : decode cX3_extend 70 = .ok (.iload_n 2, 1) := by decide +kernel
theorem dX3_extend_71 : decode cX3_extend 71 = .ok (.iload 5, 2) := by decide +kernel
theorem dX3_extend_73 : decode cX3_extend 73 = .ok (.invokestatic 114, 3) := by decide +kernel
theorem dX3_extend_76 : decode cX3_extend 76 = .ok (.ifCond .ne 12, 3) := by decide +kernel
theorem dX3_extend_79 : decode cX3_extend 79 = .ok (.aload_n 0, 1) := by decide +kernel
theorem dX3_extend_80 : decode cX3_extend 80 = .ok (.iload 5, 2) := by decide +kernel
theorem dX3_extend_82 : decode cX3_extend 82 = .ok (.iload_n 1, 1) := by decide +kernel
theorem dX3_extend_83 : decode cX3_extend 83 = .ok (.iload_n 2, 1) := by decide +kernel
theorem dX3_extend_84 : decode cX3_extend 84 = .ok (.iload_n 3, 1) := by decide +kernel
theorem dX3_extend_85 : decode cX3_extend 85 = .ok (.invokevirtual 118, 3) := by decide +kernel
theorem dX3_extend_88 : decode cX3_extend 88 = .ok (.iinc 5 1, 3) := by decide +kernel
theorem dX3_extend_91 : decode cX3_extend 91 = .ok (.goto (-30), 3) := by decide +kernel
theorem dX3_extend_94 : decode cX3_extend 94 = .ok (.return_, 1) := by decide +kernel
theorem dX3_tryDay_0 : decode cX3_tryDay 0 = .ok (.aload_n 0, 1) := by decide +kernel
theorem dX3_tryDay_1 : decode cX3_tryDay 1 = .ok (.getfield 15, 3) := by decide +kernel
theorem dX3_tryDay_4 : decode cX3_tryDay 4 = .ok (.iload_n 1, 1) := by decide +kernel
theorem dX3_tryDay_5 : decode cX3_tryDay 5 = .ok (.iaload, 1) := by decide +kernel
theorem dX3_tryDay_6 : decode cX3_tryDay 6 = .ok (.istore 5, 2) := by decide +kernel
theorem dX3_tryDay_8 : decode cX3_tryDay 8 = .ok (.iload 4, 2) := by decide +kernel
theorem dX3_tryDay_10 : decode cX3_tryDay 10 = .ok (.istore 6, 2) := by decide +kernel
theorem dX3_tryDay_12 : decode cX3_tryDay 12 = .ok (.iload_n 2, 1) := by decide +kernel
theorem dX3_tryDay_13 : decode cX3_tryDay 13 = .ok (.ifCond .le 65, 3) := by decide +kernel
theorem dX3_tryDay_16 : decode cX3_tryDay 16 = .ok (.aload_n 0, 1) := by decide +kernel
theorem dX3_tryDay_17 : decode cX3_tryDay 17 = .ok (.getfield 18, 3) := by decide +kernel
theorem dX3_tryDay_20 : decode cX3_tryDay 20 = .ok (.iload_n 2, 1) := by decide +kernel
theorem dX3_tryDay_21 : decode cX3_tryDay 21 = .ok (.iconst 1, 1) := by decide +kernel
theorem dX3_tryDay_22 : decode cX3_tryDay 22 = .ok (.isub, 1) := by decide +kernel
theorem dX3_tryDay_23 : decode cX3_tryDay 23 = .ok (.iaload, 1) := by decide +kernel
theorem dX3_tryDay_24 : decode cX3_tryDay 24 = .ok (.istore 7, 2) := by decide +kernel
theorem dX3_tryDay_26 : decode cX3_tryDay 26 = .ok (.aload_n 0, 1) := by decide +kernel
theorem dX3_tryDay_27 : decode cX3_tryDay 27 = .ok (.getfield 31, 3) := by decide +kernel
theorem dX3_tryDay_30 : decode cX3_tryDay 30 = .ok (.iload 7, 2) := by decide +kernel
theorem dX3_tryDay_32 : decode cX3_tryDay 32 = .ok (.iload 5, 2) := by decide +kernel
theorem dX3_tryDay_34 : decode cX3_tryDay 34 = .ok (.invokevirtual 122, 3) := by decide +kernel
theorem dX3_tryDay_37 : decode cX3_tryDay 37 = .ok (.ifCond .eq 4, 3) := by decide +kernel
theorem dX3_tryDay_40 : decode cX3_tryDay 40 = .ok (.return_, 1) := by decide +kernel
theorem dX3_tryDay_41 : decode cX3_tryDay 41 = .ok (.aload_n 0, 1) := by decide +kernel
theorem dX3_tryDay_42 : decode cX3_tryDay 42 = .ok (.getfield 31, 3) := by decide +kernel
theorem dX3_tryDay_45 : decode cX3_tryDay 45 = .ok (.getfield 93, 3) := by decide +kernel
theorem dX3_tryDay_48 : decode cX3_tryDay 48 = .ok (.iload 7, 2) := by decide +kernel
theorem dX3_tryDay_50 : decode cX3_tryDay 50 = .ok (.iaload, 1) := by decide +kernel
theorem dX3_tryDay_51 : decode cX3_tryDay 51 = .ok (.aload_n 0, 1) := by decide +kernel
theorem dX3_tryDay_52 : decode cX3_tryDay 52 = .ok (.getfield 31, 3) := by decide +kernel
theorem dX3_tryDay_55 : decode cX3_tryDay 55 = .ok (.getfield 93, 3) := by decide +kernel
theorem dX3_tryDay_58 : decode cX3_tryDay 58 = .ok (.iload 5, 2) := by decide +kernel
theorem dX3_tryDay_60 : decode cX3_tryDay 60 = .ok (.iaload, 1) := by decide +kernel
theorem dX3_tryDay_61 : decode cX3_tryDay 61 = .ok (.if_icmp .eq 17, 3) := by decide +kernel
theorem dX3_tryDay_64 : decode cX3_tryDay 64 = .ok (.iload 6, 2) := by decide +kernel
theorem dX3_tryDay_66 : decode cX3_tryDay 66 = .ok (.aload_n 0, 1) := by decide +kernel
theorem dX3_tryDay_67 : decode cX3_tryDay 67 = .ok (.getfield 27, 3) := by decide +kernel
theorem dX3_tryDay_70 : decode cX3_tryDay 70 = .ok (.getfield 73, 3) := by decide +kernel
theorem dX3_tryDay_73 : decode cX3_tryDay 73 = .ok (.iconst 1, 1) := by decide +kernel
theorem dX3_tryDay_74 : decode cX3_tryDay 74 = .ok (.iaload, 1) := by decide +kernel
theorem dX3_tryDay_75 : decode cX3_tryDay 75 = .ok (.iadd, 1) := by decide +kernel
theorem dX3_tryDay_76 : decode cX3_tryDay 76 = .ok (.istore 6, 2) := by decide +kernel
theorem dX3_tryDay_78 : decode cX3_tryDay 78 = .ok (.aload_n 0, 1) := by decide +kernel
theorem dX3_tryDay_79 : decode cX3_tryDay 79 = .ok (.getfield 18, 3) := by decide +kernel
theorem dX3_tryDay_82 : decode cX3_tryDay 82 = .ok (.iload_n 2, 1) := by decide +kernel
theorem dX3_tryDay_83 : decode cX3_tryDay 83 = .ok (.iload 5, 2) := by decide +kernel
theorem dX3_tryDay_85 : decode cX3_tryDay 85 = .ok (.iastore, 1) := by decide +kernel
theorem dX3_tryDay_86 : decode cX3_tryDay 86 = .ok (.aload_n 0, 1) := by decide +kernel
theorem dX3_tryDay_87 : decode cX3_tryDay 87 = .ok (.iload 5, 2) := by decide +kernel
theorem dX3_tryDay_89 : decode cX3_tryDay 89 = .ok (.iload_n 2, 1) := by decide +kernel
theorem dX3_tryDay_90 : decode cX3_tryDay 90 = .ok (.invokevirtual 125, 3) := by decide +kernel
theorem dX3_tryDay_93 : decode cX3_tryDay 93 = .ok (.aload_n 0, 1) := by decide +kernel
theorem dX3_tryDay_94 : decode cX3_tryDay 94 = .ok (.iload_n 2, 1) := by decide +kernel
theorem dX3_tryDay_95 : decode cX3_tryDay 95 = .ok (.iconst 1, 1) := by decide +kernel
theorem dX3_tryDay_96 : decode cX3_tryDay 96 = .ok (.iadd, 1) := by decide +kernel
theorem dX3_tryDay_97 : decode cX3_tryDay 97 = .ok (.iload_n 3, 1) := by decide +kernel
theorem dX3_tryDay_98 : decode cX3_tryDay 98 = .ok (.iconst 1, 1) := by decide +kernel
theorem dX3_tryDay_99 : decode cX3_tryDay 99 = .ok (.iload_n 1, 1) := by decide +kernel
theorem dX3_tryDay_100 : decode cX3_tryDay 100 = .ok (.ishl, 1) := by decide +kernel
theorem dX3_tryDay_101 : decode cX3_tryDay 101 = .ok (.ior, 1) := by decide +kernel
theorem dX3_tryDay_102 : decode cX3_tryDay 102 = .ok (.iload 6, 2) := by decide +kernel
theorem dX3_tryDay_104 : decode cX3_tryDay 104 = .ok (.invokevirtual 54, 3) := by decide +kernel
theorem dX3_tryDay_107 : decode cX3_tryDay 107 = .ok (.aload_n 0, 1) := by decide +kernel
theorem dX3_tryDay_108 : decode cX3_tryDay 108 = .ok (.iload 5, 2) := by decide +kernel
theorem dX3_tryDay_110 : decode cX3_tryDay 110 = .ok (.iload_n 2, 1) := by decide +kernel
theorem dX3_tryDay_111 : decode cX3_tryDay 111 = .ok (.invokevirtual 125, 3) := by decide +kernel
theorem dX3_tryDay_114 : decode cX3_tryDay 114 = .ok (.return_, 1) := by decide +kernel
theorem dX3_flipWork_0 : decode cX3_flipWork 0 = .ok (.iconst 0, 1) := by decide +kernel
theorem dX3_flipWork_1 : decode cX3_flipWork 1 = .ok (.istore_n 3, 1) := by decide +kernel
theorem dX3_flipWork_2 : decode cX3_flipWork 2 = .ok (.iload_n 3, 1) := by decide +kernel
theorem dX3_flipWork_3 : decode cX3_flipWork 3 = .ok (.aload_n 0, 1) := by decide +kernel
theorem dX3_flipWork_4 : decode cX3_flipWork 4 = .ok (.getfield 27, 3) := by decide +kernel
theorem dX3_flipWork_7 : decode cX3_flipWork 7 = .ok (.getfield 96, 3) := by decide +kernel
theorem dX3_flipWork_10 : decode cX3_flipWork 10 = .ok (.if_icmp .ge 37, 3) := by decide +kernel
theorem dX3_flipWork_13 : decode cX3_flipWork 13 = .ok (.aload_n 0, 1) := by decide +kernel
theorem dX3_flipWork_14 : decode cX3_flipWork 14 = .ok (.getfield 31, 3) := by decide +kernel
theorem dX3_flipWork_17 : decode cX3_flipWork 17 = .ok (.getfield 129, 3) := by decide +kernel
theorem dX3_flipWork_20 : decode cX3_flipWork 20 = .ok (.iload_n 1, 1) := by decide +kernel
theorem dX3_flipWork_21 : decode cX3_flipWork 21 = .ok (.iaload, 1) := by decide +kernel
theorem dX3_flipWork_22 : decode cX3_flipWork 22 = .ok (.iload_n 3, 1) := by decide +kernel
theorem dX3_flipWork_23 : decode cX3_flipWork 23 = .ok (.invokestatic 114, 3) := by decide +kernel
theorem dX3_flipWork_26 : decode cX3_flipWork 26 = .ok (.ifCond .eq 15, 3) := by decide +kernel
theorem dX3_flipWork_29 : decode cX3_flipWork 29 = .ok (.aload_n 0, 1) := by decide +kernel
theorem dX3_flipWork_30 : decode cX3_flipWork 30 = .ok (.getfield 21, 3) := by decide +kernel
theorem dX3_flipWork_33 : decode cX3_flipWork 33 = .ok (.iload_n 3, 1) := by decide +kernel
theorem dX3_flipWork_34 : decode cX3_flipWork 34 = .ok (.dup2, 1) := by decide +kernel
theorem dX3_flipWork_35 : decode cX3_flipWork 35 = .ok (.iaload, 1) := by decide +kernel
theorem dX3_flipWork_36 : decode cX3_flipWork 36 = .ok (.iconst 1, 1) := by decide +kernel
theorem dX3_flipWork_37 : decode cX3_flipWork 37 = .ok (.iload_n 2, 1) := by decide +kernel
theorem dX3_flipWork_38 : decode cX3_flipWork 38 = .ok (.ishl, 1) := by decide +kernel
theorem dX3_flipWork_39 : decode cX3_flipWork 39 = .ok (.ixor, 1) := by decide +kernel
theorem dX3_flipWork_40 : decode cX3_flipWork 40 = .ok (.iastore, 1) := by decide +kernel
theorem dX3_flipWork_41 : decode cX3_flipWork 41 = .ok (.iinc 3 1, 3) := by decide +kernel
theorem dX3_flipWork_44 : decode cX3_flipWork 44 = .ok (.goto (-42), 3) := by decide +kernel
theorem dX3_flipWork_47 : decode cX3_flipWork 47 = .ok (.return_, 1) := by decide +kernel
theorem dX3_holdingSoFar_0 : decode cX3_holdingSoFar 0 = .ok (.iconst 0, 1) := by decide +kernel
theorem dX3_holdingSoFar_1 : decode cX3_holdingSoFar 1 = .ok (.istore_n 1, 1) := by decide +kernel
theorem dX3_holdingSoFar_2 : decode cX3_holdingSoFar 2 = .ok (.iconst 0, 1) := by decide +kernel
theorem dX3_holdingSoFar_3 : decode cX3_holdingSoFar 3 = .ok (.istore_n 2, 1) := by decide +kernel
theorem dX3_holdingSoFar_4 : decode cX3_holdingSoFar 4 = .ok (.iload_n 2, 1) := by decide +kernel
theorem dX3_holdingSoFar_5 : decode cX3_holdingSoFar 5 = .ok (.aload_n 0, 1) := by decide +kernel
theorem dX3_holdingSoFar_6 : decode cX3_holdingSoFar 6 = .ok (.getfield 27, 3) := by decide +kernel
theorem dX3_holdingSoFar_9 : decode cX3_holdingSoFar 9 = .ok (.getfield 96, 3) := by decide +kernel
theorem dX3_holdingSoFar_12 : decode cX3_holdingSoFar 12 = .ok (.if_icmp .ge 32, 3) := by decide +kernel
theorem dX3_holdingSoFar_15 : decode cX3_holdingSoFar 15 = .ok (.iload_n 1, 1) := by decide +kernel
theorem dX3_holdingSoFar_16 : decode cX3_holdingSoFar 16 = .ok (.aload_n 0, 1) := by decide +kernel
theorem dX3_holdingSoFar_17 : decode cX3_holdingSoFar 17 = .ok (.getfield 27, 3) := by decide +kernel
theorem dX3_holdingSoFar_20 : decode cX3_holdingSoFar 20 = .ok (.iload_n 2, 1) := by decide +kernel
theorem dX3_holdingSoFar_21 : decode cX3_holdingSoFar 21 = .ok (.invokevirtual 132, 3) := by decide +kernel
theorem dX3_holdingSoFar_24 : decode cX3_holdingSoFar 24 = .ok (.aload_n 0, 1) := by decide +kernel
theorem dX3_holdingSoFar_25 : decode cX3_holdingSoFar 25 = .ok (.getfield 24, 3) := by decide +kernel
theorem dX3_holdingSoFar_28 : decode cX3_holdingSoFar 28 = .ok (.aload_n 0, 1) := by decide +kernel
theorem dX3_holdingSoFar_29 : decode cX3_holdingSoFar 29 = .ok (.getfield 21, 3) := by decide +kernel
theorem dX3_holdingSoFar_32 : decode cX3_holdingSoFar 32 = .ok (.iload_n 2, 1) := by decide +kernel
theorem dX3_holdingSoFar_33 : decode cX3_holdingSoFar 33 = .ok (.iaload, 1) := by decide +kernel
theorem dX3_holdingSoFar_34 : decode cX3_holdingSoFar 34 = .ok (.iaload, 1) := by decide +kernel
theorem dX3_holdingSoFar_35 : decode cX3_holdingSoFar 35 = .ok (.imul, 1) := by decide +kernel
theorem dX3_holdingSoFar_36 : decode cX3_holdingSoFar 36 = .ok (.iadd, 1) := by decide +kernel
theorem dX3_holdingSoFar_37 : decode cX3_holdingSoFar 37 = .ok (.istore_n 1, 1) := by decide +kernel
theorem dX3_holdingSoFar_38 : decode cX3_holdingSoFar 38 = .ok (.iinc 2 1, 3) := by decide +kernel
theorem dX3_holdingSoFar_41 : decode cX3_holdingSoFar 41 = .ok (.goto (-37), 3) := by decide +kernel
theorem dX3_holdingSoFar_44 : decode cX3_holdingSoFar 44 = .ok (.iload_n 1, 1) := by decide +kernel
theorem dX3_holdingSoFar_45 : decode cX3_holdingSoFar 45 = .ok (.ireturn, 1) := by decide +kernel
