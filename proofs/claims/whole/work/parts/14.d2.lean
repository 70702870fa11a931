theorem dX4_init_0 : decode cX4_init 0 = .ok (.aload_n 0, 1) := by decide +kernel
theorem dX4_init_1 : decode cX4_init 1 = .ok (.invokespecial 3, 3) := by decide +kernel
theorem dX4_init_4 : decode cX4_init 4 = .ok (.aload_n 0, 1) := by decide +kernel
theorem dX4_init_5 : decode cX4_init 5 = .ok (.iconst 4, 1) := by decide +kernel
theorem dX4_init_6 : decode cX4_init 6 = .ok (.newarray .int, 2) := by decide +kernel
theorem dX4_init_8 : decode cX4_init 8 = .ok (.putfield 9, 3) := by decide +kernel
theorem dX4_init_11 : decode cX4_init 11 = .ok (.aload_n 0, 1) := by decide +kernel
theorem dX4_init_12 : decode cX4_init 12 = .ok (.iconst 4, 1) := by decide +kernel
theorem dX4_init_13 : decode cX4_init 13 = .ok (.newarray .int, 2) := by decide +kernel
theorem dX4_init_15 : decode cX4_init 15 = .ok (.putfield 15, 3) := by decide +kernel
theorem dX4_init_18 : decode cX4_init 18 = .ok (.aload_n 0, 1) := by decide +kernel
theorem dX4_init_19 : decode cX4_init 19 = .ok (.iconst 4, 1) := by decide +kernel
theorem dX4_init_20 : decode cX4_init 20 = .ok (.newarray .boolean, 2) := by decide +kernel
theorem dX4_init_22 : decode cX4_init 22 = .ok (.putfield 18, 3) := by decide +kernel
theorem dX4_init_25 : decode cX4_init 25 = .ok (.aload_n 0, 1) := by decide +kernel
theorem dX4_init_26 : decode cX4_init 26 = .ok (.bipush 6, 2) := by decide +kernel
theorem dX4_init_28 : decode cX4_init 28 = .ok (.newarray .int, 2) := by decide +kernel
theorem dX4_init_30 : decode cX4_init 30 = .ok (.putfield 22, 3) := by decide +kernel
theorem dX4_init_33 : decode cX4_init 33 = .ok (.aload_n 0, 1) := by decide +kernel
theorem dX4_init_34 : decode cX4_init 34 = .ok (.bipush 6, 2) := by decide +kernel
theorem dX4_init_36 : decode cX4_init 36 = .ok (.newarray .int, 2) := by decide +kernel
theorem dX4_init_38 : decode cX4_init 38 = .ok (.putfield 25, 3) := by decide +kernel
theorem dX4_init_41 : decode cX4_init 41 = .ok (.aload_n 0, 1) := by decide +kernel
theorem dX4_init_42 : decode cX4_init 42 = .ok (.bipush 14, 2) := by decide +kernel
theorem dX4_init_44 : decode cX4_init 44 = .ok (.newarray .int, 2) := by decide +kernel
theorem dX4_init_46 : decode cX4_init 46 = .ok (.putfield 28, 3) := by decide +kernel
theorem dX4_init_49 : decode cX4_init 49 = .ok (.aload_n 0, 1) := by decide +kernel
theorem dX4_init_50 : decode cX4_init 50 = .ok (.bipush 14, 2) := by decide +kernel
theorem dX4_init_52 : decode cX4_init 52 = .ok (.newarray .int, 2) := by decide +kernel
theorem dX4_init_54 : decode cX4_init 54 = .ok (.putfield 31, 3) := by decide +kernel
theorem dX4_init_57 : decode cX4_init 57 = .ok (.aload_n 0, 1) := by decide +kernel
theorem dX4_init_58 : decode cX4_init 58 = .ok (.bipush 14, 2) := by decide +kernel
theorem dX4_init_60 : decode cX4_init 60 = .ok (.newarray .boolean, 2) := by decide +kernel
theorem dX4_init_62 : decode cX4_init 62 = .ok (.putfield 34, 3) := by decide +kernel
theorem dX4_init_65 : decode cX4_init 65 = .ok (.aload_n 0, 1) := by decide +kernel
theorem dX4_init_66 : decode cX4_init 66 = .ok (.bipush 14, 2) := by decide +kernel
theorem dX4_init_68 : decode cX4_init 68 = .ok (.newarray .int, 2) := by decide +kernel
theorem dX4_init_70 : decode cX4_init 70 = .ok (.putfield 37, 3) := by decide +kernel
theorem dX4_init_73 : decode cX4_init 73 = .ok (.aload_n 0, 1) := by decide +kernel
theorem dX4_init_74 : decode cX4_init 74 = .ok (.bipush 14, 2) := by decide +kernel
theorem dX4_init_76 : decode cX4_init 76 = .ok (.newarray .int, 2) := by decide +kernel
theorem dX4_init_78 : decode cX4_init 78 = .ok (.putfield 40, 3) := by decide +kernel
theorem dX4_init_81 : decode cX4_init 81 = .ok (.aload_n 0, 1) := by decide +kernel
theorem dX4_init_82 : decode cX4_init 82 = .ok (.iconst 4, 1) := by decide +kernel
theorem dX4_init_83 : decode cX4_init 83 = .ok (.newarray .int, 2) := by decide +kernel
theorem dX4_init_85 : decode cX4_init 85 = .ok (.putfield 43, 3) := by decide +kernel
theorem dX4_init_88 : decode cX4_init 88 = .ok (.aload_n 0, 1) := by decide +kernel
theorem dX4_init_89 : decode cX4_init 89 = .ok (.invokevirtual 46, 3) := by decide +kernel
theorem dX4_init_92 : decode cX4_init 92 = .ok (.return_, 1) := by decide +kernel
theorem dX4_clear_0 : decode cX4_clear 0 = .ok (.aload_n 0, 1) := by decide +kernel
theorem dX4_clear_1 : decode cX4_clear 1 = .ok (.iconst 0, 1) := by decide +kernel
theorem dX4_clear_2 : decode cX4_clear 2 = .ok (.putfield 49, 3) := by decide +kernel
theorem dX4_clear_5 : decode cX4_clear 5 = .ok (.aload_n 0, 1) := by decide +kernel
theorem dX4_clear_6 : decode cX4_clear 6 = .ok (.iconst 0, 1) := by decide +kernel
theorem dX4_clear_7 : decode cX4_clear 7 = .ok (.putfield 53, 3) := by decide +kernel
theorem dX4_clear_10 : decode cX4_clear 10 = .ok (.aload_n 0, 1) := by decide +kernel
theorem dX4_clear_11 : decode cX4_clear 11 = .ok (.iconst 0, 1) := by decide +kernel
theorem dX4_clear_12 : decode cX4_clear 12 = .ok (.putfield 56, 3) := by decide +kernel
theorem dX4_clear_15 : decode cX4_clear 15 = .ok (.aload_n 0, 1) := by decide +kernel
theorem dX4_clear_16 : decode cX4_clear 16 = .ok (.getfield 40, 3) := by decide +kernel
theorem dX4_clear_19 : decode cX4_clear 19 = .ok (.iconst (-1), 1) := by decide +kernel
theorem dX4_clear_20 : decode cX4_clear 20 = .ok (.invokestatic 59, 3) := by decide +kernel
theorem dX4_clear_23 : decode cX4_clear 23 = .ok (.getstatic 65, 3) := by decide +kernel
theorem dX4_clear_26 : decode cX4_clear 26 = .ok (.iconst 0, 1) := by decide +kernel
theorem dX4_clear_27 : decode cX4_clear 27 = .ok (.aload_n 0, 1) := by decide +kernel
theorem dX4_clear_28 : decode cX4_clear 28 = .ok (.getfield 43, 3) := by decide +kernel
theorem dX4_clear_31 : decode cX4_clear 31 = .ok (.iconst 0, 1) := by decide +kernel
theorem dX4_clear_32 : decode cX4_clear 32 = .ok (.iconst 4, 1) := by decide +kernel
theorem dX4_clear_33 : decode cX4_clear 33 = .ok (.invokestatic 68, 3) := by decide +kernel
theorem dX4_clear_36 : decode cX4_clear 36 = .ok (.return_, 1) := by decide +kernel
theorem dX4_copyFrom_0 : decode cX4_copyFrom 0 = .ok (.aload_n 0, 1) := by decide +kernel
theorem dX4_copyFrom_1 : decode cX4_copyFrom 1 = .ok (.invokevirtual 46, 3) := by decide +kernel
theorem dX4_copyFrom_4 : decode cX4_copyFrom 4 = .ok (.iconst 0, 1) := by decide +kernel
theorem dX4_copyFrom_5 : decode cX4_copyFrom 5 = .ok (.istore_n 2, 1) := by decide +kernel
theorem dX4_copyFrom_6 : decode cX4_copyFrom 6 = .ok (.iload_n 2, 1) := by decide +kernel
theorem dX4_copyFrom_7 : decode cX4_copyFrom 7 = .ok (.aload_n 1, 1) := by decide +kernel
theorem dX4_copyFrom_8 : decode cX4_copyFrom 8 = .ok (.getfield 49, 3) := by decide +kernel
theorem dX4_copyFrom_11 : decode cX4_copyFrom 11 = .ok (.if_icmp .ge 31, 3) := by decide +kernel
theorem dX4_copyFrom_14 : decode cX4_copyFrom 14 = .ok (.aload_n 0, 1) := by decide +kernel
theorem dX4_copyFrom_15 : decode cX4_copyFrom 15 = .ok (.aload_n 1, 1) := by decide +kernel
theorem dX4_copyFrom_16 : decode cX4_copyFrom 16 = .ok (.getfield 9, 3) := by decide +kernel
theorem dX4_copyFrom_19 : decode cX4_copyFrom 19 = .ok (.iload_n 2, 1) := by decide +kernel
theorem dX4_copyFrom_20 : decode cX4_copyFrom 20 = .ok (.iaload, 1) := by decide +kernel
theorem dX4_copyFrom_21 : decode cX4_copyFrom 21 = .ok (.aload_n 1, 1) := by decide +kernel
theorem dX4_copyFrom_22 : decode cX4_copyFrom 22 = .ok (.getfield 15, 3) := by decide +kernel
theorem dX4_copyFrom_25 : decode cX4_copyFrom 25 = .ok (.iload_n 2, 1) := by decide +kernel
theorem dX4_copyFrom_26 : decode cX4_copyFrom 26 = .ok (.iaload, 1) := by decide +kernel
theorem dX4_copyFrom_27 : decode cX4_copyFrom 27 = .ok (.aload_n 1, 1) := by decide +kernel
theorem dX4_copyFrom_28 : decode cX4_copyFrom 28 = .ok (.getfield 18, 3) := by decide +kernel
theorem dX4_copyFrom_31 : decode cX4_copyFrom 31 = .ok (.iload_n 2, 1) := by decide +kernel
theorem dX4_copyFrom_32 : decode cX4_copyFrom 32 = .ok (.baload, 1) := by decide +kernel
theorem dX4_copyFrom_33 : decode cX4_copyFrom 33 = .ok (.invokevirtual 74, 3) := by decide +kernel
theorem dX4_copyFrom_36 : decode cX4_copyFrom 36 = .ok (.iinc 2 1, 3) := by decide +kernel
theorem dX4_copyFrom_39 : decode cX4_copyFrom 39 = .ok (.goto (-33), 3) := by decide +kernel
theorem dX4_copyFrom_42 : decode cX4_copyFrom 42 = .ok (.iconst 0, 1) := by decide +kernel
theorem dX4_copyFrom_43 : decode cX4_copyFrom 43 = .ok (.istore_n 2, 1) := by decide +kernel
theorem dX4_copyFrom_44 : decode cX4_copyFrom 44 = .ok (.iload_n 2, 1) := by decide +kernel
theorem dX4_copyFrom_45 : decode cX4_copyFrom 45 = .ok (.aload_n 1, 1) := by decide +kernel
theorem dX4_copyFrom_46 : decode cX4_copyFrom 46 = .ok (.getfield 53, 3) := by decide +kernel
theorem dX4_copyFrom_49 : decode cX4_copyFrom 49 = .ok (.if_icmp .ge 25, 3) := by decide +kernel
theorem dX4_copyFrom_52 : decode cX4_copyFrom 52 = .ok (.aload_n 0, 1) := by decide +kernel
theorem dX4_copyFrom_53 : decode cX4_copyFrom 53 = .ok (.aload_n 1, 1) := by decide +kernel
theorem dX4_copyFrom_54 : decode cX4_copyFrom 54 = .ok (.getfield 22, 3) := by decide +kernel
theorem dX4_copyFrom_57 : decode cX4_copyFrom 57 = .ok (.iload_n 2, 1) := by decide +kernel
theorem dX4_copyFrom_58 : decode cX4_copyFrom 58 = .ok (.iaload, 1) := by decide +kernel
theorem dX4_copyFrom_59 : decode cX4_copyFrom 59 = .ok (.aload_n 1, 1) := by decide +kernel
theorem dX4_copyFrom_60 : decode cX4_copyFrom 60 = .ok (.getfield 25, 3) := by decide +kernel
theorem dX4_copyFrom_63 : decode cX4_copyFrom 63 = .ok (.iload_n 2, 1) := by decide +kernel
theorem dX4_copyFrom_64 : decode cX4_copyFrom 64 = .ok (.iaload, 1) := by decide +kernel
theorem dX4_copyFrom_65 : decode cX4_copyFrom 65 = .ok (.invokevirtual 78, 3) := by decide +kernel
theorem dX4_copyFrom_68 : decode cX4_copyFrom 68 = .ok (.iinc 2 1, 3) := by decide +kernel
theorem dX4_copyFrom_71 : decode cX4_copyFrom 71 = .ok (.goto (-27), 3) := by decide +kernel
theorem dX4_copyFrom_74 : decode cX4_copyFrom 74 = .ok (.iconst 0, 1) := by decide +kernel
theorem dX4_copyFrom_75 : decode cX4_copyFrom 75 = .ok (.istore_n 2, 1) := by decide +kernel
theorem dX4_copyFrom_76 : decode cX4_copyFrom 76 = .ok (.iload_n 2, 1) := by decide +kernel
theorem dX4_copyFrom_77 : decode cX4_copyFrom 77 = .ok (.aload_n 1, 1) := by decide +kernel
theorem dX4_copyFrom_78 : decode cX4_copyFrom 78 = .ok (.getfield 56, 3) := by decide +kernel
theorem dX4_copyFrom_81 : decode cX4_copyFrom 81 = .ok (.if_icmp .ge 37, 3) := by decide +kernel
theorem dX4_copyFrom_84 : decode cX4_copyFrom 84 = .ok (.aload_n 0, 1) := by decide +kernel
theorem dX4_copyFrom_85 : decode cX4_copyFrom 85 = .ok (.aload_n 1, 1) := by decide +kernel
theorem dX4_copyFrom_86 : decode cX4_copyFrom 86 = .ok (.getfield 28, 3) := by decide +kernel
theorem dX4_copyFrom_89 : decode cX4_copyFrom 89 = .ok (.iload_n 2, 1) := by decide +kernel
theorem dX4_copyFrom_90 : decode cX4_copyFrom 90 = .ok (.iaload, 1) := by decide +kernel
theorem dX4_copyFrom_91 : decode cX4_copyFrom 91 = .ok (.aload_n 1, 1) := by decide +kernel
theorem dX4_copyFrom_92 : decode cX4_copyFrom 92 = .ok (.getfield 31, 3) := by decide +kernel
theorem dX4_copyFrom_95 : decode cX4_copyFrom 95 = .ok (.iload_n 2, 1) := by decide +kernel
theorem dX4_copyFrom_96 : decode cX4_copyFrom 96 = .ok (.iaload, 1) := by decide +kernel
theorem dX4_copyFrom_97 : decode cX4_copyFrom 97 = .ok (.aload_n 1, 1) := by decide +kernel
theorem dX4_copyFrom_98 : decode cX4_copyFrom 98 = .ok (.getfield 34, 3) := by decide +kernel
theorem dX4_copyFrom_101 : decode cX4_copyFrom 101 = .ok (.iload_n 2, 1) := by decide +kernel
theorem dX4_copyFrom_102 : decode cX4_copyFrom 102 = .ok (.baload, 1) := by decide +kernel
theorem dX4_copyFrom_103 : decode cX4_copyFrom 103 = .ok (.aload_n 1, 1) := by decide +kernel
theorem dX4_copyFrom_104 : decode cX4_copyFrom 104 = .ok (.getfield 37, 3) := by decide +kernel
theorem dX4_copyFrom_107 : decode cX4_copyFrom 107 = .ok (.iload_n 2, 1) := by decide +kernel
theorem dX4_copyFrom_108 : decode cX4_copyFrom 108 = .ok (.iaload, 1) := by decide +kernel
theorem dX4_copyFrom_109 : decode cX4_copyFrom 109 = .ok (.invokevirtual 82, 3) := by decide +kernel
theorem dX4_copyFrom_112 : decode cX4_copyFrom 112 = .ok (.iinc 2 1, 3) := by decide +kernel
theorem dX4_copyFrom_115 : decode cX4_copyFrom 115 = .ok (.goto (-39), 3) := by decide +kernel
theorem dX4_copyFrom_118 : decode cX4_copyFrom 118 = .ok (.aload_n 1, 1) := by decide +kernel
theorem dX4_copyFrom_119 : decode cX4_copyFrom 119 = .ok (.getfield 40, 3) := by decide +kernel
theorem dX4_copyFrom_122 : decode cX4_copyFrom 122 = .ok (.iconst 0, 1) := by decide +kernel
theorem dX4_copyFrom_123 : decode cX4_copyFrom 123 = .ok (.aload_n 0, 1) := by decide +kernel
theorem dX4_copyFrom_124 : decode cX4_copyFrom 124 = .ok (.getfield 40, 3) := by decide +kernel
theorem dX4_copyFrom_127 : decode cX4_copyFrom 127 = .ok (.iconst 0, 1) := by decide +kernel
theorem dX4_copyFrom_128 : decode cX4_copyFrom 128 = .ok (.bipush 14, 2) := by decide +kernel
theorem dX4_copyFrom_130 : decode cX4_copyFrom 130 = .ok (.invokestatic 68, 3) := by decide +kernel
theorem dX4_copyFrom_133 : decode cX4_copyFrom 133 = .ok (.aload_n 1, 1) := by decide +kernel
theorem dX4_copyFrom_134 : decode cX4_copyFrom 134 = .ok (.getfield 43, 3) := by decide +kernel
theorem dX4_copyFrom_137 : decode cX4_copyFrom 137 = .ok (.iconst 0, 1) := by decide +kernel
theorem dX4_copyFrom_138 : decode cX4_copyFrom 138 = .ok (.aload_n 0, 1) := by decide +kernel
theorem dX4_copyFrom_139 : decode cX4_copyFrom 139 = .ok (.getfield 43, 3) := by decide +kernel
theorem dX4_copyFrom_142 : decode cX4_copyFrom 142 = .ok (.iconst 0, 1) := by decide +kernel
theorem dX4_copyFrom_143 : decode cX4_copyFrom 143 = .ok (.iconst 4, 1) := by decide +kernel
theorem dX4_copyFrom_144 : decode cX4_copyFrom 144 = .ok (.invokestatic 68, 3) := by decide +kernel
theorem dX4_copyFrom_147 : decode cX4_copyFrom 147 = .ok (.return_, 1) := by decide +kernel
theorem dX4_addLocation_0 : decode cX4_addLocation 0 = .ok (.aload_n 0, 1) := by decide +kernel
theorem dX4_addLocation_1 : decode cX4_addLocation 1 = .ok (.getfield 49, 3) := by decide +kernel
theorem dX4_addLocation_4 : decode cX4_addLocation 4 = .ok (.iconst 4, 1) := by decide +kernel
theorem dX4_addLocation_5 : decode cX4_addLocation 5 = .ok (.if_icmp .ge 43, 3) := by decide +kernel
theorem dX4_addLocation_8 : decode cX4_addLocation 8 = .ok (.aload_n 0, 1) := by decide +kernel
theorem dX4_addLocation_9 : decode cX4_addLocation 9 = .ok (.getfield 9, 3) := by decide +kernel
theorem dX4_addLocation_12 : decode cX4_addLocation 12 = .ok (.aload_n 0, 1) := by decide +kernel
theorem dX4_addLocation_13 : decode cX4_addLocation 13 = .ok (.getfield 49, 3) := by decide +kernel
theorem dX4_addLocation_16 : decode cX4_addLocation 16 = .ok (.iload_n 1, 1) := by decide +kernel
theorem dX4_addLocation_17 : decode cX4_addLocation 17 = .ok (.iastore, 1) := by decide +kernel
theorem dX4_addLocation_18 : decode cX4_addLocation 18 = .ok (.aload_n 0, 1) := by decide +kernel
theorem dX4_addLocation_19 : decode cX4_addLocation 19 = .ok (.getfield 15, 3) := by decide +kernel
theorem dX4_addLocation_22 : decode cX4_addLocation 22 = .ok (.aload_n 0, 1) := by decide +kernel
theorem dX4_addLocation_23 : decode cX4_addLocation 23 = .ok (.getfield 49, 3) := by decide +kernel
theorem dX4_addLocation_26 : decode cX4_addLocation 26 = .ok (.iload_n 2, 1) := by decide +kernel
theorem dX4_addLocation_27 : decode cX4_addLocation 27 = .ok (.iastore, 1) := by decide +kernel
theorem dX4_addLocation_28 : decode cX4_addLocation 28 = .ok (.aload_n 0, 1) := by decide +kernel
theorem dX4_addLocation_29 : decode cX4_addLocation 29 = .ok (.getfield 18, 3) := by decide +kernel
theorem dX4_addLocation_32 : decode cX4_addLocation 32 = .ok (.aload_n 0, 1) := by decide +kernel
theorem dX4_addLocation_33 : decode cX4_addLocation 33 = .ok (.getfield 49, 3) := by decide +kernel
theorem dX4_addLocation_36 : decode cX4_addLocation 36 = .ok (.iload_n 3, 1) := by decide +kernel
theorem dX4_addLocation_37 : decode cX4_addLocation 37 = .ok (.bastore, 1) := by decide +kernel
theorem dX4_addLocation_38 : decode cX4_addLocation 38 = .ok (.aload_n 0, 1) := by decide +kernel
theorem dX4_addLocation_39 : decode cX4_addLocation 39 = .ok (.dup, 1) := by decide +kernel
theorem dX4_addLocation_40 : decode cX4_addLocation 40 = .ok (.getfield 49, 3) := by decide +kernel
theorem dX4_addLocation_43 : decode cX4_addLocation 43 = .ok (.iconst 1, 1) := by decide +kernel
theorem dX4_addLocation_44 : decode cX4_addLocation 44 = .ok (.iadd, 1) := by decide +kernel
theorem dX4_addLocation_45 : decode cX4_addLocation 45 = .ok (.putfield 49, 3) := by decide +kernel
theorem dX4_addLocation_48 : decode cX4_addLocation 48 = .ok (.return_, 1) := by decide +kernel
theorem dX4_addActor_0 : decode cX4_addActor 0 = .ok (.aload_n 0, 1) := by decide +kernel
theorem dX4_addActor_1 : decode cX4_addActor 1 = .ok (.getfield 53, 3) := by decide +kernel
theorem dX4_addActor_4 : decode cX4_addActor 4 = .ok (.bipush 6, 2) := by decide +kernel
theorem dX4_addActor_6 : decode cX4_addActor 6 = .ok (.if_icmp .ge 33, 3) := by decide +kernel
theorem dX4_addActor_9 : decode cX4_addActor 9 = .ok (.aload_n 0, 1) := by decide +kernel
theorem dX4_addActor_10 : decode cX4_addActor 10 = .ok (.getfield 22, 3) := by decide +kernel
theorem dX4_addActor_13 : decode cX4_addActor 13 = .ok (.aload_n 0, 1) := by decide +kernel
theorem dX4_addActor_14 : decode cX4_addActor 14 = .ok (.getfield 53, 3) := by decide +kernel
theorem dX4_addActor_17 : decode cX4_addActor 17 = .ok (.iload_n 1, 1) := by decide +kernel
theorem dX4_addActor_18 : decode cX4_addActor 18 = .ok (.iastore, 1) := by decide +kernel
theorem dX4_addActor_19 : decode cX4_addActor 19 = .ok (.aload_n 0, 1) := by decide +kernel
theorem dX4_addActor_20 : decode cX4_addActor 20 = .ok (.getfield 25, 3) := by decide +kernel
theorem dX4_addActor_23 : decode cX4_addActor 23 = .ok (.aload_n 0, 1) := by decide +kernel
theorem dX4_addActor_24 : decode cX4_addActor 24 = .ok (.getfield 53, 3) := by decide +kernel
theorem dX4_addActor_27 : decode cX4_addActor 27 = .ok (.iload_n 2, 1) := by decide +kernel
theorem dX4_addActor_28 : decode cX4_addActor 28 = .ok (.iastore, 1) := by decide +kernel
theorem dX4_addActor_29 : decode cX4_addActor 29 = .ok (.aload_n 0, 1) := by decide +kernel
theorem dX4_addActor_30 : decode cX4_addActor 30 = .ok (.dup, 1) := by decide +kernel
theorem dX4_addActor_31 : decode cX4_addActor 31 = .ok (.getfield 53, 3) := by decide +kernel
theorem dX4_addActor_34 : decode cX4_addActor 34 = .ok (.iconst 1, 1) := by decide +kernel
theorem dX4_addActor_35 : decode cX4_addActor 35 = .ok (.iadd, 1) := by decide +kernel
theorem dX4_addActor_36 : decode cX4_addActor 36 = .ok (.putfield 53, 3) := by decide +kernel
theorem dX4_addActor_39 : decode cX4_addActor 39 = .ok (.return_, 1) := by decide +kernel
theorem dX4_addScene_0 : decode cX4_addScene 0 = .ok (.aload_n 0, 1) := by decide +kernel
theorem dX4_addScene_1 : decode cX4_addScene 1 = .ok (.getfield 56, 3) := by decide +kernel
theorem dX4_addScene_4 : decode cX4_addScene 4 = .ok (.bipush 14, 2) := by decide +kernel
theorem dX4_addScene_6 : decode cX4_addScene 6 = .ok (.if_icmp .ge 54, 3) := by decide +kernel
theorem dX4_addScene_9 : decode cX4_addScene 9 = .ok (.aload_n 0, 1) := by decide +kernel
theorem dX4_addScene_10 : decode cX4_addScene 10 = .ok (.getfield 28, 3) := by decide +kernel
theorem dX4_addScene_13 : decode cX4_addScene 13 = .ok (.aload_n 0, 1) := by decide +kernel
theorem dX4_addScene_14 : decode cX4_addScene 14 = .ok (.getfield 56, 3) := by decide +kernel
theorem dX4_addScene_17 : decode cX4_addScene 17 = .ok (.iload_n 1, 1) := by decide +kernel
theorem dX4_addScene_18 : decode cX4_addScene 18 = .ok (.iastore, 1) := by decide +kernel
theorem dX4_addScene_19 : decode cX4_addScene 19 = .ok (.aload_n 0, 1) := by decide +kernel
theorem dX4_addScene_20 : decode cX4_addScene 20 = .ok (.getfield 31, 3) := by decide +kernel
theorem dX4_addScene_23 : decode cX4_addScene 23 = .ok (.aload_n 0, 1) := by decide +kernel
theorem dX4_addScene_24 : decode cX4_addScene 24 = .ok (.getfield 56, 3) := by decide +kernel
theorem dX4_addScene_27 : decode cX4_addScene 27 = .ok (.iload_n 2, 1) := by decide +kernel
theorem dX4_addScene_28 : decode cX4_addScene 28 = .ok (.iastore, 1) := by decide +kernel
theorem dX4_addScene_29 : decode cX4_addScene 29 = .ok (.aload_n 0, 1) := by decide +kernel
theorem dX4_addScene_30 : decode cX4_addScene 30 = .ok (.getfield 34, 3) := by decide +kernel
theorem dX4_addScene_33 : decode cX4_addScene 33 = .ok (.aload_n 0, 1) := by decide +kernel
theorem dX4_addScene_34 : decode cX4_addScene 34 = .ok (.getfield 56, 3) := by decide +kernel
theorem dX4_addScene_37 : decode cX4_addScene 37 = .ok (.iload_n 3, 1) := by decide +kernel
theorem dX4_addScene_38 : decode cX4_addScene 38 = .ok (.bastore, 1) := by decide +kernel
theorem dX4_addScene_39 : decode cX4_addScene 39 = .ok (.aload_n 0, 1) := by decide +kernel
theorem dX4_addScene_40 : decode cX4_addScene 40 = .ok (.getfield 37, 3) := by decide +kernel
theorem dX4_addScene_43 : decode cX4_addScene 43 = .ok (.aload_n 0, 1) := by decide +kernel
theorem dX4_addScene_44 : decode cX4_addScene 44 = .ok (.getfield 56, 3) := by decide +kernel
theorem dX4_addScene_47 : decode cX4_addScene 47 = .ok (.iload 4, 2) := by decide +kernel
theorem dX4_addScene_49 : decode cX4_addScene 49 = .ok (.iastore, 1) := by decide +kernel
theorem dX4_addScene_50 : decode cX4_addScene 50 = .ok (.aload_n 0, 1) := by decide +kernel
theorem dX4_addScene_51 : decode cX4_addScene 51 = .ok (.dup, 1) := by decide +kernel
theorem dX4_addScene_52 : decode cX4_addScene 52 = .ok (.getfield 56, 3) := by decide +kernel
theorem dX4_addScene_55 : decode cX4_addScene 55 = .ok (.iconst 1, 1) := by decide +kernel
theorem dX4_addScene_56 : decode cX4_addScene 56 = .ok (.iadd, 1) := by decide +kernel
theorem dX4_addScene_57 : decode cX4_addScene 57 = .ok (.putfield 56, 3) := by decide +kernel
theorem dX4_addScene_60 : decode cX4_addScene 60 = .ok (.return_, 1) := by decide +kernel
theorem dX4_locationWithName_0 : decode cX4_locationWithName 0 = .ok (.iload_n 1, 1) := by decide +kernel
theorem dX4_locationWithName_1 : decode cX4_locationWithName 1 = .ok (.aload_n 0, 1) := by decide +kernel
theorem dX4_locationWithName_2 : decode cX4_locationWithName 2 = .ok (.getfield 9, 3) := by decide +kernel
theorem dX4_locationWithName_5 : decode cX4_locationWithName 5 = .ok (.aload_n 0, 1) := by decide +kernel
theorem dX4_locationWithName_6 : decode cX4_locationWithName 6 = .ok (.getfield 49, 3) := by decide +kernel
theorem dX4_locationWithName_9 : decode cX4_locationWithName 9 = .ok (.invokestatic 86, 3) := by decide +kernel
theorem dX4_locationWithName_12 : decode cX4_locationWithName 12 = .ok (.ireturn, 1) := by decide +kernel
theorem dX4_actorWithName_0 : decode cX4_actorWithName 0 = .ok (.iload_n 1, 1) := by decide +kernel
theorem dX4_actorWithName_1 : decode cX4_actorWithName 1 = .ok (.aload_n 0, 1) := by decide +kernel
theorem dX4_actorWithName_2 : decode cX4_actorWithName 2 = .ok (.getfield 22, 3) := by decide +kernel
theorem dX4_actorWithName_5 : decode cX4_actorWithName 5 = .ok (.aload_n 0, 1) := by decide +kernel
theorem dX4_actorWithName_6 : decode cX4_actorWithName 6 = .ok (.getfield 53, 3) := by decide +kernel
theorem dX4_actorWithName_9 : decode cX4_actorWithName 9 = .ok (.invokestatic 86, 3) := by decide +kernel
theorem dX4_actorWithName_12 : decode cX4_actorWithName 12 = .ok (.ireturn, 1) := by decide +kernel
theorem dX4_isAt_0 : decode cX4_isAt 0 = .ok (.aload_n 0, 1) := by decide +kernel
theorem dX4_isAt_1 : decode cX4_isAt 1 = .ok (.getfield 28, 3) := by decide +kernel
theorem dX4_isAt_4 : decode cX4_isAt 4 = .ok (.iload_n 1, 1) := by decide +kernel
theorem dX4_isAt_5 : decode cX4_isAt 5 = .ok (.iaload, 1) := by decide +kernel
theorem dX4_isAt_6 : decode cX4_isAt 6 = .ok (.iload_n 2, 1) := by decide +kernel
theorem dX4_isAt_7 : decode cX4_isAt 7 = .ok (.if_icmp .ne 17, 3) := by decide +kernel
theorem dX4_isAt_10 : decode cX4_isAt 10 = .ok (.aload_n 0, 1) := by decide +kernel
theorem dX4_isAt_11 : decode cX4_isAt 11 = .ok (.getfield 34, 3) := by decide +kernel
theorem dX4_isAt_14 : decode cX4_isAt 14 = .ok (.iload_n 1, 1) := by decide +kernel
theorem dX4_isAt_15 : decode cX4_isAt 15 = .ok (.baload, 1) := by decide +kernel
theorem dX4_isAt_16 : decode cX4_isAt 16 = .ok (.iload_n 3, 1) := by decide +kernel
theorem dX4_isAt_17 : decode cX4_isAt 17 = .ok (.if_icmp .ne 7, 3) := by decide +kernel
theorem dX4_isAt_20 : decode cX4_isAt 20 = .ok (.iconst 1, 1) := by decide +kernel
theorem dX4_isAt_21 : decode cX4_isAt 21 = .ok (.goto 4, 3) := by decide +kernel
theorem dX4_isAt_24 : decode cX4_isAt 24 = .ok (.iconst 0, 1) := by decide +kernel
theorem dX4_isAt_25 : decode cX4_isAt 25 = .ok (.ireturn, 1) := by decide +kernel
theorem dX4_holdingFeeOf_0 : decode cX4_holdingFeeOf 0 = .ok (.aload_n 0, 1) := by decide +kernel
theorem dX4_holdingFeeOf_1 : decode cX4_holdingFeeOf 1 = .ok (.getfield 25, 3) := by decide +kernel
theorem dX4_holdingFeeOf_4 : decode cX4_holdingFeeOf 4 = .ok (.iload_n 1, 1) := by decide +kernel
theorem dX4_holdingFeeOf_5 : decode cX4_holdingFeeOf 5 = .ok (.iaload, 1) := by decide +kernel
theorem dX4_holdingFeeOf_6 : decode cX4_holdingFeeOf 6 = .ok (.aload_n 0, 1) := by decide +kernel
theorem dX4_holdingFeeOf_7 : decode cX4_holdingFeeOf 7 = .ok (.getfield 43, 3) := by decide +kernel
theorem dX4_holdingFeeOf_10 : decode cX4_holdingFeeOf 10 = .ok (.iconst 2, 1) := by decide +kernel
theorem dX4_holdingFeeOf_11 : decode cX4_holdingFeeOf 11 = .ok (.iaload, 1) := by decide +kernel
theorem dX4_holdingFeeOf_12 : decode cX4_holdingFeeOf 12 = .ok (.imul, 1) := by decide +kernel
theorem dX4_holdingFeeOf_13 : decode cX4_holdingFeeOf 13 = .ok (.bipush 100, 2) := by decide +kernel
theorem dX4_holdingFeeOf_15 : decode cX4_holdingFeeOf 15 = .ok (.idiv, 1) := by decide +kernel
theorem dX4_holdingFeeOf_16 : decode cX4_holdingFeeOf 16 = .ok (.ireturn, 1) := by decide +kernel
theorem dX4_indexOf_0 : decode cX4_indexOf 0 = .ok (.iconst 0, 1) := by decide +kernel
theorem dX4_indexOf_1 : decode cX4_indexOf 1 = .ok (.istore_n 3, 1) := by decide +kernel
theorem dX4_indexOf_2 : decode cX4_indexOf 2 = .ok (.iload_n 3, 1) := by decide +kernel
theorem dX4_indexOf_3 : decode cX4_indexOf 3 = .ok (.iload_n 2, 1) := by decide +kernel
theorem dX4_indexOf_4 : decode cX4_indexOf 4 = .ok (.if_icmp .ge 18, 3) := by decide +kernel
theorem dX4_indexOf_7 : decode cX4_indexOf 7 = .ok (.aload_n 1, 1) := by decide +kernel
theorem dX4_indexOf_8 : decode cX4_indexOf 8 = .ok (.iload_n 3, 1) := by decide +kernel
theorem dX4_indexOf_9 : decode cX4_indexOf 9 = .ok (.iaload, 1) := by decide +kernel
theorem dX4_indexOf_10 : decode cX4_indexOf 10 = .ok (.iload_n 0, 1) := by decide +kernel
theorem dX4_indexOf_11 : decode cX4_indexOf 11 = .ok (.if_icmp .ne 5, 3) := by decide +kernel
theorem dX4_indexOf_14 : decode cX4_indexOf 14 = .ok (.iload_n 3, 1) := by decide +kernel
theorem dX4_indexOf_15 : decode cX4_indexOf 15 = .ok (.ireturn, 1) := by decide +kernel
theorem dX4_indexOf_16 : decode cX4_indexOf 16 = .ok (.iinc 3 1, 3) := by decide +kernel
theorem dX4_indexOf_19 : decode cX4_indexOf 19 = .ok (.goto (-17), 3) := by decide +kernel
theorem dX4_indexOf_22 : decode cX4_indexOf 22 = .ok (.iconst (-1), 1) := by decide +kernel
theorem dX4_indexOf_23 : decode cX4_indexOf 23 = .ok (.ireturn, 1) := by decide +kernel
theorem dX5_init_0 : decode cX5_init 0 = .ok (.aload_n 0, 1) := by decide +kernel
theorem dX5_init_1 : decode cX5_init 1 = .ok (.invokespecial 3, 3) := by decide +kernel
theorem dX5_init_4 : decode cX5_init 4 = .ok (.aload_n 0, 1) := by decide +kernel
theorem dX5_init_5 : decode cX5_init 5 = .ok (.bipush 36, 2) := by decide +kernel
theorem dX5_init_7 : decode cX5_init 7 = .ok (.newarray .int, 2) := by decide +kernel
theorem dX5_init_9 : decode cX5_init 9 = .ok (.putfield 11, 3) := by decide +kernel
theorem dX5_init_12 : decode cX5_init 12 = .ok (.aload_n 0, 1) := by decide +kernel
theorem dX5_init_13 : decode cX5_init 13 = .ok (.aload_n 1, 1) := by decide +kernel
theorem dX5_init_14 : decode cX5_init 14 = .ok (.putfield 15, 3) := by decide +kernel
theorem dX5_init_17 : decode cX5_init 17 = .ok (.return_, 1) := by decide +kernel
theorem dX5_shootAll_0 : decode cX5_shootAll 0 = .ok (.aload_n 0, 1) := by decide +kernel
theorem dX5_shootAll_1 : decode cX5_shootAll 1 = .ok (.iconst 0, 1) := by decide +kernel
theorem dX5_shootAll_2 : decode cX5_shootAll 2 = .ok (.putfield 19, 3) := by decide +kernel
theorem dX5_shootAll_5 : decode cX5_shootAll 5 = .ok (.aload_n 0, 1) := by decide +kernel
theorem dX5_shootAll_6 : decode cX5_shootAll 6 = .ok (.iconst 0, 1) := by decide +kernel
theorem dX5_shootAll_7 : decode cX5_shootAll 7 = .ok (.putfield 23, 3) := by decide +kernel
theorem dX5_shootAll_10 : decode cX5_shootAll 10 = .ok (.aload_n 0, 1) := by decide +kernel
theorem dX5_shootAll_11 : decode cX5_shootAll 11 = .ok (.iconst 0, 1) := by decide +kernel
theorem dX5_shootAll_12 : decode cX5_shootAll 12 = .ok (.putfield 26, 3) := by decide +kernel
theorem dX5_shootAll_15 : decode cX5_shootAll 15 = .ok (.aload_n 0, 1) := by decide +kernel
theorem dX5_shootAll_16 : decode cX5_shootAll 16 = .ok (.iconst 1, 1) := by decide +kernel
theorem dX5_shootAll_17 : decode cX5_shootAll 17 = .ok (.aload_n 0, 1) := by decide +kernel
theorem dX5_shootAll_18 : decode cX5_shootAll 18 = .ok (.getfield 15, 3) := by decide +kernel
theorem dX5_shootAll_21 : decode cX5_shootAll 21 = .ok (.invokevirtual 29, 3) := by decide +kernel
theorem dX5_shootAll_24 : decode cX5_shootAll 24 = .ok (.ishl, 1) := by decide +kernel
theorem dX5_shootAll_25 : decode cX5_shootAll 25 = .ok (.iconst 1, 1) := by decide +kernel
theorem dX5_shootAll_26 : decode cX5_shootAll 26 = .ok (.isub, 1) := by decide +kernel
theorem dX5_shootAll_27 : decode cX5_shootAll 27 = .ok (.putfield 35, 3) := by decide +kernel
theorem dX5_shootAll_30 : decode cX5_shootAll 30 = .ok (.aload_n 0, 1) := by decide +kernel
theorem dX5_shootAll_31 : decode cX5_shootAll 31 = .ok (.getfield 35, 3) := by decide +kernel
theorem dX5_shootAll_34 : decode cX5_shootAll 34 = .ok (.ifCond .eq 120, 3) := by decide +kernel
theorem dX5_shootAll_37 : decode cX5_shootAll 37 = .ok (.aload_n 0, 1) := by decide +kernel
theorem dX5_shootAll_38 : decode cX5_shootAll 38 = .ok (.getfield 19, 3) := by decide +kernel
theorem dX5_shootAll_41 : decode cX5_shootAll 41 = .ok (.bipush 36, 2) := by decide +kernel
theorem dX5_shootAll_43 : decode cX5_shootAll 43 = .ok (.if_icmp .ge 111, 3) := by decide +kernel
theorem dX5_shootAll_46 : decode cX5_shootAll 46 = .ok (.aload_n 0, 1) := by decide +kernel
theorem dX5_shootAll_47 : decode cX5_shootAll 47 = .ok (.getfield 19, 3) := by decide +kernel
theorem dX5_shootAll_50 : decode cX5_shootAll 50 = .ok (.bipush 12, 2) := by decide +kernel
theorem dX5_shootAll_52 : decode cX5_shootAll 52 = .ok (.if_icmp .ge 18, 3) := by decide +kernel
theorem dX5_shootAll_55 : decode cX5_shootAll 55 = .ok (.iload_n 1, 1) := by decide +kernel
theorem dX5_shootAll_56 : decode cX5_shootAll 56 = .ok (.aload_n 0, 1) := by decide +kernel
theorem dX5_shootAll_57 : decode cX5_shootAll 57 = .ok (.getfield 19, 3) := by decide +kernel
theorem dX5_shootAll_60 : decode cX5_shootAll 60 = .ok (.invokestatic 38, 3) := by decide +kernel
theorem dX5_shootAll_63 : decode cX5_shootAll 63 = .ok (.ifCond .eq 7, 3) := by decide +kernel
theorem dX5_shootAll_66 : decode cX5_shootAll 66 = .ok (.iconst 1, 1) := by decide +kernel
theorem dX5_shootAll_67 : decode cX5_shootAll 67 = .ok (.goto 4, 3) := by decide +kernel
theorem dX5_shootAll_70 : decode cX5_shootAll 70 = .ok (.iconst 0, 1) := by decide +kernel
theorem dX5_shootAll_71 : decode cX5_shootAll 71 = .ok (.istore_n 2, 1) := by decide +kernel
theorem dX5_shootAll_72 : decode cX5_shootAll 72 = .ok (.aload_n 0, 1) := by decide +kernel
theorem dX5_shootAll_73 : decode cX5_shootAll 73 = .ok (.iload_n 2, 1) := by decide +kernel
theorem dX5_shootAll_74 : decode cX5_shootAll 74 = .ok (.invokevirtual 42, 3) := by decide +kernel
theorem dX5_shootAll_77 : decode cX5_shootAll 77 = .ok (.istore_n 3, 1) := by decide +kernel
theorem dX5_shootAll_78 : decode cX5_shootAll 78 = .ok (.aload_n 0, 1) := by decide +kernel
theorem dX5_shootAll_79 : decode cX5_shootAll 79 = .ok (.getfield 11, 3) := by decide +kernel
theorem dX5_shootAll_82 : decode cX5_shootAll 82 = .ok (.aload_n 0, 1) := by decide +kernel
theorem dX5_shootAll_83 : decode cX5_shootAll 83 = .ok (.getfield 19, 3) := by decide +kernel
theorem dX5_shootAll_86 : decode cX5_shootAll 86 = .ok (.iload_n 3, 1) := by decide +kernel
theorem dX5_shootAll_87 : decode cX5_shootAll 87 = .ok (.iastore, 1) := by decide +kernel
theorem dX5_shootAll_88 : decode cX5_shootAll 88 = .ok (.aload_n 0, 1) := by decide +kernel
theorem dX5_shootAll_89 : decode cX5_shootAll 89 = .ok (.iconst 0, 1) := by decide +kernel
theorem dX5_shootAll_90 : decode cX5_shootAll 90 = .ok (.putfield 26, 3) := by decide +kernel
theorem dX5_shootAll_93 : decode cX5_shootAll 93 = .ok (.iload_n 3, 1) := by decide +kernel
theorem dX5_shootAll_94 : decode cX5_shootAll 94 = .ok (.iconst (-1), 1) := by decide +kernel
theorem dX5_shootAll_95 : decode cX5_shootAll 95 = .ok (.if_icmp .eq 46, 3) := by decide +kernel
theorem dX5_shootAll_98 : decode cX5_shootAll 98 = .ok (.aload_n 0, 1) := by decide +kernel
theorem dX5_shootAll_99 : decode cX5_shootAll 99 = .ok (.dup, 1) := by decide +kernel
theorem dX5_shootAll_100 : decode cX5_shootAll 100 = .ok (.getfield 35, 3) := by decide +kernel
theorem dX5_shootAll_103 : decode cX5_shootAll 103 = .ok (.iconst 1, 1) := by decide +kernel
theorem dX5_shootAll_104 : decode cX5_shootAll 104 = .ok (.iload_n 3, 1) := by decide +kernel
theorem dX5_shootAll_105 : decode cX5_shootAll 105 = .ok (.ishl, 1) := by decide +kernel
theorem dX5_shootAll_106 : decode cX5_shootAll 106 = .ok (.iconst (-1), 1) := by decide +kernel
theorem dX5_shootAll_107 : decode cX5_shootAll 107 = .ok (.ixor, 1) := by decide +kernel
theorem dX5_shootAll_108 : decode cX5_shootAll 108 = .ok (.iand, 1) := by decide +kernel
theorem dX5_shootAll_109 : decode cX5_shootAll 109 = .ok (.putfield 35, 3) := by decide +kernel
theorem dX5_shootAll_112 : decode cX5_shootAll 112 = .ok (.aload_n 0, 1) := by decide +kernel
theorem dX5_shootAll_113 : decode cX5_shootAll 113 = .ok (.aload_n 0, 1) := by decide +kernel
theorem dX5_shootAll_114 : decode cX5_shootAll 114 = .ok (.getfield 15, 3) := by decide +kernel
theorem dX5_shootAll_117 : decode cX5_shootAll 117 = .ok (.getfield 46, 3) := by decide +kernel
theorem dX5_shootAll_120 : decode cX5_shootAll 120 = .ok (.iload_n 3, 1) := by decide +kernel
theorem dX5_shootAll_121 : decode cX5_shootAll 121 = .ok (.baload, 1) := by decide +kernel
theorem dX5_shootAll_122 : decode cX5_shootAll 122 = .ok (.ifCond .eq 15, 3) := by decide +kernel
theorem dX5_shootAll_125 : decode cX5_shootAll 125 = .ok (.aload_n 0, 1) := by decide +kernel
theorem dX5_shootAll_126 : decode cX5_shootAll 126 = .ok (.getfield 15, 3) := by decide +kernel
theorem dX5_shootAll_129 : decode cX5_shootAll 129 = .ok (.getfield 50, 3) := by decide +kernel
theorem dX5_shootAll_132 : decode cX5_shootAll 132 = .ok (.iload_n 3, 1) := by decide +kernel
theorem dX5_shootAll_133 : decode cX5_shootAll 133 = .ok (.iaload, 1) := by decide +kernel
theorem dX5_shootAll_134 : decode cX5_shootAll 134 = .ok (.goto 4, 3) := by decide +kernel
theorem dX5_shootAll_137 : decode cX5_shootAll 137 = .ok (.iconst 0, 1) := by decide +kernel
theorem dX5_shootAll_138 : decode cX5_shootAll 138 = .ok (.putfield 26, 3) := by decide +kernel
theorem dX5_shootAll_141 : decode cX5_shootAll 141 = .ok (.aload_n 0, 1) := by decide +kernel
theorem dX5_shootAll_142 : decode cX5_shootAll 142 = .ok (.dup, 1) := by decide +kernel
theorem dX5_shootAll_143 : decode cX5_shootAll 143 = .ok (.getfield 19, 3) := by decide +kernel
theorem dX5_shootAll_146 : decode cX5_shootAll 146 = .ok (.iconst 1, 1) := by decide +kernel
theorem dX5_shootAll_147 : decode cX5_shootAll 147 = .ok (.iadd, 1) := by decide +kernel
theorem dX5_shootAll_148 : decode cX5_shootAll 148 = .ok (.putfield 19, 3) := by decide +kernel
theorem dX5_shootAll_151 : decode cX5_shootAll 151 = .ok (.goto (-121), 3) := by decide +kernel
theorem dX5_shootAll_154 : decode cX5_shootAll 154 = .ok (.return_, 1) := by decide +kernel
theorem dX5_shotOn_0 : decode cX5_shotOn 0 = .ok (.iload_n 1, 1) := by decide +kernel
theorem dX5_shotOn_1 : decode cX5_shotOn 1 = .ok (.ifCond .lt 20, 3) := by decide +kernel
theorem dX5_shotOn_4 : decode cX5_shotOn 4 = .ok (.iload_n 1, 1) := by decide +kernel
theorem dX5_shotOn_5 : decode cX5_shotOn 5 = .ok (.aload_n 0, 1) := by decide +kernel
theorem dX5_shotOn_6 : decode cX5_shotOn 6 = .ok (.getfield 19, 3) := by decide +kernel
theorem dX5_shotOn_9 : decode cX5_shotOn 9 = .ok (.if_icmp .ge 12, 3) := by decide +kernel
theorem dX5_shotOn_12 : decode cX5_shotOn 12 = .ok (.aload_n 0, 1) := by decide +kernel
theorem dX5_shotOn_13 : decode cX5_shotOn 13 = .ok (.getfield 11, 3) := by decide +kernel
theorem dX5_shotOn_16 : decode cX5_shotOn 16 = .ok (.iload_n 1, 1) := by decide +kernel
theorem dX5_shotOn_17 : decode cX5_shotOn 17 = .ok (.iaload, 1) := by decide +kernel
theorem dX5_shotOn_18 : decode cX5_shotOn 18 = .ok (.goto 4, 3) := by decide +kernel
theorem dX5_shotOn_21 : decode cX5_shotOn 21 = .ok (.iconst (-1), 1) := by decide +kernel
theorem dX5_shotOn_22 : decode cX5_shotOn 22 = .ok (.ireturn, 1) := by decide +kernel
theorem dX5_chooseDay_0 : decode cX5_chooseDay 0 = .ok (.aload_n 0, 1) := by decide +kernel
theorem dX5_chooseDay_1 : decode cX5_chooseDay 1 = .ok (.getfield 35, 3) := by decide +kernel
theorem dX5_chooseDay_4 : decode cX5_chooseDay 4 = .ok (.invokestatic 53, 3) := by decide +kernel
theorem dX5_chooseDay_7 : decode cX5_chooseDay 7 = .ok (.istore_n 2, 1) := by decide +kernel
theorem dX5_chooseDay_8 : decode cX5_chooseDay 8 = .ok (.iload_n 2, 1) := by decide +kernel
theorem dX5_chooseDay_9 : decode cX5_chooseDay 9 = .ok (.iconst (-1), 1) := by decide +kernel
theorem dX5_chooseDay_10 : decode cX5_chooseDay 10 = .ok (.if_icmp .ne 5, 3) := by decide +kernel
theorem dX5_chooseDay_13 : decode cX5_chooseDay 13 = .ok (.iconst (-1), 1) := by decide +kernel
theorem dX5_chooseDay_14 : decode cX5_chooseDay 14 = .ok (.ireturn, 1) := by decide +kernel
theorem dX5_chooseDay_15 : decode cX5_chooseDay 15 = .ok (.iload_n 1, 1) := by decide +kernel
theorem dX5_chooseDay_16 : decode cX5_chooseDay 16 = .ok (.ifCond .eq 14, 3) := by decide +kernel
theorem dX5_chooseDay_19 : decode cX5_chooseDay 19 = .ok (.aload_n 0, 1) := by decide +kernel
theorem dX5_chooseDay_20 : decode cX5_chooseDay 20 = .ok (.getfield 15, 3) := by decide +kernel
theorem dX5_chooseDay_23 : decode cX5_chooseDay 23 = .ok (.iload_n 2, 1) := by decide +kernel
theorem dX5_chooseDay_24 : decode cX5_chooseDay 24 = .ok (.invokevirtual 59, 3) := by decide +kernel
theorem dX5_chooseDay_27 : decode cX5_chooseDay 27 = .ok (.ifCond .ne 17, 3) := by decide +kernel
theorem dX5_chooseDay_30 : decode cX5_chooseDay 30 = .ok (.aload_n 0, 1) := by decide +kernel
theorem dX5_chooseDay_31 : decode cX5_chooseDay 31 = .ok (.iload_n 2, 1) := by decide +kernel
theorem dX5_chooseDay_32 : decode cX5_chooseDay 32 = .ok (.invokevirtual 63, 3) := by decide +kernel
theorem dX5_chooseDay_35 : decode cX5_chooseDay 35 = .ok (.ifCond .eq 7, 3) := by decide +kernel
theorem dX5_chooseDay_38 : decode cX5_chooseDay 38 = .ok (.iload_n 2, 1) := by decide +kernel
theorem dX5_chooseDay_39 : decode cX5_chooseDay 39 = .ok (.goto 4, 3) := by decide +kernel
theorem dX5_chooseDay_42 : decode cX5_chooseDay 42 = .ok (.iconst (-1), 1) := by decide +kernel
theorem dX5_chooseDay_43 : decode cX5_chooseDay 43 = .ok (.ireturn, 1) := by decide +kernel
theorem dX5_chooseDay_44 : decode cX5_chooseDay 44 = .ok (.aload_n 0, 1) := by decide +kernel
theorem dX5_chooseDay_45 : decode cX5_chooseDay 45 = .ok (.iload_n 2, 1) := by decide +kernel
theorem dX5_chooseDay_46 : decode cX5_chooseDay 46 = .ok (.invokevirtual 66, 3) := by decide +kernel
theorem dX5_chooseDay_49 : decode cX5_chooseDay 49 = .ok (.istore_n 3, 1) := by decide +kernel
theorem dX5_chooseDay_50 : decode cX5_chooseDay 50 = .ok (.iload_n 3, 1) := by decide +kernel
theorem dX5_chooseDay_51 : decode cX5_chooseDay 51 = .ok (.iconst (-1), 1) := by decide +kernel
theorem dX5_chooseDay_52 : decode cX5_chooseDay 52 = .ok (.if_icmp .ne 13, 3) := by decide +kernel
theorem dX5_chooseDay_55 : decode cX5_chooseDay 55 = .ok (.aload_n 0, 1) := by decide +kernel
theorem dX5_chooseDay_56 : decode cX5_chooseDay 56 = .ok (.dup, 1) := by decide +kernel
theorem dX5_chooseDay_57 : decode cX5_chooseDay 57 = .ok (.getfield 23, 3) := by decide +kernel
theorem dX5_chooseDay_60 : decode cX5_chooseDay 60 = .ok (.iconst 1, 1) := by decide +kernel
theorem dX5_chooseDay_61 : decode cX5_chooseDay 61 = .ok (.iadd, 1) := by decide +kernel
theorem dX5_chooseDay_62 : decode cX5_chooseDay 62 = .ok (.putfield 23, 3) := by decide +kernel
theorem dX5_chooseDay_65 : decode cX5_chooseDay 65 = .ok (.iload_n 3, 1) := by decide +kernel
theorem dX5_chooseDay_66 : decode cX5_chooseDay 66 = .ok (.ireturn, 1) := by decide +kernel
theorem dX5_coverSet_0 : decode cX5_coverSet 0 = .ok (.iload_n 1, 1) := by decide +kernel
theorem dX5_coverSet_1 : decode cX5_coverSet 1 = .ok (.iconst 1, 1) := by decide +kernel
theorem dX5_coverSet_2 : decode cX5_coverSet 2 = .ok (.iadd, 1) := by decide +kernel
theorem dX5_coverSet_3 : decode cX5_coverSet 3 = .ok (.istore_n 2, 1) := by decide +kernel
theorem dX5_coverSet_4 : decode cX5_coverSet 4 = .ok (.iload_n 2, 1) := by decide +kernel
theorem dX5_coverSet_5 : decode cX5_coverSet 5 = .ok (.bipush 12, 2) := by decide +kernel
theorem dX5_coverSet_7 : decode cX5_coverSet 7 = .ok (.if_icmp .ge 52, 3) := by decide +kernel
theorem dX5_coverSet_10 : decode cX5_coverSet 10 = .ok (.aload_n 0, 1) := by decide +kernel
theorem dX5_coverSet_11 : decode cX5_coverSet 11 = .ok (.getfield 35, 3) := by decide +kernel
theorem dX5_coverSet_14 : decode cX5_coverSet 14 = .ok (.iload_n 2, 1) := by decide +kernel
theorem dX5_coverSet_15 : decode cX5_coverSet 15 = .ok (.invokestatic 38, 3) := by decide +kernel
theorem dX5_coverSet_18 : decode cX5_coverSet 18 = .ok (.ifCond .eq 35, 3) := by decide +kernel
theorem dX5_coverSet_21 : decode cX5_coverSet 21 = .ok (.aload_n 0, 1) := by decide +kernel
theorem dX5_coverSet_22 : decode cX5_coverSet 22 = .ok (.getfield 15, 3) := by decide +kernel
theorem dX5_coverSet_25 : decode cX5_coverSet 25 = .ok (.iload_n 2, 1) := by decide +kernel
theorem dX5_coverSet_26 : decode cX5_coverSet 26 = .ok (.invokevirtual 69, 3) := by decide +kernel
theorem dX5_coverSet_29 : decode cX5_coverSet 29 = .ok (.ifCond .ne 24, 3) := by decide +kernel
theorem dX5_coverSet_32 : decode cX5_coverSet 32 = .ok (.aload_n 0, 1) := by decide +kernel
theorem dX5_coverSet_33 : decode cX5_coverSet 33 = .ok (.getfield 15, 3) := by decide +kernel
theorem dX5_coverSet_36 : decode cX5_coverSet 36 = .ok (.iload_n 2, 1) := by decide +kernel
theorem dX5_coverSet_37 : decode cX5_coverSet 37 = .ok (.invokevirtual 59, 3) := by decide +kernel
theorem dX5_coverSet_40 : decode cX5_coverSet 40 = .ok (.ifCond .ne 13, 3) := by decide +kernel
theorem dX5_coverSet_43 : decode cX5_coverSet 43 = .ok (.aload_n 0, 1) := by decide +kernel
theorem dX5_coverSet_44 : decode cX5_coverSet 44 = .ok (.iload_n 2, 1) := by decide +kernel
theorem dX5_coverSet_45 : decode cX5_coverSet 45 = .ok (.invokevirtual 63, 3) := by decide +kernel
theorem dX5_coverSet_48 : decode cX5_coverSet 48 = .ok (.ifCond .eq 5, 3) := by decide +kernel
theorem dX5_coverSet_51 : decode cX5_coverSet 51 = .ok (.iload_n 2, 1) := by decide +kernel
theorem dX5_coverSet_52 : decode cX5_coverSet 52 = .ok (.ireturn, 1) := by decide +kernel
theorem dX5_coverSet_53 : decode cX5_coverSet 53 = .ok (.iinc 2 1, 3) := by decide +kernel
theorem dX5_coverSet_56 : decode cX5_coverSet 56 = .ok (.goto (-52), 3) := by decide +kernel
theorem dX5_coverSet_59 : decode cX5_coverSet 59 = .ok (.iconst (-1), 1) := by decide +kernel
theorem dX5_coverSet_60 : decode cX5_coverSet 60 = .ok (.ireturn, 1) := by decide +kernel
theorem dX5_isRested_0 : decode cX5_isRested 0 = .ok (.aload_n 0, 1) := by decide +kernel
theorem dX5_isRested_1 : decode cX5_isRested 1 = .ok (.getfield 15, 3) := by decide +kernel
theorem dX5_isRested_4 : decode cX5_isRested 4 = .ok (.getfield 46, 3) := by decide +kernel
theorem dX5_isRested_7 : decode cX5_isRested 7 = .ok (.iload_n 1, 1) := by decide +kernel
theorem dX5_isRested_8 : decode cX5_isRested 8 = .ok (.baload, 1) := by decide +kernel
theorem dX5_isRested_9 : decode cX5_isRested 9 = .ok (.ifCond .ne 20, 3) := by decide +kernel
theorem dX5_isRested_12 : decode cX5_isRested 12 = .ok (.aload_n 0, 1) := by decide +kernel
theorem dX5_isRested_13 : decode cX5_isRested 13 = .ok (.getfield 15, 3) := by decide +kernel
theorem dX5_isRested_16 : decode cX5_isRested 16 = .ok (.getfield 50, 3) := by decide +kernel
theorem dX5_isRested_19 : decode cX5_isRested 19 = .ok (.iload_n 1, 1) := by decide +kernel
theorem dX5_isRested_20 : decode cX5_isRested 20 = .ok (.iaload, 1) := by decide +kernel
theorem dX5_isRested_21 : decode cX5_isRested 21 = .ok (.aload_n 0, 1) := by decide +kernel
theorem dX5_isRested_22 : decode cX5_isRested 22 = .ok (.getfield 26, 3) := by decide +kernel
theorem dX5_isRested_25 : decode cX5_isRested 25 = .ok (.iand, 1) := by decide +kernel
theorem dX5_isRested_26 : decode cX5_isRested 26 = .ok (.ifCond .ne 7, 3) := by decide +kernel
theorem dX5_isRested_29 : decode cX5_isRested 29 = .ok (.iconst 1, 1) := by decide +kernel
theorem dX5_isRested_30 : decode cX5_isRested 30 = .ok (.goto 4, 3) := by decide +kernel
theorem dX5_isRested_33 : decode cX5_isRested 33 = .ok (.iconst 0, 1) := by decide +kernel
theorem dX5_isRested_34 : decode cX5_isRested 34 = .ok (.ireturn, 1) := by decide +kernel
theorem dX6_init_0 : decode cX6_init 0 = .ok (.aload_n 0, 1) := by decide +kernel
theorem dX6_init_1 : decode cX6_init 1 = .ok (.invokespecial 1, 3) := by decide +kernel
theorem dX6_init_4 : decode cX6_init 4 = .ok (.aload_n 0, 1) := by decide +kernel
theorem dX6_init_5 : decode cX6_init 5 = .ok (.aload_n 1, 1) := by decide +kernel
theorem dX6_init_6 : decode cX6_init 6 = .ok (.putfield 7, 3) := by decide +kernel
theorem dX6_init_9 : decode cX6_init 9 = .ok (.return_, 1) := by decide +kernel
theorem dX6_open_0 : decode cX6_open 0 = .ok (.aload_n 0, 1) := by decide +kernel
theorem dX6_open_1 : decode cX6_open 1 = .ok (.iconst 0, 1) := by decide +kernel
theorem dX6_open_2 : decode cX6_open 2 = .ok (.iload_n 1, 1) := by decide +kernel
theorem dX6_open_3 : decode cX6_open 3 = .ok (.aload_n 0, 1) := by decide +kernel
theorem dX6_open_4 : decode cX6_open 4 = .ok (.getfield 7, 3) := by decide +kernel
theorem dX6_open_7 : decode cX6_open 7 = .ok (.arraylength, 1) := by decide +kernel
theorem dX6_open_8 : decode cX6_open 8 = .ok (.invokestatic 13, 3) := by decide +kernel
theorem dX6_open_11 : decode cX6_open 11 = .ok (.invokestatic 19, 3) := by decide +kernel
theorem dX6_open_14 : decode cX6_open 14 = .ok (.putfield 22, 3) := by decide +kernel
theorem dX6_open_17 : decode cX6_open 17 = .ok (.aload_n 0, 1) := by decide +kernel
theorem dX6_open_18 : decode cX6_open 18 = .ok (.iconst 0, 1) := by decide +kernel
theorem dX6_open_19 : decode cX6_open 19 = .ok (.putfield 26, 3) := by decide +kernel
theorem dX6_open_22 : decode cX6_open 22 = .ok (.aload_n 0, 1) := by decide +kernel
theorem dX6_open_23 : decode cX6_open 23 = .ok (.invokevirtual 29, 3) := by decide +kernel
theorem dX6_open_26 : decode cX6_open 26 = .ok (.return_, 1) := by decide +kernel
theorem dX6_advance_0 : decode cX6_advance 0 = .ok (.aload_n 0, 1) := by decide +kernel
theorem dX6_advance_1 : decode cX6_advance 1 = .ok (.getfield 26, 3) := by decide +kernel
theorem dX6_advance_4 : decode cX6_advance 4 = .ok (.aload_n 0, 1) := by decide +kernel
theorem dX6_advance_5 : decode cX6_advance 5 = .ok (.getfield 22, 3) := by decide +kernel
theorem dX6_advance_8 : decode cX6_advance 8 = .ok (.if_icmp .ge 44, 3) := by decide +kernel
theorem dX6_advance_11 : decode cX6_advance 11 = .ok (.aload_n 0, 1) := by decide +kernel
theorem dX6_advance_12 : decode cX6_advance 12 = .ok (.getfield 7, 3) := by decide +kernel
theorem dX6_advance_15 : decode cX6_advance 15 = .ok (.aload_n 0, 1) := by decide +kernel
theorem dX6_advance_16 : decode cX6_advance 16 = .ok (.getfield 26, 3) := by decide +kernel
theorem dX6_advance_19 : decode cX6_advance 19 = .ok (.baload, 1) := by decide +kernel
theorem dX6_advance_20 : decode cX6_advance 20 = .ok (.bipush 32, 2) := by decide +kernel
theorem dX6_advance_22 : decode cX6_advance 22 = .ok (.if_icmp .eq 17, 3) := by decide +kernel
theorem dX6_advance_25 : decode cX6_advance 25 = .ok (.aload_n 0, 1) := by decide +kernel
theorem dX6_advance_26 : decode cX6_advance 26 = .ok (.getfield 7, 3) := by decide +kernel
theorem dX6_advance_29 : decode cX6_advance 29 = .ok (.aload_n 0, 1) := by decide +kernel
theorem dX6_advance_30 : decode cX6_advance 30 = .ok (.getfield 26, 3) := by decide +kernel
theorem dX6_advance_33 : decode cX6_advance 33 = .ok (.baload, 1) := by decide +kernel
theorem dX6_advance_34 : decode cX6_advance 34 = .ok (.bipush 10, 2) := by decide +kernel
theorem dX6_advance_36 : decode cX6_advance 36 = .ok (.if_icmp .ne 16, 3) := by decide +kernel
theorem dX6_advance_39 : decode cX6_advance 39 = .ok (.aload_n 0, 1) := by decide +kernel
theorem dX6_advance_40 : decode cX6_advance 40 = .ok (.dup, 1) := by decide +kernel
theorem dX6_advance_41 : decode cX6_advance 41 = .ok (.getfield 26, 3) := by decide +kernel
theorem dX6_advance_44 : decode cX6_advance 44 = .ok (.iconst 1, 1) := by decide +kernel
theorem dX6_advance_45 : decode cX6_advance 45 = .ok (.iadd, 1) := by decide +kernel
theorem dX6_advance_46 : decode cX6_advance 46 = .ok (.putfield 26, 3) := by decide +kernel
theorem dX6_advance_49 : decode cX6_advance 49 = .ok (.goto (-49), 3) := by decide +kernel
theorem dX6_advance_52 : decode cX6_advance 52 = .ok (.aload_n 0, 1) := by decide +kernel
theorem dX6_advance_53 : decode cX6_advance 53 = .ok (.aload_n 0, 1) := by decide +kernel
theorem dX6_advance_54 : decode cX6_advance 54 = .ok (.getfield 26, 3) := by decide +kernel
theorem dX6_advance_57 : decode cX6_advance 57 = .ok (.putfield 32, 3) := by decide +kernel
theorem dX6_advance_60 : decode cX6_advance 60 = .ok (.aload_n 0, 1) := by decide +kernel
theorem dX6_advance_61 : decode cX6_advance 61 = .ok (.getfield 26, 3) := by decide +kernel
theorem dX6_advance_64 : decode cX6_advance 64 = .ok (.aload_n 0, 1) := by decide +kernel
theorem dX6_advance_65 : decode cX6_advance 65 = .ok (.getfield 22, 3) := by decide +kernel
theorem dX6_advance_68 : decode cX6_advance 68 = .ok (.if_icmp .lt 11, 3) := by decide +kernel
theorem dX6_advance_71 : decode cX6_advance 71 = .ok (.aload_n 0, 1) := by decide +kernel
theorem dX6_advance_72 : decode cX6_advance 72 = .ok (.iconst 0, 1) := by decide +kernel
theorem dX6_advance_73 : decode cX6_advance 73 = .ok (.putfield 35, 3) := by decide +kernel
theorem dX6_advance_76 : decode cX6_advance 76 = .ok (.goto 80, 3) := by decide +kernel
theorem dX6_advance_79 : decode cX6_advance 79 = .ok (.aload_n 0, 1) := by decide +kernel
theorem dX6_advance_80 : decode cX6_advance 80 = .ok (.getfield 7, 3) := by decide +kernel
theorem dX6_advance_83 : decode cX6_advance 83 = .ok (.aload_n 0, 1) := by decide +kernel
theorem dX6_advance_84 : decode cX6_advance 84 = .ok (.getfield 26, 3) := by decide +kernel
theorem dX6_advance_87 : decode cX6_advance 87 = .ok (.baload, 1) := by decide +kernel
theorem dX6_advance_88 : decode cX6_advance 88 = .ok (.invokestatic 38, 3) := by decide +kernel
theorem dX6_advance_91 : decode cX6_advance 91 = .ok (.ifCond .eq 10, 3) := by decide +kernel
theorem dX6_advance_94 : decode cX6_advance 94 = .ok (.aload_n 0, 1) := by decide +kernel
theorem dX6_advance_95 : decode cX6_advance 95 = .ok (.invokevirtual 42, 3) := by decide +kernel
theorem dX6_advance_98 : decode cX6_advance 98 = .ok (.goto 58, 3) := by decide +kernel
theorem dX6_advance_101 : decode cX6_advance 101 = .ok (.aload_n 0, 1) := by decide +kernel
theorem dX6_advance_102 : decode cX6_advance 102 = .ok (.getfield 7, 3) := by decide +kernel
theorem dX6_advance_105 : decode cX6_advance 105 = .ok (.aload_n 0, 1) := by decide +kernel
theorem dX6_advance_106 : decode cX6_advance 106 = .ok (.getfield 26, 3) := by decide +kernel
theorem dX6_advance_109 : decode cX6_advance 109 = .ok (.baload, 1) := by decide +kernel
theorem dX6_advance_110 : decode cX6_advance 110 = .ok (.invokestatic 45, 3) := by decide +kernel
theorem dX6_advance_113 : decode cX6_advance 113 = .ok (.ifCond .eq 10, 3) := by decide +kernel
theorem dX6_advance_116 : decode cX6_advance 116 = .ok (.aload_n 0, 1) := by decide +kernel
theorem dX6_advance_117 : decode cX6_advance 117 = .ok (.invokevirtual 48, 3) := by decide +kernel
theorem dX6_advance_120 : decode cX6_advance 120 = .ok (.goto 36, 3) := by decide +kernel
theorem dX6_advance_123 : decode cX6_advance 123 = .ok (.aload_n 0, 1) := by decide +kernel
theorem dX6_advance_124 : decode cX6_advance 124 = .ok (.aload_n 0, 1) := by decide +kernel
theorem dX6_advance_125 : decode cX6_advance 125 = .ok (.getfield 7, 3) := by decide +kernel
theorem dX6_advance_128 : decode cX6_advance 128 = .ok (.aload_n 0, 1) := by decide +kernel
theorem dX6_advance_129 : decode cX6_advance 129 = .ok (.getfield 26, 3) := by decide +kernel
theorem dX6_advance_132 : decode cX6_advance 132 = .ok (.baload, 1) := by decide +kernel
theorem dX6_advance_133 : decode cX6_advance 133 = .ok (.bipush 59, 2) := by decide +kernel
theorem dX6_advance_135 : decode cX6_advance 135 = .ok (.if_icmp .ne 7, 3) := by decide +kernel
theorem dX6_advance_138 : decode cX6_advance 138 = .ok (.iconst 3, 1) := by decide +kernel
theorem dX6_advance_139 : decode cX6_advance 139 = .ok (.goto 4, 3) := by decide +kernel
theorem dX6_advance_142 : decode cX6_advance 142 = .ok (.iconst 4, 1) := by decide +kernel
theorem dX6_advance_143 : decode cX6_advance 143 = .ok (.putfield 35, 3) := by decide +kernel
theorem dX6_advance_146 : decode cX6_advance 146 = .ok (.aload_n 0, 1) := by decide +kernel
theorem dX6_advance_147 : decode cX6_advance 147 = .ok (.dup, 1) := by decide +kernel
theorem dX6_advance_148 : decode cX6_advance 148 = .ok (.getfield 26, 3) := by decide +kernel
theorem dX6_advance_151 : decode cX6_advance 151 = .ok (.iconst 1, 1) := by decide +kernel
theorem dX6_advance_152 : decode cX6_advance 152 = .ok (.iadd, 1) := by decide +kernel
theorem dX6_advance_153 : decode cX6_advance 153 = .ok (.putfield 26, 3) := by decide +kernel
theorem dX6_advance_156 : decode cX6_advance 156 = .ok (.return_, 1) := by decide +kernel
theorem dX6_isWord_0 : decode cX6_isWord 0 = .ok (.aload_n 0, 1) := by decide +kernel
theorem dX6_isWord_1 : decode cX6_isWord 1 = .ok (.getfield 35, 3) := by decide +kernel
theorem dX6_isWord_4 : decode cX6_isWord 4 = .ok (.iconst 1, 1) := by decide +kernel
theorem dX6_isWord_5 : decode cX6_isWord 5 = .ok (.if_icmp .ne 19, 3) := by decide +kernel
theorem dX6_isWord_8 : decode cX6_isWord 8 = .ok (.aload_n 0, 1) := by decide +kernel
theorem dX6_isWord_9 : decode cX6_isWord 9 = .ok (.getfield 26, 3) := by decide +kernel
theorem dX6_isWord_12 : decode cX6_isWord 12 = .ok (.aload_n 0, 1) := by decide +kernel
theorem dX6_isWord_13 : decode cX6_isWord 13 = .ok (.getfield 32, 3) := by decide +kernel
theorem dX6_isWord_16 : decode cX6_isWord 16 = .ok (.isub, 1) := by decide +kernel
theorem dX6_isWord_17 : decode cX6_isWord 17 = .ok (.aload_n 1, 1) := by decide +kernel
theorem dX6_isWord_18 : decode cX6_isWord 18 = .ok (.invokevirtual 51, 3) := by decide +kernel
theorem dX6_isWord_21 : decode cX6_isWord 21 = .ok (.if_icmp .eq 5, 3) := by decide +kernel
theorem dX6_isWord_24 : decode cX6_isWord 24 = .ok (.iconst 0, 1) := by decide +kernel
theorem dX6_isWord_25 : decode cX6_isWord 25 = .ok (.ireturn, 1) := by decide +kernel
theorem dX6_isWord_26 : decode cX6_isWord 26 = .ok (.iconst 0, 1) := by decide +kernel
theorem dX6_isWord_27 : decode cX6_isWord 27 = .ok (.istore_n 2, 1) := by decide +kernel
theorem dX6_isWord_28 : decode cX6_isWord 28 = .ok (.iload_n 2, 1) := by decide +kernel
theorem dX6_isWord_29 : decode cX6_isWord 29 = .ok (.aload_n 1, 1) := by decide +kernel
theorem dX6_isWord_30 : decode cX6_isWord 30 = .ok (.invokevirtual 51, 3) := by decide +kernel
theorem dX6_isWord_33 : decode cX6_isWord 33 = .ok (.if_icmp .ge 30, 3) := by decide +kernel
theorem dX6_isWord_36 : decode cX6_isWord 36 = .ok (.aload_n 0, 1) := by decide +kernel
theorem dX6_isWord_37 : decode cX6_isWord 37 = .ok (.getfield 7, 3) := by decide +kernel
theorem dX6_isWord_40 : decode cX6_isWord 40 = .ok (.aload_n 0, 1) := by decide +kernel
theorem dX6_isWord_41 : decode cX6_isWord 41 = .ok (.getfield 32, 3) := by decide +kernel
theorem dX6_isWord_44 : decode cX6_isWord 44 = .ok (.iload_n 2, 1) := by decide +kernel
theorem dX6_isWord_45 : decode cX6_isWord 45 = .ok (.iadd, 1) := by decide +kernel
theorem dX6_isWord_46 : decode cX6_isWord 46 = .ok (.baload, 1) := by decide +kernel
theorem dX6_isWord_47 : decode cX6_isWord 47 = .ok (.aload_n 1, 1) := by decide +kernel
theorem dX6_isWord_48 : decode cX6_isWord 48 = .ok (.iload_n 2, 1) := by decide +kernel
theorem dX6_isWord_49 : decode cX6_isWord 49 = .ok (.invokevirtual 56, 3) := by decide +kernel
theorem dX6_isWord_52 : decode cX6_isWord 52 = .ok (.if_icmp .eq 5, 3) := by decide +kernel
theorem dX6_isWord_55 : decode cX6_isWord 55 = .ok (.iconst 0, 1) := by decide +kernel
theorem dX6_isWord_56 : decode cX6_isWord 56 = .ok (.ireturn, 1) := by decide +kernel
theorem dX6_isWord_57 : decode cX6_isWord 57 = .ok (.iinc 2 1, 3) := by decide +kernel
theorem dX6_isWord_60 : decode cX6_isWord 60 = .ok (.goto (-32), 3) := by decide +kernel
theorem dX6_isWord_63 : decode cX6_isWord 63 = .ok (.iconst 1, 1) := by decide +kernel
theorem dX6_isWord_64 : decode cX6_isWord 64 = .ok (.ireturn, 1) := by decide +kernel
theorem dX6_isName_0 : decode cX6_isName 0 = .ok (.aload_n 0, 1) := by decide +kernel
theorem dX6_isName_1 : decode cX6_isName 1 = .ok (.ldc 60, 2) := by decide +kernel
theorem dX6_isName_3 : decode cX6_isName 3 = .ok (.invokevirtual 62, 3) := by decide +kernel
theorem dX6_isName_6 : decode cX6_isName 6 = .ok (.ifCond .ne 84, 3) := by decide +kernel
theorem dX6_isName_9 : decode cX6_isName 9 = .ok (.aload_n 0, 1) := by decide +kernel
theorem dX6_isName_10 : decode cX6_isName 10 = .ok (.ldc 66, 2) := by decide +kernel
theorem dX6_isName_12 : decode cX6_isName 12 = .ok (.invokevirtual 62, 3) := by decide +kernel
theorem dX6_isName_15 : decode cX6_isName 15 = .ok (.ifCond .ne 75, 3) := by decide +kernel
theorem dX6_isName_18 : decode cX6_isName 18 = .ok (.aload_n 0, 1) := by decide +kernel
theorem dX6_isName_19 : decode cX6_isName 19 = .ok (.ldc 68, 2) := by decide +kernel
theorem dX6_isName_21 : decode cX6_isName 21 = .ok (.invokevirtual 62, 3) := by decide +kernel
theorem dX6_isName_24 : decode cX6_isName 24 = .ok (.ifCond .ne 66, 3) := by decide +kernel
theorem dX6_isName_27 : decode cX6_isName 27 = .ok (.aload_n 0, 1) := by decide +kernel
theorem dX6_isName_28 : decode cX6_isName 28 = .ok (.ldc 70, 2) := by decide +kernel
theorem dX6_isName_30 : decode cX6_isName 30 = .ok (.invokevirtual 62, 3) := by decide +kernel
theorem dX6_isName_33 : decode cX6_isName 33 = .ok (.ifCond .ne 57, 3) := by decide +kernel
theorem dX6_isName_36 : decode cX6_isName 36 = .ok (.aload_n 0, 1) := by decide +kernel
theorem dX6_isName_37 : decode cX6_isName 37 = .ok (.ldc 72, 2) := by decide +kernel
theorem dX6_isName_39 : decode cX6_isName 39 = .ok (.invokevirtual 62, 3) := by decide +kernel
theorem dX6_isName_42 : decode cX6_isName 42 = .ok (.ifCond .ne 48, 3) := by decide +kernel
theorem dX6_isName_45 : decode cX6_isName 45 = .ok (.aload_n 0, 1) := by decide +kernel
theorem dX6_isName_46 : decode cX6_isName 46 = .ok (.ldc 74, 2) := by decide +kernel
theorem dX6_isName_48 : decode cX6_isName 48 = .ok (.invokevirtual 62, 3) := by decide +kernel
theorem dX6_isName_51 : decode cX6_isName 51 = .ok (.ifCond .ne 39, 3) := by decide +kernel
theorem dX6_isName_54 : decode cX6_isName 54 = .ok (.aload_n 0, 1) := by decide +kernel
theorem dX6_isName_55 : decode cX6_isName 55 = .ok (.ldc 76, 2) := by decide +kernel
theorem dX6_isName_57 : decode cX6_isName 57 = .ok (.invokevirtual 62, 3) := by decide +kernel
theorem dX6_isName_60 : decode cX6_isName 60 = .ok (.ifCond .ne 30, 3) := by decide +kernel
theorem dX6_isName_63 : decode cX6_isName 63 = .ok (.aload_n 0, 1) := by decide +kernel
theorem dX6_isName_64 : decode cX6_isName 64 = .ok (.ldc 78, 2) := by decide +kernel
theorem dX6_isName_66 : decode cX6_isName 66 = .ok (.invokevirtual 62, 3) := by decide +kernel
theorem dX6_isName_69 : decode cX6_isName 69 = .ok (.ifCond .ne 21, 3) := by decide +kernel
theorem dX6_isName_72 : decode cX6_isName 72 = .ok (.aload_n 0, 1) := by decide +kernel
theorem dX6_isName_73 : decode cX6_isName 73 = .ok (.ldc 80, 2) := by decide +kernel
theorem dX6_isName_75 : decode cX6_isName 75 = .ok (.invokevirtual 62, 3) := by decide +kernel
theorem dX6_isName_78 : decode cX6_isName 78 = .ok (.ifCond .ne 12, 3) := by decide +kernel
theorem dX6_isName_81 : decode cX6_isName 81 = .ok (.aload_n 0, 1) := by decide +kernel
theorem dX6_isName_82 : decode cX6_isName 82 = .ok (.ldc 82, 2) := by decide +kernel
theorem dX6_isName_84 : decode cX6_isName 84 = .ok (.invokevirtual 62, 3) := by decide +kernel
theorem dX6_isName_87 : decode cX6_isName 87 = .ok (.ifCond .eq 7, 3) := by decide +kernel
theorem dX6_isName_90 : decode cX6_isName 90 = .ok (.iconst 1, 1) := by decide +kernel
theorem dX6_isName_91 : decode cX6_isName 91 = .ok (.goto 4, 3) := by decide +kernel
theorem dX6_isName_94 : decode cX6_isName 94 = .ok (.iconst 0, 1) := by decide +kernel
theorem dX6_isName_95 : decode cX6_isName 95 = .ok (.istore_n 1, 1) := by decide +kernel
theorem dX6_isName_96 : decode cX6_isName 96 = .ok (.aload_n 0, 1) := by decide +kernel
theorem dX6_isName_97 : decode cX6_isName 97 = .ok (.getfield 35, 3) := by decide +kernel
theorem dX6_isName_100 : decode cX6_isName 100 = .ok (.iconst 1, 1) := by decide +kernel
theorem dX6_isName_101 : decode cX6_isName 101 = .ok (.if_icmp .ne 25, 3) := by decide +kernel
theorem dX6_isName_104 : decode cX6_isName 104 = .ok (.aload_n 0, 1) := by decide +kernel
theorem dX6_isName_105 : decode cX6_isName 105 = .ok (.getfield 26, 3) := by decide +kernel
theorem dX6_isName_108 : decode cX6_isName 108 = .ok (.aload_n 0, 1) := by decide +kernel
theorem dX6_isName_109 : decode cX6_isName 109 = .ok (.getfield 32, 3) := by decide +kernel
theorem dX6_isName_112 : decode cX6_isName 112 = .ok (.isub, 1) := by decide +kernel
theorem dX6_isName_113 : decode cX6_isName 113 = .ok (.bipush 6, 2) := by decide +kernel
theorem dX6_isName_115 : decode cX6_isName 115 = .ok (.if_icmp .gt 11, 3) := by decide +kernel
theorem dX6_isName_118 : decode cX6_isName 118 = .ok (.iload_n 1, 1) := by decide +kernel
theorem dX6_isName_119 : decode cX6_isName 119 = .ok (.ifCond .ne 7, 3) := by decide +kernel
theorem dX6_isName_122 : decode cX6_isName 122 = .ok (.iconst 1, 1) := by decide +kernel
theorem dX6_isName_123 : decode cX6_isName 123 = .ok (.goto 4, 3) := by decide +kernel
theorem dX6_isName_126 : decode cX6_isName 126 = .ok (.iconst 0, 1) := by decide +kernel
theorem dX6_isName_127 : decode cX6_isName 127 = .ok (.ireturn, 1) := by decide +kernel
theorem dX6_nameLetters_0 : decode cX6_nameLetters 0 = .ok (.iconst 0, 1) := by decide +kernel
theorem dX6_nameLetters_1 : decode cX6_nameLetters 1 = .ok (.istore_n 1, 1) := by decide +kernel
theorem dX6_nameLetters_2 : decode cX6_nameLetters 2 = .ok (.iconst 0, 1) := by decide +kernel
theorem dX6_nameLetters_3 : decode cX6_nameLetters 3 = .ok (.istore_n 2, 1) := by decide +kernel
theorem dX6_nameLetters_4 : decode cX6_nameLetters 4 = .ok (.iload_n 2, 1) := by decide +kernel
theorem dX6_nameLetters_5 : decode cX6_nameLetters 5 = .ok (.bipush 6, 2) := by decide +kernel
theorem dX6_nameLetters_7 : decode cX6_nameLetters 7 = .ok (.if_icmp .ge 49, 3) := by decide +kernel
theorem dX6_nameLetters_10 : decode cX6_nameLetters 10 = .ok (.aload_n 0, 1) := by decide +kernel
theorem dX6_nameLetters_11 : decode cX6_nameLetters 11 = .ok (.getfield 32, 3) := by decide +kernel
theorem dX6_nameLetters_14 : decode cX6_nameLetters 14 = .ok (.iload_n 2, 1) := by decide +kernel
theorem dX6_nameLetters_15 : decode cX6_nameLetters 15 = .ok (.iadd, 1) := by decide +kernel
theorem dX6_nameLetters_16 : decode cX6_nameLetters 16 = .ok (.aload_n 0, 1) := by decide +kernel
theorem dX6_nameLetters_17 : decode cX6_nameLetters 17 = .ok (.getfield 26, 3) := by decide +kernel
theorem dX6_nameLetters_20 : decode cX6_nameLetters 20 = .ok (.if_icmp .ge 22, 3) := by decide +kernel
theorem dX6_nameLetters_23 : decode cX6_nameLetters 23 = .ok (.aload_n 0, 1) := by decide +kernel
theorem dX6_nameLetters_24 : decode cX6_nameLetters 24 = .ok (.getfield 7, 3) := by decide +kernel
theorem dX6_nameLetters_27 : decode cX6_nameLetters 27 = .ok (.aload_n 0, 1) := by decide +kernel
theorem dX6_nameLetters_28 : decode cX6_nameLetters 28 = .ok (.getfield 32, 3) := by decide +kernel
theorem dX6_nameLetters_31 : decode cX6_nameLetters 31 = .ok (.iload_n 2, 1) := by decide +kernel
theorem dX6_nameLetters_32 : decode cX6_nameLetters 32 = .ok (.iadd, 1) := by decide +kernel
theorem dX6_nameLetters_33 : decode cX6_nameLetters 33 = .ok (.baload, 1) := by decide +kernel
theorem dX6_nameLetters_34 : decode cX6_nameLetters 34 = .ok (.bipush 97, 2) := by decide +kernel
theorem dX6_nameLetters_36 : decode cX6_nameLetters 36 = .ok (.isub, 1) := by decide +kernel
theorem dX6_nameLetters_37 : decode cX6_nameLetters 37 = .ok (.iconst 1, 1) := by decide +kernel
theorem dX6_nameLetters_38 : decode cX6_nameLetters 38 = .ok (.iadd, 1) := by decide +kernel
theorem dX6_nameLetters_39 : decode cX6_nameLetters 39 = .ok (.goto 4, 3) := by decide +kernel
theorem dX6_nameLetters_42 : decode cX6_nameLetters 42 = .ok (.iconst 0, 1) := by decide +kernel
theorem dX6_nameLetters_43 : decode cX6_nameLetters 43 = .ok (.istore_n 3, 1) := by decide +kernel
theorem dX6_nameLetters_44 : decode cX6_nameLetters 44 = .ok (.iload_n 1, 1) := by decide +kernel
theorem dX6_nameLetters_45 : decode cX6_nameLetters 45 = .ok (.iconst 5, 1) := by decide +kernel
theorem dX6_nameLetters_46 : decode cX6_nameLetters 46 = .ok (.ishl, 1) := by decide +kernel
theorem dX6_nameLetters_47 : decode cX6_nameLetters 47 = .ok (.iload_n 3, 1) := by decide +kernel
theorem dX6_nameLetters_48 : decode cX6_nameLetters 48 = .ok (.ior, 1) := by decide +kernel
theorem dX6_nameLetters_49 : decode cX6_nameLetters 49 = .ok (.istore_n 1, 1) := by decide +kernel
theorem dX6_nameLetters_50 : decode cX6_nameLetters 50 = .ok (.iinc 2 1, 3) := by decide +kernel
theorem dX6_nameLetters_53 : decode cX6_nameLetters 53 = .ok (.goto (-49), 3) := by decide +kernel
theorem dX6_nameLetters_56 : decode cX6_nameLetters 56 = .ok (.iload_n 1, 1) := by decide +kernel
theorem dX6_nameLetters_57 : decode cX6_nameLetters 57 = .ok (.ireturn, 1) := by decide +kernel
theorem dX6_readWord_0 : decode cX6_readWord 0 = .ok (.aload_n 0, 1) := by decide +kernel
theorem dX6_readWord_1 : decode cX6_readWord 1 = .ok (.iconst 1, 1) := by decide +kernel
theorem dX6_readWord_2 : decode cX6_readWord 2 = .ok (.putfield 35, 3) := by decide +kernel
theorem dX6_readWord_5 : decode cX6_readWord 5 = .ok (.aload_n 0, 1) := by decide +kernel
theorem dX6_readWord_6 : decode cX6_readWord 6 = .ok (.getfield 26, 3) := by decide +kernel
theorem dX6_readWord_9 : decode cX6_readWord 9 = .ok (.aload_n 0, 1) := by decide +kernel
theorem dX6_readWord_10 : decode cX6_readWord 10 = .ok (.getfield 22, 3) := by decide +kernel
theorem dX6_readWord_13 : decode cX6_readWord 13 = .ok (.if_icmp .ge 31, 3) := by decide +kernel
theorem dX6_readWord_16 : decode cX6_readWord 16 = .ok (.aload_n 0, 1) := by decide +kernel
theorem dX6_readWord_17 : decode cX6_readWord 17 = .ok (.getfield 7, 3) := by decide +kernel
theorem dX6_readWord_20 : decode cX6_readWord 20 = .ok (.aload_n 0, 1) := by decide +kernel
theorem dX6_readWord_21 : decode cX6_readWord 21 = .ok (.getfield 26, 3) := by decide +kernel
theorem dX6_readWord_24 : decode cX6_readWord 24 = .ok (.baload, 1) := by decide +kernel
theorem dX6_readWord_25 : decode cX6_readWord 25 = .ok (.invokestatic 38, 3) := by decide +kernel
theorem dX6_readWord_28 : decode cX6_readWord 28 = .ok (.ifCond .eq 16, 3) := by decide +kernel
theorem dX6_readWord_31 : decode cX6_readWord 31 = .ok (.aload_n 0, 1) := by decide +kernel
theorem dX6_readWord_32 : decode cX6_readWord 32 = .ok (.dup, 1) := by decide +kernel
theorem dX6_readWord_33 : decode cX6_readWord 33 = .ok (.getfield 26, 3) := by decide +kernel
theorem dX6_readWord_36 : decode cX6_readWord 36 = .ok (.iconst 1, 1) := by decide +kernel
theorem dX6_readWord_37 : decode cX6_readWord 37 = .ok (.iadd, 1) := by decide +kernel
theorem dX6_readWord_38 : decode cX6_readWord 38 = .ok (.putfield 26, 3) := by decide +kernel
theorem dX6_readWord_41 : decode cX6_readWord 41 = .ok (.goto (-36), 3) := by decide +kernel
theorem dX6_readWord_44 : decode cX6_readWord 44 = .ok (.return_, 1) := by decide +kernel
theorem dX6_readInteger_0 : decode cX6_readInteger 0 = .ok (.aload_n 0, 1) := by decide +kernel
theorem dX6_readInteger_1 : decode cX6_readInteger 1 = .ok (.iconst 2, 1) := by decide +kernel
theorem dX6_readInteger_2 : decode cX6_readInteger 2 = .ok (.putfield 35, 3) := by decide +kernel
theorem dX6_readInteger_5 : decode cX6_readInteger 5 = .ok (.aload_n 0, 1) := by decide +kernel
theorem dX6_readInteger_6 : decode cX6_readInteger 6 = .ok (.iconst 0, 1) := by decide +kernel
theorem dX6_readInteger_7 : decode cX6_readInteger 7 = .ok (.putfield 84, 3) := by decide +kernel
theorem dX6_readInteger_10 : decode cX6_readInteger 10 = .ok (.aload_n 0, 1) := by decide +kernel
theorem dX6_readInteger_11 : decode cX6_readInteger 11 = .ok (.getfield 26, 3) := by decide +kernel
theorem dX6_readInteger_14 : decode cX6_readInteger 14 = .ok (.aload_n 0, 1) := by decide +kernel
theorem dX6_readInteger_15 : decode cX6_readInteger 15 = .ok (.getfield 22, 3) := by decide +kernel
theorem dX6_readInteger_18 : decode cX6_readInteger 18 = .ok (.if_icmp .ge 60, 3) := by decide +kernel
theorem dX6_readInteger_21 : decode cX6_readInteger 21 = .ok (.aload_n 0, 1) := by decide +kernel
theorem dX6_readInteger_22 : decode cX6_readInteger 22 = .ok (.getfield 7, 3) := by decide +kernel
theorem dX6_readInteger_25 : decode cX6_readInteger 25 = .ok (.aload_n 0, 1) := by decide +kernel
theorem dX6_readInteger_26 : decode cX6_readInteger 26 = .ok (.getfield 26, 3) := by decide +kernel
theorem dX6_readInteger_29 : decode cX6_readInteger 29 = .ok (.baload, 1) := by decide +kernel
theorem dX6_readInteger_30 : decode cX6_readInteger 30 = .ok (.invokestatic 45, 3) := by decide +kernel
theorem dX6_readInteger_33 : decode cX6_readInteger 33 = .ok (.ifCond .eq 45, 3) := by decide +kernel
theorem dX6_readInteger_36 : decode cX6_readInteger 36 = .ok (.aload_n 0, 1) := by decide +kernel
theorem dX6_readInteger_37 : decode cX6_readInteger 37 = .ok (.ldc 87, 2) := by decide +kernel
theorem dX6_readInteger_39 : decode cX6_readInteger 39 = .ok (.aload_n 0, 1) := by decide +kernel
theorem dX6_readInteger_40 : decode cX6_readInteger 40 = .ok (.getfield 84, 3) := by decide +kernel
theorem dX6_readInteger_43 : decode cX6_readInteger 43 = .ok (.bipush 10, 2) := by decide +kernel
theorem dX6_readInteger_45 : decode cX6_readInteger 45 = .ok (.imul, 1) := by decide +kernel
theorem dX6_readInteger_46 : decode cX6_readInteger 46 = .ok (.aload_n 0, 1) := by decide +kernel
theorem dX6_readInteger_47 : decode cX6_readInteger 47 = .ok (.getfield 7, 3) := by decide +kernel
theorem dX6_readInteger_50 : decode cX6_readInteger 50 = .ok (.aload_n 0, 1) := by decide +kernel
theorem dX6_readInteger_51 : decode cX6_readInteger 51 = .ok (.getfield 26, 3) := by decide +kernel
theorem dX6_readInteger_54 : decode cX6_readInteger 54 = .ok (.baload, 1) := by decide +kernel
theorem dX6_readInteger_55 : decode cX6_readInteger 55 = .ok (.iadd, 1) := by decide +kernel
theorem dX6_readInteger_56 : decode cX6_readInteger 56 = .ok (.bipush 48, 2) := by decide +kernel
theorem dX6_readInteger_58 : decode cX6_readInteger 58 = .ok (.isub, 1) := by decide +kernel
theorem dX6_readInteger_59 : decode cX6_readInteger 59 = .ok (.invokestatic 13, 3) := by decide +kernel
theorem dX6_readInteger_62 : decode cX6_readInteger 62 = .ok (.putfield 84, 3) := by decide +kernel
theorem dX6_readInteger_65 : decode cX6_readInteger 65 = .ok (.aload_n 0, 1) := by decide +kernel
theorem dX6_readInteger_66 : decode cX6_readInteger 66 = .ok (.dup, 1) := by decide +kernel
theorem dX6_readInteger_67 : decode cX6_readInteger 67 = .ok (.getfield 26, 3) := by decide +kernel
theorem dX6_readInteger_70 : decode cX6_readInteger 70 = .ok (.iconst 1, 1) := by decide +kernel
theorem dX6_readInteger_71 : decode cX6_readInteger 71 = .ok (.iadd, 1) := by decide +kernel
theorem dX6_readInteger_72 : decode cX6_readInteger 72 = .ok (.putfield 26, 3) := by decide +kernel
theorem dX6_readInteger_75 : decode cX6_readInteger 75 = .ok (.goto (-65), 3) := by decide +kernel
theorem dX6_readInteger_78 : decode cX6_readInteger 78 = .ok (.return_, 1) := by decide +kernel
theorem dX6_isLetter_0 : decode cX6_isLetter 0 = .ok (.iload_n 0, 1) := by decide +kernel
theorem dX6_isLetter_1 : decode cX6_isLetter 1 = .ok (.bipush 97, 2) := by decide +kernel
theorem dX6_isLetter_3 : decode cX6_isLetter 3 = .ok (.if_icmp .lt 13, 3) := by decide +kernel
theorem dX6_isLetter_6 : decode cX6_isLetter 6 = .ok (.iload_n 0, 1) := by decide +kernel
theorem dX6_isLetter_7 : decode cX6_isLetter 7 = .ok (.bipush 122, 2) := by decide +kernel
theorem dX6_isLetter_9 : decode cX6_isLetter 9 = .ok (.if_icmp .gt 7, 3) := by decide +kernel
theorem dX6_isLetter_12 : decode cX6_isLetter 12 = .ok (.iconst 1, 1) := by decide +kernel
theorem dX6_isLetter_13 : decode cX6_isLetter 13 = .ok (.goto 4, 3) := by decide +kernel
theorem dX6_isLetter_16 : decode cX6_isLetter 16 = .ok (.iconst 0, 1) := by decide +kernel
theorem dX6_isLetter_17 : decode cX6_isLetter 17 = .ok (.ireturn, 1) := by decide +kernel
theorem dX6_isDigit_0 : decode cX6_isDigit 0 = .ok (.iload_n 0, 1) := by decide +kernel
theorem dX6_isDigit_1 : decode cX6_isDigit 1 = .ok (.bipush 48, 2) := by decide +kernel
theorem dX6_isDigit_3 : decode cX6_isDigit 3 = .ok (.if_icmp .lt 13, 3) := by decide +kernel
theorem dX6_isDigit_6 : decode cX6_isDigit 6 = .ok (.iload_n 0, 1) := by decide +kernel
theorem dX6_isDigit_7 : decode cX6_isDigit 7 = .ok (.bipush 57, 2) := by decide +kernel
theorem dX6_isDigit_9 : decode cX6_isDigit 9 = .ok (.if_icmp .gt 7, 3) := by decide +kernel
theorem dX6_isDigit_12 : decode cX6_isDigit 12 = .ok (.iconst 1, 1) := by decide +kernel
theorem dX6_isDigit_13 : decode cX6_isDigit 13 = .ok (.goto 4, 3) := by decide +kernel
theorem dX6_isDigit_16 : decode cX6_isDigit 16 = .ok (.iconst 0, 1) := by decide +kernel
theorem dX6_isDigit_17 : decode cX6_isDigit 17 = .ok (.ireturn, 1) := by decide +kernel
theorem dX7_first_0 : decode cX7_first 0 = .ok (.iconst 0, 1) := by decide +kernel
theorem dX7_first_1 : decode cX7_first 1 = .ok (.istore_n 1, 1) := by decide +kernel
theorem dX7_first_2 : decode cX7_first 2 = .ok (.iload_n 1, 1) := by decide +kernel
theorem dX7_first_3 : decode cX7_first 3 = .ok (.bipush 12, 2) := by decide +kernel
theorem dX7_first_5 : decode cX7_first 5 = .ok (.if_icmp .ge 19, 3) := by decide +kernel
theorem dX7_first_8 : decode cX7_first 8 = .ok (.iload_n 0, 1) := by decide +kernel
theorem dX7_first_9 : decode cX7_first 9 = .ok (.iload_n 1, 1) := by decide +kernel
theorem dX7_first_10 : decode cX7_first 10 = .ok (.invokestatic 9, 3) := by decide +kernel
theorem dX7_first_13 : decode cX7_first 13 = .ok (.ifCond .eq 5, 3) := by decide +kernel
theorem dX7_first_16 : decode cX7_first 16 = .ok (.iload_n 1, 1) := by decide +kernel
theorem dX7_first_17 : decode cX7_first 17 = .ok (.ireturn, 1) := by decide +kernel
theorem dX7_first_18 : decode cX7_first 18 = .ok (.iinc 1 1, 3) := by decide +kernel
theorem dX7_first_21 : decode cX7_first 21 = .ok (.goto (-19), 3) := by decide +kernel
theorem dX7_first_24 : decode cX7_first 24 = .ok (.iconst (-1), 1) := by decide +kernel
theorem dX7_first_25 : decode cX7_first 25 = .ok (.ireturn, 1) := by decide +kernel
theorem dX7_last_0 : decode cX7_last 0 = .ok (.bipush 11, 2) := by decide +kernel
theorem dX7_last_2 : decode cX7_last 2 = .ok (.istore_n 1, 1) := by decide +kernel
theorem dX7_last_3 : decode cX7_last 3 = .ok (.iload_n 1, 1) := by decide +kernel
theorem dX7_last_4 : decode cX7_last 4 = .ok (.ifCond .lt 19, 3) := by decide +kernel
theorem dX7_last_7 : decode cX7_last 7 = .ok (.iload_n 0, 1) := by decide +kernel
theorem dX7_last_8 : decode cX7_last 8 = .ok (.iload_n 1, 1) := by decide +kernel
theorem dX7_last_9 : decode cX7_last 9 = .ok (.invokestatic 9, 3) := by decide +kernel
theorem dX7_last_12 : decode cX7_last 12 = .ok (.ifCond .eq 5, 3) := by decide +kernel
theorem dX7_last_15 : decode cX7_last 15 = .ok (.iload_n 1, 1) := by decide +kernel
theorem dX7_last_16 : decode cX7_last 16 = .ok (.ireturn, 1) := by decide +kernel
theorem dX7_last_17 : decode cX7_last 17 = .ok (.iinc 1 (-1), 3) := by decide +kernel
theorem dX7_last_20 : decode cX7_last 20 = .ok (.goto (-17), 3) := by decide +kernel
theorem dX7_last_23 : decode cX7_last 23 = .ok (.iconst (-1), 1) := by decide +kernel
theorem dX7_last_24 : decode cX7_last 24 = .ok (.ireturn, 1) := by decide +kernel
theorem dX7_firstToLast_0 : decode cX7_firstToLast 0 = .ok (.iconst 0, 1) := by decide +kernel
theorem dX7_firstToLast_1 : decode cX7_firstToLast 1 = .ok (.istore_n 1, 1) := by decide +kernel
theorem dX7_firstToLast_2 : decode cX7_firstToLast 2 = .ok (.iconst 0, 1) := by decide +kernel
theorem dX7_firstToLast_3 : decode cX7_firstToLast 3 = .ok (.istore_n 2, 1) := by decide +kernel
theorem dX7_firstToLast_4 : decode cX7_firstToLast 4 = .ok (.iload_n 2, 1) := by decide +kernel
theorem dX7_firstToLast_5 : decode cX7_firstToLast 5 = .ok (.bipush 12, 2) := by decide +kernel
theorem dX7_firstToLast_7 : decode cX7_firstToLast 7 = .ok (.if_icmp .ge 55, 3) := by decide +kernel
theorem dX7_firstToLast_10 : decode cX7_firstToLast 10 = .ok (.iload_n 0, 1) := by decide +kernel
theorem dX7_firstToLast_11 : decode cX7_firstToLast 11 = .ok (.iconst 0, 1) := by decide +kernel
theorem dX7_firstToLast_12 : decode cX7_firstToLast 12 = .ok (.iload_n 2, 1) := by decide +kernel
theorem dX7_firstToLast_13 : decode cX7_firstToLast 13 = .ok (.iconst 1, 1) := by decide +kernel
theorem dX7_firstToLast_14 : decode cX7_firstToLast 14 = .ok (.iadd, 1) := by decide +kernel
theorem dX7_firstToLast_15 : decode cX7_firstToLast 15 = .ok (.invokestatic 13, 3) := by decide +kernel
theorem dX7_firstToLast_18 : decode cX7_firstToLast 18 = .ok (.iand, 1) := by decide +kernel
theorem dX7_firstToLast_19 : decode cX7_firstToLast 19 = .ok (.ifCond .eq 7, 3) := by decide +kernel
theorem dX7_firstToLast_22 : decode cX7_firstToLast 22 = .ok (.iconst 1, 1) := by decide +kernel
theorem dX7_firstToLast_23 : decode cX7_firstToLast 23 = .ok (.goto 4, 3) := by decide +kernel
theorem dX7_firstToLast_26 : decode cX7_firstToLast 26 = .ok (.iconst 0, 1) := by decide +kernel
theorem dX7_firstToLast_27 : decode cX7_firstToLast 27 = .ok (.istore_n 3, 1) := by decide +kernel
theorem dX7_firstToLast_28 : decode cX7_firstToLast 28 = .ok (.iload_n 0, 1) := by decide +kernel
theorem dX7_firstToLast_29 : decode cX7_firstToLast 29 = .ok (.iload_n 2, 1) := by decide +kernel
theorem dX7_firstToLast_30 : decode cX7_firstToLast 30 = .ok (.ishr, 1) := by decide +kernel
theorem dX7_firstToLast_31 : decode cX7_firstToLast 31 = .ok (.ifCond .eq 7, 3) := by decide +kernel
theorem dX7_firstToLast_34 : decode cX7_firstToLast 34 = .ok (.iconst 1, 1) := by decide +kernel
theorem dX7_firstToLast_35 : decode cX7_firstToLast 35 = .ok (.goto 4, 3) := by decide +kernel
theorem dX7_firstToLast_38 : decode cX7_firstToLast 38 = .ok (.iconst 0, 1) := by decide +kernel
theorem dX7_firstToLast_39 : decode cX7_firstToLast 39 = .ok (.istore 4, 2) := by decide +kernel
theorem dX7_firstToLast_41 : decode cX7_firstToLast 41 = .ok (.iload_n 3, 1) := by decide +kernel
theorem dX7_firstToLast_42 : decode cX7_firstToLast 42 = .ok (.ifCond .eq 14, 3) := by decide +kernel
theorem dX7_firstToLast_45 : decode cX7_firstToLast 45 = .ok (.iload 4, 2) := by decide +kernel
theorem dX7_firstToLast_47 : decode cX7_firstToLast 47 = .ok (.ifCond .eq 9, 3) := by decide +kernel
theorem dX7_firstToLast_50 : decode cX7_firstToLast 50 = .ok (.iload_n 1, 1) := by decide +kernel
theorem dX7_firstToLast_51 : decode cX7_firstToLast 51 = .ok (.iconst 1, 1) := by decide +kernel
theorem dX7_firstToLast_52 : decode cX7_firstToLast 52 = .ok (.iload_n 2, 1) := by decide +kernel
theorem dX7_firstToLast_53 : decode cX7_firstToLast 53 = .ok (.ishl, 1) := by decide +kernel
theorem dX7_firstToLast_54 : decode cX7_firstToLast 54 = .ok (.ior, 1) := by decide +kernel
theorem dX7_firstToLast_55 : decode cX7_firstToLast 55 = .ok (.istore_n 1, 1) := by decide +kernel
theorem dX7_firstToLast_56 : decode cX7_firstToLast 56 = .ok (.iinc 2 1, 3) := by decide +kernel
theorem dX7_firstToLast_59 : decode cX7_firstToLast 59 = .ok (.goto (-55), 3) := by decide +kernel
theorem dX7_firstToLast_62 : decode cX7_firstToLast 62 = .ok (.iload_n 1, 1) := by decide +kernel
theorem dX7_firstToLast_63 : decode cX7_firstToLast 63 = .ok (.ireturn, 1) := by decide +kernel
theorem dX7_dropped_0 : decode cX7_dropped 0 = .ok (.iload_n 1, 1) := by decide +kernel
theorem dX7_dropped_1 : decode cX7_dropped 1 = .ok (.iconst 1, 1) := by decide +kernel
theorem dX7_dropped_2 : decode cX7_dropped 2 = .ok (.isub, 1) := by decide +kernel
theorem dX7_dropped_3 : decode cX7_dropped 3 = .ok (.istore_n 2, 1) := by decide +kernel
theorem dX7_dropped_4 : decode cX7_dropped 4 = .ok (.iconst 0, 1) := by decide +kernel
theorem dX7_dropped_5 : decode cX7_dropped 5 = .ok (.istore_n 3, 1) := by decide +kernel
theorem dX7_dropped_6 : decode cX7_dropped 6 = .ok (.iconst (-1), 1) := by decide +kernel
theorem dX7_dropped_7 : decode cX7_dropped 7 = .ok (.istore 4, 2) := by decide +kernel
theorem dX7_dropped_9 : decode cX7_dropped 9 = .ok (.iconst 0, 1) := by decide +kernel
theorem dX7_dropped_10 : decode cX7_dropped 10 = .ok (.istore 5, 2) := by decide +kernel
theorem dX7_dropped_12 : decode cX7_dropped 12 = .ok (.iload 5, 2) := by decide +kernel
theorem dX7_dropped_14 : decode cX7_dropped 14 = .ok (.bipush 12, 2) := by decide +kernel
theorem dX7_dropped_16 : decode cX7_dropped 16 = .ok (.if_icmp .ge 56, 3) := by decide +kernel
theorem dX7_dropped_19 : decode cX7_dropped 19 = .ok (.iload_n 0, 1) := by decide +kernel
theorem dX7_dropped_20 : decode cX7_dropped 20 = .ok (.iload 5, 2) := by decide +kernel
theorem dX7_dropped_22 : decode cX7_dropped 22 = .ok (.invokestatic 9, 3) := by decide +kernel
theorem dX7_dropped_25 : decode cX7_dropped 25 = .ok (.ifCond .eq 41, 3) := by decide +kernel
theorem dX7_dropped_28 : decode cX7_dropped 28 = .ok (.iload 5, 2) := by decide +kernel
theorem dX7_dropped_30 : decode cX7_dropped 30 = .ok (.iload 4, 2) := by decide +kernel
theorem dX7_dropped_32 : decode cX7_dropped 32 = .ok (.isub, 1) := by decide +kernel
theorem dX7_dropped_33 : decode cX7_dropped 33 = .ok (.iconst 1, 1) := by decide +kernel
theorem dX7_dropped_34 : decode cX7_dropped 34 = .ok (.isub, 1) := by decide +kernel
theorem dX7_dropped_35 : decode cX7_dropped 35 = .ok (.istore 6, 2) := by decide +kernel
theorem dX7_dropped_37 : decode cX7_dropped 37 = .ok (.iload 4, 2) := by decide +kernel
theorem dX7_dropped_39 : decode cX7_dropped 39 = .ok (.iconst (-1), 1) := by decide +kernel
theorem dX7_dropped_40 : decode cX7_dropped 40 = .ok (.if_icmp .eq 22, 3) := by decide +kernel
theorem dX7_dropped_43 : decode cX7_dropped 43 = .ok (.iload 6, 2) := by decide +kernel
theorem dX7_dropped_45 : decode cX7_dropped 45 = .ok (.iload_n 2, 1) := by decide +kernel
theorem dX7_dropped_46 : decode cX7_dropped 46 = .ok (.if_icmp .le 16, 3) := by decide +kernel
theorem dX7_dropped_49 : decode cX7_dropped 49 = .ok (.iload 6, 2) := by decide +kernel
theorem dX7_dropped_51 : decode cX7_dropped 51 = .ok (.istore_n 2, 1) := by decide +kernel
theorem dX7_dropped_52 : decode cX7_dropped 52 = .ok (.iload 4, 2) := by decide +kernel
theorem dX7_dropped_54 : decode cX7_dropped 54 = .ok (.iconst 1, 1) := by decide +kernel
theorem dX7_dropped_55 : decode cX7_dropped 55 = .ok (.iadd, 1) := by decide +kernel
theorem dX7_dropped_56 : decode cX7_dropped 56 = .ok (.iload 5, 2) := by decide +kernel
theorem dX7_dropped_58 : decode cX7_dropped 58 = .ok (.invokestatic 13, 3) := by decide +kernel
theorem dX7_dropped_61 : decode cX7_dropped 61 = .ok (.istore_n 3, 1) := by decide +kernel
theorem dX7_dropped_62 : decode cX7_dropped 62 = .ok (.iload 5, 2) := by decide +kernel
theorem dX7_dropped_64 : decode cX7_dropped 64 = .ok (.istore 4, 2) := by decide +kernel
theorem dX7_dropped_66 : decode cX7_dropped 66 = .ok (.iinc 5 1, 3) := by decide +kernel
theorem dX7_dropped_69 : decode cX7_dropped 69 = .ok (.goto (-57), 3) := by decide +kernel
theorem dX7_dropped_72 : decode cX7_dropped 72 = .ok (.iload_n 3, 1) := by decide +kernel
theorem dX7_dropped_73 : decode cX7_dropped 73 = .ok (.ireturn, 1) := by decide +kernel
theorem dX7_held_0 : decode cX7_held 0 = .ok (.iload_n 0, 1) := by decide +kernel
theorem dX7_held_1 : decode cX7_held 1 = .ok (.invokestatic 19, 3) := by decide +kernel
theorem dX7_held_4 : decode cX7_held 4 = .ok (.iload_n 0, 1) := by decide +kernel
theorem dX7_held_5 : decode cX7_held 5 = .ok (.iconst (-1), 1) := by decide +kernel
theorem dX7_held_6 : decode cX7_held 6 = .ok (.ixor, 1) := by decide +kernel
theorem dX7_held_7 : decode cX7_held 7 = .ok (.iand, 1) := by decide +kernel
theorem dX7_held_8 : decode cX7_held 8 = .ok (.iload_n 0, 1) := by decide +kernel
theorem dX7_held_9 : decode cX7_held 9 = .ok (.iload_n 1, 1) := by decide +kernel
theorem dX7_held_10 : decode cX7_held 10 = .ok (.invokestatic 23, 3) := by decide +kernel
theorem dX7_held_13 : decode cX7_held 13 = .ok (.iconst (-1), 1) := by decide +kernel
theorem dX7_held_14 : decode cX7_held 14 = .ok (.ixor, 1) := by decide +kernel
theorem dX7_held_15 : decode cX7_held 15 = .ok (.iand, 1) := by decide +kernel
theorem dX7_held_16 : decode cX7_held 16 = .ok (.ireturn, 1) := by decide +kernel
theorem dX7_between_0 : decode cX7_between 0 = .ok (.iconst 1, 1) := by decide +kernel
theorem dX7_between_1 : decode cX7_between 1 = .ok (.iload_n 1, 1) := by decide +kernel
theorem dX7_between_2 : decode cX7_between 2 = .ok (.ishl, 1) := by decide +kernel
theorem dX7_between_3 : decode cX7_between 3 = .ok (.iconst 1, 1) := by decide +kernel
theorem dX7_between_4 : decode cX7_between 4 = .ok (.iload_n 0, 1) := by decide +kernel
theorem dX7_between_5 : decode cX7_between 5 = .ok (.ishl, 1) := by decide +kernel
theorem dX7_between_6 : decode cX7_between 6 = .ok (.isub, 1) := by decide +kernel
theorem dX7_between_7 : decode cX7_between 7 = .ok (.ireturn, 1) := by decide +kernel
theorem dX8_init_0 : decode cX8_init 0 = .ok (.aload_n 0, 1) := by decide +kernel
theorem dX8_init_1 : decode cX8_init 1 = .ok (.invokespecial 3, 3) := by decide +kernel
theorem dX8_init_4 : decode cX8_init 4 = .ok (.aload_n 0, 1) := by decide +kernel
theorem dX8_init_5 : decode cX8_init 5 = .ok (.sipush 900, 3) := by decide +kernel
theorem dX8_init_8 : decode cX8_init 8 = .ok (.newarray .byte, 2) := by decide +kernel
theorem dX8_init_10 : decode cX8_init 10 = .ok (.putfield 9, 3) := by decide +kernel
theorem dX8_init_13 : decode cX8_init 13 = .ok (.aload_n 0, 1) := by decide +kernel
theorem dX8_init_14 : decode cX8_init 14 = .ok (.iconst (-1), 1) := by decide +kernel
theorem dX8_init_15 : decode cX8_init 15 = .ok (.putfield 13, 3) := by decide +kernel
theorem dX8_init_18 : decode cX8_init 18 = .ok (.aload_n 0, 1) := by decide +kernel
theorem dX8_init_19 : decode cX8_init 19 = .ok (.new 17, 3) := by decide +kernel
theorem dX8_init_22 : decode cX8_init 22 = .ok (.dup, 1) := by decide +kernel
theorem dX8_init_23 : decode cX8_init 23 = .ok (.invokespecial 19, 3) := by decide +kernel
theorem dX8_init_26 : decode cX8_init 26 = .ok (.putfield 20, 3) := by decide +kernel
theorem dX8_init_29 : decode cX8_init 29 = .ok (.aload_n 0, 1) := by decide +kernel
theorem dX8_init_30 : decode cX8_init 30 = .ok (.new 24, 3) := by decide +kernel
theorem dX8_init_33 : decode cX8_init 33 = .ok (.dup, 1) := by decide +kernel
theorem dX8_init_34 : decode cX8_init 34 = .ok (.aload_n 0, 1) := by decide +kernel
theorem dX8_init_35 : decode cX8_init 35 = .ok (.getfield 20, 3) := by decide +kernel
theorem dX8_init_38 : decode cX8_init 38 = .ok (.invokespecial 26, 3) := by decide +kernel
theorem dX8_init_41 : decode cX8_init 41 = .ok (.putfield 29, 3) := by decide +kernel
theorem dX8_init_44 : decode cX8_init 44 = .ok (.aload_n 0, 1) := by decide +kernel
theorem dX8_init_45 : decode cX8_init 45 = .ok (.new 24, 3) := by decide +kernel
theorem dX8_init_48 : decode cX8_init 48 = .ok (.dup, 1) := by decide +kernel
theorem dX8_init_49 : decode cX8_init 49 = .ok (.aload_n 0, 1) := by decide +kernel
theorem dX8_init_50 : decode cX8_init 50 = .ok (.getfield 20, 3) := by decide +kernel
theorem dX8_init_53 : decode cX8_init 53 = .ok (.invokespecial 26, 3) := by decide +kernel
theorem dX8_init_56 : decode cX8_init 56 = .ok (.putfield 33, 3) := by decide +kernel
theorem dX8_init_59 : decode cX8_init 59 = .ok (.aload_n 0, 1) := by decide +kernel
theorem dX8_init_60 : decode cX8_init 60 = .ok (.new 36, 3) := by decide +kernel
theorem dX8_init_63 : decode cX8_init 63 = .ok (.dup, 1) := by decide +kernel
theorem dX8_init_64 : decode cX8_init 64 = .ok (.aload_n 0, 1) := by decide +kernel
theorem dX8_init_65 : decode cX8_init 65 = .ok (.getfield 9, 3) := by decide +kernel
theorem dX8_init_68 : decode cX8_init 68 = .ok (.invokespecial 38, 3) := by decide +kernel
theorem dX8_init_71 : decode cX8_init 71 = .ok (.putfield 41, 3) := by decide +kernel
theorem dX8_init_74 : decode cX8_init 74 = .ok (.aload_n 0, 1) := by decide +kernel
theorem dX8_init_75 : decode cX8_init 75 = .ok (.new 45, 3) := by decide +kernel
theorem dX8_init_78 : decode cX8_init 78 = .ok (.dup, 1) := by decide +kernel
theorem dX8_init_79 : decode cX8_init 79 = .ok (.invokespecial 47, 3) := by decide +kernel
theorem dX8_init_82 : decode cX8_init 82 = .ok (.putfield 48, 3) := by decide +kernel
theorem dX8_init_85 : decode cX8_init 85 = .ok (.aload_n 0, 1) := by decide +kernel
theorem dX8_init_86 : decode cX8_init 86 = .ok (.new 52, 3) := by decide +kernel
theorem dX8_init_89 : decode cX8_init 89 = .ok (.dup, 1) := by decide +kernel
theorem dX8_init_90 : decode cX8_init 90 = .ok (.aload_n 0, 1) := by decide +kernel
theorem dX8_init_91 : decode cX8_init 91 = .ok (.getfield 29, 3) := by decide +kernel
theorem dX8_init_94 : decode cX8_init 94 = .ok (.invokespecial 54, 3) := by decide +kernel
theorem dX8_init_97 : decode cX8_init 97 = .ok (.putfield 57, 3) := by decide +kernel
theorem dX8_init_100 : decode cX8_init 100 = .ok (.aload_n 0, 1) := by decide +kernel
theorem dX8_init_101 : decode cX8_init 101 = .ok (.new 61, 3) := by decide +kernel
theorem dX8_init_104 : decode cX8_init 104 = .ok (.dup, 1) := by decide +kernel
theorem dX8_init_105 : decode cX8_init 105 = .ok (.aload_n 0, 1) := by decide +kernel
theorem dX8_init_106 : decode cX8_init 106 = .ok (.getfield 20, 3) := by decide +kernel
theorem dX8_init_109 : decode cX8_init 109 = .ok (.aload_n 0, 1) := by decide +kernel
theorem dX8_init_110 : decode cX8_init 110 = .ok (.getfield 29, 3) := by decide +kernel
theorem dX8_init_113 : decode cX8_init 113 = .ok (.invokespecial 63, 3) := by decide +kernel
theorem dX8_init_116 : decode cX8_init 116 = .ok (.putfield 66, 3) := by decide +kernel
theorem dX8_init_119 : decode cX8_init 119 = .ok (.aload_n 0, 1) := by decide +kernel
theorem dX8_init_120 : decode cX8_init 120 = .ok (.invokevirtual 70, 3) := by decide +kernel
theorem dX8_init_123 : decode cX8_init 123 = .ok (.return_, 1) := by decide +kernel
theorem dX8_feed_0 : decode cX8_feed 0 = .ok (.aload_n 0, 1) := by decide +kernel
theorem dX8_feed_1 : decode cX8_feed 1 = .ok (.getfield 73, 3) := by decide +kernel
theorem dX8_feed_4 : decode cX8_feed 4 = .ok (.bipush 20, 2) := by decide +kernel
theorem dX8_feed_6 : decode cX8_feed 6 = .ok (.iadd, 1) := by decide +kernel
theorem dX8_feed_7 : decode cX8_feed 7 = .ok (.sipush 900, 3) := by decide +kernel
theorem dX8_feed_10 : decode cX8_feed 10 = .ok (.if_icmp .le 6, 3) := by decide +kernel
theorem dX8_feed_13 : decode cX8_feed 13 = .ok (.bipush (-3), 2) := by decide +kernel
theorem dX8_feed_15 : decode cX8_feed 15 = .ok (.ireturn, 1) := by decide +kernel
theorem dX8_feed_16 : decode cX8_feed 16 = .ok (.aload_n 0, 1) := by decide +kernel
theorem dX8_feed_17 : decode cX8_feed 17 = .ok (.iload_n 1, 1) := by decide +kernel
theorem dX8_feed_18 : decode cX8_feed 18 = .ok (.invokevirtual 76, 3) := by decide +kernel
theorem dX8_feed_21 : decode cX8_feed 21 = .ok (.aload_n 0, 1) := by decide +kernel
theorem dX8_feed_22 : decode cX8_feed 22 = .ok (.iload_n 2, 1) := by decide +kernel
theorem dX8_feed_23 : decode cX8_feed 23 = .ok (.invokevirtual 76, 3) := by decide +kernel
theorem dX8_feed_26 : decode cX8_feed 26 = .ok (.aload_n 0, 1) := by decide +kernel
theorem dX8_feed_27 : decode cX8_feed 27 = .ok (.iload_n 3, 1) := by decide +kernel
theorem dX8_feed_28 : decode cX8_feed 28 = .ok (.invokevirtual 76, 3) := by decide +kernel
theorem dX8_feed_31 : decode cX8_feed 31 = .ok (.aload_n 0, 1) := by decide +kernel
theorem dX8_feed_32 : decode cX8_feed 32 = .ok (.iload 4, 2) := by decide +kernel
theorem dX8_feed_34 : decode cX8_feed 34 = .ok (.invokevirtual 76, 3) := by decide +kernel
theorem dX8_feed_37 : decode cX8_feed 37 = .ok (.aload_n 0, 1) := by decide +kernel
theorem dX8_feed_38 : decode cX8_feed 38 = .ok (.iload 5, 2) := by decide +kernel
theorem dX8_feed_40 : decode cX8_feed 40 = .ok (.invokevirtual 76, 3) := by decide +kernel
theorem dX8_feed_43 : decode cX8_feed 43 = .ok (.aload_n 0, 1) := by decide +kernel
theorem dX8_feed_44 : decode cX8_feed 44 = .ok (.getfield 73, 3) := by decide +kernel
theorem dX8_feed_47 : decode cX8_feed 47 = .ok (.ireturn, 1) := by decide +kernel
theorem dX8_load_0 : decode cX8_load 0 = .ok (.iload_n 1, 1) := by decide +kernel
theorem dX8_load_1 : decode cX8_load 1 = .ok (.ifCond .lt 11, 3) := by decide +kernel
theorem dX8_load_4 : decode cX8_load 4 = .ok (.iload_n 1, 1) := by decide +kernel
theorem dX8_load_5 : decode cX8_load 5 = .ok (.aload_n 0, 1) := by decide +kernel
theorem dX8_load_6 : decode cX8_load 6 = .ok (.getfield 73, 3) := by decide +kernel
theorem dX8_load_9 : decode cX8_load 9 = .ok (.if_icmp .le 6, 3) := by decide +kernel
theorem dX8_load_12 : decode cX8_load 12 = .ok (.bipush (-2), 2) := by decide +kernel
theorem dX8_load_14 : decode cX8_load 14 = .ok (.ireturn, 1) := by decide +kernel
theorem dX8_load_15 : decode cX8_load 15 = .ok (.aload_n 0, 1) := by decide +kernel
theorem dX8_load_16 : decode cX8_load 16 = .ok (.iconst 0, 1) := by decide +kernel
theorem dX8_load_17 : decode cX8_load 17 = .ok (.putfield 73, 3) := by decide +kernel
theorem dX8_load_20 : decode cX8_load 20 = .ok (.aload_n 0, 1) := by decide +kernel
theorem dX8_load_21 : decode cX8_load 21 = .ok (.getfield 41, 3) := by decide +kernel
theorem dX8_load_24 : decode cX8_load 24 = .ok (.iload_n 1, 1) := by decide +kernel
theorem dX8_load_25 : decode cX8_load 25 = .ok (.invokevirtual 80, 3) := by decide +kernel
theorem dX8_load_28 : decode cX8_load 28 = .ok (.istore_n 2, 1) := by decide +kernel
theorem dX8_load_29 : decode cX8_load 29 = .ok (.iload_n 2, 1) := by decide +kernel
theorem dX8_load_30 : decode cX8_load 30 = .ok (.ifCond .ge 16, 3) := by decide +kernel
theorem dX8_load_33 : decode cX8_load 33 = .ok (.aload_n 0, 1) := by decide +kernel
theorem dX8_load_34 : decode cX8_load 34 = .ok (.aload_n 0, 1) := by decide +kernel
theorem dX8_load_35 : decode cX8_load 35 = .ok (.getfield 41, 3) := by decide +kernel
theorem dX8_load_38 : decode cX8_load 38 = .ok (.getfield 84, 3) := by decide +kernel
theorem dX8_load_41 : decode cX8_load 41 = .ok (.putfield 13, 3) := by decide +kernel
theorem dX8_load_44 : decode cX8_load 44 = .ok (.iload_n 2, 1) := by decide +kernel
theorem dX8_load_45 : decode cX8_load 45 = .ok (.ireturn, 1) := by decide +kernel
theorem dX8_load_46 : decode cX8_load 46 = .ok (.aload_n 0, 1) := by decide +kernel
theorem dX8_load_47 : decode cX8_load 47 = .ok (.iconst (-1), 1) := by decide +kernel
theorem dX8_load_48 : decode cX8_load 48 = .ok (.putfield 13, 3) := by decide +kernel
theorem dX8_load_51 : decode cX8_load 51 = .ok (.aload_n 0, 1) := by decide +kernel
theorem dX8_load_52 : decode cX8_load 52 = .ok (.getfield 20, 3) := by decide +kernel
theorem dX8_load_55 : decode cX8_load 55 = .ok (.aload_n 0, 1) := by decide +kernel
theorem dX8_load_56 : decode cX8_load 56 = .ok (.getfield 41, 3) := by decide +kernel
theorem dX8_load_59 : decode cX8_load 59 = .ok (.getfield 85, 3) := by decide +kernel
theorem dX8_load_62 : decode cX8_load 62 = .ok (.invokevirtual 88, 3) := by decide +kernel
theorem dX8_load_65 : decode cX8_load 65 = .ok (.aload_n 0, 1) := by decide +kernel
theorem dX8_load_66 : decode cX8_load 66 = .ok (.getfield 48, 3) := by decide +kernel
theorem dX8_load_69 : decode cX8_load 69 = .ok (.invokevirtual 91, 3) := by decide +kernel
theorem dX8_load_72 : decode cX8_load 72 = .ok (.aload_n 0, 1) := by decide +kernel
theorem dX8_load_73 : decode cX8_load 73 = .ok (.invokevirtual 70, 3) := by decide +kernel
theorem dX8_load_76 : decode cX8_load 76 = .ok (.iload_n 2, 1) := by decide +kernel
theorem dX8_load_77 : decode cX8_load 77 = .ok (.ireturn, 1) := by decide +kernel
theorem dX8_errorPosition_0 : decode cX8_errorPosition 0 = .ok (.aload_n 0, 1) := by decide +kernel
theorem dX8_errorPosition_1 : decode cX8_errorPosition 1 = .ok (.getfield 13, 3) := by decide +kernel
theorem dX8_errorPosition_4 : decode cX8_errorPosition 4 = .ok (.ireturn, 1) := by decide +kernel
theorem dX8_locationCount_0 : decode cX8_locationCount 0 = .ok (.aload_n 0, 1) := by decide +kernel
theorem dX8_locationCount_1 : decode cX8_locationCount 1 = .ok (.getfield 20, 3) := by decide +kernel
theorem dX8_locationCount_4 : decode cX8_locationCount 4 = .ok (.getfield 94, 3) := by decide +kernel
theorem dX8_locationCount_7 : decode cX8_locationCount 7 = .ok (.ireturn, 1) := by decide +kernel
theorem dX8_actorCount_0 : decode cX8_actorCount 0 = .ok (.aload_n 0, 1) := by decide +kernel
theorem dX8_actorCount_1 : decode cX8_actorCount 1 = .ok (.getfield 20, 3) := by decide +kernel
theorem dX8_actorCount_4 : decode cX8_actorCount 4 = .ok (.getfield 97, 3) := by decide +kernel
theorem dX8_actorCount_7 : decode cX8_actorCount 7 = .ok (.ireturn, 1) := by decide +kernel
theorem dX8_sceneCount_0 : decode cX8_sceneCount 0 = .ok (.aload_n 0, 1) := by decide +kernel
theorem dX8_sceneCount_1 : decode cX8_sceneCount 1 = .ok (.getfield 20, 3) := by decide +kernel
theorem dX8_sceneCount_4 : decode cX8_sceneCount 4 = .ok (.getfield 100, 3) := by decide +kernel
theorem dX8_sceneCount_7 : decode cX8_sceneCount 7 = .ok (.ireturn, 1) := by decide +kernel
theorem dX8_undoCount_0 : decode cX8_undoCount 0 = .ok (.aload_n 0, 1) := by decide +kernel
theorem dX8_undoCount_1 : decode cX8_undoCount 1 = .ok (.getfield 48, 3) := by decide +kernel
theorem dX8_undoCount_4 : decode cX8_undoCount 4 = .ok (.getfield 103, 3) := by decide +kernel
theorem dX8_undoCount_7 : decode cX8_undoCount 7 = .ok (.ireturn, 1) := by decide +kernel
theorem dX8_locationNamed_0 : decode cX8_locationNamed 0 = .ok (.aload_n 0, 1) := by decide +kernel
theorem dX8_locationNamed_1 : decode cX8_locationNamed 1 = .ok (.getfield 20, 3) := by decide +kernel
theorem dX8_locationNamed_4 : decode cX8_locationNamed 4 = .ok (.iload_n 1, 1) := by decide +kernel
theorem dX8_locationNamed_5 : decode cX8_locationNamed 5 = .ok (.invokevirtual 106, 3) := by decide +kernel
theorem dX8_locationNamed_8 : decode cX8_locationNamed 8 = .ok (.ireturn, 1) := by decide +kernel
theorem dX8_actorNamed_0 : decode cX8_actorNamed 0 = .ok (.aload_n 0, 1) := by decide +kernel
theorem dX8_actorNamed_1 : decode cX8_actorNamed 1 = .ok (.getfield 20, 3) := by decide +kernel
theorem dX8_actorNamed_4 : decode cX8_actorNamed 4 = .ok (.iload_n 1, 1) := by decide +kernel
theorem dX8_actorNamed_5 : decode cX8_actorNamed 5 = .ok (.invokevirtual 109, 3) := by decide +kernel
theorem dX8_actorNamed_8 : decode cX8_actorNamed 8 = .ok (.ireturn, 1) := by decide +kernel
theorem dX8_getSetting_0 : decode cX8_getSetting 0 = .ok (.iload_n 1, 1) := by decide +kernel
theorem dX8_getSetting_1 : decode cX8_getSetting 1 = .ok (.invokestatic 112, 3) := by decide +kernel
theorem dX8_getSetting_4 : decode cX8_getSetting 4 = .ok (.ifCond .eq 15, 3) := by decide +kernel
theorem dX8_getSetting_7 : decode cX8_getSetting 7 = .ok (.aload_n 0, 1) := by decide +kernel
theorem dX8_getSetting_8 : decode cX8_getSetting 8 = .ok (.getfield 20, 3) := by decide +kernel
theorem dX8_getSetting_11 : decode cX8_getSetting 11 = .ok (.getfield 116, 3) := by decide +kernel
theorem dX8_getSetting_14 : decode cX8_getSetting 14 = .ok (.iload_n 1, 1) := by decide +kernel
theorem dX8_getSetting_15 : decode cX8_getSetting 15 = .ok (.iaload, 1) := by decide +kernel
theorem dX8_getSetting_16 : decode cX8_getSetting 16 = .ok (.goto 5, 3) := by decide +kernel
theorem dX8_getSetting_19 : decode cX8_getSetting 19 = .ok (.bipush (-2), 2) := by decide +kernel
theorem dX8_getSetting_21 : decode cX8_getSetting 21 = .ok (.ireturn, 1) := by decide +kernel
theorem dX8_locationProperty_0 : decode cX8_locationProperty 0 = .ok (.iload_n 1, 1) := by decide +kernel
theorem dX8_locationProperty_1 : decode cX8_locationProperty 1 = .ok (.aload_n 0, 1) := by decide +kernel
theorem dX8_locationProperty_2 : decode cX8_locationProperty 2 = .ok (.getfield 20, 3) := by decide +kernel
theorem dX8_locationProperty_5 : decode cX8_locationProperty 5 = .ok (.getfield 94, 3) := by decide +kernel
theorem dX8_locationProperty_8 : decode cX8_locationProperty 8 = .ok (.invokestatic 120, 3) := by decide +kernel
theorem dX8_locationProperty_11 : decode cX8_locationProperty 11 = .ok (.iload_n 2, 1) := by decide +kernel
theorem dX8_locationProperty_12 : decode cX8_locationProperty 12 = .ok (.lookupswitch 56 #[(0, 28), (1, 38)], 28) := by decide +kernel
theorem dX8_locationProperty_40 : decode cX8_locationProperty 40 = .ok (.aload_n 0, 1) := by decide +kernel
theorem dX8_locationProperty_41 : decode cX8_locationProperty 41 = .ok (.getfield 20, 3) := by decide +kernel
theorem dX8_locationProperty_44 : decode cX8_locationProperty 44 = .ok (.getfield 124, 3) := by decide +kernel
theorem dX8_locationProperty_47 : decode cX8_locationProperty 47 = .ok (.iload_n 1, 1) := by decide +kernel
theorem dX8_locationProperty_48 : decode cX8_locationProperty 48 = .ok (.iaload, 1) := by decide +kernel
theorem dX8_locationProperty_49 : decode cX8_locationProperty 49 = .ok (.ireturn, 1) := by decide +kernel
theorem dX8_locationProperty_50 : decode cX8_locationProperty 50 = .ok (.aload_n 0, 1) := by decide +kernel
theorem dX8_locationProperty_51 : decode cX8_locationProperty 51 = .ok (.getfield 20, 3) := by decide +kernel
theorem dX8_locationProperty_54 : decode cX8_locationProperty 54 = .ok (.getfield 127, 3) := by decide +kernel
theorem dX8_locationProperty_57 : decode cX8_locationProperty 57 = .ok (.iload_n 1, 1) := by decide +kernel
theorem dX8_locationProperty_58 : decode cX8_locationProperty 58 = .ok (.baload, 1) := by decide +kernel
theorem dX8_locationProperty_59 : decode cX8_locationProperty 59 = .ok (.ifCond .eq 7, 3) := by decide +kernel
theorem dX8_locationProperty_62 : decode cX8_locationProperty 62 = .ok (.iconst 1, 1) := by decide +kernel
theorem dX8_locationProperty_63 : decode cX8_locationProperty 63 = .ok (.goto 4, 3) := by decide +kernel
theorem dX8_locationProperty_66 : decode cX8_locationProperty 66 = .ok (.iconst 0, 1) := by decide +kernel
theorem dX8_locationProperty_67 : decode cX8_locationProperty 67 = .ok (.ireturn, 1) := by decide +kernel
theorem dX8_locationProperty_68 : decode cX8_locationProperty 68 = .ok (.bipush (-2), 2) := by decide +kernel
theorem dX8_locationProperty_70 : decode cX8_locationProperty 70 = .ok (.ireturn, 1) := by decide +kernel
theorem dX8_feeOf_0 : decode cX8_feeOf 0 = .ok (.iload_n 1, 1) := by decide +kernel
theorem dX8_feeOf_1 : decode cX8_feeOf 1 = .ok (.aload_n 0, 1) := by decide +kernel
theorem dX8_feeOf_2 : decode cX8_feeOf 2 = .ok (.getfield 20, 3) := by decide +kernel
theorem dX8_feeOf_5 : decode cX8_feeOf 5 = .ok (.getfield 97, 3) := by decide +kernel
theorem dX8_feeOf_8 : decode cX8_feeOf 8 = .ok (.invokestatic 120, 3) := by decide +kernel
theorem dX8_feeOf_11 : decode cX8_feeOf 11 = .ok (.aload_n 0, 1) := by decide +kernel
theorem dX8_feeOf_12 : decode cX8_feeOf 12 = .ok (.getfield 20, 3) := by decide +kernel
theorem dX8_feeOf_15 : decode cX8_feeOf 15 = .ok (.getfield 131, 3) := by decide +kernel
theorem dX8_feeOf_18 : decode cX8_feeOf 18 = .ok (.iload_n 1, 1) := by decide +kernel
theorem dX8_feeOf_19 : decode cX8_feeOf 19 = .ok (.iaload, 1) := by decide +kernel
theorem dX8_feeOf_20 : decode cX8_feeOf 20 = .ok (.ireturn, 1) := by decide +kernel
theorem dX8_sceneProperty_0 : decode cX8_sceneProperty 0 = .ok (.iload_n 1, 1) := by decide +kernel
theorem dX8_sceneProperty_1 : decode cX8_sceneProperty 1 = .ok (.aload_n 0, 1) := by decide +kernel
theorem dX8_sceneProperty_2 : decode cX8_sceneProperty 2 = .ok (.getfield 20, 3) := by decide +kernel
theorem dX8_sceneProperty_5 : decode cX8_sceneProperty 5 = .ok (.getfield 100, 3) := by decide +kernel
theorem dX8_sceneProperty_8 : decode cX8_sceneProperty 8 = .ok (.invokestatic 120, 3) := by decide +kernel
theorem dX8_sceneProperty_11 : decode cX8_sceneProperty 11 = .ok (.iload_n 2, 1) := by decide +kernel
theorem dX8_sceneProperty_12 : decode cX8_sceneProperty 12 = .ok (.tableswitch 80 0 3 #[32, 42, 52, 70], 32) := by decide +kernel
theorem dX8_sceneProperty_44 : decode cX8_sceneProperty 44 = .ok (.aload_n 0, 1) := by decide +kernel
theorem dX8_sceneProperty_45 : decode cX8_sceneProperty 45 = .ok (.getfield 20, 3) := by decide +kernel
theorem dX8_sceneProperty_48 : decode cX8_sceneProperty 48 = .ok (.getfield 134, 3) := by decide +kernel
theorem dX8_sceneProperty_51 : decode cX8_sceneProperty 51 = .ok (.iload_n 1, 1) := by decide +kernel
theorem dX8_sceneProperty_52 : decode cX8_sceneProperty 52 = .ok (.iaload, 1) := by decide +kernel
theorem dX8_sceneProperty_53 : decode cX8_sceneProperty 53 = .ok (.ireturn, 1) := by decide +kernel
theorem dX8_sceneProperty_54 : decode cX8_sceneProperty 54 = .ok (.aload_n 0, 1) := by decide +kernel
theorem dX8_sceneProperty_55 : decode cX8_sceneProperty 55 = .ok (.getfield 20, 3) := by decide +kernel
theorem dX8_sceneProperty_58 : decode cX8_sceneProperty 58 = .ok (.getfield 137, 3) := by decide +kernel
theorem dX8_sceneProperty_61 : decode cX8_sceneProperty 61 = .ok (.iload_n 1, 1) := by decide +kernel
theorem dX8_sceneProperty_62 : decode cX8_sceneProperty 62 = .ok (.iaload, 1) := by decide +kernel
theorem dX8_sceneProperty_63 : decode cX8_sceneProperty 63 = .ok (.ireturn, 1) := by decide +kernel
theorem dX8_sceneProperty_64 : decode cX8_sceneProperty 64 = .ok (.aload_n 0, 1) := by decide +kernel
theorem dX8_sceneProperty_65 : decode cX8_sceneProperty 65 = .ok (.getfield 20, 3) := by decide +kernel
theorem dX8_sceneProperty_68 : decode cX8_sceneProperty 68 = .ok (.getfield 140, 3) := by decide +kernel
theorem dX8_sceneProperty_71 : decode cX8_sceneProperty 71 = .ok (.iload_n 1, 1) := by decide +kernel
theorem dX8_sceneProperty_72 : decode cX8_sceneProperty 72 = .ok (.baload, 1) := by decide +kernel
theorem dX8_sceneProperty_73 : decode cX8_sceneProperty 73 = .ok (.ifCond .eq 7, 3) := by decide +kernel
theorem dX8_sceneProperty_76 : decode cX8_sceneProperty 76 = .ok (.iconst 1, 1) := by decide +kernel
theorem dX8_sceneProperty_77 : decode cX8_sceneProperty 77 = .ok (.goto 4, 3) := by decide +kernel
theorem dX8_sceneProperty_80 : decode cX8_sceneProperty 80 = .ok (.iconst 0, 1) := by decide +kernel
theorem dX8_sceneProperty_81 : decode cX8_sceneProperty 81 = .ok (.ireturn, 1) := by decide +kernel
theorem dX8_sceneProperty_82 : decode cX8_sceneProperty 82 = .ok (.aload_n 0, 1) := by decide +kernel
theorem dX8_sceneProperty_83 : decode cX8_sceneProperty 83 = .ok (.getfield 20, 3) := by decide +kernel
theorem dX8_sceneProperty_86 : decode cX8_sceneProperty 86 = .ok (.getfield 143, 3) := by decide +kernel
theorem dX8_sceneProperty_89 : decode cX8_sceneProperty 89 = .ok (.iload_n 1, 1) := by decide +kernel
theorem dX8_sceneProperty_90 : decode cX8_sceneProperty 90 = .ok (.iaload, 1) := by decide +kernel
theorem dX8_sceneProperty_91 : decode cX8_sceneProperty 91 = .ok (.ireturn, 1) := by decide +kernel
theorem dX8_sceneProperty_92 : decode cX8_sceneProperty 92 = .ok (.bipush (-2), 2) := by decide +kernel
theorem dX8_sceneProperty_94 : decode cX8_sceneProperty 94 = .ok (.ireturn, 1) := by decide +kernel
theorem dX8_dayOf_0 : decode cX8_dayOf 0 = .ok (.iload_n 1, 1) := by decide +kernel
theorem dX8_dayOf_1 : decode cX8_dayOf 1 = .ok (.aload_n 0, 1) := by decide +kernel
theorem dX8_dayOf_2 : decode cX8_dayOf 2 = .ok (.getfield 20, 3) := by decide +kernel
theorem dX8_dayOf_5 : decode cX8_dayOf 5 = .ok (.getfield 100, 3) := by decide +kernel
theorem dX8_dayOf_8 : decode cX8_dayOf 8 = .ok (.invokestatic 120, 3) := by decide +kernel
theorem dX8_dayOf_11 : decode cX8_dayOf 11 = .ok (.aload_n 0, 1) := by decide +kernel
theorem dX8_dayOf_12 : decode cX8_dayOf 12 = .ok (.getfield 20, 3) := by decide +kernel
theorem dX8_dayOf_15 : decode cX8_dayOf 15 = .ok (.getfield 146, 3) := by decide +kernel
theorem dX8_dayOf_18 : decode cX8_dayOf 18 = .ok (.iload_n 1, 1) := by decide +kernel
theorem dX8_dayOf_19 : decode cX8_dayOf 19 = .ok (.iaload, 1) := by decide +kernel
theorem dX8_dayOf_20 : decode cX8_dayOf 20 = .ok (.ireturn, 1) := by decide +kernel
theorem dX8_scenesOn_0 : decode cX8_scenesOn 0 = .ok (.iload_n 1, 1) := by decide +kernel
theorem dX8_scenesOn_1 : decode cX8_scenesOn 1 = .ok (.bipush 12, 2) := by decide +kernel
theorem dX8_scenesOn_3 : decode cX8_scenesOn 3 = .ok (.invokestatic 120, 3) := by decide +kernel
theorem dX8_scenesOn_6 : decode cX8_scenesOn 6 = .ok (.aload_n 0, 1) := by decide +kernel
theorem dX8_scenesOn_7 : decode cX8_scenesOn 7 = .ok (.getfield 29, 3) := by decide +kernel
theorem dX8_scenesOn_10 : decode cX8_scenesOn 10 = .ok (.getfield 149, 3) := by decide +kernel
theorem dX8_scenesOn_13 : decode cX8_scenesOn 13 = .ok (.iload_n 1, 1) := by decide +kernel
theorem dX8_scenesOn_14 : decode cX8_scenesOn 14 = .ok (.iaload, 1) := by decide +kernel
theorem dX8_scenesOn_15 : decode cX8_scenesOn 15 = .ok (.ireturn, 1) := by decide +kernel
theorem dX8_locationOn_0 : decode cX8_locationOn 0 = .ok (.iload_n 1, 1) := by decide +kernel
theorem dX8_locationOn_1 : decode cX8_locationOn 1 = .ok (.bipush 12, 2) := by decide +kernel
theorem dX8_locationOn_3 : decode cX8_locationOn 3 = .ok (.invokestatic 120, 3) := by decide +kernel
theorem dX8_locationOn_6 : decode cX8_locationOn 6 = .ok (.aload_n 0, 1) := by decide +kernel
theorem dX8_locationOn_7 : decode cX8_locationOn 7 = .ok (.getfield 29, 3) := by decide +kernel
theorem dX8_locationOn_10 : decode cX8_locationOn 10 = .ok (.getfield 151, 3) := by decide +kernel
theorem dX8_locationOn_13 : decode cX8_locationOn 13 = .ok (.iload_n 1, 1) := by decide +kernel
theorem dX8_locationOn_14 : decode cX8_locationOn 14 = .ok (.iaload, 1) := by decide +kernel
theorem dX8_locationOn_15 : decode cX8_locationOn 15 = .ok (.ireturn, 1) := by decide +kernel
theorem dX8_isNight_0 : decode cX8_isNight 0 = .ok (.iload_n 1, 1) := by decide +kernel
theorem dX8_isNight_1 : decode cX8_isNight 1 = .ok (.bipush 12, 2) := by decide +kernel
theorem dX8_isNight_3 : decode cX8_isNight 3 = .ok (.invokestatic 120, 3) := by decide +kernel
theorem dX8_isNight_6 : decode cX8_isNight 6 = .ok (.aload_n 0, 1) := by decide +kernel
theorem dX8_isNight_7 : decode cX8_isNight 7 = .ok (.getfield 29, 3) := by decide +kernel
theorem dX8_isNight_10 : decode cX8_isNight 10 = .ok (.getfield 153, 3) := by decide +kernel
theorem dX8_isNight_13 : decode cX8_isNight 13 = .ok (.iload_n 1, 1) := by decide +kernel
theorem dX8_isNight_14 : decode cX8_isNight 14 = .ok (.baload, 1) := by decide +kernel
theorem dX8_isNight_15 : decode cX8_isNight 15 = .ok (.ireturn, 1) := by decide +kernel
theorem dX8_lengthOn_0 : decode cX8_lengthOn 0 = .ok (.iload_n 1, 1) := by decide +kernel
theorem dX8_lengthOn_1 : decode cX8_lengthOn 1 = .ok (.bipush 12, 2) := by decide +kernel
theorem dX8_lengthOn_3 : decode cX8_lengthOn 3 = .ok (.invokestatic 120, 3) := by decide +kernel
theorem dX8_lengthOn_6 : decode cX8_lengthOn 6 = .ok (.aload_n 0, 1) := by decide +kernel
theorem dX8_lengthOn_7 : decode cX8_lengthOn 7 = .ok (.getfield 29, 3) := by decide +kernel
theorem dX8_lengthOn_10 : decode cX8_lengthOn 10 = .ok (.getfield 156, 3) := by decide +kernel
theorem dX8_lengthOn_13 : decode cX8_lengthOn 13 = .ok (.iload_n 1, 1) := by decide +kernel
theorem dX8_lengthOn_14 : decode cX8_lengthOn 14 = .ok (.iaload, 1) := by decide +kernel
theorem dX8_lengthOn_15 : decode cX8_lengthOn 15 = .ok (.ireturn, 1) := by decide +kernel
theorem dX8_castOn_0 : decode cX8_castOn 0 = .ok (.iload_n 1, 1) := by decide +kernel
theorem dX8_castOn_1 : decode cX8_castOn 1 = .ok (.bipush 12, 2) := by decide +kernel
theorem dX8_castOn_3 : decode cX8_castOn 3 = .ok (.invokestatic 120, 3) := by decide +kernel
theorem dX8_castOn_6 : decode cX8_castOn 6 = .ok (.aload_n 0, 1) := by decide +kernel
theorem dX8_castOn_7 : decode cX8_castOn 7 = .ok (.getfield 29, 3) := by decide +kernel
theorem dX8_castOn_10 : decode cX8_castOn 10 = .ok (.getfield 159, 3) := by decide +kernel
theorem dX8_castOn_13 : decode cX8_castOn 13 = .ok (.iload_n 1, 1) := by decide +kernel
theorem dX8_castOn_14 : decode cX8_castOn 14 = .ok (.iaload, 1) := by decide +kernel
theorem dX8_castOn_15 : decode cX8_castOn 15 = .ok (.ireturn, 1) := by decide +kernel
theorem dX8_span_0 : decode cX8_span 0 = .ok (.aload_n 0, 1) := by decide +kernel
theorem dX8_span_1 : decode cX8_span 1 = .ok (.getfield 29, 3) := by decide +kernel
theorem dX8_span_4 : decode cX8_span 4 = .ok (.invokevirtual 162, 3) := by decide +kernel
theorem dX8_span_7 : decode cX8_span 7 = .ok (.ireturn, 1) := by decide +kernel
theorem dX8_statusOf_0 : decode cX8_statusOf 0 = .ok (.iload_n 1, 1) := by decide +kernel
theorem dX8_statusOf_1 : decode cX8_statusOf 1 = .ok (.aload_n 0, 1) := by decide +kernel
theorem dX8_statusOf_2 : decode cX8_statusOf 2 = .ok (.getfield 20, 3) := by decide +kernel
theorem dX8_statusOf_5 : decode cX8_statusOf 5 = .ok (.getfield 97, 3) := by decide +kernel
theorem dX8_statusOf_8 : decode cX8_statusOf 8 = .ok (.invokestatic 120, 3) := by decide +kernel
theorem dX8_statusOf_11 : decode cX8_statusOf 11 = .ok (.iload_n 2, 1) := by decide +kernel
theorem dX8_statusOf_12 : decode cX8_statusOf 12 = .ok (.bipush 12, 2) := by decide +kernel
theorem dX8_statusOf_14 : decode cX8_statusOf 14 = .ok (.invokestatic 120, 3) := by decide +kernel
theorem dX8_statusOf_17 : decode cX8_statusOf 17 = .ok (.aload_n 0, 1) := by decide +kernel
theorem dX8_statusOf_18 : decode cX8_statusOf 18 = .ok (.getfield 29, 3) := by decide +kernel
theorem dX8_statusOf_21 : decode cX8_statusOf 21 = .ok (.iload_n 1, 1) := by decide +kernel
theorem dX8_statusOf_22 : decode cX8_statusOf 22 = .ok (.invokevirtual 166, 3) := by decide +kernel
theorem dX8_statusOf_25 : decode cX8_statusOf 25 = .ok (.istore_n 3, 1) := by decide +kernel
theorem dX8_statusOf_26 : decode cX8_statusOf 26 = .ok (.aload_n 0, 1) := by decide +kernel
theorem dX8_statusOf_27 : decode cX8_statusOf 27 = .ok (.getfield 20, 3) := by decide +kernel
theorem dX8_statusOf_30 : decode cX8_statusOf 30 = .ok (.getfield 116, 3) := by decide +kernel
theorem dX8_statusOf_33 : decode cX8_statusOf 33 = .ok (.iconst 3, 1) := by decide +kernel
theorem dX8_statusOf_34 : decode cX8_statusOf 34 = .ok (.iaload, 1) := by decide +kernel
theorem dX8_statusOf_35 : decode cX8_statusOf 35 = .ok (.istore 4, 2) := by decide +kernel
theorem dX8_statusOf_37 : decode cX8_statusOf 37 = .ok (.iload_n 3, 1) := by decide +kernel
theorem dX8_statusOf_38 : decode cX8_statusOf 38 = .ok (.iload_n 2, 1) := by decide +kernel
theorem dX8_statusOf_39 : decode cX8_statusOf 39 = .ok (.invokestatic 169, 3) := by decide +kernel
theorem dX8_statusOf_42 : decode cX8_statusOf 42 = .ok (.ifCond .eq 5, 3) := by decide +kernel
theorem dX8_statusOf_45 : decode cX8_statusOf 45 = .ok (.iconst 1, 1) := by decide +kernel
theorem dX8_statusOf_46 : decode cX8_statusOf 46 = .ok (.ireturn, 1) := by decide +kernel
theorem dX8_statusOf_47 : decode cX8_statusOf 47 = .ok (.iload_n 3, 1) := by decide +kernel
theorem dX8_statusOf_48 : decode cX8_statusOf 48 = .ok (.iload 4, 2) := by decide +kernel
theorem dX8_statusOf_50 : decode cX8_statusOf 50 = .ok (.invokestatic 173, 3) := by decide +kernel
theorem dX8_statusOf_53 : decode cX8_statusOf 53 = .ok (.iload_n 2, 1) := by decide +kernel
theorem dX8_statusOf_54 : decode cX8_statusOf 54 = .ok (.invokestatic 169, 3) := by decide +kernel
theorem dX8_statusOf_57 : decode cX8_statusOf 57 = .ok (.ifCond .eq 5, 3) := by decide +kernel
theorem dX8_statusOf_60 : decode cX8_statusOf 60 = .ok (.iconst 3, 1) := by decide +kernel
theorem dX8_statusOf_61 : decode cX8_statusOf 61 = .ok (.ireturn, 1) := by decide +kernel
theorem dX8_statusOf_62 : decode cX8_statusOf 62 = .ok (.iload_n 3, 1) := by decide +kernel
theorem dX8_statusOf_63 : decode cX8_statusOf 63 = .ok (.iload 4, 2) := by decide +kernel
theorem dX8_statusOf_65 : decode cX8_statusOf 65 = .ok (.invokestatic 179, 3) := by decide +kernel
theorem dX8_statusOf_68 : decode cX8_statusOf 68 = .ok (.iload_n 2, 1) := by decide +kernel
theorem dX8_statusOf_69 : decode cX8_statusOf 69 = .ok (.invokestatic 169, 3) := by decide +kernel
theorem dX8_statusOf_72 : decode cX8_statusOf 72 = .ok (.ifCond .eq 7, 3) := by decide +kernel
theorem dX8_statusOf_75 : decode cX8_statusOf 75 = .ok (.iconst 2, 1) := by decide +kernel
theorem dX8_statusOf_76 : decode cX8_statusOf 76 = .ok (.goto 4, 3) := by decide +kernel
theorem dX8_statusOf_79 : decode cX8_statusOf 79 = .ok (.iconst 0, 1) := by decide +kernel
theorem dX8_statusOf_80 : decode cX8_statusOf 80 = .ok (.ireturn, 1) := by decide +kernel
theorem dX8_firstDay_0 : decode cX8_firstDay 0 = .ok (.iload_n 1, 1) := by decide +kernel
theorem dX8_firstDay_1 : decode cX8_firstDay 1 = .ok (.aload_n 0, 1) := by decide +kernel
theorem dX8_firstDay_2 : decode cX8_firstDay 2 = .ok (.getfield 20, 3) := by decide +kernel
theorem dX8_firstDay_5 : decode cX8_firstDay 5 = .ok (.getfield 97, 3) := by decide +kernel
theorem dX8_firstDay_8 : decode cX8_firstDay 8 = .ok (.invokestatic 120, 3) := by decide +kernel
theorem dX8_firstDay_11 : decode cX8_firstDay 11 = .ok (.aload_n 0, 1) := by decide +kernel
theorem dX8_firstDay_12 : decode cX8_firstDay 12 = .ok (.getfield 29, 3) := by decide +kernel
theorem dX8_firstDay_15 : decode cX8_firstDay 15 = .ok (.iload_n 1, 1) := by decide +kernel
theorem dX8_firstDay_16 : decode cX8_firstDay 16 = .ok (.invokevirtual 166, 3) := by decide +kernel
theorem dX8_firstDay_19 : decode cX8_firstDay 19 = .ok (.invokestatic 182, 3) := by decide +kernel
theorem dX8_firstDay_22 : decode cX8_firstDay 22 = .ok (.ireturn, 1) := by decide +kernel
theorem dX8_lastDay_0 : decode cX8_lastDay 0 = .ok (.iload_n 1, 1) := by decide +kernel
theorem dX8_lastDay_1 : decode cX8_lastDay 1 = .ok (.aload_n 0, 1) := by decide +kernel
theorem dX8_lastDay_2 : decode cX8_lastDay 2 = .ok (.getfield 20, 3) := by decide +kernel
theorem dX8_lastDay_5 : decode cX8_lastDay 5 = .ok (.getfield 97, 3) := by decide +kernel
theorem dX8_lastDay_8 : decode cX8_lastDay 8 = .ok (.invokestatic 120, 3) := by decide +kernel
theorem dX8_lastDay_11 : decode cX8_lastDay 11 = .ok (.aload_n 0, 1) := by decide +kernel
theorem dX8_lastDay_12 : decode cX8_lastDay 12 = .ok (.getfield 29, 3) := by decide +kernel
theorem dX8_lastDay_15 : decode cX8_lastDay 15 = .ok (.iload_n 1, 1) := by decide +kernel
theorem dX8_lastDay_16 : decode cX8_lastDay 16 = .ok (.invokevirtual 166, 3) := by decide +kernel
theorem dX8_lastDay_19 : decode cX8_lastDay 19 = .ok (.invokestatic 185, 3) := by decide +kernel
theorem dX8_lastDay_22 : decode cX8_lastDay 22 = .ok (.ireturn, 1) := by decide +kernel
theorem dX8_daysWith_0 : decode cX8_daysWith 0 = .ok (.iload_n 1, 1) := by decide +kernel
theorem dX8_daysWith_1 : decode cX8_daysWith 1 = .ok (.aload_n 0, 1) := by decide +kernel
theorem dX8_daysWith_2 : decode cX8_daysWith 2 = .ok (.getfield 20, 3) := by decide +kernel
theorem dX8_daysWith_5 : decode cX8_daysWith 5 = .ok (.getfield 97, 3) := by decide +kernel
theorem dX8_daysWith_8 : decode cX8_daysWith 8 = .ok (.invokestatic 120, 3) := by decide +kernel
theorem dX8_daysWith_11 : decode cX8_daysWith 11 = .ok (.aload_n 0, 1) := by decide +kernel
theorem dX8_daysWith_12 : decode cX8_daysWith 12 = .ok (.getfield 29, 3) := by decide +kernel
theorem dX8_daysWith_15 : decode cX8_daysWith 15 = .ok (.iload_n 1, 1) := by decide +kernel
theorem dX8_daysWith_16 : decode cX8_daysWith 16 = .ok (.invokevirtual 166, 3) := by decide +kernel
theorem dX8_daysWith_19 : decode cX8_daysWith 19 = .ok (.istore_n 3, 1) := by decide +kernel
theorem dX8_daysWith_20 : decode cX8_daysWith 20 = .ok (.aload_n 0, 1) := by decide +kernel
theorem dX8_daysWith_21 : decode cX8_daysWith 21 = .ok (.getfield 20, 3) := by decide +kernel
theorem dX8_daysWith_24 : decode cX8_daysWith 24 = .ok (.getfield 116, 3) := by decide +kernel
theorem dX8_daysWith_27 : decode cX8_daysWith 27 = .ok (.iconst 3, 1) := by decide +kernel
theorem dX8_daysWith_28 : decode cX8_daysWith 28 = .ok (.iaload, 1) := by decide +kernel
theorem dX8_daysWith_29 : decode cX8_daysWith 29 = .ok (.istore 4, 2) := by decide +kernel
theorem dX8_daysWith_31 : decode cX8_daysWith 31 = .ok (.iload_n 2, 1) := by decide +kernel
theorem dX8_daysWith_32 : decode cX8_daysWith 32 = .ok (.tableswitch 68 0 3 #[32, 43, 48, 58], 32) := by decide +kernel
theorem dX8_daysWith_64 : decode cX8_daysWith 64 = .ok (.bipush 12, 2) := by decide +kernel
theorem dX8_daysWith_66 : decode cX8_daysWith 66 = .ok (.iload_n 3, 1) := by decide +kernel
theorem dX8_daysWith_67 : decode cX8_daysWith 67 = .ok (.invokestatic 188, 3) := by decide +kernel
theorem dX8_daysWith_70 : decode cX8_daysWith 70 = .ok (.invokestatic 191, 3) := by decide +kernel
theorem dX8_daysWith_73 : decode cX8_daysWith 73 = .ok (.isub, 1) := by decide +kernel
theorem dX8_daysWith_74 : decode cX8_daysWith 74 = .ok (.ireturn, 1) := by decide +kernel
theorem dX8_daysWith_75 : decode cX8_daysWith 75 = .ok (.iload_n 3, 1) := by decide +kernel
theorem dX8_daysWith_76 : decode cX8_daysWith 76 = .ok (.invokestatic 191, 3) := by decide +kernel
theorem dX8_daysWith_79 : decode cX8_daysWith 79 = .ok (.ireturn, 1) := by decide +kernel
theorem dX8_daysWith_80 : decode cX8_daysWith 80 = .ok (.iload_n 3, 1) := by decide +kernel
theorem dX8_daysWith_81 : decode cX8_daysWith 81 = .ok (.iload 4, 2) := by decide +kernel
theorem dX8_daysWith_83 : decode cX8_daysWith 83 = .ok (.invokestatic 179, 3) := by decide +kernel
theorem dX8_daysWith_86 : decode cX8_daysWith 86 = .ok (.invokestatic 191, 3) := by decide +kernel
theorem dX8_daysWith_89 : decode cX8_daysWith 89 = .ok (.ireturn, 1) := by decide +kernel
theorem dX8_daysWith_90 : decode cX8_daysWith 90 = .ok (.iload_n 3, 1) := by decide +kernel
theorem dX8_daysWith_91 : decode cX8_daysWith 91 = .ok (.iload 4, 2) := by decide +kernel
theorem dX8_daysWith_93 : decode cX8_daysWith 93 = .ok (.invokestatic 173, 3) := by decide +kernel
theorem dX8_daysWith_96 : decode cX8_daysWith 96 = .ok (.invokestatic 191, 3) := by decide +kernel
theorem dX8_daysWith_99 : decode cX8_daysWith 99 = .ok (.ireturn, 1) := by decide +kernel
theorem dX8_daysWith_100 : decode cX8_daysWith 100 = .ok (.bipush (-2), 2) := by decide +kernel
theorem dX8_daysWith_102 : decode cX8_daysWith 102 = .ok (.ireturn, 1) := by decide +kernel
theorem dX8_actorCost_0 : decode cX8_actorCost 0 = .ok (.iload_n 1, 1) := by decide +kernel
theorem dX8_actorCost_1 : decode cX8_actorCost 1 = .ok (.aload_n 0, 1) := by decide +kernel
theorem dX8_actorCost_2 : decode cX8_actorCost 2 = .ok (.getfield 20, 3) := by decide +kernel
theorem dX8_actorCost_5 : decode cX8_actorCost 5 = .ok (.getfield 97, 3) := by decide +kernel
theorem dX8_actorCost_8 : decode cX8_actorCost 8 = .ok (.invokestatic 120, 3) := by decide +kernel
theorem dX8_actorCost_11 : decode cX8_actorCost 11 = .ok (.aload_n 0, 1) := by decide +kernel
theorem dX8_actorCost_12 : decode cX8_actorCost 12 = .ok (.getfield 29, 3) := by decide +kernel
theorem dX8_actorCost_15 : decode cX8_actorCost 15 = .ok (.iload_n 1, 1) := by decide +kernel
theorem dX8_actorCost_16 : decode cX8_actorCost 16 = .ok (.invokevirtual 196, 3) := by decide +kernel
theorem dX8_actorCost_19 : decode cX8_actorCost 19 = .ok (.ireturn, 1) := by decide +kernel
theorem dX8_moves_0 : decode cX8_moves 0 = .ok (.aload_n 0, 1) := by decide +kernel
theorem dX8_moves_1 : decode cX8_moves 1 = .ok (.getfield 29, 3) := by decide +kernel
theorem dX8_moves_4 : decode cX8_moves 4 = .ok (.invokevirtual 199, 3) := by decide +kernel
theorem dX8_moves_7 : decode cX8_moves 7 = .ok (.ireturn, 1) := by decide +kernel
theorem dX8_cost_0 : decode cX8_cost 0 = .ok (.aload_n 0, 1) := by decide +kernel
theorem dX8_cost_1 : decode cX8_cost 1 = .ok (.getfield 29, 3) := by decide +kernel
theorem dX8_cost_4 : decode cX8_cost 4 = .ok (.invokevirtual 202, 3) := by decide +kernel
theorem dX8_cost_7 : decode cX8_cost 7 = .ok (.ireturn, 1) := by decide +kernel
theorem dX8_holdingCost_0 : decode cX8_holdingCost 0 = .ok (.iconst 0, 1) := by decide +kernel
theorem dX8_holdingCost_1 : decode cX8_holdingCost 1 = .ok (.istore_n 1, 1) := by decide +kernel
theorem dX8_holdingCost_2 : decode cX8_holdingCost 2 = .ok (.iconst 0, 1) := by decide +kernel
theorem dX8_holdingCost_3 : decode cX8_holdingCost 3 = .ok (.istore_n 2, 1) := by decide +kernel
theorem dX8_holdingCost_4 : decode cX8_holdingCost 4 = .ok (.iload_n 2, 1) := by decide +kernel
theorem dX8_holdingCost_5 : decode cX8_holdingCost 5 = .ok (.aload_n 0, 1) := by decide +kernel
theorem dX8_holdingCost_6 : decode cX8_holdingCost 6 = .ok (.getfield 20, 3) := by decide +kernel
theorem dX8_holdingCost_9 : decode cX8_holdingCost 9 = .ok (.getfield 97, 3) := by decide +kernel
theorem dX8_holdingCost_12 : decode cX8_holdingCost 12 = .ok (.if_icmp .ge 20, 3) := by decide +kernel
theorem dX8_holdingCost_15 : decode cX8_holdingCost 15 = .ok (.iload_n 1, 1) := by decide +kernel
theorem dX8_holdingCost_16 : decode cX8_holdingCost 16 = .ok (.aload_n 0, 1) := by decide +kernel
theorem dX8_holdingCost_17 : decode cX8_holdingCost 17 = .ok (.getfield 29, 3) := by decide +kernel
theorem dX8_holdingCost_20 : decode cX8_holdingCost 20 = .ok (.iload_n 2, 1) := by decide +kernel
theorem dX8_holdingCost_21 : decode cX8_holdingCost 21 = .ok (.invokevirtual 205, 3) := by decide +kernel
theorem dX8_holdingCost_24 : decode cX8_holdingCost 24 = .ok (.iadd, 1) := by decide +kernel
theorem dX8_holdingCost_25 : decode cX8_holdingCost 25 = .ok (.istore_n 1, 1) := by decide +kernel
theorem dX8_holdingCost_26 : decode cX8_holdingCost 26 = .ok (.iinc 2 1, 3) := by decide +kernel
theorem dX8_holdingCost_29 : decode cX8_holdingCost 29 = .ok (.goto (-25), 3) := by decide +kernel
theorem dX8_holdingCost_32 : decode cX8_holdingCost 32 = .ok (.iload_n 1, 1) := by decide +kernel
theorem dX8_holdingCost_33 : decode cX8_holdingCost 33 = .ok (.ireturn, 1) := by decide +kernel
theorem dX8_reasonFor_0 : decode cX8_reasonFor 0 = .ok (.iload_n 1, 1) := by decide +kernel
theorem dX8_reasonFor_1 : decode cX8_reasonFor 1 = .ok (.aload_n 0, 1) := by decide +kernel
theorem dX8_reasonFor_2 : decode cX8_reasonFor 2 = .ok (.getfield 20, 3) := by decide +kernel
theorem dX8_reasonFor_5 : decode cX8_reasonFor 5 = .ok (.getfield 100, 3) := by decide +kernel
theorem dX8_reasonFor_8 : decode cX8_reasonFor 8 = .ok (.invokestatic 120, 3) := by decide +kernel
theorem dX8_reasonFor_11 : decode cX8_reasonFor 11 = .ok (.iload_n 2, 1) := by decide +kernel
theorem dX8_reasonFor_12 : decode cX8_reasonFor 12 = .ok (.bipush 12, 2) := by decide +kernel
theorem dX8_reasonFor_14 : decode cX8_reasonFor 14 = .ok (.invokestatic 120, 3) := by decide +kernel
theorem dX8_reasonFor_17 : decode cX8_reasonFor 17 = .ok (.aload_n 0, 1) := by decide +kernel
theorem dX8_reasonFor_18 : decode cX8_reasonFor 18 = .ok (.getfield 33, 3) := by decide +kernel
theorem dX8_reasonFor_21 : decode cX8_reasonFor 21 = .ok (.iload_n 1, 1) := by decide +kernel
theorem dX8_reasonFor_22 : decode cX8_reasonFor 22 = .ok (.iload_n 2, 1) := by decide +kernel
theorem dX8_reasonFor_23 : decode cX8_reasonFor 23 = .ok (.invokevirtual 208, 3) := by decide +kernel
theorem dX8_reasonFor_26 : decode cX8_reasonFor 26 = .ok (.ireturn, 1) := by decide +kernel
theorem dX8_daysFor_0 : decode cX8_daysFor 0 = .ok (.iload_n 1, 1) := by decide +kernel
theorem dX8_daysFor_1 : decode cX8_daysFor 1 = .ok (.aload_n 0, 1) := by decide +kernel
theorem dX8_daysFor_2 : decode cX8_daysFor 2 = .ok (.getfield 20, 3) := by decide +kernel
theorem dX8_daysFor_5 : decode cX8_daysFor 5 = .ok (.getfield 100, 3) := by decide +kernel
theorem dX8_daysFor_8 : decode cX8_daysFor 8 = .ok (.invokestatic 120, 3) := by decide +kernel
theorem dX8_daysFor_11 : decode cX8_daysFor 11 = .ok (.iconst 0, 1) := by decide +kernel
theorem dX8_daysFor_12 : decode cX8_daysFor 12 = .ok (.istore_n 2, 1) := by decide +kernel
theorem dX8_daysFor_13 : decode cX8_daysFor 13 = .ok (.iconst 0, 1) := by decide +kernel
theorem dX8_daysFor_14 : decode cX8_daysFor 14 = .ok (.istore_n 3, 1) := by decide +kernel
theorem dX8_daysFor_15 : decode cX8_daysFor 15 = .ok (.iload_n 3, 1) := by decide +kernel
theorem dX8_daysFor_16 : decode cX8_daysFor 16 = .ok (.bipush 12, 2) := by decide +kernel
theorem dX8_daysFor_18 : decode cX8_daysFor 18 = .ok (.if_icmp .ge 27, 3) := by decide +kernel
theorem dX8_daysFor_21 : decode cX8_daysFor 21 = .ok (.aload_n 0, 1) := by decide +kernel
theorem dX8_daysFor_22 : decode cX8_daysFor 22 = .ok (.getfield 33, 3) := by decide +kernel
theorem dX8_daysFor_25 : decode cX8_daysFor 25 = .ok (.iload_n 1, 1) := by decide +kernel
theorem dX8_daysFor_26 : decode cX8_daysFor 26 = .ok (.iload_n 3, 1) := by decide +kernel
theorem dX8_daysFor_27 : decode cX8_daysFor 27 = .ok (.invokevirtual 208, 3) := by decide +kernel
theorem dX8_daysFor_30 : decode cX8_daysFor 30 = .ok (.ifCond .ne 9, 3) := by decide +kernel
theorem dX8_daysFor_33 : decode cX8_daysFor 33 = .ok (.iload_n 2, 1) := by decide +kernel
theorem dX8_daysFor_34 : decode cX8_daysFor 34 = .ok (.iconst 1, 1) := by decide +kernel
theorem dX8_daysFor_35 : decode cX8_daysFor 35 = .ok (.iload_n 3, 1) := by decide +kernel
theorem dX8_daysFor_36 : decode cX8_daysFor 36 = .ok (.ishl, 1) := by decide +kernel
theorem dX8_daysFor_37 : decode cX8_daysFor 37 = .ok (.ior, 1) := by decide +kernel
theorem dX8_daysFor_38 : decode cX8_daysFor 38 = .ok (.istore_n 2, 1) := by decide +kernel
theorem dX8_daysFor_39 : decode cX8_daysFor 39 = .ok (.iinc 3 1, 3) := by decide +kernel
theorem dX8_daysFor_42 : decode cX8_daysFor 42 = .ok (.goto (-27), 3) := by decide +kernel
theorem dX8_daysFor_45 : decode cX8_daysFor 45 = .ok (.iload_n 2, 1) := by decide +kernel
theorem dX8_daysFor_46 : decode cX8_daysFor 46 = .ok (.ireturn, 1) := by decide +kernel
theorem dX8_costWith_0 : decode cX8_costWith 0 = .ok (.iload_n 1, 1) := by decide +kernel
theorem dX8_costWith_1 : decode cX8_costWith 1 = .ok (.aload_n 0, 1) := by decide +kernel
theorem dX8_costWith_2 : decode cX8_costWith 2 = .ok (.getfield 20, 3) := by decide +kernel
theorem dX8_costWith_5 : decode cX8_costWith 5 = .ok (.getfield 100, 3) := by decide +kernel
theorem dX8_costWith_8 : decode cX8_costWith 8 = .ok (.invokestatic 120, 3) := by decide +kernel
theorem dX8_costWith_11 : decode cX8_costWith 11 = .ok (.iload_n 2, 1) := by decide +kernel
theorem dX8_costWith_12 : decode cX8_costWith 12 = .ok (.bipush 12, 2) := by decide +kernel
theorem dX8_costWith_14 : decode cX8_costWith 14 = .ok (.invokestatic 120, 3) := by decide +kernel
theorem dX8_costWith_17 : decode cX8_costWith 17 = .ok (.aload_n 0, 1) := by decide +kernel
theorem dX8_costWith_18 : decode cX8_costWith 18 = .ok (.getfield 33, 3) := by decide +kernel
theorem dX8_costWith_21 : decode cX8_costWith 21 = .ok (.iload_n 1, 1) := by decide +kernel
theorem dX8_costWith_22 : decode cX8_costWith 22 = .ok (.iload_n 2, 1) := by decide +kernel
theorem dX8_costWith_23 : decode cX8_costWith 23 = .ok (.invokevirtual 208, 3) := by decide +kernel
theorem dX8_costWith_26 : decode cX8_costWith 26 = .ok (.ifCond .ne 13, 3) := by decide +kernel
theorem dX8_costWith_29 : decode cX8_costWith 29 = .ok (.aload_n 0, 1) := by decide +kernel
theorem dX8_costWith_30 : decode cX8_costWith 30 = .ok (.getfield 33, 3) := by decide +kernel
theorem dX8_costWith_33 : decode cX8_costWith 33 = .ok (.invokevirtual 202, 3) := by decide +kernel
theorem dX8_costWith_36 : decode cX8_costWith 36 = .ok (.goto 5, 3) := by decide +kernel
theorem dX8_costWith_39 : decode cX8_costWith 39 = .ok (.bipush (-5), 2) := by decide +kernel
theorem dX8_costWith_41 : decode cX8_costWith 41 = .ok (.ireturn, 1) := by decide +kernel
theorem dX8_bestDay_0 : decode cX8_bestDay 0 = .ok (.iload_n 1, 1) := by decide +kernel
theorem dX8_bestDay_1 : decode cX8_bestDay 1 = .ok (.aload_n 0, 1) := by decide +kernel
theorem dX8_bestDay_2 : decode cX8_bestDay 2 = .ok (.getfield 20, 3) := by decide +kernel
theorem dX8_bestDay_5 : decode cX8_bestDay 5 = .ok (.getfield 100, 3) := by decide +kernel
theorem dX8_bestDay_8 : decode cX8_bestDay 8 = .ok (.invokestatic 120, 3) := by decide +kernel
theorem dX8_bestDay_11 : decode cX8_bestDay 11 = .ok (.iconst (-1), 1) := by decide +kernel
theorem dX8_bestDay_12 : decode cX8_bestDay 12 = .ok (.istore_n 2, 1) := by decide +kernel
theorem dX8_bestDay_13 : decode cX8_bestDay 13 = .ok (.iconst 0, 1) := by decide +kernel
theorem dX8_bestDay_14 : decode cX8_bestDay 14 = .ok (.istore_n 3, 1) := by decide +kernel
theorem dX8_bestDay_15 : decode cX8_bestDay 15 = .ok (.iconst 0, 1) := by decide +kernel
theorem dX8_bestDay_16 : decode cX8_bestDay 16 = .ok (.istore 4, 2) := by decide +kernel
theorem dX8_bestDay_18 : decode cX8_bestDay 18 = .ok (.iload 4, 2) := by decide +kernel
theorem dX8_bestDay_20 : decode cX8_bestDay 20 = .ok (.bipush 12, 2) := by decide +kernel
theorem dX8_bestDay_22 : decode cX8_bestDay 22 = .ok (.if_icmp .ge 48, 3) := by decide +kernel
theorem dX8_bestDay_25 : decode cX8_bestDay 25 = .ok (.aload_n 0, 1) := by decide +kernel
theorem dX8_bestDay_26 : decode cX8_bestDay 26 = .ok (.getfield 33, 3) := by decide +kernel
theorem dX8_bestDay_29 : decode cX8_bestDay 29 = .ok (.iload_n 1, 1) := by decide +kernel
theorem dX8_bestDay_30 : decode cX8_bestDay 30 = .ok (.iload 4, 2) := by decide +kernel
theorem dX8_bestDay_32 : decode cX8_bestDay 32 = .ok (.invokevirtual 208, 3) := by decide +kernel
theorem dX8_bestDay_35 : decode cX8_bestDay 35 = .ok (.ifCond .ne 29, 3) := by decide +kernel
theorem dX8_bestDay_38 : decode cX8_bestDay 38 = .ok (.aload_n 0, 1) := by decide +kernel
theorem dX8_bestDay_39 : decode cX8_bestDay 39 = .ok (.getfield 33, 3) := by decide +kernel
theorem dX8_bestDay_42 : decode cX8_bestDay 42 = .ok (.invokevirtual 202, 3) := by decide +kernel
theorem dX8_bestDay_45 : decode cX8_bestDay 45 = .ok (.istore 5, 2) := by decide +kernel
theorem dX8_bestDay_47 : decode cX8_bestDay 47 = .ok (.iload_n 2, 1) := by decide +kernel
theorem dX8_bestDay_48 : decode cX8_bestDay 48 = .ok (.iconst (-1), 1) := by decide +kernel
theorem dX8_bestDay_49 : decode cX8_bestDay 49 = .ok (.if_icmp .eq 9, 3) := by decide +kernel
theorem dX8_bestDay_52 : decode cX8_bestDay 52 = .ok (.iload 5, 2) := by decide +kernel
theorem dX8_bestDay_54 : decode cX8_bestDay 54 = .ok (.iload_n 3, 1) := by decide +kernel
theorem dX8_bestDay_55 : decode cX8_bestDay 55 = .ok (.if_icmp .ge 9, 3) := by decide +kernel
theorem dX8_bestDay_58 : decode cX8_bestDay 58 = .ok (.iload 4, 2) := by decide +kernel
theorem dX8_bestDay_60 : decode cX8_bestDay 60 = .ok (.istore_n 2, 1) := by decide +kernel
theorem dX8_bestDay_61 : decode cX8_bestDay 61 = .ok (.iload 5, 2) := by decide +kernel
theorem dX8_bestDay_63 : decode cX8_bestDay 63 = .ok (.istore_n 3, 1) := by decide +kernel
theorem dX8_bestDay_64 : decode cX8_bestDay 64 = .ok (.iinc 4 1, 3) := by decide +kernel
theorem dX8_bestDay_67 : decode cX8_bestDay 67 = .ok (.goto (-49), 3) := by decide +kernel
theorem dX8_bestDay_70 : decode cX8_bestDay 70 = .ok (.iload_n 2, 1) := by decide +kernel
theorem dX8_bestDay_71 : decode cX8_bestDay 71 = .ok (.ireturn, 1) := by decide +kernel
theorem dX8_fewestDays_0 : decode cX8_fewestDays 0 = .ok (.iconst 0, 1) := by decide +kernel
theorem dX8_fewestDays_1 : decode cX8_fewestDays 1 = .ok (.istore_n 1, 1) := by decide +kernel
theorem dX8_fewestDays_2 : decode cX8_fewestDays 2 = .ok (.iconst 0, 1) := by decide +kernel
theorem dX8_fewestDays_3 : decode cX8_fewestDays 3 = .ok (.istore_n 2, 1) := by decide +kernel
theorem dX8_fewestDays_4 : decode cX8_fewestDays 4 = .ok (.iload_n 2, 1) := by decide +kernel
theorem dX8_fewestDays_5 : decode cX8_fewestDays 5 = .ok (.aload_n 0, 1) := by decide +kernel
theorem dX8_fewestDays_6 : decode cX8_fewestDays 6 = .ok (.getfield 20, 3) := by decide +kernel
theorem dX8_fewestDays_9 : decode cX8_fewestDays 9 = .ok (.getfield 94, 3) := by decide +kernel
theorem dX8_fewestDays_12 : decode cX8_fewestDays 12 = .ok (.if_icmp .ge 25, 3) := by decide +kernel
theorem dX8_fewestDays_15 : decode cX8_fewestDays 15 = .ok (.iload_n 1, 1) := by decide +kernel
theorem dX8_fewestDays_16 : decode cX8_fewestDays 16 = .ok (.aload_n 0, 1) := by decide +kernel
theorem dX8_fewestDays_17 : decode cX8_fewestDays 17 = .ok (.iload_n 2, 1) := by decide +kernel
theorem dX8_fewestDays_18 : decode cX8_fewestDays 18 = .ok (.iconst 0, 1) := by decide +kernel
theorem dX8_fewestDays_19 : decode cX8_fewestDays 19 = .ok (.invokevirtual 211, 3) := by decide +kernel
theorem dX8_fewestDays_22 : decode cX8_fewestDays 22 = .ok (.aload_n 0, 1) := by decide +kernel
theorem dX8_fewestDays_23 : decode cX8_fewestDays 23 = .ok (.iload_n 2, 1) := by decide +kernel
theorem dX8_fewestDays_24 : decode cX8_fewestDays 24 = .ok (.iconst 1, 1) := by decide +kernel
theorem dX8_fewestDays_25 : decode cX8_fewestDays 25 = .ok (.invokevirtual 211, 3) := by decide +kernel
theorem dX8_fewestDays_28 : decode cX8_fewestDays 28 = .ok (.iadd, 1) := by decide +kernel
theorem dX8_fewestDays_29 : decode cX8_fewestDays 29 = .ok (.iadd, 1) := by decide +kernel
theorem dX8_fewestDays_30 : decode cX8_fewestDays 30 = .ok (.istore_n 1, 1) := by decide +kernel
theorem dX8_fewestDays_31 : decode cX8_fewestDays 31 = .ok (.iinc 2 1, 3) := by decide +kernel
theorem dX8_fewestDays_34 : decode cX8_fewestDays 34 = .ok (.goto (-30), 3) := by decide +kernel
theorem dX8_fewestDays_37 : decode cX8_fewestDays 37 = .ok (.iload_n 1, 1) := by decide +kernel
theorem dX8_fewestDays_38 : decode cX8_fewestDays 38 = .ok (.ireturn, 1) := by decide +kernel
theorem dX8_waitingFor_0 : decode cX8_waitingFor 0 = .ok (.iload_n 1, 1) := by decide +kernel
theorem dX8_waitingFor_1 : decode cX8_waitingFor 1 = .ok (.aload_n 0, 1) := by decide +kernel
theorem dX8_waitingFor_2 : decode cX8_waitingFor 2 = .ok (.getfield 20, 3) := by decide +kernel
theorem dX8_waitingFor_5 : decode cX8_waitingFor 5 = .ok (.getfield 94, 3) := by decide +kernel
theorem dX8_waitingFor_8 : decode cX8_waitingFor 8 = .ok (.invokestatic 120, 3) := by decide +kernel
theorem dX8_waitingFor_11 : decode cX8_waitingFor 11 = .ok (.iconst 0, 1) := by decide +kernel
theorem dX8_waitingFor_12 : decode cX8_waitingFor 12 = .ok (.istore_n 3, 1) := by decide +kernel
theorem dX8_waitingFor_13 : decode cX8_waitingFor 13 = .ok (.iconst 0, 1) := by decide +kernel
theorem dX8_waitingFor_14 : decode cX8_waitingFor 14 = .ok (.istore 4, 2) := by decide +kernel
theorem dX8_waitingFor_16 : decode cX8_waitingFor 16 = .ok (.iload 4, 2) := by decide +kernel
theorem dX8_waitingFor_18 : decode cX8_waitingFor 18 = .ok (.aload_n 0, 1) := by decide +kernel
theorem dX8_waitingFor_19 : decode cX8_waitingFor 19 = .ok (.getfield 20, 3) := by decide +kernel
theorem dX8_waitingFor_22 : decode cX8_waitingFor 22 = .ok (.getfield 100, 3) := by decide +kernel
theorem dX8_waitingFor_25 : decode cX8_waitingFor 25 = .ok (.if_icmp .ge 40, 3) := by decide +kernel
theorem dX8_waitingFor_28 : decode cX8_waitingFor 28 = .ok (.aload_n 0, 1) := by decide +kernel
theorem dX8_waitingFor_29 : decode cX8_waitingFor 29 = .ok (.getfield 20, 3) := by decide +kernel
theorem dX8_waitingFor_32 : decode cX8_waitingFor 32 = .ok (.iload 4, 2) := by decide +kernel
theorem dX8_waitingFor_34 : decode cX8_waitingFor 34 = .ok (.iload_n 1, 1) := by decide +kernel
theorem dX8_waitingFor_35 : decode cX8_waitingFor 35 = .ok (.iload_n 2, 1) := by decide +kernel
theorem dX8_waitingFor_36 : decode cX8_waitingFor 36 = .ok (.invokevirtual 215, 3) := by decide +kernel
theorem dX8_waitingFor_39 : decode cX8_waitingFor 39 = .ok (.ifCond .eq 20, 3) := by decide +kernel
theorem dX8_waitingFor_42 : decode cX8_waitingFor 42 = .ok (.aload_n 0, 1) := by decide +kernel
theorem dX8_waitingFor_43 : decode cX8_waitingFor 43 = .ok (.getfield 20, 3) := by decide +kernel
theorem dX8_waitingFor_46 : decode cX8_waitingFor 46 = .ok (.getfield 146, 3) := by decide +kernel
theorem dX8_waitingFor_49 : decode cX8_waitingFor 49 = .ok (.iload 4, 2) := by decide +kernel
theorem dX8_waitingFor_51 : decode cX8_waitingFor 51 = .ok (.iaload, 1) := by decide +kernel
theorem dX8_waitingFor_52 : decode cX8_waitingFor 52 = .ok (.iconst (-1), 1) := by decide +kernel
theorem dX8_waitingFor_53 : decode cX8_waitingFor 53 = .ok (.if_icmp .ne 6, 3) := by decide +kernel
theorem dX8_waitingFor_56 : decode cX8_waitingFor 56 = .ok (.iinc 3 1, 3) := by decide +kernel
theorem dX8_waitingFor_59 : decode cX8_waitingFor 59 = .ok (.iinc 4 1, 3) := by decide +kernel
theorem dX8_waitingFor_62 : decode cX8_waitingFor 62 = .ok (.goto (-46), 3) := by decide +kernel
theorem dX8_waitingFor_65 : decode cX8_waitingFor 65 = .ok (.iload_n 3, 1) := by decide +kernel
theorem dX8_waitingFor_66 : decode cX8_waitingFor 66 = .ok (.ireturn, 1) := by decide +kernel
theorem dX8_rainDays_0 : decode cX8_rainDays 0 = .ok (.iload_n 1, 1) := by decide +kernel
theorem dX8_rainDays_1 : decode cX8_rainDays 1 = .ok (.invokestatic 219, 3) := by decide +kernel
theorem dX8_rainDays_4 : decode cX8_rainDays 4 = .ok (.ifCond .ne 6, 3) := by decide +kernel
theorem dX8_rainDays_7 : decode cX8_rainDays 7 = .ok (.bipush (-2), 2) := by decide +kernel
theorem dX8_rainDays_9 : decode cX8_rainDays 9 = .ok (.ireturn, 1) := by decide +kernel
theorem dX8_rainDays_10 : decode cX8_rainDays 10 = .ok (.aload_n 0, 1) := by decide +kernel
theorem dX8_rainDays_11 : decode cX8_rainDays 11 = .ok (.getfield 57, 3) := by decide +kernel
theorem dX8_rainDays_14 : decode cX8_rainDays 14 = .ok (.iload_n 1, 1) := by decide +kernel
theorem dX8_rainDays_15 : decode cX8_rainDays 15 = .ok (.invokevirtual 222, 3) := by decide +kernel
theorem dX8_rainDays_18 : decode cX8_rainDays 18 = .ok (.aload_n 0, 1) := by decide +kernel
theorem dX8_rainDays_19 : decode cX8_rainDays 19 = .ok (.getfield 57, 3) := by decide +kernel
theorem dX8_rainDays_22 : decode cX8_rainDays 22 = .ok (.getfield 225, 3) := by decide +kernel
theorem dX8_rainDays_25 : decode cX8_rainDays 25 = .ok (.ireturn, 1) := by decide +kernel
theorem dX8_rainLost_0 : decode cX8_rainLost 0 = .ok (.iload_n 1, 1) := by decide +kernel
theorem dX8_rainLost_1 : decode cX8_rainLost 1 = .ok (.invokestatic 219, 3) := by decide +kernel
theorem dX8_rainLost_4 : decode cX8_rainLost 4 = .ok (.ifCond .ne 6, 3) := by decide +kernel
theorem dX8_rainLost_7 : decode cX8_rainLost 7 = .ok (.bipush (-2), 2) := by decide +kernel
theorem dX8_rainLost_9 : decode cX8_rainLost 9 = .ok (.ireturn, 1) := by decide +kernel
theorem dX8_rainLost_10 : decode cX8_rainLost 10 = .ok (.aload_n 0, 1) := by decide +kernel
theorem dX8_rainLost_11 : decode cX8_rainLost 11 = .ok (.getfield 57, 3) := by decide +kernel
theorem dX8_rainLost_14 : decode cX8_rainLost 14 = .ok (.iload_n 1, 1) := by decide +kernel
theorem dX8_rainLost_15 : decode cX8_rainLost 15 = .ok (.invokevirtual 222, 3) := by decide +kernel
theorem dX8_rainLost_18 : decode cX8_rainLost 18 = .ok (.aload_n 0, 1) := by decide +kernel
theorem dX8_rainLost_19 : decode cX8_rainLost 19 = .ok (.getfield 57, 3) := by decide +kernel
theorem dX8_rainLost_22 : decode cX8_rainLost 22 = .ok (.getfield 228, 3) := by decide +kernel
theorem dX8_rainLost_25 : decode cX8_rainLost 25 = .ok (.ireturn, 1) := by decide +kernel
theorem dX8_rainDay_0 : decode cX8_rainDay 0 = .ok (.iload_n 1, 1) := by decide +kernel
theorem dX8_rainDay_1 : decode cX8_rainDay 1 = .ok (.invokestatic 219, 3) := by decide +kernel
theorem dX8_rainDay_4 : decode cX8_rainDay 4 = .ok (.ifCond .eq 7, 3) := by decide +kernel
theorem dX8_rainDay_7 : decode cX8_rainDay 7 = .ok (.iload_n 2, 1) := by decide +kernel
theorem dX8_rainDay_8 : decode cX8_rainDay 8 = .ok (.ifCond .ge 6, 3) := by decide +kernel
theorem dX8_rainDay_11 : decode cX8_rainDay 11 = .ok (.bipush (-2), 2) := by decide +kernel
theorem dX8_rainDay_13 : decode cX8_rainDay 13 = .ok (.ireturn, 1) := by decide +kernel
theorem dX8_rainDay_14 : decode cX8_rainDay 14 = .ok (.aload_n 0, 1) := by decide +kernel
theorem dX8_rainDay_15 : decode cX8_rainDay 15 = .ok (.getfield 57, 3) := by decide +kernel
theorem dX8_rainDay_18 : decode cX8_rainDay 18 = .ok (.iload_n 1, 1) := by decide +kernel
theorem dX8_rainDay_19 : decode cX8_rainDay 19 = .ok (.invokevirtual 222, 3) := by decide +kernel
theorem dX8_rainDay_22 : decode cX8_rainDay 22 = .ok (.aload_n 0, 1) := by decide +kernel
theorem dX8_rainDay_23 : decode cX8_rainDay 23 = .ok (.getfield 57, 3) := by decide +kernel
theorem dX8_rainDay_26 : decode cX8_rainDay 26 = .ok (.iload_n 2, 1) := by decide +kernel
theorem dX8_rainDay_27 : decode cX8_rainDay 27 = .ok (.invokevirtual 231, 3) := by decide +kernel
theorem dX8_rainDay_30 : decode cX8_rainDay 30 = .ok (.ireturn, 1) := by decide +kernel
theorem dX8_worstRain_0 : decode cX8_worstRain 0 = .ok (.iconst 0, 1) := by decide +kernel
theorem dX8_worstRain_1 : decode cX8_worstRain 1 = .ok (.istore_n 1, 1) := by decide +kernel
theorem dX8_worstRain_2 : decode cX8_worstRain 2 = .ok (.iconst (-1), 1) := by decide +kernel
theorem dX8_worstRain_3 : decode cX8_worstRain 3 = .ok (.istore_n 2, 1) := by decide +kernel
theorem dX8_worstRain_4 : decode cX8_worstRain 4 = .ok (.iconst 0, 1) := by decide +kernel
theorem dX8_worstRain_5 : decode cX8_worstRain 5 = .ok (.istore_n 3, 1) := by decide +kernel
theorem dX8_worstRain_6 : decode cX8_worstRain 6 = .ok (.iload_n 3, 1) := by decide +kernel
theorem dX8_worstRain_7 : decode cX8_worstRain 7 = .ok (.bipush 12, 2) := by decide +kernel
theorem dX8_worstRain_9 : decode cX8_worstRain 9 = .ok (.if_icmp .ge 40, 3) := by decide +kernel
theorem dX8_worstRain_12 : decode cX8_worstRain 12 = .ok (.aload_n 0, 1) := by decide +kernel
theorem dX8_worstRain_13 : decode cX8_worstRain 13 = .ok (.getfield 57, 3) := by decide +kernel
theorem dX8_worstRain_16 : decode cX8_worstRain 16 = .ok (.iconst 1, 1) := by decide +kernel
theorem dX8_worstRain_17 : decode cX8_worstRain 17 = .ok (.iload_n 3, 1) := by decide +kernel
theorem dX8_worstRain_18 : decode cX8_worstRain 18 = .ok (.ishl, 1) := by decide +kernel
theorem dX8_worstRain_19 : decode cX8_worstRain 19 = .ok (.invokevirtual 222, 3) := by decide +kernel
theorem dX8_worstRain_22 : decode cX8_worstRain 22 = .ok (.aload_n 0, 1) := by decide +kernel
theorem dX8_worstRain_23 : decode cX8_worstRain 23 = .ok (.getfield 57, 3) := by decide +kernel
theorem dX8_worstRain_26 : decode cX8_worstRain 26 = .ok (.getfield 225, 3) := by decide +kernel
theorem dX8_worstRain_29 : decode cX8_worstRain 29 = .ok (.iload_n 2, 1) := by decide +kernel
theorem dX8_worstRain_30 : decode cX8_worstRain 30 = .ok (.if_icmp .le 13, 3) := by decide +kernel
theorem dX8_worstRain_33 : decode cX8_worstRain 33 = .ok (.iload_n 3, 1) := by decide +kernel
theorem dX8_worstRain_34 : decode cX8_worstRain 34 = .ok (.istore_n 1, 1) := by decide +kernel
theorem dX8_worstRain_35 : decode cX8_worstRain 35 = .ok (.aload_n 0, 1) := by decide +kernel
theorem dX8_worstRain_36 : decode cX8_worstRain 36 = .ok (.getfield 57, 3) := by decide +kernel
theorem dX8_worstRain_39 : decode cX8_worstRain 39 = .ok (.getfield 225, 3) := by decide +kernel
theorem dX8_worstRain_42 : decode cX8_worstRain 42 = .ok (.istore_n 2, 1) := by decide +kernel
theorem dX8_worstRain_43 : decode cX8_worstRain 43 = .ok (.iinc 3 1, 3) := by decide +kernel
theorem dX8_worstRain_46 : decode cX8_worstRain 46 = .ok (.goto (-40), 3) := by decide +kernel
theorem dX8_worstRain_49 : decode cX8_worstRain 49 = .ok (.iload_n 1, 1) := by decide +kernel
theorem dX8_worstRain_50 : decode cX8_worstRain 50 = .ok (.ireturn, 1) := by decide +kernel
theorem dX8_bestCost_0 : decode cX8_bestCost 0 = .ok (.aload_n 0, 1) := by decide +kernel
theorem dX8_bestCost_1 : decode cX8_bestCost 1 = .ok (.getfield 66, 3) := by decide +kernel
theorem dX8_bestCost_4 : decode cX8_bestCost 4 = .ok (.invokevirtual 234, 3) := by decide +kernel
theorem dX8_bestCost_7 : decode cX8_bestCost 7 = .ok (.ireturn, 1) := by decide +kernel
theorem dX8_bestOrder_0 : decode cX8_bestOrder 0 = .ok (.aload_n 0, 1) := by decide +kernel
theorem dX8_bestOrder_1 : decode cX8_bestOrder 1 = .ok (.getfield 66, 3) := by decide +kernel
theorem dX8_bestOrder_4 : decode cX8_bestOrder 4 = .ok (.invokevirtual 234, 3) := by decide +kernel
theorem dX8_bestOrder_7 : decode cX8_bestOrder 7 = .ok (.istore_n 2, 1) := by decide +kernel
theorem dX8_bestOrder_8 : decode cX8_bestOrder 8 = .ok (.iload_n 2, 1) := by decide +kernel
theorem dX8_bestOrder_9 : decode cX8_bestOrder 9 = .ok (.ifCond .ge 5, 3) := by decide +kernel
theorem dX8_bestOrder_12 : decode cX8_bestOrder 12 = .ok (.iload_n 2, 1) := by decide +kernel
theorem dX8_bestOrder_13 : decode cX8_bestOrder 13 = .ok (.ireturn, 1) := by decide +kernel
theorem dX8_bestOrder_14 : decode cX8_bestOrder 14 = .ok (.iload_n 1, 1) := by decide +kernel
theorem dX8_bestOrder_15 : decode cX8_bestOrder 15 = .ok (.ifCond .lt 26, 3) := by decide +kernel
theorem dX8_bestOrder_18 : decode cX8_bestOrder 18 = .ok (.iload_n 1, 1) := by decide +kernel
theorem dX8_bestOrder_19 : decode cX8_bestOrder 19 = .ok (.aload_n 0, 1) := by decide +kernel
theorem dX8_bestOrder_20 : decode cX8_bestOrder 20 = .ok (.getfield 66, 3) := by decide +kernel
theorem dX8_bestOrder_23 : decode cX8_bestOrder 23 = .ok (.getfield 237, 3) := by decide +kernel
theorem dX8_bestOrder_26 : decode cX8_bestOrder 26 = .ok (.if_icmp .ge 15, 3) := by decide +kernel
theorem dX8_bestOrder_29 : decode cX8_bestOrder 29 = .ok (.aload_n 0, 1) := by decide +kernel
theorem dX8_bestOrder_30 : decode cX8_bestOrder 30 = .ok (.getfield 66, 3) := by decide +kernel
theorem dX8_bestOrder_33 : decode cX8_bestOrder 33 = .ok (.getfield 240, 3) := by decide +kernel
theorem dX8_bestOrder_36 : decode cX8_bestOrder 36 = .ok (.iload_n 1, 1) := by decide +kernel
theorem dX8_bestOrder_37 : decode cX8_bestOrder 37 = .ok (.iaload, 1) := by decide +kernel
theorem dX8_bestOrder_38 : decode cX8_bestOrder 38 = .ok (.goto 4, 3) := by decide +kernel
theorem dX8_bestOrder_41 : decode cX8_bestOrder 41 = .ok (.iconst (-1), 1) := by decide +kernel
theorem dX8_bestOrder_42 : decode cX8_bestOrder 42 = .ok (.ireturn, 1) := by decide +kernel
theorem dX8_put_0 : decode cX8_put 0 = .ok (.iload_n 1, 1) := by decide +kernel
theorem dX8_put_1 : decode cX8_put 1 = .ok (.ifCond .lt 14, 3) := by decide +kernel
theorem dX8_put_4 : decode cX8_put 4 = .ok (.iload_n 1, 1) := by decide +kernel
theorem dX8_put_5 : decode cX8_put 5 = .ok (.aload_n 0, 1) := by decide +kernel
theorem dX8_put_6 : decode cX8_put 6 = .ok (.getfield 20, 3) := by decide +kernel
theorem dX8_put_9 : decode cX8_put 9 = .ok (.getfield 100, 3) := by decide +kernel
theorem dX8_put_12 : decode cX8_put 12 = .ok (.if_icmp .lt 5, 3) := by decide +kernel
theorem dX8_put_15 : decode cX8_put 15 = .ok (.iconst (-1), 1) := by decide +kernel
theorem dX8_put_16 : decode cX8_put 16 = .ok (.ireturn, 1) := by decide +kernel
theorem dX8_put_17 : decode cX8_put 17 = .ok (.iload_n 2, 1) := by decide +kernel
theorem dX8_put_18 : decode cX8_put 18 = .ok (.ifCond .lt 9, 3) := by decide +kernel
theorem dX8_put_21 : decode cX8_put 21 = .ok (.iload_n 2, 1) := by decide +kernel
theorem dX8_put_22 : decode cX8_put 22 = .ok (.bipush 12, 2) := by decide +kernel
theorem dX8_put_24 : decode cX8_put 24 = .ok (.if_icmp .lt 6, 3) := by decide +kernel
theorem dX8_put_27 : decode cX8_put 27 = .ok (.bipush (-2), 2) := by decide +kernel
theorem dX8_put_29 : decode cX8_put 29 = .ok (.ireturn, 1) := by decide +kernel
theorem dX8_put_30 : decode cX8_put 30 = .ok (.aload_n 0, 1) := by decide +kernel
theorem dX8_put_31 : decode cX8_put 31 = .ok (.getfield 33, 3) := by decide +kernel
theorem dX8_put_34 : decode cX8_put 34 = .ok (.iload_n 1, 1) := by decide +kernel
theorem dX8_put_35 : decode cX8_put 35 = .ok (.iload_n 2, 1) := by decide +kernel
theorem dX8_put_36 : decode cX8_put 36 = .ok (.invokevirtual 208, 3) := by decide +kernel
theorem dX8_put_39 : decode cX8_put 39 = .ok (.ifCond .eq 6, 3) := by decide +kernel
theorem dX8_put_42 : decode cX8_put 42 = .ok (.bipush (-5), 2) := by decide +kernel
theorem dX8_put_44 : decode cX8_put 44 = .ok (.ireturn, 1) := by decide +kernel
theorem dX8_put_45 : decode cX8_put 45 = .ok (.aload_n 0, 1) := by decide +kernel
theorem dX8_put_46 : decode cX8_put 46 = .ok (.getfield 48, 3) := by decide +kernel
theorem dX8_put_49 : decode cX8_put 49 = .ok (.aload_n 0, 1) := by decide +kernel
theorem dX8_put_50 : decode cX8_put 50 = .ok (.getfield 20, 3) := by decide +kernel
theorem dX8_put_53 : decode cX8_put 53 = .ok (.invokevirtual 243, 3) := by decide +kernel
theorem dX8_put_56 : decode cX8_put 56 = .ok (.aload_n 0, 1) := by decide +kernel
theorem dX8_put_57 : decode cX8_put 57 = .ok (.getfield 20, 3) := by decide +kernel
theorem dX8_put_60 : decode cX8_put 60 = .ok (.getfield 146, 3) := by decide +kernel
theorem dX8_put_63 : decode cX8_put 63 = .ok (.iload_n 1, 1) := by decide +kernel
theorem dX8_put_64 : decode cX8_put 64 = .ok (.iload_n 2, 1) := by decide +kernel
theorem dX8_put_65 : decode cX8_put 65 = .ok (.iastore, 1) := by decide +kernel
theorem dX8_put_66 : decode cX8_put 66 = .ok (.aload_n 0, 1) := by decide +kernel
theorem dX8_put_67 : decode cX8_put 67 = .ok (.invokevirtual 70, 3) := by decide +kernel
theorem dX8_put_70 : decode cX8_put 70 = .ok (.aload_n 0, 1) := by decide +kernel
theorem dX8_put_71 : decode cX8_put 71 = .ok (.getfield 29, 3) := by decide +kernel
theorem dX8_put_74 : decode cX8_put 74 = .ok (.invokevirtual 202, 3) := by decide +kernel
theorem dX8_put_77 : decode cX8_put 77 = .ok (.ireturn, 1) := by decide +kernel
theorem dX8_take_0 : decode cX8_take 0 = .ok (.iload_n 1, 1) := by decide +kernel
theorem dX8_take_1 : decode cX8_take 1 = .ok (.ifCond .lt 27, 3) := by decide +kernel
theorem dX8_take_4 : decode cX8_take 4 = .ok (.iload_n 1, 1) := by decide +kernel
theorem dX8_take_5 : decode cX8_take 5 = .ok (.aload_n 0, 1) := by decide +kernel
theorem dX8_take_6 : decode cX8_take 6 = .ok (.getfield 20, 3) := by decide +kernel
theorem dX8_take_9 : decode cX8_take 9 = .ok (.getfield 100, 3) := by decide +kernel
theorem dX8_take_12 : decode cX8_take 12 = .ok (.if_icmp .ge 16, 3) := by decide +kernel
theorem dX8_take_15 : decode cX8_take 15 = .ok (.aload_n 0, 1) := by decide +kernel
theorem dX8_take_16 : decode cX8_take 16 = .ok (.getfield 20, 3) := by decide +kernel
theorem dX8_take_19 : decode cX8_take 19 = .ok (.getfield 146, 3) := by decide +kernel
theorem dX8_take_22 : decode cX8_take 22 = .ok (.iload_n 1, 1) := by decide +kernel
theorem dX8_take_23 : decode cX8_take 23 = .ok (.iaload, 1) := by decide +kernel
theorem dX8_take_24 : decode cX8_take 24 = .ok (.iconst (-1), 1) := by decide +kernel
theorem dX8_take_25 : decode cX8_take 25 = .ok (.if_icmp .ne 5, 3) := by decide +kernel
theorem dX8_take_28 : decode cX8_take 28 = .ok (.iconst (-1), 1) := by decide +kernel
theorem dX8_take_29 : decode cX8_take 29 = .ok (.ireturn, 1) := by decide +kernel
theorem dX8_take_30 : decode cX8_take 30 = .ok (.aload_n 0, 1) := by decide +kernel
theorem dX8_take_31 : decode cX8_take 31 = .ok (.getfield 48, 3) := by decide +kernel
theorem dX8_take_34 : decode cX8_take 34 = .ok (.aload_n 0, 1) := by decide +kernel
theorem dX8_take_35 : decode cX8_take 35 = .ok (.getfield 20, 3) := by decide +kernel
theorem dX8_take_38 : decode cX8_take 38 = .ok (.invokevirtual 243, 3) := by decide +kernel
theorem dX8_take_41 : decode cX8_take 41 = .ok (.aload_n 0, 1) := by decide +kernel
theorem dX8_take_42 : decode cX8_take 42 = .ok (.getfield 20, 3) := by decide +kernel
theorem dX8_take_45 : decode cX8_take 45 = .ok (.getfield 146, 3) := by decide +kernel
theorem dX8_take_48 : decode cX8_take 48 = .ok (.iload_n 1, 1) := by decide +kernel
theorem dX8_take_49 : decode cX8_take 49 = .ok (.iconst (-1), 1) := by decide +kernel
theorem dX8_take_50 : decode cX8_take 50 = .ok (.iastore, 1) := by decide +kernel
theorem dX8_take_51 : decode cX8_take 51 = .ok (.aload_n 0, 1) := by decide +kernel
theorem dX8_take_52 : decode cX8_take 52 = .ok (.invokevirtual 70, 3) := by decide +kernel
theorem dX8_take_55 : decode cX8_take 55 = .ok (.aload_n 0, 1) := by decide +kernel
theorem dX8_take_56 : decode cX8_take 56 = .ok (.getfield 29, 3) := by decide +kernel
theorem dX8_take_59 : decode cX8_take 59 = .ok (.invokevirtual 202, 3) := by decide +kernel
theorem dX8_take_62 : decode cX8_take 62 = .ok (.ireturn, 1) := by decide +kernel
theorem dX8_exchange_0 : decode cX8_exchange 0 = .ok (.iload_n 1, 1) := by decide +kernel
theorem dX8_exchange_1 : decode cX8_exchange 1 = .ok (.ifCond .lt 19, 3) := by decide +kernel
theorem dX8_exchange_4 : decode cX8_exchange 4 = .ok (.iload_n 1, 1) := by decide +kernel
theorem dX8_exchange_5 : decode cX8_exchange 5 = .ok (.bipush 12, 2) := by decide +kernel
theorem dX8_exchange_7 : decode cX8_exchange 7 = .ok (.if_icmp .ge 13, 3) := by decide +kernel
theorem dX8_exchange_10 : decode cX8_exchange 10 = .ok (.iload_n 2, 1) := by decide +kernel
theorem dX8_exchange_11 : decode cX8_exchange 11 = .ok (.ifCond .lt 9, 3) := by decide +kernel
theorem dX8_exchange_14 : decode cX8_exchange 14 = .ok (.iload_n 2, 1) := by decide +kernel
theorem dX8_exchange_15 : decode cX8_exchange 15 = .ok (.bipush 12, 2) := by decide +kernel
theorem dX8_exchange_17 : decode cX8_exchange 17 = .ok (.if_icmp .lt 6, 3) := by decide +kernel
theorem dX8_exchange_20 : decode cX8_exchange 20 = .ok (.bipush (-2), 2) := by decide +kernel
theorem dX8_exchange_22 : decode cX8_exchange 22 = .ok (.ireturn, 1) := by decide +kernel
theorem dX8_exchange_23 : decode cX8_exchange 23 = .ok (.aload_n 0, 1) := by decide +kernel
theorem dX8_exchange_24 : decode cX8_exchange 24 = .ok (.getfield 33, 3) := by decide +kernel
theorem dX8_exchange_27 : decode cX8_exchange 27 = .ok (.iload_n 1, 1) := by decide +kernel
theorem dX8_exchange_28 : decode cX8_exchange 28 = .ok (.iload_n 2, 1) := by decide +kernel
theorem dX8_exchange_29 : decode cX8_exchange 29 = .ok (.invokevirtual 246, 3) := by decide +kernel
theorem dX8_exchange_32 : decode cX8_exchange 32 = .ok (.aload_n 0, 1) := by decide +kernel
theorem dX8_exchange_33 : decode cX8_exchange 33 = .ok (.getfield 33, 3) := by decide +kernel
theorem dX8_exchange_36 : decode cX8_exchange 36 = .ok (.invokevirtual 249, 3) := by decide +kernel
theorem dX8_exchange_39 : decode cX8_exchange 39 = .ok (.ifCond .eq 6, 3) := by decide +kernel
theorem dX8_exchange_42 : decode cX8_exchange 42 = .ok (.bipush (-5), 2) := by decide +kernel
theorem dX8_exchange_44 : decode cX8_exchange 44 = .ok (.ireturn, 1) := by decide +kernel
theorem dX8_exchange_45 : decode cX8_exchange 45 = .ok (.aload_n 0, 1) := by decide +kernel
theorem dX8_exchange_46 : decode cX8_exchange 46 = .ok (.getfield 48, 3) := by decide +kernel
theorem dX8_exchange_49 : decode cX8_exchange 49 = .ok (.aload_n 0, 1) := by decide +kernel
theorem dX8_exchange_50 : decode cX8_exchange 50 = .ok (.getfield 20, 3) := by decide +kernel
theorem dX8_exchange_53 : decode cX8_exchange 53 = .ok (.invokevirtual 243, 3) := by decide +kernel
theorem dX8_exchange_56 : decode cX8_exchange 56 = .ok (.iconst 0, 1) := by decide +kernel
theorem dX8_exchange_57 : decode cX8_exchange 57 = .ok (.istore_n 3, 1) := by decide +kernel
theorem dX8_exchange_58 : decode cX8_exchange 58 = .ok (.iload_n 3, 1) := by decide +kernel
theorem dX8_exchange_59 : decode cX8_exchange 59 = .ok (.aload_n 0, 1) := by decide +kernel
theorem dX8_exchange_60 : decode cX8_exchange 60 = .ok (.getfield 20, 3) := by decide +kernel
theorem dX8_exchange_63 : decode cX8_exchange 63 = .ok (.getfield 100, 3) := by decide +kernel
theorem dX8_exchange_66 : decode cX8_exchange 66 = .ok (.if_icmp .ge 32, 3) := by decide +kernel
theorem dX8_exchange_69 : decode cX8_exchange 69 = .ok (.aload_n 0, 1) := by decide +kernel
theorem dX8_exchange_70 : decode cX8_exchange 70 = .ok (.getfield 20, 3) := by decide +kernel
theorem dX8_exchange_73 : decode cX8_exchange 73 = .ok (.getfield 146, 3) := by decide +kernel
theorem dX8_exchange_76 : decode cX8_exchange 76 = .ok (.iload_n 3, 1) := by decide +kernel
theorem dX8_exchange_77 : decode cX8_exchange 77 = .ok (.aload_n 0, 1) := by decide +kernel
theorem dX8_exchange_78 : decode cX8_exchange 78 = .ok (.getfield 20, 3) := by decide +kernel
theorem dX8_exchange_81 : decode cX8_exchange 81 = .ok (.getfield 146, 3) := by decide +kernel
theorem dX8_exchange_84 : decode cX8_exchange 84 = .ok (.iload_n 3, 1) := by decide +kernel
theorem dX8_exchange_85 : decode cX8_exchange 85 = .ok (.iaload, 1) := by decide +kernel
theorem dX8_exchange_86 : decode cX8_exchange 86 = .ok (.iload_n 1, 1) := by decide +kernel
theorem dX8_exchange_87 : decode cX8_exchange 87 = .ok (.iload_n 2, 1) := by decide +kernel
theorem dX8_exchange_88 : decode cX8_exchange 88 = .ok (.invokestatic 253, 3) := by decide +kernel
theorem dX8_exchange_91 : decode cX8_exchange 91 = .ok (.iastore, 1) := by decide +kernel
theorem dX8_exchange_92 : decode cX8_exchange 92 = .ok (.iinc 3 1, 3) := by decide +kernel
theorem dX8_exchange_95 : decode cX8_exchange 95 = .ok (.goto (-37), 3) := by decide +kernel
theorem dX8_exchange_98 : decode cX8_exchange 98 = .ok (.aload_n 0, 1) := by decide +kernel
theorem dX8_exchange_99 : decode cX8_exchange 99 = .ok (.invokevirtual 70, 3) := by decide +kernel
theorem dX8_exchange_102 : decode cX8_exchange 102 = .ok (.aload_n 0, 1) := by decide +kernel
theorem dX8_exchange_103 : decode cX8_exchange 103 = .ok (.getfield 29, 3) := by decide +kernel
theorem dX8_exchange_106 : decode cX8_exchange 106 = .ok (.invokevirtual 202, 3) := by decide +kernel
theorem dX8_exchange_109 : decode cX8_exchange 109 = .ok (.ireturn, 1) := by decide +kernel
theorem dX8_fill_0 : decode cX8_fill 0 = .ok (.iconst 0, 1) := by decide +kernel
theorem dX8_fill_1 : decode cX8_fill 1 = .ok (.istore_n 1, 1) := by decide +kernel
theorem dX8_fill_2 : decode cX8_fill 2 = .ok (.iconst 0, 1) := by decide +kernel
theorem dX8_fill_3 : decode cX8_fill 3 = .ok (.istore_n 2, 1) := by decide +kernel
theorem dX8_fill_4 : decode cX8_fill 4 = .ok (.iload_n 2, 1) := by decide +kernel
theorem dX8_fill_5 : decode cX8_fill 5 = .ok (.aload_n 0, 1) := by decide +kernel
theorem dX8_fill_6 : decode cX8_fill 6 = .ok (.getfield 20, 3) := by decide +kernel
theorem dX8_fill_9 : decode cX8_fill 9 = .ok (.getfield 100, 3) := by decide +kernel
theorem dX8_fill_12 : decode cX8_fill 12 = .ok (.if_icmp .ge 65, 3) := by decide +kernel
theorem dX8_fill_15 : decode cX8_fill 15 = .ok (.aload_n 0, 1) := by decide +kernel
theorem dX8_fill_16 : decode cX8_fill 16 = .ok (.getfield 20, 3) := by decide +kernel
theorem dX8_fill_19 : decode cX8_fill 19 = .ok (.getfield 146, 3) := by decide +kernel
theorem dX8_fill_22 : decode cX8_fill 22 = .ok (.iload_n 2, 1) := by decide +kernel
theorem dX8_fill_23 : decode cX8_fill 23 = .ok (.iaload, 1) := by decide +kernel
theorem dX8_fill_24 : decode cX8_fill 24 = .ok (.iconst (-1), 1) := by decide +kernel
theorem dX8_fill_25 : decode cX8_fill 25 = .ok (.if_icmp .ne 11, 3) := by decide +kernel
theorem dX8_fill_28 : decode cX8_fill 28 = .ok (.aload_n 0, 1) := by decide +kernel
theorem dX8_fill_29 : decode cX8_fill 29 = .ok (.iload_n 2, 1) := by decide +kernel
theorem dX8_fill_30 : decode cX8_fill 30 = .ok (.invokevirtual 257, 3) := by decide +kernel
theorem dX8_fill_33 : decode cX8_fill 33 = .ok (.goto 4, 3) := by decide +kernel
theorem dX8_fill_36 : decode cX8_fill 36 = .ok (.iconst (-1), 1) := by decide +kernel
theorem dX8_fill_37 : decode cX8_fill 37 = .ok (.istore_n 3, 1) := by decide +kernel
theorem dX8_fill_38 : decode cX8_fill 38 = .ok (.iload_n 3, 1) := by decide +kernel
theorem dX8_fill_39 : decode cX8_fill 39 = .ok (.iconst (-1), 1) := by decide +kernel
theorem dX8_fill_40 : decode cX8_fill 40 = .ok (.if_icmp .eq 31, 3) := by decide +kernel
theorem dX8_fill_43 : decode cX8_fill 43 = .ok (.iload_n 1, 1) := by decide +kernel
theorem dX8_fill_44 : decode cX8_fill 44 = .ok (.ifCond .ne 14, 3) := by decide +kernel
theorem dX8_fill_47 : decode cX8_fill 47 = .ok (.aload_n 0, 1) := by decide +kernel
theorem dX8_fill_48 : decode cX8_fill 48 = .ok (.getfield 48, 3) := by decide +kernel
theorem dX8_fill_51 : decode cX8_fill 51 = .ok (.aload_n 0, 1) := by decide +kernel
theorem dX8_fill_52 : decode cX8_fill 52 = .ok (.getfield 20, 3) := by decide +kernel
theorem dX8_fill_55 : decode cX8_fill 55 = .ok (.invokevirtual 243, 3) := by decide +kernel
theorem dX8_fill_58 : decode cX8_fill 58 = .ok (.aload_n 0, 1) := by decide +kernel
theorem dX8_fill_59 : decode cX8_fill 59 = .ok (.getfield 20, 3) := by decide +kernel
theorem dX8_fill_62 : decode cX8_fill 62 = .ok (.getfield 146, 3) := by decide +kernel
theorem dX8_fill_65 : decode cX8_fill 65 = .ok (.iload_n 2, 1) := by decide +kernel
theorem dX8_fill_66 : decode cX8_fill 66 = .ok (.iload_n 3, 1) := by decide +kernel
theorem dX8_fill_67 : decode cX8_fill 67 = .ok (.iastore, 1) := by decide +kernel
theorem dX8_fill_68 : decode cX8_fill 68 = .ok (.iinc 1 1, 3) := by decide +kernel
theorem dX8_fill_71 : decode cX8_fill 71 = .ok (.iinc 2 1, 3) := by decide +kernel
theorem dX8_fill_74 : decode cX8_fill 74 = .ok (.goto (-70), 3) := by decide +kernel
theorem dX8_fill_77 : decode cX8_fill 77 = .ok (.aload_n 0, 1) := by decide +kernel
theorem dX8_fill_78 : decode cX8_fill 78 = .ok (.invokevirtual 70, 3) := by decide +kernel
theorem dX8_fill_81 : decode cX8_fill 81 = .ok (.iload_n 1, 1) := by decide +kernel
theorem dX8_fill_82 : decode cX8_fill 82 = .ok (.ireturn, 1) := by decide +kernel
theorem dX8_useBestOrder_0 : decode cX8_useBestOrder 0 = .ok (.aload_n 0, 1) := by decide +kernel
theorem dX8_useBestOrder_1 : decode cX8_useBestOrder 1 = .ok (.getfield 66, 3) := by decide +kernel
theorem dX8_useBestOrder_4 : decode cX8_useBestOrder 4 = .ok (.invokevirtual 234, 3) := by decide +kernel
theorem dX8_useBestOrder_7 : decode cX8_useBestOrder 7 = .ok (.istore_n 1, 1) := by decide +kernel
theorem dX8_useBestOrder_8 : decode cX8_useBestOrder 8 = .ok (.iload_n 1, 1) := by decide +kernel
theorem dX8_useBestOrder_9 : decode cX8_useBestOrder 9 = .ok (.ifCond .ge 5, 3) := by decide +kernel
theorem dX8_useBestOrder_12 : decode cX8_useBestOrder 12 = .ok (.iload_n 1, 1) := by decide +kernel
theorem dX8_useBestOrder_13 : decode cX8_useBestOrder 13 = .ok (.ireturn, 1) := by decide +kernel
theorem dX8_useBestOrder_14 : decode cX8_useBestOrder 14 = .ok (.aload_n 0, 1) := by decide +kernel
theorem dX8_useBestOrder_15 : decode cX8_useBestOrder 15 = .ok (.getfield 48, 3) := by decide +kernel
theorem dX8_useBestOrder_18 : decode cX8_useBestOrder 18 = .ok (.aload_n 0, 1) := by decide +kernel
theorem dX8_useBestOrder_19 : decode cX8_useBestOrder 19 = .ok (.getfield 20, 3) := by decide +kernel
theorem dX8_useBestOrder_22 : decode cX8_useBestOrder 22 = .ok (.invokevirtual 243, 3) := by decide +kernel
theorem dX8_useBestOrder_25 : decode cX8_useBestOrder 25 = .ok (.iconst 0, 1) := by decide +kernel
theorem dX8_useBestOrder_26 : decode cX8_useBestOrder 26 = .ok (.istore_n 2, 1) := by decide +kernel
theorem dX8_useBestOrder_27 : decode cX8_useBestOrder 27 = .ok (.iload_n 2, 1) := by decide +kernel
theorem dX8_useBestOrder_28 : decode cX8_useBestOrder 28 = .ok (.aload_n 0, 1) := by decide +kernel
theorem dX8_useBestOrder_29 : decode cX8_useBestOrder 29 = .ok (.getfield 20, 3) := by decide +kernel
theorem dX8_useBestOrder_32 : decode cX8_useBestOrder 32 = .ok (.getfield 100, 3) := by decide +kernel
theorem dX8_useBestOrder_35 : decode cX8_useBestOrder 35 = .ok (.if_icmp .ge 34, 3) := by decide +kernel
theorem dX8_useBestOrder_38 : decode cX8_useBestOrder 38 = .ok (.aload_n 0, 1) := by decide +kernel
theorem dX8_useBestOrder_39 : decode cX8_useBestOrder 39 = .ok (.getfield 20, 3) := by decide +kernel
theorem dX8_useBestOrder_42 : decode cX8_useBestOrder 42 = .ok (.getfield 146, 3) := by decide +kernel
theorem dX8_useBestOrder_45 : decode cX8_useBestOrder 45 = .ok (.iload_n 2, 1) := by decide +kernel
theorem dX8_useBestOrder_46 : decode cX8_useBestOrder 46 = .ok (.aload_n 0, 1) := by decide +kernel
theorem dX8_useBestOrder_47 : decode cX8_useBestOrder 47 = .ok (.getfield 66, 3) := by decide +kernel
theorem dX8_useBestOrder_50 : decode cX8_useBestOrder 50 = .ok (.aload_n 0, 1) := by decide +kernel
theorem dX8_useBestOrder_51 : decode cX8_useBestOrder 51 = .ok (.getfield 20, 3) := by decide +kernel
theorem dX8_useBestOrder_54 : decode cX8_useBestOrder 54 = .ok (.getfield 146, 3) := by decide +kernel
theorem dX8_useBestOrder_57 : decode cX8_useBestOrder 57 = .ok (.iload_n 2, 1) := by decide +kernel
theorem dX8_useBestOrder_58 : decode cX8_useBestOrder 58 = .ok (.iaload, 1) := by decide +kernel
theorem dX8_useBestOrder_59 : decode cX8_useBestOrder 59 = .ok (.invokevirtual 260, 3) := by decide +kernel
theorem dX8_useBestOrder_62 : decode cX8_useBestOrder 62 = .ok (.iastore, 1) := by decide +kernel
theorem dX8_useBestOrder_63 : decode cX8_useBestOrder 63 = .ok (.iinc 2 1, 3) := by decide +kernel
theorem dX8_useBestOrder_66 : decode cX8_useBestOrder 66 = .ok (.goto (-39), 3) := by decide +kernel
theorem dX8_useBestOrder_69 : decode cX8_useBestOrder 69 = .ok (.aload_n 0, 1) := by decide +kernel
theorem dX8_useBestOrder_70 : decode cX8_useBestOrder 70 = .ok (.invokevirtual 70, 3) := by decide +kernel
theorem dX8_useBestOrder_73 : decode cX8_useBestOrder 73 = .ok (.aload_n 0, 1) := by decide +kernel
theorem dX8_useBestOrder_74 : decode cX8_useBestOrder 74 = .ok (.getfield 29, 3) := by decide +kernel
theorem dX8_useBestOrder_77 : decode cX8_useBestOrder 77 = .ok (.invokevirtual 202, 3) := by decide +kernel
theorem dX8_useBestOrder_80 : decode cX8_useBestOrder 80 = .ok (.ireturn, 1) := by decide +kernel
theorem dX8_setSetting_0 : decode cX8_setSetting 0 = .ok (.iload_n 1, 1) := by decide +kernel
theorem dX8_setSetting_1 : decode cX8_setSetting 1 = .ok (.invokestatic 112, 3) := by decide +kernel
theorem dX8_setSetting_4 : decode cX8_setSetting 4 = .ok (.ifCond .eq 11, 3) := by decide +kernel
theorem dX8_setSetting_7 : decode cX8_setSetting 7 = .ok (.iload_n 1, 1) := by decide +kernel
theorem dX8_setSetting_8 : decode cX8_setSetting 8 = .ok (.iload_n 2, 1) := by decide +kernel
theorem dX8_setSetting_9 : decode cX8_setSetting 9 = .ok (.invokestatic 263, 3) := by decide +kernel
theorem dX8_setSetting_12 : decode cX8_setSetting 12 = .ok (.ifCond .ne 6, 3) := by decide +kernel
theorem dX8_setSetting_15 : decode cX8_setSetting 15 = .ok (.bipush (-2), 2) := by decide +kernel
theorem dX8_setSetting_17 : decode cX8_setSetting 17 = .ok (.ireturn, 1) := by decide +kernel
theorem dX8_setSetting_18 : decode cX8_setSetting 18 = .ok (.iload_n 1, 1) := by decide +kernel
theorem dX8_setSetting_19 : decode cX8_setSetting 19 = .ok (.ifCond .ne 17, 3) := by decide +kernel
theorem dX8_setSetting_22 : decode cX8_setSetting 22 = .ok (.aload_n 0, 1) := by decide +kernel
theorem dX8_setSetting_23 : decode cX8_setSetting 23 = .ok (.getfield 29, 3) := by decide +kernel
theorem dX8_setSetting_26 : decode cX8_setSetting 26 = .ok (.invokevirtual 266, 3) := by decide +kernel
theorem dX8_setSetting_29 : decode cX8_setSetting 29 = .ok (.iload_n 2, 1) := by decide +kernel
theorem dX8_setSetting_30 : decode cX8_setSetting 30 = .ok (.if_icmp .le 6, 3) := by decide +kernel
theorem dX8_setSetting_33 : decode cX8_setSetting 33 = .ok (.bipush (-5), 2) := by decide +kernel
theorem dX8_setSetting_35 : decode cX8_setSetting 35 = .ok (.ireturn, 1) := by decide +kernel
theorem dX8_setSetting_36 : decode cX8_setSetting 36 = .ok (.aload_n 0, 1) := by decide +kernel
theorem dX8_setSetting_37 : decode cX8_setSetting 37 = .ok (.getfield 48, 3) := by decide +kernel
theorem dX8_setSetting_40 : decode cX8_setSetting 40 = .ok (.aload_n 0, 1) := by decide +kernel
theorem dX8_setSetting_41 : decode cX8_setSetting 41 = .ok (.getfield 20, 3) := by decide +kernel
theorem dX8_setSetting_44 : decode cX8_setSetting 44 = .ok (.invokevirtual 243, 3) := by decide +kernel
theorem dX8_setSetting_47 : decode cX8_setSetting 47 = .ok (.aload_n 0, 1) := by decide +kernel
theorem dX8_setSetting_48 : decode cX8_setSetting 48 = .ok (.getfield 20, 3) := by decide +kernel
theorem dX8_setSetting_51 : decode cX8_setSetting 51 = .ok (.getfield 116, 3) := by decide +kernel
theorem dX8_setSetting_54 : decode cX8_setSetting 54 = .ok (.iload_n 1, 1) := by decide +kernel
theorem dX8_setSetting_55 : decode cX8_setSetting 55 = .ok (.iaload, 1) := by decide +kernel
theorem dX8_setSetting_56 : decode cX8_setSetting 56 = .ok (.istore_n 3, 1) := by decide +kernel
theorem dX8_setSetting_57 : decode cX8_setSetting 57 = .ok (.aload_n 0, 1) := by decide +kernel
theorem dX8_setSetting_58 : decode cX8_setSetting 58 = .ok (.getfield 20, 3) := by decide +kernel
theorem dX8_setSetting_61 : decode cX8_setSetting 61 = .ok (.getfield 116, 3) := by decide +kernel
theorem dX8_setSetting_64 : decode cX8_setSetting 64 = .ok (.iload_n 1, 1) := by decide +kernel
theorem dX8_setSetting_65 : decode cX8_setSetting 65 = .ok (.iload_n 2, 1) := by decide +kernel
theorem dX8_setSetting_66 : decode cX8_setSetting 66 = .ok (.iastore, 1) := by decide +kernel
theorem dX8_setSetting_67 : decode cX8_setSetting 67 = .ok (.aload_n 0, 1) := by decide +kernel
theorem dX8_setSetting_68 : decode cX8_setSetting 68 = .ok (.invokevirtual 70, 3) := by decide +kernel
theorem dX8_setSetting_71 : decode cX8_setSetting 71 = .ok (.iload_n 3, 1) := by decide +kernel
theorem dX8_setSetting_72 : decode cX8_setSetting 72 = .ok (.ireturn, 1) := by decide +kernel
theorem dX8_undo_0 : decode cX8_undo 0 = .ok (.aload_n 0, 1) := by decide +kernel
theorem dX8_undo_1 : decode cX8_undo 1 = .ok (.getfield 48, 3) := by decide +kernel
theorem dX8_undo_4 : decode cX8_undo 4 = .ok (.getfield 103, 3) := by decide +kernel
theorem dX8_undo_7 : decode cX8_undo 7 = .ok (.ifCond .ne 5, 3) := by decide +kernel
theorem dX8_undo_10 : decode cX8_undo 10 = .ok (.iconst (-1), 1) := by decide +kernel
theorem dX8_undo_11 : decode cX8_undo 11 = .ok (.ireturn, 1) := by decide +kernel
theorem dX8_undo_12 : decode cX8_undo 12 = .ok (.aload_n 0, 1) := by decide +kernel
theorem dX8_undo_13 : decode cX8_undo 13 = .ok (.getfield 48, 3) := by decide +kernel
theorem dX8_undo_16 : decode cX8_undo 16 = .ok (.aload_n 0, 1) := by decide +kernel
theorem dX8_undo_17 : decode cX8_undo 17 = .ok (.getfield 20, 3) := by decide +kernel
theorem dX8_undo_20 : decode cX8_undo 20 = .ok (.invokevirtual 269, 3) := by decide +kernel
theorem dX8_undo_23 : decode cX8_undo 23 = .ok (.aload_n 0, 1) := by decide +kernel
theorem dX8_undo_24 : decode cX8_undo 24 = .ok (.invokevirtual 70, 3) := by decide +kernel
theorem dX8_undo_27 : decode cX8_undo 27 = .ok (.aload_n 0, 1) := by decide +kernel
theorem dX8_undo_28 : decode cX8_undo 28 = .ok (.getfield 48, 3) := by decide +kernel
theorem dX8_undo_31 : decode cX8_undo 31 = .ok (.getfield 103, 3) := by decide +kernel
theorem dX8_undo_34 : decode cX8_undo 34 = .ok (.ireturn, 1) := by decide +kernel
theorem dX8_requireIndex_0 : decode cX8_requireIndex 0 = .ok (.iload_n 0, 1) := by decide +kernel
theorem dX8_requireIndex_1 : decode cX8_requireIndex 1 = .ok (.ifCond .lt 8, 3) := by decide +kernel
theorem dX8_requireIndex_4 : decode cX8_requireIndex 4 = .ok (.iload_n 0, 1) := by decide +kernel
theorem dX8_requireIndex_5 : decode cX8_requireIndex 5 = .ok (.iload_n 1, 1) := by decide +kernel
theorem dX8_requireIndex_6 : decode cX8_requireIndex 6 = .ok (.if_icmp .lt 14, 3) := by decide +kernel
theorem dX8_requireIndex_9 : decode cX8_requireIndex 9 = .ok (.new 272, 3) := by decide +kernel
theorem dX8_requireIndex_12 : decode cX8_requireIndex 12 = .ok (.dup, 1) := by decide +kernel
theorem dX8_requireIndex_13 : decode cX8_requireIndex 13 = .ok (.ldc_w 274, 3) := by decide +kernel
theorem dX8_requireIndex_16 : decode cX8_requireIndex 16 = .ok (.invokespecial 276, 3) := by decide +kernel
theorem dX8_requireIndex_19 : decode cX8_requireIndex 19 = .ok (.athrow, 1) := by decide +kernel
theorem dX8_requireIndex_20 : decode cX8_requireIndex 20 = .ok (.return_, 1) := by decide +kernel
theorem dX8_isSetting_0 : decode cX8_isSetting 0 = .ok (.iload_n 0, 1) := by decide +kernel
theorem dX8_isSetting_1 : decode cX8_isSetting 1 = .ok (.ifCond .lt 12, 3) := by decide +kernel
theorem dX8_isSetting_4 : decode cX8_isSetting 4 = .ok (.iload_n 0, 1) := by decide +kernel
theorem dX8_isSetting_5 : decode cX8_isSetting 5 = .ok (.iconst 4, 1) := by decide +kernel
theorem dX8_isSetting_6 : decode cX8_isSetting 6 = .ok (.if_icmp .ge 7, 3) := by decide +kernel
theorem dX8_isSetting_9 : decode cX8_isSetting 9 = .ok (.iconst 1, 1) := by decide +kernel
theorem dX8_isSetting_10 : decode cX8_isSetting 10 = .ok (.goto 4, 3) := by decide +kernel
theorem dX8_isSetting_13 : decode cX8_isSetting 13 = .ok (.iconst 0, 1) := by decide +kernel
theorem dX8_isSetting_14 : decode cX8_isSetting 14 = .ok (.ireturn, 1) := by decide +kernel
theorem dX8_fitsSetting_0 : decode cX8_fitsSetting 0 = .ok (.iload_n 1, 1) := by decide +kernel
theorem dX8_fitsSetting_1 : decode cX8_fitsSetting 1 = .ok (.getstatic 279, 3) := by decide +kernel
theorem dX8_fitsSetting_4 : decode cX8_fitsSetting 4 = .ok (.iload_n 0, 1) := by decide +kernel
theorem dX8_fitsSetting_5 : decode cX8_fitsSetting 5 = .ok (.iaload, 1) := by decide +kernel
theorem dX8_fitsSetting_6 : decode cX8_fitsSetting 6 = .ok (.if_icmp .lt 16, 3) := by decide +kernel
theorem dX8_fitsSetting_9 : decode cX8_fitsSetting 9 = .ok (.iload_n 1, 1) := by decide +kernel
theorem dX8_fitsSetting_10 : decode cX8_fitsSetting 10 = .ok (.getstatic 282, 3) := by decide +kernel
theorem dX8_fitsSetting_13 : decode cX8_fitsSetting 13 = .ok (.iload_n 0, 1) := by decide +kernel
theorem dX8_fitsSetting_14 : decode cX8_fitsSetting 14 = .ok (.iaload, 1) := by decide +kernel
theorem dX8_fitsSetting_15 : decode cX8_fitsSetting 15 = .ok (.if_icmp .gt 7, 3) := by decide +kernel
theorem dX8_fitsSetting_18 : decode cX8_fitsSetting 18 = .ok (.iconst 1, 1) := by decide +kernel
theorem dX8_fitsSetting_19 : decode cX8_fitsSetting 19 = .ok (.goto 4, 3) := by decide +kernel
theorem dX8_fitsSetting_22 : decode cX8_fitsSetting 22 = .ok (.iconst 0, 1) := by decide +kernel
theorem dX8_fitsSetting_23 : decode cX8_fitsSetting 23 = .ok (.ireturn, 1) := by decide +kernel
theorem dX8_isRain_0 : decode cX8_isRain 0 = .ok (.iload_n 0, 1) := by decide +kernel
theorem dX8_isRain_1 : decode cX8_isRain 1 = .ok (.ifCond .lt 14, 3) := by decide +kernel
theorem dX8_isRain_4 : decode cX8_isRain 4 = .ok (.iload_n 0, 1) := by decide +kernel
theorem dX8_isRain_5 : decode cX8_isRain 5 = .ok (.sipush 4095, 3) := by decide +kernel
theorem dX8_isRain_8 : decode cX8_isRain 8 = .ok (.if_icmp .gt 7, 3) := by decide +kernel
theorem dX8_isRain_11 : decode cX8_isRain 11 = .ok (.iconst 1, 1) := by decide +kernel
theorem dX8_isRain_12 : decode cX8_isRain 12 = .ok (.goto 4, 3) := by decide +kernel
theorem dX8_isRain_15 : decode cX8_isRain 15 = .ok (.iconst 0, 1) := by decide +kernel
theorem dX8_isRain_16 : decode cX8_isRain 16 = .ok (.ireturn, 1) := by decide +kernel
theorem dX8_has_0 : decode cX8_has 0 = .ok (.iload_n 0, 1) := by decide +kernel
theorem dX8_has_1 : decode cX8_has 1 = .ok (.iload_n 1, 1) := by decide +kernel
theorem dX8_has_2 : decode cX8_has 2 = .ok (.ishr, 1) := by decide +kernel
theorem dX8_has_3 : decode cX8_has 3 = .ok (.iconst 1, 1) := by decide +kernel
theorem dX8_has_4 : decode cX8_has 4 = .ok (.iand, 1) := by decide +kernel
theorem dX8_has_5 : decode cX8_has 5 = .ok (.ifCond .eq 7, 3) := by decide +kernel
theorem dX8_has_8 : decode cX8_has 8 = .ok (.iconst 1, 1) := by decide +kernel
theorem dX8_has_9 : decode cX8_has 9 = .ok (.goto 4, 3) := by decide +kernel
theorem dX8_has_12 : decode cX8_has 12 = .ok (.iconst 0, 1) := by decide +kernel
theorem dX8_has_13 : decode cX8_has 13 = .ok (.ireturn, 1) := by decide +kernel
theorem dX8_exchanged_0 : decode cX8_exchanged 0 = .ok (.iload_n 0, 1) := by decide +kernel
theorem dX8_exchanged_1 : decode cX8_exchanged 1 = .ok (.iload_n 1, 1) := by decide +kernel
theorem dX8_exchanged_2 : decode cX8_exchanged 2 = .ok (.if_icmp .ne 5, 3) := by decide +kernel
theorem dX8_exchanged_5 : decode cX8_exchanged 5 = .ok (.iload_n 2, 1) := by decide +kernel
theorem dX8_exchanged_6 : decode cX8_exchanged 6 = .ok (.ireturn, 1) := by decide +kernel
theorem dX8_exchanged_7 : decode cX8_exchanged 7 = .ok (.iload_n 0, 1) := by decide +kernel
theorem dX8_exchanged_8 : decode cX8_exchanged 8 = .ok (.iload_n 2, 1) := by decide +kernel
theorem dX8_exchanged_9 : decode cX8_exchanged 9 = .ok (.if_icmp .ne 7, 3) := by decide +kernel
theorem dX8_exchanged_12 : decode cX8_exchanged 12 = .ok (.iload_n 1, 1) := by decide +kernel
theorem dX8_exchanged_13 : decode cX8_exchanged 13 = .ok (.goto 4, 3) := by decide +kernel
theorem dX8_exchanged_16 : decode cX8_exchanged 16 = .ok (.iload_n 0, 1) := by decide +kernel
theorem dX8_exchanged_17 : decode cX8_exchanged 17 = .ok (.ireturn, 1) := by decide +kernel
theorem dX8_append_0 : decode cX8_append 0 = .ok (.bipush 24, 2) := by decide +kernel
theorem dX8_append_2 : decode cX8_append 2 = .ok (.istore_n 2, 1) := by decide +kernel
theorem dX8_append_3 : decode cX8_append 3 = .ok (.iload_n 2, 1) := by decide +kernel
theorem dX8_append_4 : decode cX8_append 4 = .ok (.ifCond .lt 42, 3) := by decide +kernel
theorem dX8_append_7 : decode cX8_append 7 = .ok (.aload_n 0, 1) := by decide +kernel
theorem dX8_append_8 : decode cX8_append 8 = .ok (.getfield 73, 3) := by decide +kernel
theorem dX8_append_11 : decode cX8_append 11 = .ok (.sipush 900, 3) := by decide +kernel
theorem dX8_append_14 : decode cX8_append 14 = .ok (.if_icmp .ge 32, 3) := by decide +kernel
theorem dX8_append_17 : decode cX8_append 17 = .ok (.aload_n 0, 1) := by decide +kernel
theorem dX8_append_18 : decode cX8_append 18 = .ok (.getfield 9, 3) := by decide +kernel
theorem dX8_append_21 : decode cX8_append 21 = .ok (.aload_n 0, 1) := by decide +kernel
theorem dX8_append_22 : decode cX8_append 22 = .ok (.getfield 73, 3) := by decide +kernel
theorem dX8_append_25 : decode cX8_append 25 = .ok (.iload_n 1, 1) := by decide +kernel
theorem dX8_append_26 : decode cX8_append 26 = .ok (.iload_n 2, 1) := by decide +kernel
theorem dX8_append_27 : decode cX8_append 27 = .ok (.ishr, 1) := by decide +kernel
theorem dX8_append_28 : decode cX8_append 28 = .ok (.i2b, 1) := by decide +kernel
theorem dX8_append_29 : decode cX8_append 29 = .ok (.bastore, 1) := by decide +kernel
theorem dX8_append_30 : decode cX8_append 30 = .ok (.aload_n 0, 1) := by decide +kernel
theorem dX8_append_31 : decode cX8_append 31 = .ok (.dup, 1) := by decide +kernel
theorem dX8_append_32 : decode cX8_append 32 = .ok (.getfield 73, 3) := by decide +kernel
theorem dX8_append_35 : decode cX8_append 35 = .ok (.iconst 1, 1) := by decide +kernel
theorem dX8_append_36 : decode cX8_append 36 = .ok (.iadd, 1) := by decide +kernel
theorem dX8_append_37 : decode cX8_append 37 = .ok (.putfield 73, 3) := by decide +kernel
theorem dX8_append_40 : decode cX8_append 40 = .ok (.iinc 2 (-8), 3) := by decide +kernel
theorem dX8_append_43 : decode cX8_append 43 = .ok (.goto (-40), 3) := by decide +kernel
theorem dX8_append_46 : decode cX8_append 46 = .ok (.return_, 1) := by decide +kernel
theorem dX8_refresh_0 : decode cX8_refresh 0 = .ok (.aload_n 0, 1) := by decide +kernel
theorem dX8_refresh_1 : decode cX8_refresh 1 = .ok (.getfield 29, 3) := by decide +kernel
theorem dX8_refresh_4 : decode cX8_refresh 4 = .ok (.invokevirtual 285, 3) := by decide +kernel
theorem dX8_refresh_7 : decode cX8_refresh 7 = .ok (.aload_n 0, 1) := by decide +kernel
theorem dX8_refresh_8 : decode cX8_refresh 8 = .ok (.getfield 66, 3) := by decide +kernel
theorem dX8_refresh_11 : decode cX8_refresh 11 = .ok (.invokevirtual 288, 3) := by decide +kernel
theorem dX8_refresh_14 : decode cX8_refresh 14 = .ok (.return_, 1) := by decide +kernel
theorem dX8_fewestDaysAt_0 : decode cX8_fewestDaysAt 0 = .ok (.iconst 0, 1) := by decide +kernel
theorem dX8_fewestDaysAt_1 : decode cX8_fewestDaysAt 1 = .ok (.istore_n 3, 1) := by decide +kernel
theorem dX8_fewestDaysAt_2 : decode cX8_fewestDaysAt 2 = .ok (.iconst 0, 1) := by decide +kernel
theorem dX8_fewestDaysAt_3 : decode cX8_fewestDaysAt 3 = .ok (.istore 4, 2) := by decide +kernel
theorem dX8_fewestDaysAt_5 : decode cX8_fewestDaysAt 5 = .ok (.iload 4, 2) := by decide +kernel
theorem dX8_fewestDaysAt_7 : decode cX8_fewestDaysAt 7 = .ok (.aload_n 0, 1) := by decide +kernel
theorem dX8_fewestDaysAt_8 : decode cX8_fewestDaysAt 8 = .ok (.getfield 20, 3) := by decide +kernel
theorem dX8_fewestDaysAt_11 : decode cX8_fewestDaysAt 11 = .ok (.getfield 100, 3) := by decide +kernel
theorem dX8_fewestDaysAt_14 : decode cX8_fewestDaysAt 14 = .ok (.if_icmp .ge 36, 3) := by decide +kernel
theorem dX8_fewestDaysAt_17 : decode cX8_fewestDaysAt 17 = .ok (.aload_n 0, 1) := by decide +kernel
theorem dX8_fewestDaysAt_18 : decode cX8_fewestDaysAt 18 = .ok (.getfield 20, 3) := by decide +kernel
theorem dX8_fewestDaysAt_21 : decode cX8_fewestDaysAt 21 = .ok (.iload 4, 2) := by decide +kernel
theorem dX8_fewestDaysAt_23 : decode cX8_fewestDaysAt 23 = .ok (.iload_n 1, 1) := by decide +kernel
theorem dX8_fewestDaysAt_24 : decode cX8_fewestDaysAt 24 = .ok (.iload_n 2, 1) := by decide +kernel
theorem dX8_fewestDaysAt_25 : decode cX8_fewestDaysAt 25 = .ok (.invokevirtual 215, 3) := by decide +kernel
theorem dX8_fewestDaysAt_28 : decode cX8_fewestDaysAt 28 = .ok (.ifCond .eq 16, 3) := by decide +kernel
theorem dX8_fewestDaysAt_31 : decode cX8_fewestDaysAt 31 = .ok (.iload_n 3, 1) := by decide +kernel
theorem dX8_fewestDaysAt_32 : decode cX8_fewestDaysAt 32 = .ok (.aload_n 0, 1) := by decide +kernel
theorem dX8_fewestDaysAt_33 : decode cX8_fewestDaysAt 33 = .ok (.getfield 20, 3) := by decide +kernel
theorem dX8_fewestDaysAt_36 : decode cX8_fewestDaysAt 36 = .ok (.getfield 137, 3) := by decide +kernel
theorem dX8_fewestDaysAt_39 : decode cX8_fewestDaysAt 39 = .ok (.iload 4, 2) := by decide +kernel
theorem dX8_fewestDaysAt_41 : decode cX8_fewestDaysAt 41 = .ok (.iaload, 1) := by decide +kernel
theorem dX8_fewestDaysAt_42 : decode cX8_fewestDaysAt 42 = .ok (.iadd, 1) := by decide +kernel
theorem dX8_fewestDaysAt_43 : decode cX8_fewestDaysAt 43 = .ok (.istore_n 3, 1) := by decide +kernel
theorem dX8_fewestDaysAt_44 : decode cX8_fewestDaysAt 44 = .ok (.iinc 4 1, 3) := by decide +kernel
theorem dX8_fewestDaysAt_47 : decode cX8_fewestDaysAt 47 = .ok (.goto (-42), 3) := by decide +kernel
theorem dX8_fewestDaysAt_50 : decode cX8_fewestDaysAt 50 = .ok (.aload_n 0, 1) := by decide +kernel
theorem dX8_fewestDaysAt_51 : decode cX8_fewestDaysAt 51 = .ok (.getfield 20, 3) := by decide +kernel
theorem dX8_fewestDaysAt_54 : decode cX8_fewestDaysAt 54 = .ok (.getfield 116, 3) := by decide +kernel
theorem dX8_fewestDaysAt_57 : decode cX8_fewestDaysAt 57 = .ok (.iconst 0, 1) := by decide +kernel
theorem dX8_fewestDaysAt_58 : decode cX8_fewestDaysAt 58 = .ok (.iaload, 1) := by decide +kernel
theorem dX8_fewestDaysAt_59 : decode cX8_fewestDaysAt 59 = .ok (.istore 4, 2) := by decide +kernel
theorem dX8_fewestDaysAt_61 : decode cX8_fewestDaysAt 61 = .ok (.iload 4, 2) := by decide +kernel
theorem dX8_fewestDaysAt_63 : decode cX8_fewestDaysAt 63 = .ok (.ifCond .le 15, 3) := by decide +kernel
theorem dX8_fewestDaysAt_66 : decode cX8_fewestDaysAt 66 = .ok (.iload_n 3, 1) := by decide +kernel
theorem dX8_fewestDaysAt_67 : decode cX8_fewestDaysAt 67 = .ok (.iload 4, 2) := by decide +kernel
theorem dX8_fewestDaysAt_69 : decode cX8_fewestDaysAt 69 = .ok (.iadd, 1) := by decide +kernel
theorem dX8_fewestDaysAt_70 : decode cX8_fewestDaysAt 70 = .ok (.iconst 1, 1) := by decide +kernel
theorem dX8_fewestDaysAt_71 : decode cX8_fewestDaysAt 71 = .ok (.isub, 1) := by decide +kernel
theorem dX8_fewestDaysAt_72 : decode cX8_fewestDaysAt 72 = .ok (.iload 4, 2) := by decide +kernel
theorem dX8_fewestDaysAt_74 : decode cX8_fewestDaysAt 74 = .ok (.idiv, 1) := by decide +kernel
theorem dX8_fewestDaysAt_75 : decode cX8_fewestDaysAt 75 = .ok (.goto 4, 3) := by decide +kernel
theorem dX8_fewestDaysAt_78 : decode cX8_fewestDaysAt 78 = .ok (.iconst 0, 1) := by decide +kernel
theorem dX8_fewestDaysAt_79 : decode cX8_fewestDaysAt 79 = .ok (.ireturn, 1) := by decide +kernel
theorem dX8_lowestDayFor_0 : decode cX8_lowestDayFor 0 = .ok (.iconst 0, 1) := by decide +kernel
theorem dX8_lowestDayFor_1 : decode cX8_lowestDayFor 1 = .ok (.istore_n 2, 1) := by decide +kernel
theorem dX8_lowestDayFor_2 : decode cX8_lowestDayFor 2 = .ok (.iload_n 2, 1) := by decide +kernel
theorem dX8_lowestDayFor_3 : decode cX8_lowestDayFor 3 = .ok (.bipush 12, 2) := by decide +kernel
theorem dX8_lowestDayFor_5 : decode cX8_lowestDayFor 5 = .ok (.if_icmp .ge 23, 3) := by decide +kernel
theorem dX8_lowestDayFor_8 : decode cX8_lowestDayFor 8 = .ok (.aload_n 0, 1) := by decide +kernel
theorem dX8_lowestDayFor_9 : decode cX8_lowestDayFor 9 = .ok (.getfield 33, 3) := by decide +kernel
theorem dX8_lowestDayFor_12 : decode cX8_lowestDayFor 12 = .ok (.iload_n 1, 1) := by decide +kernel
theorem dX8_lowestDayFor_13 : decode cX8_lowestDayFor 13 = .ok (.iload_n 2, 1) := by decide +kernel
theorem dX8_lowestDayFor_14 : decode cX8_lowestDayFor 14 = .ok (.invokevirtual 208, 3) := by decide +kernel
theorem dX8_lowestDayFor_17 : decode cX8_lowestDayFor 17 = .ok (.ifCond .ne 5, 3) := by decide +kernel
theorem dX8_lowestDayFor_20 : decode cX8_lowestDayFor 20 = .ok (.iload_n 2, 1) := by decide +kernel
theorem dX8_lowestDayFor_21 : decode cX8_lowestDayFor 21 = .ok (.ireturn, 1) := by decide +kernel
theorem dX8_lowestDayFor_22 : decode cX8_lowestDayFor 22 = .ok (.iinc 2 1, 3) := by decide +kernel
theorem dX8_lowestDayFor_25 : decode cX8_lowestDayFor 25 = .ok (.goto (-23), 3) := by decide +kernel
theorem dX8_lowestDayFor_28 : decode cX8_lowestDayFor 28 = .ok (.iconst (-1), 1) := by decide +kernel
theorem dX8_lowestDayFor_29 : decode cX8_lowestDayFor 29 = .ok (.ireturn, 1) := by decide +kernel
theorem dJ6_bitCount_0f7a4_0 : decode cJ6_bitCount_0f7a4 0 = .ok (.iload_n 0, 1) := by decide +kernel
theorem dJ6_bitCount_0f7a4_1 : decode cJ6_bitCount_0f7a4 1 = .ok (.iload_n 0, 1) := by decide +kernel
theorem dJ6_bitCount_0f7a4_2 : decode cJ6_bitCount_0f7a4 2 = .ok (.iconst 1, 1) := by decide +kernel
theorem dJ6_bitCount_0f7a4_3 : decode cJ6_bitCount_0f7a4 3 = .ok (.iushr, 1) := by decide +kernel
theorem dJ6_bitCount_0f7a4_4 : decode cJ6_bitCount_0f7a4 4 = .ok (.ldc_w 265, 3) := by decide +kernel
theorem dJ6_bitCount_0f7a4_7 : decode cJ6_bitCount_0f7a4 7 = .ok (.iand, 1) := by decide +kernel
theorem dJ6_bitCount_0f7a4_8 : decode cJ6_bitCount_0f7a4 8 = .ok (.isub, 1) := by decide +kernel
theorem dJ6_bitCount_0f7a4_9 : decode cJ6_bitCount_0f7a4 9 = .ok (.istore_n 0, 1) := by decide +kernel
theorem dJ6_bitCount_0f7a4_10 : decode cJ6_bitCount_0f7a4 10 = .ok (.iload_n 0, 1) := by decide +kernel
theorem dJ6_bitCount_0f7a4_11 : decode cJ6_bitCount_0f7a4 11 = .ok (.ldc_w 266, 3) := by decide +kernel
theorem dJ6_bitCount_0f7a4_14 : decode cJ6_bitCount_0f7a4 14 = .ok (.iand, 1) := by decide +kernel
theorem dJ6_bitCount_0f7a4_15 : decode cJ6_bitCount_0f7a4 15 = .ok (.iload_n 0, 1) := by decide +kernel
theorem dJ6_bitCount_0f7a4_16 : decode cJ6_bitCount_0f7a4 16 = .ok (.iconst 2, 1) := by decide +kernel
theorem dJ6_bitCount_0f7a4_17 : decode cJ6_bitCount_0f7a4 17 = .ok (.iushr, 1) := by decide +kernel
theorem dJ6_bitCount_0f7a4_18 : decode cJ6_bitCount_0f7a4 18 = .ok (.ldc_w 266, 3) := by decide +kernel
theorem dJ6_bitCount_0f7a4_21 : decode cJ6_bitCount_0f7a4 21 = .ok (.iand, 1) := by decide +kernel
theorem dJ6_bitCount_0f7a4_22 : decode cJ6_bitCount_0f7a4 22 = .ok (.iadd, 1) := by decide +kernel
theorem dJ6_bitCount_0f7a4_23 : decode cJ6_bitCount_0f7a4 23 = .ok (.istore_n 0, 1) := by decide +kernel
theorem dJ6_bitCount_0f7a4_24 : decode cJ6_bitCount_0f7a4 24 = .ok (.iload_n 0, 1) := by decide +kernel
theorem dJ6_bitCount_0f7a4_25 : decode cJ6_bitCount_0f7a4 25 = .ok (.iload_n 0, 1) := by decide +kernel
theorem dJ6_bitCount_0f7a4_26 : decode cJ6_bitCount_0f7a4 26 = .ok (.iconst 4, 1) := by decide +kernel
theorem dJ6_bitCount_0f7a4_27 : decode cJ6_bitCount_0f7a4 27 = .ok (.iushr, 1) := by decide +kernel
theorem dJ6_bitCount_0f7a4_28 : decode cJ6_bitCount_0f7a4 28 = .ok (.iadd, 1) := by decide +kernel
theorem dJ6_bitCount_0f7a4_29 : decode cJ6_bitCount_0f7a4 29 = .ok (.ldc_w 267, 3) := by decide +kernel
theorem dJ6_bitCount_0f7a4_32 : decode cJ6_bitCount_0f7a4 32 = .ok (.iand, 1) := by decide +kernel
theorem dJ6_bitCount_0f7a4_33 : decode cJ6_bitCount_0f7a4 33 = .ok (.istore_n 0, 1) := by decide +kernel
theorem dJ6_bitCount_0f7a4_34 : decode cJ6_bitCount_0f7a4 34 = .ok (.iload_n 0, 1) := by decide +kernel
theorem dJ6_bitCount_0f7a4_35 : decode cJ6_bitCount_0f7a4 35 = .ok (.iload_n 0, 1) := by decide +kernel
theorem dJ6_bitCount_0f7a4_36 : decode cJ6_bitCount_0f7a4 36 = .ok (.bipush 8, 2) := by decide +kernel
theorem dJ6_bitCount_0f7a4_38 : decode cJ6_bitCount_0f7a4 38 = .ok (.iushr, 1) := by decide +kernel
theorem dJ6_bitCount_0f7a4_39 : decode cJ6_bitCount_0f7a4 39 = .ok (.iadd, 1) := by decide +kernel
theorem dJ6_bitCount_0f7a4_40 : decode cJ6_bitCount_0f7a4 40 = .ok (.istore_n 0, 1) := by decide +kernel
theorem dJ6_bitCount_0f7a4_41 : decode cJ6_bitCount_0f7a4 41 = .ok (.iload_n 0, 1) := by decide +kernel
theorem dJ6_bitCount_0f7a4_42 : decode cJ6_bitCount_0f7a4 42 = .ok (.iload_n 0, 1) := by decide +kernel
theorem dJ6_bitCount_0f7a4_43 : decode cJ6_bitCount_0f7a4 43 = .ok (.bipush 16, 2) := by decide +kernel
theorem dJ6_bitCount_0f7a4_45 : decode cJ6_bitCount_0f7a4 45 = .ok (.iushr, 1) := by decide +kernel
theorem dJ6_bitCount_0f7a4_46 : decode cJ6_bitCount_0f7a4 46 = .ok (.iadd, 1) := by decide +kernel
theorem dJ6_bitCount_0f7a4_47 : decode cJ6_bitCount_0f7a4 47 = .ok (.istore_n 0, 1) := by decide +kernel
theorem dJ6_bitCount_0f7a4_48 : decode cJ6_bitCount_0f7a4 48 = .ok (.iload_n 0, 1) := by decide +kernel
theorem dJ6_bitCount_0f7a4_49 : decode cJ6_bitCount_0f7a4 49 = .ok (.bipush 63, 2) := by decide +kernel
theorem dJ6_bitCount_0f7a4_51 : decode cJ6_bitCount_0f7a4 51 = .ok (.iand, 1) := by decide +kernel
theorem dJ6_bitCount_0f7a4_52 : decode cJ6_bitCount_0f7a4 52 = .ok (.ireturn, 1) := by decide +kernel
theorem dJ7_fill_53178_0 : decode cJ7_fill_53178 0 = .ok (.iconst 0, 1) := by decide +kernel
theorem dJ7_fill_53178_1 : decode cJ7_fill_53178 1 = .ok (.istore_n 2, 1) := by decide +kernel
theorem dJ7_fill_53178_2 : decode cJ7_fill_53178 2 = .ok (.aload_n 0, 1) := by decide +kernel
theorem dJ7_fill_53178_3 : decode cJ7_fill_53178 3 = .ok (.arraylength, 1) := by decide +kernel
theorem dJ7_fill_53178_4 : decode cJ7_fill_53178 4 = .ok (.istore_n 3, 1) := by decide +kernel
theorem dJ7_fill_53178_5 : decode cJ7_fill_53178 5 = .ok (.iload_n 2, 1) := by decide +kernel
theorem dJ7_fill_53178_6 : decode cJ7_fill_53178 6 = .ok (.iload_n 3, 1) := by decide +kernel
theorem dJ7_fill_53178_7 : decode cJ7_fill_53178 7 = .ok (.if_icmp .ge 13, 3) := by decide +kernel
theorem dJ7_fill_53178_10 : decode cJ7_fill_53178 10 = .ok (.aload_n 0, 1) := by decide +kernel
theorem dJ7_fill_53178_11 : decode cJ7_fill_53178 11 = .ok (.iload_n 2, 1) := by decide +kernel
theorem dJ7_fill_53178_12 : decode cJ7_fill_53178 12 = .ok (.iload_n 1, 1) := by decide +kernel
theorem dJ7_fill_53178_13 : decode cJ7_fill_53178 13 = .ok (.iastore, 1) := by decide +kernel
theorem dJ7_fill_53178_14 : decode cJ7_fill_53178 14 = .ok (.iinc 2 1, 3) := by decide +kernel
theorem dJ7_fill_53178_17 : decode cJ7_fill_53178 17 = .ok (.goto (-12), 3) := by decide +kernel
theorem dJ7_fill_53178_20 : decode cJ7_fill_53178 20 = .ok (.return_, 1) := by decide +kernel
