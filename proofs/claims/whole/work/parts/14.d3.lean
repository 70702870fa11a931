theorem dX9_init_0 : decode cX9_init 0 = .ok (.aload_n 0, 1) := by decide +kernel
theorem dX9_init_1 : decode cX9_init 1 = .ok (.invokespecial 1, 3) := by decide +kernel
theorem dX9_init_4 : decode cX9_init 4 = .ok (.aload_n 0, 1) := by decide +kernel
theorem dX9_init_5 : decode cX9_init 5 = .ok (.sipush 900, 3) := by decide +kernel
theorem dX9_init_8 : decode cX9_init 8 = .ok (.newarray .int, 2) := by decide +kernel
theorem dX9_init_10 : decode cX9_init 10 = .ok (.putfield 7, 3) := by decide +kernel
theorem dX9_init_13 : decode cX9_init 13 = .ok (.aload_n 0, 1) := by decide +kernel
theorem dX9_init_14 : decode cX9_init 14 = .ok (.bipush 83, 2) := by decide +kernel
theorem dX9_init_16 : decode cX9_init 16 = .ok (.newarray .int, 2) := by decide +kernel
theorem dX9_init_18 : decode cX9_init 18 = .ok (.putfield 13, 3) := by decide +kernel
theorem dX9_init_21 : decode cX9_init 21 = .ok (.aload_n 0, 1) := by decide +kernel
theorem dX9_init_22 : decode cX9_init 22 = .ok (.bipush 83, 2) := by decide +kernel
theorem dX9_init_24 : decode cX9_init 24 = .ok (.newarray .int, 2) := by decide +kernel
theorem dX9_init_26 : decode cX9_init 26 = .ok (.putfield 16, 3) := by decide +kernel
theorem dX9_init_29 : decode cX9_init 29 = .ok (.aload_n 0, 1) := by decide +kernel
theorem dX9_init_30 : decode cX9_init 30 = .ok (.bipush 18, 2) := by decide +kernel
theorem dX9_init_32 : decode cX9_init 32 = .ok (.newarray .int, 2) := by decide +kernel
theorem dX9_init_34 : decode cX9_init 34 = .ok (.putfield 19, 3) := by decide +kernel
theorem dX9_init_37 : decode cX9_init 37 = .ok (.aload_n 0, 1) := by decide +kernel
theorem dX9_init_38 : decode cX9_init 38 = .ok (.bipush 18, 2) := by decide +kernel
theorem dX9_init_40 : decode cX9_init 40 = .ok (.newarray .int, 2) := by decide +kernel
theorem dX9_init_42 : decode cX9_init 42 = .ok (.putfield 22, 3) := by decide +kernel
theorem dX9_init_45 : decode cX9_init 45 = .ok (.aload_n 0, 1) := by decide +kernel
theorem dX9_init_46 : decode cX9_init 46 = .ok (.bipush 18, 2) := by decide +kernel
theorem dX9_init_48 : decode cX9_init 48 = .ok (.newarray .int, 2) := by decide +kernel
theorem dX9_init_50 : decode cX9_init 50 = .ok (.putfield 25, 3) := by decide +kernel
theorem dX9_init_53 : decode cX9_init 53 = .ok (.aload_n 0, 1) := by decide +kernel
theorem dX9_init_54 : decode cX9_init 54 = .ok (.sipush 216, 3) := by decide +kernel
theorem dX9_init_57 : decode cX9_init 57 = .ok (.newarray .int, 2) := by decide +kernel
theorem dX9_init_59 : decode cX9_init 59 = .ok (.putfield 28, 3) := by decide +kernel
theorem dX9_init_62 : decode cX9_init 62 = .ok (.aload_n 0, 1) := by decide +kernel
theorem dX9_init_63 : decode cX9_init 63 = .ok (.iconst (-1), 1) := by decide +kernel
theorem dX9_init_64 : decode cX9_init 64 = .ok (.putfield 31, 3) := by decide +kernel
theorem dX9_init_67 : decode cX9_init 67 = .ok (.aload_n 0, 1) := by decide +kernel
theorem dX9_init_68 : decode cX9_init 68 = .ok (.bipush 12, 2) := by decide +kernel
theorem dX9_init_70 : decode cX9_init 70 = .ok (.newarray .int, 2) := by decide +kernel
theorem dX9_init_72 : decode cX9_init 72 = .ok (.putfield 35, 3) := by decide +kernel
theorem dX9_init_75 : decode cX9_init 75 = .ok (.aload_n 0, 1) := by decide +kernel
theorem dX9_init_76 : decode cX9_init 76 = .ok (.bipush 64, 2) := by decide +kernel
theorem dX9_init_78 : decode cX9_init 78 = .ok (.newarray .int, 2) := by decide +kernel
theorem dX9_init_80 : decode cX9_init 80 = .ok (.putfield 38, 3) := by decide +kernel
theorem dX9_init_83 : decode cX9_init 83 = .ok (.aload_n 0, 1) := by decide +kernel
theorem dX9_init_84 : decode cX9_init 84 = .ok (.bipush 7, 2) := by decide +kernel
theorem dX9_init_86 : decode cX9_init 86 = .ok (.newarray .int, 2) := by decide +kernel
theorem dX9_init_88 : decode cX9_init 88 = .ok (.putfield 41, 3) := by decide +kernel
theorem dX9_init_91 : decode cX9_init 91 = .ok (.aload_n 0, 1) := by decide +kernel
theorem dX9_init_92 : decode cX9_init 92 = .ok (.bipush 7, 2) := by decide +kernel
theorem dX9_init_94 : decode cX9_init 94 = .ok (.newarray .int, 2) := by decide +kernel
theorem dX9_init_96 : decode cX9_init 96 = .ok (.putfield 44, 3) := by decide +kernel
theorem dX9_init_99 : decode cX9_init 99 = .ok (.aload_n 0, 1) := by decide +kernel
theorem dX9_init_100 : decode cX9_init 100 = .ok (.bipush 7, 2) := by decide +kernel
theorem dX9_init_102 : decode cX9_init 102 = .ok (.newarray .int, 2) := by decide +kernel
theorem dX9_init_104 : decode cX9_init 104 = .ok (.putfield 47, 3) := by decide +kernel
theorem dX9_init_107 : decode cX9_init 107 = .ok (.aload_n 0, 1) := by decide +kernel
theorem dX9_init_108 : decode cX9_init 108 = .ok (.invokevirtual 50, 3) := by decide +kernel
theorem dX9_init_111 : decode cX9_init 111 = .ok (.return_, 1) := by decide +kernel
theorem dX9_thrown_0 : decode cX9_thrown 0 = .ok (.aload_n 0, 1) := by decide +kernel
theorem dX9_thrown_1 : decode cX9_thrown 1 = .ok (.getfield 53, 3) := by decide +kernel
theorem dX9_thrown_4 : decode cX9_thrown 4 = .ok (.ireturn, 1) := by decide +kernel
theorem dX9_feed_0 : decode cX9_feed 0 = .ok (.aload_n 0, 1) := by decide +kernel
theorem dX9_feed_1 : decode cX9_feed 1 = .ok (.iconst 0, 1) := by decide +kernel
theorem dX9_feed_2 : decode cX9_feed 2 = .ok (.putfield 53, 3) := by decide +kernel
theorem dX9_feed_5 : decode cX9_feed 5 = .ok (.aload_n 0, 1) := by decide +kernel
theorem dX9_feed_6 : decode cX9_feed 6 = .ok (.getfield 56, 3) := by decide +kernel
theorem dX9_feed_9 : decode cX9_feed 9 = .ok (.bipush 20, 2) := by decide +kernel
theorem dX9_feed_11 : decode cX9_feed 11 = .ok (.iadd, 1) := by decide +kernel
theorem dX9_feed_12 : decode cX9_feed 12 = .ok (.sipush 900, 3) := by decide +kernel
theorem dX9_feed_15 : decode cX9_feed 15 = .ok (.if_icmp .le 6, 3) := by decide +kernel
theorem dX9_feed_18 : decode cX9_feed 18 = .ok (.bipush (-3), 2) := by decide +kernel
theorem dX9_feed_20 : decode cX9_feed 20 = .ok (.ireturn, 1) := by decide +kernel
theorem dX9_feed_21 : decode cX9_feed 21 = .ok (.iconst 0, 1) := by decide +kernel
theorem dX9_feed_22 : decode cX9_feed 22 = .ok (.istore 6, 2) := by decide +kernel
theorem dX9_feed_24 : decode cX9_feed 24 = .ok (.iload 6, 2) := by decide +kernel
theorem dX9_feed_26 : decode cX9_feed 26 = .ok (.bipush 20, 2) := by decide +kernel
theorem dX9_feed_28 : decode cX9_feed 28 = .ok (.if_icmp .ge 86, 3) := by decide +kernel
theorem dX9_feed_31 : decode cX9_feed 31 = .ok (.iload 6, 2) := by decide +kernel
theorem dX9_feed_33 : decode cX9_feed 33 = .ok (.iconst 4, 1) := by decide +kernel
theorem dX9_feed_34 : decode cX9_feed 34 = .ok (.if_icmp .ge 7, 3) := by decide +kernel
theorem dX9_feed_37 : decode cX9_feed 37 = .ok (.iload_n 1, 1) := by decide +kernel
theorem dX9_feed_38 : decode cX9_feed 38 = .ok (.goto 39, 3) := by decide +kernel
theorem dX9_feed_41 : decode cX9_feed 41 = .ok (.iload 6, 2) := by decide +kernel
theorem dX9_feed_43 : decode cX9_feed 43 = .ok (.bipush 8, 2) := by decide +kernel
theorem dX9_feed_45 : decode cX9_feed 45 = .ok (.if_icmp .ge 7, 3) := by decide +kernel
theorem dX9_feed_48 : decode cX9_feed 48 = .ok (.iload_n 2, 1) := by decide +kernel
theorem dX9_feed_49 : decode cX9_feed 49 = .ok (.goto 28, 3) := by decide +kernel
theorem dX9_feed_52 : decode cX9_feed 52 = .ok (.iload 6, 2) := by decide +kernel
theorem dX9_feed_54 : decode cX9_feed 54 = .ok (.bipush 12, 2) := by decide +kernel
theorem dX9_feed_56 : decode cX9_feed 56 = .ok (.if_icmp .ge 7, 3) := by decide +kernel
theorem dX9_feed_59 : decode cX9_feed 59 = .ok (.iload_n 3, 1) := by decide +kernel
theorem dX9_feed_60 : decode cX9_feed 60 = .ok (.goto 17, 3) := by decide +kernel
theorem dX9_feed_63 : decode cX9_feed 63 = .ok (.iload 6, 2) := by decide +kernel
theorem dX9_feed_65 : decode cX9_feed 65 = .ok (.bipush 16, 2) := by decide +kernel
theorem dX9_feed_67 : decode cX9_feed 67 = .ok (.if_icmp .ge 8, 3) := by decide +kernel
theorem dX9_feed_70 : decode cX9_feed 70 = .ok (.iload 4, 2) := by decide +kernel
theorem dX9_feed_72 : decode cX9_feed 72 = .ok (.goto 5, 3) := by decide +kernel
theorem dX9_feed_75 : decode cX9_feed 75 = .ok (.iload 5, 2) := by decide +kernel
theorem dX9_feed_77 : decode cX9_feed 77 = .ok (.istore 7, 2) := by decide +kernel
theorem dX9_feed_79 : decode cX9_feed 79 = .ok (.aload_n 0, 1) := by decide +kernel
theorem dX9_feed_80 : decode cX9_feed 80 = .ok (.getfield 7, 3) := by decide +kernel
theorem dX9_feed_83 : decode cX9_feed 83 = .ok (.aload_n 0, 1) := by decide +kernel
theorem dX9_feed_84 : decode cX9_feed 84 = .ok (.getfield 56, 3) := by decide +kernel
theorem dX9_feed_87 : decode cX9_feed 87 = .ok (.iload 6, 2) := by decide +kernel
theorem dX9_feed_89 : decode cX9_feed 89 = .ok (.iadd, 1) := by decide +kernel
theorem dX9_feed_90 : decode cX9_feed 90 = .ok (.iload 7, 2) := by decide +kernel
theorem dX9_feed_92 : decode cX9_feed 92 = .ok (.bipush 24, 2) := by decide +kernel
theorem dX9_feed_94 : decode cX9_feed 94 = .ok (.bipush 8, 2) := by decide +kernel
theorem dX9_feed_96 : decode cX9_feed 96 = .ok (.iload 6, 2) := by decide +kernel
theorem dX9_feed_98 : decode cX9_feed 98 = .ok (.iconst 4, 1) := by decide +kernel
theorem dX9_feed_99 : decode cX9_feed 99 = .ok (.irem, 1) := by decide +kernel
theorem dX9_feed_100 : decode cX9_feed 100 = .ok (.imul, 1) := by decide +kernel
theorem dX9_feed_101 : decode cX9_feed 101 = .ok (.isub, 1) := by decide +kernel
theorem dX9_feed_102 : decode cX9_feed 102 = .ok (.ishr, 1) := by decide +kernel
theorem dX9_feed_103 : decode cX9_feed 103 = .ok (.sipush 255, 3) := by decide +kernel
theorem dX9_feed_106 : decode cX9_feed 106 = .ok (.iand, 1) := by decide +kernel
theorem dX9_feed_107 : decode cX9_feed 107 = .ok (.iastore, 1) := by decide +kernel
theorem dX9_feed_108 : decode cX9_feed 108 = .ok (.iinc 6 1, 3) := by decide +kernel
theorem dX9_feed_111 : decode cX9_feed 111 = .ok (.goto (-87), 3) := by decide +kernel
theorem dX9_feed_114 : decode cX9_feed 114 = .ok (.aload_n 0, 1) := by decide +kernel
theorem dX9_feed_115 : decode cX9_feed 115 = .ok (.dup, 1) := by decide +kernel
theorem dX9_feed_116 : decode cX9_feed 116 = .ok (.getfield 56, 3) := by decide +kernel
theorem dX9_feed_119 : decode cX9_feed 119 = .ok (.bipush 20, 2) := by decide +kernel
theorem dX9_feed_121 : decode cX9_feed 121 = .ok (.iadd, 1) := by decide +kernel
theorem dX9_feed_122 : decode cX9_feed 122 = .ok (.putfield 56, 3) := by decide +kernel
theorem dX9_feed_125 : decode cX9_feed 125 = .ok (.aload_n 0, 1) := by decide +kernel
theorem dX9_feed_126 : decode cX9_feed 126 = .ok (.getfield 56, 3) := by decide +kernel
theorem dX9_feed_129 : decode cX9_feed 129 = .ok (.ireturn, 1) := by decide +kernel
theorem dX9_copies_0 : decode cX9_copies 0 = .ok (.iconst 0, 1) := by decide +kernel
theorem dX9_copies_1 : decode cX9_copies 1 = .ok (.istore_n 2, 1) := by decide +kernel
theorem dX9_copies_2 : decode cX9_copies 2 = .ok (.iload_n 2, 1) := by decide +kernel
theorem dX9_copies_3 : decode cX9_copies 3 = .ok (.aload_n 0, 1) := by decide +kernel
theorem dX9_copies_4 : decode cX9_copies 4 = .ok (.arraylength, 1) := by decide +kernel
theorem dX9_copies_5 : decode cX9_copies 5 = .ok (.if_icmp .ge 15, 3) := by decide +kernel
theorem dX9_copies_8 : decode cX9_copies 8 = .ok (.aload_n 1, 1) := by decide +kernel
theorem dX9_copies_9 : decode cX9_copies 9 = .ok (.iload_n 2, 1) := by decide +kernel
theorem dX9_copies_10 : decode cX9_copies 10 = .ok (.aload_n 0, 1) := by decide +kernel
theorem dX9_copies_11 : decode cX9_copies 11 = .ok (.iload_n 2, 1) := by decide +kernel
theorem dX9_copies_12 : decode cX9_copies 12 = .ok (.iaload, 1) := by decide +kernel
theorem dX9_copies_13 : decode cX9_copies 13 = .ok (.iastore, 1) := by decide +kernel
theorem dX9_copies_14 : decode cX9_copies 14 = .ok (.iinc 2 1, 3) := by decide +kernel
theorem dX9_copies_17 : decode cX9_copies 17 = .ok (.goto (-15), 3) := by decide +kernel
theorem dX9_copies_20 : decode cX9_copies 20 = .ok (.return_, 1) := by decide +kernel
theorem dX9_newFilm_0 : decode cX9_newFilm 0 = .ok (.iconst 0, 1) := by decide +kernel
theorem dX9_newFilm_1 : decode cX9_newFilm 1 = .ok (.istore_n 1, 1) := by decide +kernel
theorem dX9_newFilm_2 : decode cX9_newFilm 2 = .ok (.iload_n 1, 1) := by decide +kernel
theorem dX9_newFilm_3 : decode cX9_newFilm 3 = .ok (.bipush 83, 2) := by decide +kernel
theorem dX9_newFilm_5 : decode cX9_newFilm 5 = .ok (.if_icmp .ge 16, 3) := by decide +kernel
theorem dX9_newFilm_8 : decode cX9_newFilm 8 = .ok (.aload_n 0, 1) := by decide +kernel
theorem dX9_newFilm_9 : decode cX9_newFilm 9 = .ok (.getfield 13, 3) := by decide +kernel
theorem dX9_newFilm_12 : decode cX9_newFilm 12 = .ok (.iload_n 1, 1) := by decide +kernel
theorem dX9_newFilm_13 : decode cX9_newFilm 13 = .ok (.iconst 0, 1) := by decide +kernel
theorem dX9_newFilm_14 : decode cX9_newFilm 14 = .ok (.iastore, 1) := by decide +kernel
theorem dX9_newFilm_15 : decode cX9_newFilm 15 = .ok (.iinc 1 1, 3) := by decide +kernel
theorem dX9_newFilm_18 : decode cX9_newFilm 18 = .ok (.goto (-16), 3) := by decide +kernel
theorem dX9_newFilm_21 : decode cX9_newFilm 21 = .ok (.iconst 0, 1) := by decide +kernel
theorem dX9_newFilm_22 : decode cX9_newFilm 22 = .ok (.istore_n 1, 1) := by decide +kernel
theorem dX9_newFilm_23 : decode cX9_newFilm 23 = .ok (.iload_n 1, 1) := by decide +kernel
theorem dX9_newFilm_24 : decode cX9_newFilm 24 = .ok (.bipush 18, 2) := by decide +kernel
theorem dX9_newFilm_26 : decode cX9_newFilm 26 = .ok (.if_icmp .ge 16, 3) := by decide +kernel
theorem dX9_newFilm_29 : decode cX9_newFilm 29 = .ok (.aload_n 0, 1) := by decide +kernel
theorem dX9_newFilm_30 : decode cX9_newFilm 30 = .ok (.getfield 19, 3) := by decide +kernel
theorem dX9_newFilm_33 : decode cX9_newFilm 33 = .ok (.iload_n 1, 1) := by decide +kernel
theorem dX9_newFilm_34 : decode cX9_newFilm 34 = .ok (.iconst (-1), 1) := by decide +kernel
theorem dX9_newFilm_35 : decode cX9_newFilm 35 = .ok (.iastore, 1) := by decide +kernel
theorem dX9_newFilm_36 : decode cX9_newFilm 36 = .ok (.iinc 1 1, 3) := by decide +kernel
theorem dX9_newFilm_39 : decode cX9_newFilm 39 = .ok (.goto (-16), 3) := by decide +kernel
theorem dX9_newFilm_42 : decode cX9_newFilm 42 = .ok (.aload_n 0, 1) := by decide +kernel
theorem dX9_newFilm_43 : decode cX9_newFilm 43 = .ok (.getfield 19, 3) := by decide +kernel
theorem dX9_newFilm_46 : decode cX9_newFilm 46 = .ok (.iconst 0, 1) := by decide +kernel
theorem dX9_newFilm_47 : decode cX9_newFilm 47 = .ok (.bipush 24, 2) := by decide +kernel
theorem dX9_newFilm_49 : decode cX9_newFilm 49 = .ok (.iastore, 1) := by decide +kernel
theorem dX9_newFilm_50 : decode cX9_newFilm 50 = .ok (.aload_n 0, 1) := by decide +kernel
theorem dX9_newFilm_51 : decode cX9_newFilm 51 = .ok (.getfield 19, 3) := by decide +kernel
theorem dX9_newFilm_54 : decode cX9_newFilm 54 = .ok (.iconst 1, 1) := by decide +kernel
theorem dX9_newFilm_55 : decode cX9_newFilm 55 = .ok (.bipush 100, 2) := by decide +kernel
theorem dX9_newFilm_57 : decode cX9_newFilm 57 = .ok (.iastore, 1) := by decide +kernel
theorem dX9_newFilm_58 : decode cX9_newFilm 58 = .ok (.aload_n 0, 1) := by decide +kernel
theorem dX9_newFilm_59 : decode cX9_newFilm 59 = .ok (.getfield 19, 3) := by decide +kernel
theorem dX9_newFilm_62 : decode cX9_newFilm 62 = .ok (.iconst 2, 1) := by decide +kernel
theorem dX9_newFilm_63 : decode cX9_newFilm 63 = .ok (.bipush 50, 2) := by decide +kernel
theorem dX9_newFilm_65 : decode cX9_newFilm 65 = .ok (.iastore, 1) := by decide +kernel
theorem dX9_newFilm_66 : decode cX9_newFilm 66 = .ok (.aload_n 0, 1) := by decide +kernel
theorem dX9_newFilm_67 : decode cX9_newFilm 67 = .ok (.getfield 19, 3) := by decide +kernel
theorem dX9_newFilm_70 : decode cX9_newFilm 70 = .ok (.iconst 3, 1) := by decide +kernel
theorem dX9_newFilm_71 : decode cX9_newFilm 71 = .ok (.iconst 4, 1) := by decide +kernel
theorem dX9_newFilm_72 : decode cX9_newFilm 72 = .ok (.iastore, 1) := by decide +kernel
theorem dX9_newFilm_73 : decode cX9_newFilm 73 = .ok (.return_, 1) := by decide +kernel
theorem dX9_leastOf_0 : decode cX9_leastOf 0 = .ok (.iload_n 0, 1) := by decide +kernel
theorem dX9_leastOf_1 : decode cX9_leastOf 1 = .ok (.ifCond .eq 8, 3) := by decide +kernel
theorem dX9_leastOf_4 : decode cX9_leastOf 4 = .ok (.iload_n 0, 1) := by decide +kernel
theorem dX9_leastOf_5 : decode cX9_leastOf 5 = .ok (.iconst 3, 1) := by decide +kernel
theorem dX9_leastOf_6 : decode cX9_leastOf 6 = .ok (.if_icmp .ne 7, 3) := by decide +kernel
theorem dX9_leastOf_9 : decode cX9_leastOf 9 = .ok (.iconst 1, 1) := by decide +kernel
theorem dX9_leastOf_10 : decode cX9_leastOf 10 = .ok (.goto 4, 3) := by decide +kernel
theorem dX9_leastOf_13 : decode cX9_leastOf 13 = .ok (.iconst 0, 1) := by decide +kernel
theorem dX9_leastOf_14 : decode cX9_leastOf 14 = .ok (.ireturn, 1) := by decide +kernel
theorem dX9_mostOf_0 : decode cX9_mostOf 0 = .ok (.iload_n 0, 1) := by decide +kernel
theorem dX9_mostOf_1 : decode cX9_mostOf 1 = .ok (.tableswitch 37 0 2 #[27, 30, 34], 27) := by decide +kernel
theorem dX9_mostOf_28 : decode cX9_mostOf 28 = .ok (.bipush 99, 2) := by decide +kernel
theorem dX9_mostOf_30 : decode cX9_mostOf 30 = .ok (.ireturn, 1) := by decide +kernel
theorem dX9_mostOf_31 : decode cX9_mostOf 31 = .ok (.sipush 9999, 3) := by decide +kernel
theorem dX9_mostOf_34 : decode cX9_mostOf 34 = .ok (.ireturn, 1) := by decide +kernel
theorem dX9_mostOf_35 : decode cX9_mostOf 35 = .ok (.bipush 100, 2) := by decide +kernel
theorem dX9_mostOf_37 : decode cX9_mostOf 37 = .ok (.ireturn, 1) := by decide +kernel
theorem dX9_mostOf_38 : decode cX9_mostOf 38 = .ok (.bipush 12, 2) := by decide +kernel
theorem dX9_mostOf_40 : decode cX9_mostOf 40 = .ok (.ireturn, 1) := by decide +kernel
theorem dX9_isOn_0 : decode cX9_isOn 0 = .ok (.aload_n 0, 1) := by decide +kernel
theorem dX9_isOn_1 : decode cX9_isOn 1 = .ok (.getfield 19, 3) := by decide +kernel
theorem dX9_isOn_4 : decode cX9_isOn 4 = .ok (.iconst 4, 1) := by decide +kernel
theorem dX9_isOn_5 : decode cX9_isOn 5 = .ok (.iload_n 1, 1) := by decide +kernel
theorem dX9_isOn_6 : decode cX9_isOn 6 = .ok (.iadd, 1) := by decide +kernel
theorem dX9_isOn_7 : decode cX9_isOn 7 = .ok (.iaload, 1) := by decide +kernel
theorem dX9_isOn_8 : decode cX9_isOn 8 = .ok (.iload_n 2, 1) := by decide +kernel
theorem dX9_isOn_9 : decode cX9_isOn 9 = .ok (.if_icmp .ne 7, 3) := by decide +kernel
theorem dX9_isOn_12 : decode cX9_isOn 12 = .ok (.iconst 1, 1) := by decide +kernel
theorem dX9_isOn_13 : decode cX9_isOn 13 = .ok (.goto 4, 3) := by decide +kernel
theorem dX9_isOn_16 : decode cX9_isOn 16 = .ok (.iconst 0, 1) := by decide +kernel
theorem dX9_isOn_17 : decode cX9_isOn 17 = .ok (.ireturn, 1) := by decide +kernel
theorem dX9_scenesOf_0 : decode cX9_scenesOf 0 = .ok (.iconst 0, 1) := by decide +kernel
theorem dX9_scenesOf_1 : decode cX9_scenesOf 1 = .ok (.istore_n 2, 1) := by decide +kernel
theorem dX9_scenesOf_2 : decode cX9_scenesOf 2 = .ok (.iconst 0, 1) := by decide +kernel
theorem dX9_scenesOf_3 : decode cX9_scenesOf 3 = .ok (.istore_n 3, 1) := by decide +kernel
theorem dX9_scenesOf_4 : decode cX9_scenesOf 4 = .ok (.iload_n 3, 1) := by decide +kernel
theorem dX9_scenesOf_5 : decode cX9_scenesOf 5 = .ok (.aload_n 0, 1) := by decide +kernel
theorem dX9_scenesOf_6 : decode cX9_scenesOf 6 = .ok (.getfield 13, 3) := by decide +kernel
theorem dX9_scenesOf_9 : decode cX9_scenesOf 9 = .ok (.bipush 82, 2) := by decide +kernel
theorem dX9_scenesOf_11 : decode cX9_scenesOf 11 = .ok (.iaload, 1) := by decide +kernel
theorem dX9_scenesOf_12 : decode cX9_scenesOf 12 = .ok (.if_icmp .ge 28, 3) := by decide +kernel
theorem dX9_scenesOf_15 : decode cX9_scenesOf 15 = .ok (.iload_n 2, 1) := by decide +kernel
theorem dX9_scenesOf_16 : decode cX9_scenesOf 16 = .ok (.aload_n 0, 1) := by decide +kernel
theorem dX9_scenesOf_17 : decode cX9_scenesOf 17 = .ok (.iload_n 3, 1) := by decide +kernel
theorem dX9_scenesOf_18 : decode cX9_scenesOf 18 = .ok (.iload_n 1, 1) := by decide +kernel
theorem dX9_scenesOf_19 : decode cX9_scenesOf 19 = .ok (.invokevirtual 59, 3) := by decide +kernel
theorem dX9_scenesOf_22 : decode cX9_scenesOf 22 = .ok (.ifCond .eq 9, 3) := by decide +kernel
theorem dX9_scenesOf_25 : decode cX9_scenesOf 25 = .ok (.iconst 1, 1) := by decide +kernel
theorem dX9_scenesOf_26 : decode cX9_scenesOf 26 = .ok (.iload_n 3, 1) := by decide +kernel
theorem dX9_scenesOf_27 : decode cX9_scenesOf 27 = .ok (.ishl, 1) := by decide +kernel
theorem dX9_scenesOf_28 : decode cX9_scenesOf 28 = .ok (.goto 4, 3) := by decide +kernel
theorem dX9_scenesOf_31 : decode cX9_scenesOf 31 = .ok (.iconst 0, 1) := by decide +kernel
theorem dX9_scenesOf_32 : decode cX9_scenesOf 32 = .ok (.ior, 1) := by decide +kernel
theorem dX9_scenesOf_33 : decode cX9_scenesOf 33 = .ok (.istore_n 2, 1) := by decide +kernel
theorem dX9_scenesOf_34 : decode cX9_scenesOf 34 = .ok (.iinc 3 1, 3) := by decide +kernel
theorem dX9_scenesOf_37 : decode cX9_scenesOf 37 = .ok (.goto (-33), 3) := by decide +kernel
theorem dX9_scenesOf_40 : decode cX9_scenesOf 40 = .ok (.iload_n 2, 1) := by decide +kernel
theorem dX9_scenesOf_41 : decode cX9_scenesOf 41 = .ok (.ireturn, 1) := by decide +kernel
theorem dX9_anyOf_0 : decode cX9_anyOf 0 = .ok (.iconst 0, 1) := by decide +kernel
theorem dX9_anyOf_1 : decode cX9_anyOf 1 = .ok (.istore_n 2, 1) := by decide +kernel
theorem dX9_anyOf_2 : decode cX9_anyOf 2 = .ok (.iload_n 2, 1) := by decide +kernel
theorem dX9_anyOf_3 : decode cX9_anyOf 3 = .ok (.aload_n 0, 1) := by decide +kernel
theorem dX9_anyOf_4 : decode cX9_anyOf 4 = .ok (.getfield 13, 3) := by decide +kernel
theorem dX9_anyOf_7 : decode cX9_anyOf 7 = .ok (.bipush 82, 2) := by decide +kernel
theorem dX9_anyOf_9 : decode cX9_anyOf 9 = .ok (.iaload, 1) := by decide +kernel
theorem dX9_anyOf_10 : decode cX9_anyOf 10 = .ok (.if_icmp .ge 20, 3) := by decide +kernel
theorem dX9_anyOf_13 : decode cX9_anyOf 13 = .ok (.aload_n 0, 1) := by decide +kernel
theorem dX9_anyOf_14 : decode cX9_anyOf 14 = .ok (.iload_n 2, 1) := by decide +kernel
theorem dX9_anyOf_15 : decode cX9_anyOf 15 = .ok (.iload_n 1, 1) := by decide +kernel
theorem dX9_anyOf_16 : decode cX9_anyOf 16 = .ok (.invokevirtual 59, 3) := by decide +kernel
theorem dX9_anyOf_19 : decode cX9_anyOf 19 = .ok (.ifCond .eq 5, 3) := by decide +kernel
theorem dX9_anyOf_22 : decode cX9_anyOf 22 = .ok (.iload_n 2, 1) := by decide +kernel
theorem dX9_anyOf_23 : decode cX9_anyOf 23 = .ok (.ireturn, 1) := by decide +kernel
theorem dX9_anyOf_24 : decode cX9_anyOf 24 = .ok (.iinc 2 1, 3) := by decide +kernel
theorem dX9_anyOf_27 : decode cX9_anyOf 27 = .ok (.goto (-25), 3) := by decide +kernel
theorem dX9_anyOf_30 : decode cX9_anyOf 30 = .ok (.iconst (-1), 1) := by decide +kernel
theorem dX9_anyOf_31 : decode cX9_anyOf 31 = .ok (.ireturn, 1) := by decide +kernel
theorem dX9_placeOf_0 : decode cX9_placeOf 0 = .ok (.aload_n 0, 1) := by decide +kernel
theorem dX9_placeOf_1 : decode cX9_placeOf 1 = .ok (.iload_n 1, 1) := by decide +kernel
theorem dX9_placeOf_2 : decode cX9_placeOf 2 = .ok (.invokevirtual 63, 3) := by decide +kernel
theorem dX9_placeOf_5 : decode cX9_placeOf 5 = .ok (.istore_n 2, 1) := by decide +kernel
theorem dX9_placeOf_6 : decode cX9_placeOf 6 = .ok (.iload_n 2, 1) := by decide +kernel
theorem dX9_placeOf_7 : decode cX9_placeOf 7 = .ok (.iconst (-1), 1) := by decide +kernel
theorem dX9_placeOf_8 : decode cX9_placeOf 8 = .ok (.if_icmp .ne 7, 3) := by decide +kernel
theorem dX9_placeOf_11 : decode cX9_placeOf 11 = .ok (.iconst (-1), 1) := by decide +kernel
theorem dX9_placeOf_12 : decode cX9_placeOf 12 = .ok (.goto 12, 3) := by decide +kernel
theorem dX9_placeOf_15 : decode cX9_placeOf 15 = .ok (.aload_n 0, 1) := by decide +kernel
theorem dX9_placeOf_16 : decode cX9_placeOf 16 = .ok (.getfield 13, 3) := by decide +kernel
theorem dX9_placeOf_19 : decode cX9_placeOf 19 = .ok (.bipush 24, 2) := by decide +kernel
theorem dX9_placeOf_21 : decode cX9_placeOf 21 = .ok (.iload_n 2, 1) := by decide +kernel
theorem dX9_placeOf_22 : decode cX9_placeOf 22 = .ok (.iadd, 1) := by decide +kernel
theorem dX9_placeOf_23 : decode cX9_placeOf 23 = .ok (.iaload, 1) := by decide +kernel
theorem dX9_placeOf_24 : decode cX9_placeOf 24 = .ok (.ireturn, 1) := by decide +kernel
theorem dX9_isNightOf_0 : decode cX9_isNightOf 0 = .ok (.aload_n 0, 1) := by decide +kernel
theorem dX9_isNightOf_1 : decode cX9_isNightOf 1 = .ok (.iload_n 1, 1) := by decide +kernel
theorem dX9_isNightOf_2 : decode cX9_isNightOf 2 = .ok (.invokevirtual 63, 3) := by decide +kernel
theorem dX9_isNightOf_5 : decode cX9_isNightOf 5 = .ok (.istore_n 2, 1) := by decide +kernel
theorem dX9_isNightOf_6 : decode cX9_isNightOf 6 = .ok (.iload_n 2, 1) := by decide +kernel
theorem dX9_isNightOf_7 : decode cX9_isNightOf 7 = .ok (.iconst (-1), 1) := by decide +kernel
theorem dX9_isNightOf_8 : decode cX9_isNightOf 8 = .ok (.if_icmp .eq 20, 3) := by decide +kernel
theorem dX9_isNightOf_11 : decode cX9_isNightOf 11 = .ok (.aload_n 0, 1) := by decide +kernel
theorem dX9_isNightOf_12 : decode cX9_isNightOf 12 = .ok (.getfield 13, 3) := by decide +kernel
theorem dX9_isNightOf_15 : decode cX9_isNightOf 15 = .ok (.bipush 52, 2) := by decide +kernel
theorem dX9_isNightOf_17 : decode cX9_isNightOf 17 = .ok (.iload_n 2, 1) := by decide +kernel
theorem dX9_isNightOf_18 : decode cX9_isNightOf 18 = .ok (.iadd, 1) := by decide +kernel
theorem dX9_isNightOf_19 : decode cX9_isNightOf 19 = .ok (.iaload, 1) := by decide +kernel
theorem dX9_isNightOf_20 : decode cX9_isNightOf 20 = .ok (.iconst 1, 1) := by decide +kernel
theorem dX9_isNightOf_21 : decode cX9_isNightOf 21 = .ok (.if_icmp .ne 7, 3) := by decide +kernel
theorem dX9_isNightOf_24 : decode cX9_isNightOf 24 = .ok (.iconst 1, 1) := by decide +kernel
theorem dX9_isNightOf_25 : decode cX9_isNightOf 25 = .ok (.goto 4, 3) := by decide +kernel
theorem dX9_isNightOf_28 : decode cX9_isNightOf 28 = .ok (.iconst 0, 1) := by decide +kernel
theorem dX9_isNightOf_29 : decode cX9_isNightOf 29 = .ok (.ireturn, 1) := by decide +kernel
theorem dX9_lengthOf_0 : decode cX9_lengthOf 0 = .ok (.iconst 0, 1) := by decide +kernel
theorem dX9_lengthOf_1 : decode cX9_lengthOf 1 = .ok (.istore_n 2, 1) := by decide +kernel
theorem dX9_lengthOf_2 : decode cX9_lengthOf 2 = .ok (.iconst 0, 1) := by decide +kernel
theorem dX9_lengthOf_3 : decode cX9_lengthOf 3 = .ok (.istore_n 3, 1) := by decide +kernel
theorem dX9_lengthOf_4 : decode cX9_lengthOf 4 = .ok (.iload_n 3, 1) := by decide +kernel
theorem dX9_lengthOf_5 : decode cX9_lengthOf 5 = .ok (.aload_n 0, 1) := by decide +kernel
theorem dX9_lengthOf_6 : decode cX9_lengthOf 6 = .ok (.getfield 13, 3) := by decide +kernel
theorem dX9_lengthOf_9 : decode cX9_lengthOf 9 = .ok (.bipush 82, 2) := by decide +kernel
theorem dX9_lengthOf_11 : decode cX9_lengthOf 11 = .ok (.iaload, 1) := by decide +kernel
theorem dX9_lengthOf_12 : decode cX9_lengthOf 12 = .ok (.if_icmp .ge 34, 3) := by decide +kernel
theorem dX9_lengthOf_15 : decode cX9_lengthOf 15 = .ok (.iload_n 2, 1) := by decide +kernel
theorem dX9_lengthOf_16 : decode cX9_lengthOf 16 = .ok (.aload_n 0, 1) := by decide +kernel
theorem dX9_lengthOf_17 : decode cX9_lengthOf 17 = .ok (.iload_n 3, 1) := by decide +kernel
theorem dX9_lengthOf_18 : decode cX9_lengthOf 18 = .ok (.iload_n 1, 1) := by decide +kernel
theorem dX9_lengthOf_19 : decode cX9_lengthOf 19 = .ok (.invokevirtual 59, 3) := by decide +kernel
theorem dX9_lengthOf_22 : decode cX9_lengthOf 22 = .ok (.ifCond .eq 15, 3) := by decide +kernel
theorem dX9_lengthOf_25 : decode cX9_lengthOf 25 = .ok (.aload_n 0, 1) := by decide +kernel
theorem dX9_lengthOf_26 : decode cX9_lengthOf 26 = .ok (.getfield 13, 3) := by decide +kernel
theorem dX9_lengthOf_29 : decode cX9_lengthOf 29 = .ok (.bipush 38, 2) := by decide +kernel
theorem dX9_lengthOf_31 : decode cX9_lengthOf 31 = .ok (.iload_n 3, 1) := by decide +kernel
theorem dX9_lengthOf_32 : decode cX9_lengthOf 32 = .ok (.iadd, 1) := by decide +kernel
theorem dX9_lengthOf_33 : decode cX9_lengthOf 33 = .ok (.iaload, 1) := by decide +kernel
theorem dX9_lengthOf_34 : decode cX9_lengthOf 34 = .ok (.goto 4, 3) := by decide +kernel
theorem dX9_lengthOf_37 : decode cX9_lengthOf 37 = .ok (.iconst 0, 1) := by decide +kernel
theorem dX9_lengthOf_38 : decode cX9_lengthOf 38 = .ok (.iadd, 1) := by decide +kernel
theorem dX9_lengthOf_39 : decode cX9_lengthOf 39 = .ok (.istore_n 2, 1) := by decide +kernel
theorem dX9_lengthOf_40 : decode cX9_lengthOf 40 = .ok (.iinc 3 1, 3) := by decide +kernel
theorem dX9_lengthOf_43 : decode cX9_lengthOf 43 = .ok (.goto (-39), 3) := by decide +kernel
theorem dX9_lengthOf_46 : decode cX9_lengthOf 46 = .ok (.iload_n 2, 1) := by decide +kernel
theorem dX9_lengthOf_47 : decode cX9_lengthOf 47 = .ok (.ireturn, 1) := by decide +kernel
theorem dX9_castOf_0 : decode cX9_castOf 0 = .ok (.iconst 0, 1) := by decide +kernel
theorem dX9_castOf_1 : decode cX9_castOf 1 = .ok (.istore_n 2, 1) := by decide +kernel
theorem dX9_castOf_2 : decode cX9_castOf 2 = .ok (.iconst 0, 1) := by decide +kernel
theorem dX9_castOf_3 : decode cX9_castOf 3 = .ok (.istore_n 3, 1) := by decide +kernel
theorem dX9_castOf_4 : decode cX9_castOf 4 = .ok (.iload_n 3, 1) := by decide +kernel
theorem dX9_castOf_5 : decode cX9_castOf 5 = .ok (.aload_n 0, 1) := by decide +kernel
theorem dX9_castOf_6 : decode cX9_castOf 6 = .ok (.getfield 13, 3) := by decide +kernel
theorem dX9_castOf_9 : decode cX9_castOf 9 = .ok (.bipush 82, 2) := by decide +kernel
theorem dX9_castOf_11 : decode cX9_castOf 11 = .ok (.iaload, 1) := by decide +kernel
theorem dX9_castOf_12 : decode cX9_castOf 12 = .ok (.if_icmp .ge 34, 3) := by decide +kernel
theorem dX9_castOf_15 : decode cX9_castOf 15 = .ok (.iload_n 2, 1) := by decide +kernel
theorem dX9_castOf_16 : decode cX9_castOf 16 = .ok (.aload_n 0, 1) := by decide +kernel
theorem dX9_castOf_17 : decode cX9_castOf 17 = .ok (.iload_n 3, 1) := by decide +kernel
theorem dX9_castOf_18 : decode cX9_castOf 18 = .ok (.iload_n 1, 1) := by decide +kernel
theorem dX9_castOf_19 : decode cX9_castOf 19 = .ok (.invokevirtual 59, 3) := by decide +kernel
theorem dX9_castOf_22 : decode cX9_castOf 22 = .ok (.ifCond .eq 15, 3) := by decide +kernel
theorem dX9_castOf_25 : decode cX9_castOf 25 = .ok (.aload_n 0, 1) := by decide +kernel
theorem dX9_castOf_26 : decode cX9_castOf 26 = .ok (.getfield 13, 3) := by decide +kernel
theorem dX9_castOf_29 : decode cX9_castOf 29 = .ok (.bipush 66, 2) := by decide +kernel
theorem dX9_castOf_31 : decode cX9_castOf 31 = .ok (.iload_n 3, 1) := by decide +kernel
theorem dX9_castOf_32 : decode cX9_castOf 32 = .ok (.iadd, 1) := by decide +kernel
theorem dX9_castOf_33 : decode cX9_castOf 33 = .ok (.iaload, 1) := by decide +kernel
theorem dX9_castOf_34 : decode cX9_castOf 34 = .ok (.goto 4, 3) := by decide +kernel
theorem dX9_castOf_37 : decode cX9_castOf 37 = .ok (.iconst 0, 1) := by decide +kernel
theorem dX9_castOf_38 : decode cX9_castOf 38 = .ok (.ior, 1) := by decide +kernel
theorem dX9_castOf_39 : decode cX9_castOf 39 = .ok (.istore_n 2, 1) := by decide +kernel
theorem dX9_castOf_40 : decode cX9_castOf 40 = .ok (.iinc 3 1, 3) := by decide +kernel
theorem dX9_castOf_43 : decode cX9_castOf 43 = .ok (.goto (-39), 3) := by decide +kernel
theorem dX9_castOf_46 : decode cX9_castOf 46 = .ok (.iload_n 2, 1) := by decide +kernel
theorem dX9_castOf_47 : decode cX9_castOf 47 = .ok (.ireturn, 1) := by decide +kernel
theorem dX9_isRested_0 : decode cX9_isRested 0 = .ok (.iconst 1, 1) := by decide +kernel
theorem dX9_isRested_1 : decode cX9_isRested 1 = .ok (.istore_n 1, 1) := by decide +kernel
theorem dX9_isRested_2 : decode cX9_isRested 2 = .ok (.iload_n 1, 1) := by decide +kernel
theorem dX9_isRested_3 : decode cX9_isRested 3 = .ok (.bipush 12, 2) := by decide +kernel
theorem dX9_isRested_5 : decode cX9_isRested 5 = .ok (.if_icmp .ge 45, 3) := by decide +kernel
theorem dX9_isRested_8 : decode cX9_isRested 8 = .ok (.aload_n 0, 1) := by decide +kernel
theorem dX9_isRested_9 : decode cX9_isRested 9 = .ok (.iload_n 1, 1) := by decide +kernel
theorem dX9_isRested_10 : decode cX9_isRested 10 = .ok (.iconst 1, 1) := by decide +kernel
theorem dX9_isRested_11 : decode cX9_isRested 11 = .ok (.isub, 1) := by decide +kernel
theorem dX9_isRested_12 : decode cX9_isRested 12 = .ok (.invokevirtual 67, 3) := by decide +kernel
theorem dX9_isRested_15 : decode cX9_isRested 15 = .ok (.ifCond .eq 29, 3) := by decide +kernel
theorem dX9_isRested_18 : decode cX9_isRested 18 = .ok (.aload_n 0, 1) := by decide +kernel
theorem dX9_isRested_19 : decode cX9_isRested 19 = .ok (.iload_n 1, 1) := by decide +kernel
theorem dX9_isRested_20 : decode cX9_isRested 20 = .ok (.invokevirtual 67, 3) := by decide +kernel
theorem dX9_isRested_23 : decode cX9_isRested 23 = .ok (.ifCond .ne 21, 3) := by decide +kernel
theorem dX9_isRested_26 : decode cX9_isRested 26 = .ok (.aload_n 0, 1) := by decide +kernel
theorem dX9_isRested_27 : decode cX9_isRested 27 = .ok (.iload_n 1, 1) := by decide +kernel
theorem dX9_isRested_28 : decode cX9_isRested 28 = .ok (.iconst 1, 1) := by decide +kernel
theorem dX9_isRested_29 : decode cX9_isRested 29 = .ok (.isub, 1) := by decide +kernel
theorem dX9_isRested_30 : decode cX9_isRested 30 = .ok (.invokevirtual 71, 3) := by decide +kernel
theorem dX9_isRested_33 : decode cX9_isRested 33 = .ok (.aload_n 0, 1) := by decide +kernel
theorem dX9_isRested_34 : decode cX9_isRested 34 = .ok (.iload_n 1, 1) := by decide +kernel
theorem dX9_isRested_35 : decode cX9_isRested 35 = .ok (.invokevirtual 71, 3) := by decide +kernel
theorem dX9_isRested_38 : decode cX9_isRested 38 = .ok (.iand, 1) := by decide +kernel
theorem dX9_isRested_39 : decode cX9_isRested 39 = .ok (.ifCond .eq 5, 3) := by decide +kernel
theorem dX9_isRested_42 : decode cX9_isRested 42 = .ok (.iconst 0, 1) := by decide +kernel
theorem dX9_isRested_43 : decode cX9_isRested 43 = .ok (.ireturn, 1) := by decide +kernel
theorem dX9_isRested_44 : decode cX9_isRested 44 = .ok (.iinc 1 1, 3) := by decide +kernel
theorem dX9_isRested_47 : decode cX9_isRested 47 = .ok (.goto (-45), 3) := by decide +kernel
theorem dX9_isRested_50 : decode cX9_isRested 50 = .ok (.iconst 1, 1) := by decide +kernel
theorem dX9_isRested_51 : decode cX9_isRested 51 = .ok (.ireturn, 1) := by decide +kernel
theorem dX9_reason_0 : decode cX9_reason 0 = .ok (.aload_n 0, 1) := by decide +kernel
theorem dX9_reason_1 : decode cX9_reason 1 = .ok (.getfield 19, 3) := by decide +kernel
theorem dX9_reason_4 : decode cX9_reason 4 = .ok (.iconst 4, 1) := by decide +kernel
theorem dX9_reason_5 : decode cX9_reason 5 = .ok (.iload_n 1, 1) := by decide +kernel
theorem dX9_reason_6 : decode cX9_reason 6 = .ok (.iadd, 1) := by decide +kernel
theorem dX9_reason_7 : decode cX9_reason 7 = .ok (.iaload, 1) := by decide +kernel
theorem dX9_reason_8 : decode cX9_reason 8 = .ok (.istore_n 3, 1) := by decide +kernel
theorem dX9_reason_9 : decode cX9_reason 9 = .ok (.aload_n 0, 1) := by decide +kernel
theorem dX9_reason_10 : decode cX9_reason 10 = .ok (.getfield 19, 3) := by decide +kernel
theorem dX9_reason_13 : decode cX9_reason 13 = .ok (.iconst 4, 1) := by decide +kernel
theorem dX9_reason_14 : decode cX9_reason 14 = .ok (.iload_n 1, 1) := by decide +kernel
theorem dX9_reason_15 : decode cX9_reason 15 = .ok (.iadd, 1) := by decide +kernel
theorem dX9_reason_16 : decode cX9_reason 16 = .ok (.iconst (-1), 1) := by decide +kernel
theorem dX9_reason_17 : decode cX9_reason 17 = .ok (.iastore, 1) := by decide +kernel
theorem dX9_reason_18 : decode cX9_reason 18 = .ok (.aload_n 0, 1) := by decide +kernel
theorem dX9_reason_19 : decode cX9_reason 19 = .ok (.iload_n 2, 1) := by decide +kernel
theorem dX9_reason_20 : decode cX9_reason 20 = .ok (.invokevirtual 63, 3) := by decide +kernel
theorem dX9_reason_23 : decode cX9_reason 23 = .ok (.istore 4, 2) := by decide +kernel
theorem dX9_reason_25 : decode cX9_reason 25 = .ok (.iconst 0, 1) := by decide +kernel
theorem dX9_reason_26 : decode cX9_reason 26 = .ok (.istore 5, 2) := by decide +kernel
theorem dX9_reason_28 : decode cX9_reason 28 = .ok (.iload 4, 2) := by decide +kernel
theorem dX9_reason_30 : decode cX9_reason 30 = .ok (.iconst (-1), 1) := by decide +kernel
theorem dX9_reason_31 : decode cX9_reason 31 = .ok (.if_icmp .eq 31, 3) := by decide +kernel
theorem dX9_reason_34 : decode cX9_reason 34 = .ok (.aload_n 0, 1) := by decide +kernel
theorem dX9_reason_35 : decode cX9_reason 35 = .ok (.getfield 13, 3) := by decide +kernel
theorem dX9_reason_38 : decode cX9_reason 38 = .ok (.bipush 24, 2) := by decide +kernel
theorem dX9_reason_40 : decode cX9_reason 40 = .ok (.iload 4, 2) := by decide +kernel
theorem dX9_reason_42 : decode cX9_reason 42 = .ok (.iadd, 1) := by decide +kernel
theorem dX9_reason_43 : decode cX9_reason 43 = .ok (.iaload, 1) := by decide +kernel
theorem dX9_reason_44 : decode cX9_reason 44 = .ok (.aload_n 0, 1) := by decide +kernel
theorem dX9_reason_45 : decode cX9_reason 45 = .ok (.getfield 13, 3) := by decide +kernel
theorem dX9_reason_48 : decode cX9_reason 48 = .ok (.bipush 24, 2) := by decide +kernel
theorem dX9_reason_50 : decode cX9_reason 50 = .ok (.iload_n 1, 1) := by decide +kernel
theorem dX9_reason_51 : decode cX9_reason 51 = .ok (.iadd, 1) := by decide +kernel
theorem dX9_reason_52 : decode cX9_reason 52 = .ok (.iaload, 1) := by decide +kernel
theorem dX9_reason_53 : decode cX9_reason 53 = .ok (.if_icmp .eq 9, 3) := by decide +kernel
theorem dX9_reason_56 : decode cX9_reason 56 = .ok (.iconst 1, 1) := by decide +kernel
theorem dX9_reason_57 : decode cX9_reason 57 = .ok (.istore 5, 2) := by decide +kernel
theorem dX9_reason_59 : decode cX9_reason 59 = .ok (.goto 64, 3) := by decide +kernel
theorem dX9_reason_62 : decode cX9_reason 62 = .ok (.iload 4, 2) := by decide +kernel
theorem dX9_reason_64 : decode cX9_reason 64 = .ok (.iconst (-1), 1) := by decide +kernel
theorem dX9_reason_65 : decode cX9_reason 65 = .ok (.if_icmp .eq 31, 3) := by decide +kernel
theorem dX9_reason_68 : decode cX9_reason 68 = .ok (.aload_n 0, 1) := by decide +kernel
theorem dX9_reason_69 : decode cX9_reason 69 = .ok (.getfield 13, 3) := by decide +kernel
theorem dX9_reason_72 : decode cX9_reason 72 = .ok (.bipush 52, 2) := by decide +kernel
theorem dX9_reason_74 : decode cX9_reason 74 = .ok (.iload 4, 2) := by decide +kernel
theorem dX9_reason_76 : decode cX9_reason 76 = .ok (.iadd, 1) := by decide +kernel
theorem dX9_reason_77 : decode cX9_reason 77 = .ok (.iaload, 1) := by decide +kernel
theorem dX9_reason_78 : decode cX9_reason 78 = .ok (.aload_n 0, 1) := by decide +kernel
theorem dX9_reason_79 : decode cX9_reason 79 = .ok (.getfield 13, 3) := by decide +kernel
theorem dX9_reason_82 : decode cX9_reason 82 = .ok (.bipush 52, 2) := by decide +kernel
theorem dX9_reason_84 : decode cX9_reason 84 = .ok (.iload_n 1, 1) := by decide +kernel
theorem dX9_reason_85 : decode cX9_reason 85 = .ok (.iadd, 1) := by decide +kernel
theorem dX9_reason_86 : decode cX9_reason 86 = .ok (.iaload, 1) := by decide +kernel
theorem dX9_reason_87 : decode cX9_reason 87 = .ok (.if_icmp .eq 9, 3) := by decide +kernel
theorem dX9_reason_90 : decode cX9_reason 90 = .ok (.iconst 2, 1) := by decide +kernel
theorem dX9_reason_91 : decode cX9_reason 91 = .ok (.istore 5, 2) := by decide +kernel
theorem dX9_reason_93 : decode cX9_reason 93 = .ok (.goto 30, 3) := by decide +kernel
theorem dX9_reason_96 : decode cX9_reason 96 = .ok (.aload_n 0, 1) := by decide +kernel
theorem dX9_reason_97 : decode cX9_reason 97 = .ok (.iload_n 2, 1) := by decide +kernel
theorem dX9_reason_98 : decode cX9_reason 98 = .ok (.invokevirtual 74, 3) := by decide +kernel
theorem dX9_reason_101 : decode cX9_reason 101 = .ok (.aload_n 0, 1) := by decide +kernel
theorem dX9_reason_102 : decode cX9_reason 102 = .ok (.getfield 13, 3) := by decide +kernel
theorem dX9_reason_105 : decode cX9_reason 105 = .ok (.bipush 38, 2) := by decide +kernel
theorem dX9_reason_107 : decode cX9_reason 107 = .ok (.iload_n 1, 1) := by decide +kernel
theorem dX9_reason_108 : decode cX9_reason 108 = .ok (.iadd, 1) := by decide +kernel
theorem dX9_reason_109 : decode cX9_reason 109 = .ok (.iaload, 1) := by decide +kernel
theorem dX9_reason_110 : decode cX9_reason 110 = .ok (.iadd, 1) := by decide +kernel
theorem dX9_reason_111 : decode cX9_reason 111 = .ok (.aload_n 0, 1) := by decide +kernel
theorem dX9_reason_112 : decode cX9_reason 112 = .ok (.getfield 19, 3) := by decide +kernel
theorem dX9_reason_115 : decode cX9_reason 115 = .ok (.iconst 0, 1) := by decide +kernel
theorem dX9_reason_116 : decode cX9_reason 116 = .ok (.iaload, 1) := by decide +kernel
theorem dX9_reason_117 : decode cX9_reason 117 = .ok (.if_icmp .le 6, 3) := by decide +kernel
theorem dX9_reason_120 : decode cX9_reason 120 = .ok (.iconst 3, 1) := by decide +kernel
theorem dX9_reason_121 : decode cX9_reason 121 = .ok (.istore 5, 2) := by decide +kernel
theorem dX9_reason_123 : decode cX9_reason 123 = .ok (.iload 5, 2) := by decide +kernel
theorem dX9_reason_125 : decode cX9_reason 125 = .ok (.ifCond .ne 26, 3) := by decide +kernel
theorem dX9_reason_128 : decode cX9_reason 128 = .ok (.aload_n 0, 1) := by decide +kernel
theorem dX9_reason_129 : decode cX9_reason 129 = .ok (.getfield 19, 3) := by decide +kernel
theorem dX9_reason_132 : decode cX9_reason 132 = .ok (.iconst 4, 1) := by decide +kernel
theorem dX9_reason_133 : decode cX9_reason 133 = .ok (.iload_n 1, 1) := by decide +kernel
theorem dX9_reason_134 : decode cX9_reason 134 = .ok (.iadd, 1) := by decide +kernel
theorem dX9_reason_135 : decode cX9_reason 135 = .ok (.iload_n 2, 1) := by decide +kernel
theorem dX9_reason_136 : decode cX9_reason 136 = .ok (.iastore, 1) := by decide +kernel
theorem dX9_reason_137 : decode cX9_reason 137 = .ok (.aload_n 0, 1) := by decide +kernel
theorem dX9_reason_138 : decode cX9_reason 138 = .ok (.invokevirtual 77, 3) := by decide +kernel
theorem dX9_reason_141 : decode cX9_reason 141 = .ok (.ifCond .eq 7, 3) := by decide +kernel
theorem dX9_reason_144 : decode cX9_reason 144 = .ok (.iconst 0, 1) := by decide +kernel
theorem dX9_reason_145 : decode cX9_reason 145 = .ok (.goto 4, 3) := by decide +kernel
theorem dX9_reason_148 : decode cX9_reason 148 = .ok (.iconst 4, 1) := by decide +kernel
theorem dX9_reason_149 : decode cX9_reason 149 = .ok (.istore 5, 2) := by decide +kernel
theorem dX9_reason_151 : decode cX9_reason 151 = .ok (.aload_n 0, 1) := by decide +kernel
theorem dX9_reason_152 : decode cX9_reason 152 = .ok (.getfield 19, 3) := by decide +kernel
theorem dX9_reason_155 : decode cX9_reason 155 = .ok (.iconst 4, 1) := by decide +kernel
theorem dX9_reason_156 : decode cX9_reason 156 = .ok (.iload_n 1, 1) := by decide +kernel
theorem dX9_reason_157 : decode cX9_reason 157 = .ok (.iadd, 1) := by decide +kernel
theorem dX9_reason_158 : decode cX9_reason 158 = .ok (.iload_n 3, 1) := by decide +kernel
theorem dX9_reason_159 : decode cX9_reason 159 = .ok (.iastore, 1) := by decide +kernel
theorem dX9_reason_160 : decode cX9_reason 160 = .ok (.iload 5, 2) := by decide +kernel
theorem dX9_reason_162 : decode cX9_reason 162 = .ok (.ireturn, 1) := by decide +kernel
theorem dX9_here_0 : decode cX9_here 0 = .ok (.aload_n 0, 1) := by decide +kernel
theorem dX9_here_1 : decode cX9_here 1 = .ok (.getfield 81, 3) := by decide +kernel
theorem dX9_here_4 : decode cX9_here 4 = .ok (.aload_n 0, 1) := by decide +kernel
theorem dX9_here_5 : decode cX9_here 5 = .ok (.getfield 84, 3) := by decide +kernel
theorem dX9_here_8 : decode cX9_here 8 = .ok (.if_icmp .ge 15, 3) := by decide +kernel
theorem dX9_here_11 : decode cX9_here 11 = .ok (.aload_n 0, 1) := by decide +kernel
theorem dX9_here_12 : decode cX9_here 12 = .ok (.getfield 7, 3) := by decide +kernel
theorem dX9_here_15 : decode cX9_here 15 = .ok (.aload_n 0, 1) := by decide +kernel
theorem dX9_here_16 : decode cX9_here 16 = .ok (.getfield 81, 3) := by decide +kernel
theorem dX9_here_19 : decode cX9_here 19 = .ok (.iaload, 1) := by decide +kernel
theorem dX9_here_20 : decode cX9_here 20 = .ok (.goto 4, 3) := by decide +kernel
theorem dX9_here_23 : decode cX9_here 23 = .ok (.iconst (-1), 1) := by decide +kernel
theorem dX9_here_24 : decode cX9_here 24 = .ok (.ireturn, 1) := by decide +kernel
theorem dX9_isSmall_0 : decode cX9_isSmall 0 = .ok (.iload_n 0, 1) := by decide +kernel
theorem dX9_isSmall_1 : decode cX9_isSmall 1 = .ok (.bipush 97, 2) := by decide +kernel
theorem dX9_isSmall_3 : decode cX9_isSmall 3 = .ok (.if_icmp .lt 13, 3) := by decide +kernel
theorem dX9_isSmall_6 : decode cX9_isSmall 6 = .ok (.iload_n 0, 1) := by decide +kernel
theorem dX9_isSmall_7 : decode cX9_isSmall 7 = .ok (.bipush 122, 2) := by decide +kernel
theorem dX9_isSmall_9 : decode cX9_isSmall 9 = .ok (.if_icmp .gt 7, 3) := by decide +kernel
theorem dX9_isSmall_12 : decode cX9_isSmall 12 = .ok (.iconst 1, 1) := by decide +kernel
theorem dX9_isSmall_13 : decode cX9_isSmall 13 = .ok (.goto 4, 3) := by decide +kernel
theorem dX9_isSmall_16 : decode cX9_isSmall 16 = .ok (.iconst 0, 1) := by decide +kernel
theorem dX9_isSmall_17 : decode cX9_isSmall 17 = .ok (.ireturn, 1) := by decide +kernel
theorem dX9_isDigit_0 : decode cX9_isDigit 0 = .ok (.iload_n 0, 1) := by decide +kernel
theorem dX9_isDigit_1 : decode cX9_isDigit 1 = .ok (.bipush 48, 2) := by decide +kernel
theorem dX9_isDigit_3 : decode cX9_isDigit 3 = .ok (.if_icmp .lt 13, 3) := by decide +kernel
theorem dX9_isDigit_6 : decode cX9_isDigit 6 = .ok (.iload_n 0, 1) := by decide +kernel
theorem dX9_isDigit_7 : decode cX9_isDigit 7 = .ok (.bipush 57, 2) := by decide +kernel
theorem dX9_isDigit_9 : decode cX9_isDigit 9 = .ok (.if_icmp .gt 7, 3) := by decide +kernel
theorem dX9_isDigit_12 : decode cX9_isDigit 12 = .ok (.iconst 1, 1) := by decide +kernel
theorem dX9_isDigit_13 : decode cX9_isDigit 13 = .ok (.goto 4, 3) := by decide +kernel
theorem dX9_isDigit_16 : decode cX9_isDigit 16 = .ok (.iconst 0, 1) := by decide +kernel
theorem dX9_isDigit_17 : decode cX9_isDigit 17 = .ok (.ireturn, 1) := by decide +kernel
theorem dX9_next_0 : decode cX9_next 0 = .ok (.aload_n 0, 1) := by decide +kernel
theorem dX9_next_1 : decode cX9_next 1 = .ok (.invokevirtual 87, 3) := by decide +kernel
theorem dX9_next_4 : decode cX9_next 4 = .ok (.bipush 10, 2) := by decide +kernel
theorem dX9_next_6 : decode cX9_next 6 = .ok (.if_icmp .eq 12, 3) := by decide +kernel
theorem dX9_next_9 : decode cX9_next 9 = .ok (.aload_n 0, 1) := by decide +kernel
theorem dX9_next_10 : decode cX9_next 10 = .ok (.invokevirtual 87, 3) := by decide +kernel
theorem dX9_next_13 : decode cX9_next 13 = .ok (.bipush 32, 2) := by decide +kernel
theorem dX9_next_15 : decode cX9_next 15 = .ok (.if_icmp .ne 16, 3) := by decide +kernel
theorem dX9_next_18 : decode cX9_next 18 = .ok (.aload_n 0, 1) := by decide +kernel
theorem dX9_next_19 : decode cX9_next 19 = .ok (.dup, 1) := by decide +kernel
theorem dX9_next_20 : decode cX9_next 20 = .ok (.getfield 81, 3) := by decide +kernel
theorem dX9_next_23 : decode cX9_next 23 = .ok (.iconst 1, 1) := by decide +kernel
theorem dX9_next_24 : decode cX9_next 24 = .ok (.iadd, 1) := by decide +kernel
theorem dX9_next_25 : decode cX9_next 25 = .ok (.putfield 81, 3) := by decide +kernel
theorem dX9_next_28 : decode cX9_next 28 = .ok (.goto (-28), 3) := by decide +kernel
theorem dX9_next_31 : decode cX9_next 31 = .ok (.aload_n 0, 1) := by decide +kernel
theorem dX9_next_32 : decode cX9_next 32 = .ok (.aload_n 0, 1) := by decide +kernel
theorem dX9_next_33 : decode cX9_next 33 = .ok (.getfield 81, 3) := by decide +kernel
theorem dX9_next_36 : decode cX9_next 36 = .ok (.putfield 91, 3) := by decide +kernel
theorem dX9_next_39 : decode cX9_next 39 = .ok (.aload_n 0, 1) := by decide +kernel
theorem dX9_next_40 : decode cX9_next 40 = .ok (.invokevirtual 87, 3) := by decide +kernel
theorem dX9_next_43 : decode cX9_next 43 = .ok (.istore_n 1, 1) := by decide +kernel
theorem dX9_next_44 : decode cX9_next 44 = .ok (.iload_n 1, 1) := by decide +kernel
theorem dX9_next_45 : decode cX9_next 45 = .ok (.iconst (-1), 1) := by decide +kernel
theorem dX9_next_46 : decode cX9_next 46 = .ok (.if_icmp .ne 11, 3) := by decide +kernel
theorem dX9_next_49 : decode cX9_next 49 = .ok (.aload_n 0, 1) := by decide +kernel
theorem dX9_next_50 : decode cX9_next 50 = .ok (.iconst 3, 1) := by decide +kernel
theorem dX9_next_51 : decode cX9_next 51 = .ok (.putfield 94, 3) := by decide +kernel
theorem dX9_next_54 : decode cX9_next 54 = .ok (.goto 149, 3) := by decide +kernel
theorem dX9_next_57 : decode cX9_next 57 = .ok (.iload_n 1, 1) := by decide +kernel
theorem dX9_next_58 : decode cX9_next 58 = .ok (.invokestatic 97, 3) := by decide +kernel
theorem dX9_next_61 : decode cX9_next 61 = .ok (.ifCond .eq 42, 3) := by decide +kernel
theorem dX9_next_64 : decode cX9_next 64 = .ok (.aload_n 0, 1) := by decide +kernel
theorem dX9_next_65 : decode cX9_next 65 = .ok (.invokevirtual 87, 3) := by decide +kernel
theorem dX9_next_68 : decode cX9_next 68 = .ok (.invokestatic 97, 3) := by decide +kernel
theorem dX9_next_71 : decode cX9_next 71 = .ok (.ifCond .eq 16, 3) := by decide +kernel
theorem dX9_next_74 : decode cX9_next 74 = .ok (.aload_n 0, 1) := by decide +kernel
theorem dX9_next_75 : decode cX9_next 75 = .ok (.dup, 1) := by decide +kernel
theorem dX9_next_76 : decode cX9_next 76 = .ok (.getfield 81, 3) := by decide +kernel
theorem dX9_next_79 : decode cX9_next 79 = .ok (.iconst 1, 1) := by decide +kernel
theorem dX9_next_80 : decode cX9_next 80 = .ok (.iadd, 1) := by decide +kernel
theorem dX9_next_81 : decode cX9_next 81 = .ok (.putfield 81, 3) := by decide +kernel
theorem dX9_next_84 : decode cX9_next 84 = .ok (.goto (-20), 3) := by decide +kernel
theorem dX9_next_87 : decode cX9_next 87 = .ok (.aload_n 0, 1) := by decide +kernel
theorem dX9_next_88 : decode cX9_next 88 = .ok (.iconst 0, 1) := by decide +kernel
theorem dX9_next_89 : decode cX9_next 89 = .ok (.putfield 94, 3) := by decide +kernel
theorem dX9_next_92 : decode cX9_next 92 = .ok (.aload_n 0, 1) := by decide +kernel
theorem dX9_next_93 : decode cX9_next 93 = .ok (.aload_n 0, 1) := by decide +kernel
theorem dX9_next_94 : decode cX9_next 94 = .ok (.invokevirtual 100, 3) := by decide +kernel
theorem dX9_next_97 : decode cX9_next 97 = .ok (.putfield 103, 3) := by decide +kernel
theorem dX9_next_100 : decode cX9_next 100 = .ok (.goto 103, 3) := by decide +kernel
theorem dX9_next_103 : decode cX9_next 103 = .ok (.iload_n 1, 1) := by decide +kernel
theorem dX9_next_104 : decode cX9_next 104 = .ok (.invokestatic 106, 3) := by decide +kernel
theorem dX9_next_107 : decode cX9_next 107 = .ok (.ifCond .eq 71, 3) := by decide +kernel
theorem dX9_next_110 : decode cX9_next 110 = .ok (.aload_n 0, 1) := by decide +kernel
theorem dX9_next_111 : decode cX9_next 111 = .ok (.iconst 1, 1) := by decide +kernel
theorem dX9_next_112 : decode cX9_next 112 = .ok (.putfield 94, 3) := by decide +kernel
theorem dX9_next_115 : decode cX9_next 115 = .ok (.aload_n 0, 1) := by decide +kernel
theorem dX9_next_116 : decode cX9_next 116 = .ok (.iconst 0, 1) := by decide +kernel
theorem dX9_next_117 : decode cX9_next 117 = .ok (.putfield 103, 3) := by decide +kernel
theorem dX9_next_120 : decode cX9_next 120 = .ok (.aload_n 0, 1) := by decide +kernel
theorem dX9_next_121 : decode cX9_next 121 = .ok (.invokevirtual 87, 3) := by decide +kernel
theorem dX9_next_124 : decode cX9_next 124 = .ok (.invokestatic 106, 3) := by decide +kernel
theorem dX9_next_127 : decode cX9_next 127 = .ok (.ifCond .eq 76, 3) := by decide +kernel
theorem dX9_next_130 : decode cX9_next 130 = .ok (.aload_n 0, 1) := by decide +kernel
theorem dX9_next_131 : decode cX9_next 131 = .ok (.aload_n 0, 1) := by decide +kernel
theorem dX9_next_132 : decode cX9_next 132 = .ok (.getfield 103, 3) := by decide +kernel
theorem dX9_next_135 : decode cX9_next 135 = .ok (.ldc 109, 2) := by decide +kernel
theorem dX9_next_137 : decode cX9_next 137 = .ok (.if_icmp .le 10, 3) := by decide +kernel
theorem dX9_next_140 : decode cX9_next 140 = .ok (.aload_n 0, 1) := by decide +kernel
theorem dX9_next_141 : decode cX9_next 141 = .ok (.getfield 103, 3) := by decide +kernel
theorem dX9_next_144 : decode cX9_next 144 = .ok (.goto 18, 3) := by decide +kernel
theorem dX9_next_147 : decode cX9_next 147 = .ok (.bipush 10, 2) := by decide +kernel
theorem dX9_next_149 : decode cX9_next 149 = .ok (.aload_n 0, 1) := by decide +kernel
theorem dX9_next_150 : decode cX9_next 150 = .ok (.getfield 103, 3) := by decide +kernel
theorem dX9_next_153 : decode cX9_next 153 = .ok (.imul, 1) := by decide +kernel
theorem dX9_next_154 : decode cX9_next 154 = .ok (.aload_n 0, 1) := by decide +kernel
theorem dX9_next_155 : decode cX9_next 155 = .ok (.invokevirtual 87, 3) := by decide +kernel
theorem dX9_next_158 : decode cX9_next 158 = .ok (.iadd, 1) := by decide +kernel
theorem dX9_next_159 : decode cX9_next 159 = .ok (.bipush 48, 2) := by decide +kernel
theorem dX9_next_161 : decode cX9_next 161 = .ok (.isub, 1) := by decide +kernel
theorem dX9_next_162 : decode cX9_next 162 = .ok (.putfield 103, 3) := by decide +kernel
theorem dX9_next_165 : decode cX9_next 165 = .ok (.aload_n 0, 1) := by decide +kernel
theorem dX9_next_166 : decode cX9_next 166 = .ok (.dup, 1) := by decide +kernel
theorem dX9_next_167 : decode cX9_next 167 = .ok (.getfield 81, 3) := by decide +kernel
theorem dX9_next_170 : decode cX9_next 170 = .ok (.iconst 1, 1) := by decide +kernel
theorem dX9_next_171 : decode cX9_next 171 = .ok (.iadd, 1) := by decide +kernel
theorem dX9_next_172 : decode cX9_next 172 = .ok (.putfield 81, 3) := by decide +kernel
theorem dX9_next_175 : decode cX9_next 175 = .ok (.goto (-55), 3) := by decide +kernel
theorem dX9_next_178 : decode cX9_next 178 = .ok (.aload_n 0, 1) := by decide +kernel
theorem dX9_next_179 : decode cX9_next 179 = .ok (.iload_n 1, 1) := by decide +kernel
theorem dX9_next_180 : decode cX9_next 180 = .ok (.bipush 59, 2) := by decide +kernel
theorem dX9_next_182 : decode cX9_next 182 = .ok (.if_icmp .ne 7, 3) := by decide +kernel
theorem dX9_next_185 : decode cX9_next 185 = .ok (.iconst 2, 1) := by decide +kernel
theorem dX9_next_186 : decode cX9_next 186 = .ok (.goto 4, 3) := by decide +kernel
theorem dX9_next_189 : decode cX9_next 189 = .ok (.iconst 4, 1) := by decide +kernel
theorem dX9_next_190 : decode cX9_next 190 = .ok (.putfield 94, 3) := by decide +kernel
theorem dX9_next_193 : decode cX9_next 193 = .ok (.aload_n 0, 1) := by decide +kernel
theorem dX9_next_194 : decode cX9_next 194 = .ok (.dup, 1) := by decide +kernel
theorem dX9_next_195 : decode cX9_next 195 = .ok (.getfield 81, 3) := by decide +kernel
theorem dX9_next_198 : decode cX9_next 198 = .ok (.iconst 1, 1) := by decide +kernel
theorem dX9_next_199 : decode cX9_next 199 = .ok (.iadd, 1) := by decide +kernel
theorem dX9_next_200 : decode cX9_next 200 = .ok (.putfield 81, 3) := by decide +kernel
theorem dX9_next_203 : decode cX9_next 203 = .ok (.return_, 1) := by decide +kernel
theorem dX9_wordHere_0 : decode cX9_wordHere 0 = .ok (.iconst 0, 1) := by decide +kernel
theorem dX9_wordHere_1 : decode cX9_wordHere 1 = .ok (.istore_n 1, 1) := by decide +kernel
theorem dX9_wordHere_2 : decode cX9_wordHere 2 = .ok (.iconst 0, 1) := by decide +kernel
theorem dX9_wordHere_3 : decode cX9_wordHere 3 = .ok (.istore_n 2, 1) := by decide +kernel
theorem dX9_wordHere_4 : decode cX9_wordHere 4 = .ok (.iload_n 2, 1) := by decide +kernel
theorem dX9_wordHere_5 : decode cX9_wordHere 5 = .ok (.ldc 110, 2) := by decide +kernel
theorem dX9_wordHere_7 : decode cX9_wordHere 7 = .ok (.invokevirtual 112, 3) := by decide +kernel
theorem dX9_wordHere_10 : decode cX9_wordHere 10 = .ok (.if_icmp .ge 113, 3) := by decide +kernel
theorem dX9_wordHere_13 : decode cX9_wordHere 13 = .ok (.iconst 0, 1) := by decide +kernel
theorem dX9_wordHere_14 : decode cX9_wordHere 14 = .ok (.istore_n 3, 1) := by decide +kernel
theorem dX9_wordHere_15 : decode cX9_wordHere 15 = .ok (.ldc 110, 2) := by decide +kernel
theorem dX9_wordHere_17 : decode cX9_wordHere 17 = .ok (.iload_n 2, 1) := by decide +kernel
theorem dX9_wordHere_18 : decode cX9_wordHere 18 = .ok (.iload_n 3, 1) := by decide +kernel
theorem dX9_wordHere_19 : decode cX9_wordHere 19 = .ok (.iadd, 1) := by decide +kernel
theorem dX9_wordHere_20 : decode cX9_wordHere 20 = .ok (.invokevirtual 117, 3) := by decide +kernel
theorem dX9_wordHere_23 : decode cX9_wordHere 23 = .ok (.bipush 32, 2) := by decide +kernel
theorem dX9_wordHere_25 : decode cX9_wordHere 25 = .ok (.if_icmp .eq 44, 3) := by decide +kernel
theorem dX9_wordHere_28 : decode cX9_wordHere 28 = .ok (.aload_n 0, 1) := by decide +kernel
theorem dX9_wordHere_29 : decode cX9_wordHere 29 = .ok (.getfield 91, 3) := by decide +kernel
theorem dX9_wordHere_32 : decode cX9_wordHere 32 = .ok (.iload_n 3, 1) := by decide +kernel
theorem dX9_wordHere_33 : decode cX9_wordHere 33 = .ok (.iadd, 1) := by decide +kernel
theorem dX9_wordHere_34 : decode cX9_wordHere 34 = .ok (.aload_n 0, 1) := by decide +kernel
theorem dX9_wordHere_35 : decode cX9_wordHere 35 = .ok (.getfield 81, 3) := by decide +kernel
theorem dX9_wordHere_38 : decode cX9_wordHere 38 = .ok (.if_icmp .ge 31, 3) := by decide +kernel
theorem dX9_wordHere_41 : decode cX9_wordHere 41 = .ok (.aload_n 0, 1) := by decide +kernel
theorem dX9_wordHere_42 : decode cX9_wordHere 42 = .ok (.getfield 7, 3) := by decide +kernel
theorem dX9_wordHere_45 : decode cX9_wordHere 45 = .ok (.aload_n 0, 1) := by decide +kernel
theorem dX9_wordHere_46 : decode cX9_wordHere 46 = .ok (.getfield 91, 3) := by decide +kernel
theorem dX9_wordHere_49 : decode cX9_wordHere 49 = .ok (.iload_n 3, 1) := by decide +kernel
theorem dX9_wordHere_50 : decode cX9_wordHere 50 = .ok (.iadd, 1) := by decide +kernel
theorem dX9_wordHere_51 : decode cX9_wordHere 51 = .ok (.iaload, 1) := by decide +kernel
theorem dX9_wordHere_52 : decode cX9_wordHere 52 = .ok (.ldc 110, 2) := by decide +kernel
theorem dX9_wordHere_54 : decode cX9_wordHere 54 = .ok (.iload_n 2, 1) := by decide +kernel
theorem dX9_wordHere_55 : decode cX9_wordHere 55 = .ok (.iload_n 3, 1) := by decide +kernel
theorem dX9_wordHere_56 : decode cX9_wordHere 56 = .ok (.iadd, 1) := by decide +kernel
theorem dX9_wordHere_57 : decode cX9_wordHere 57 = .ok (.invokevirtual 117, 3) := by decide +kernel
theorem dX9_wordHere_60 : decode cX9_wordHere 60 = .ok (.if_icmp .ne 9, 3) := by decide +kernel
theorem dX9_wordHere_63 : decode cX9_wordHere 63 = .ok (.iinc 3 1, 3) := by decide +kernel
theorem dX9_wordHere_66 : decode cX9_wordHere 66 = .ok (.goto (-51), 3) := by decide +kernel
theorem dX9_wordHere_69 : decode cX9_wordHere 69 = .ok (.ldc 110, 2) := by decide +kernel
theorem dX9_wordHere_71 : decode cX9_wordHere 71 = .ok (.iload_n 2, 1) := by decide +kernel
theorem dX9_wordHere_72 : decode cX9_wordHere 72 = .ok (.iload_n 3, 1) := by decide +kernel
theorem dX9_wordHere_73 : decode cX9_wordHere 73 = .ok (.iadd, 1) := by decide +kernel
theorem dX9_wordHere_74 : decode cX9_wordHere 74 = .ok (.invokevirtual 117, 3) := by decide +kernel
theorem dX9_wordHere_77 : decode cX9_wordHere 77 = .ok (.bipush 32, 2) := by decide +kernel
theorem dX9_wordHere_79 : decode cX9_wordHere 79 = .ok (.if_icmp .ne 18, 3) := by decide +kernel
theorem dX9_wordHere_82 : decode cX9_wordHere 82 = .ok (.aload_n 0, 1) := by decide +kernel
theorem dX9_wordHere_83 : decode cX9_wordHere 83 = .ok (.getfield 91, 3) := by decide +kernel
theorem dX9_wordHere_86 : decode cX9_wordHere 86 = .ok (.iload_n 3, 1) := by decide +kernel
theorem dX9_wordHere_87 : decode cX9_wordHere 87 = .ok (.iadd, 1) := by decide +kernel
theorem dX9_wordHere_88 : decode cX9_wordHere 88 = .ok (.aload_n 0, 1) := by decide +kernel
theorem dX9_wordHere_89 : decode cX9_wordHere 89 = .ok (.getfield 81, 3) := by decide +kernel
theorem dX9_wordHere_92 : decode cX9_wordHere 92 = .ok (.if_icmp .ne 5, 3) := by decide +kernel
theorem dX9_wordHere_95 : decode cX9_wordHere 95 = .ok (.iload_n 1, 1) := by decide +kernel
theorem dX9_wordHere_96 : decode cX9_wordHere 96 = .ok (.ireturn, 1) := by decide +kernel
theorem dX9_wordHere_97 : decode cX9_wordHere 97 = .ok (.ldc 110, 2) := by decide +kernel
theorem dX9_wordHere_99 : decode cX9_wordHere 99 = .ok (.iload_n 2, 1) := by decide +kernel
theorem dX9_wordHere_100 : decode cX9_wordHere 100 = .ok (.invokevirtual 117, 3) := by decide +kernel
theorem dX9_wordHere_103 : decode cX9_wordHere 103 = .ok (.bipush 32, 2) := by decide +kernel
theorem dX9_wordHere_105 : decode cX9_wordHere 105 = .ok (.if_icmp .eq 9, 3) := by decide +kernel
theorem dX9_wordHere_108 : decode cX9_wordHere 108 = .ok (.iinc 2 1, 3) := by decide +kernel
theorem dX9_wordHere_111 : decode cX9_wordHere 111 = .ok (.goto (-14), 3) := by decide +kernel
theorem dX9_wordHere_114 : decode cX9_wordHere 114 = .ok (.iinc 2 1, 3) := by decide +kernel
theorem dX9_wordHere_117 : decode cX9_wordHere 117 = .ok (.iinc 1 1, 3) := by decide +kernel
theorem dX9_wordHere_120 : decode cX9_wordHere 120 = .ok (.goto (-116), 3) := by decide +kernel
theorem dX9_wordHere_123 : decode cX9_wordHere 123 = .ok (.iconst (-1), 1) := by decide +kernel
theorem dX9_wordHere_124 : decode cX9_wordHere 124 = .ok (.ireturn, 1) := by decide +kernel
theorem dX9_failsIf_0 : decode cX9_failsIf 0 = .ok (.aload_n 0, 1) := by decide +kernel
theorem dX9_failsIf_1 : decode cX9_failsIf 1 = .ok (.getfield 121, 3) := by decide +kernel
theorem dX9_failsIf_4 : decode cX9_failsIf 4 = .ok (.ifCond .ne 7, 3) := by decide +kernel
theorem dX9_failsIf_7 : decode cX9_failsIf 7 = .ok (.iload_n 1, 1) := by decide +kernel
theorem dX9_failsIf_8 : decode cX9_failsIf 8 = .ok (.ifCond .ne 4, 3) := by decide +kernel
theorem dX9_failsIf_11 : decode cX9_failsIf 11 = .ok (.return_, 1) := by decide +kernel
theorem dX9_failsIf_12 : decode cX9_failsIf 12 = .ok (.aload_n 0, 1) := by decide +kernel
theorem dX9_failsIf_13 : decode cX9_failsIf 13 = .ok (.iload_n 2, 1) := by decide +kernel
theorem dX9_failsIf_14 : decode cX9_failsIf 14 = .ok (.putfield 121, 3) := by decide +kernel
theorem dX9_failsIf_17 : decode cX9_failsIf 17 = .ok (.aload_n 0, 1) := by decide +kernel
theorem dX9_failsIf_18 : decode cX9_failsIf 18 = .ok (.aload_n 0, 1) := by decide +kernel
theorem dX9_failsIf_19 : decode cX9_failsIf 19 = .ok (.getfield 91, 3) := by decide +kernel
theorem dX9_failsIf_22 : decode cX9_failsIf 22 = .ok (.putfield 124, 3) := by decide +kernel
theorem dX9_failsIf_25 : decode cX9_failsIf 25 = .ok (.return_, 1) := by decide +kernel
theorem dX9_goOn_0 : decode cX9_goOn 0 = .ok (.aload_n 0, 1) := by decide +kernel
theorem dX9_goOn_1 : decode cX9_goOn 1 = .ok (.getfield 121, 3) := by decide +kernel
theorem dX9_goOn_4 : decode cX9_goOn 4 = .ok (.ifCond .ne 7, 3) := by decide +kernel
theorem dX9_goOn_7 : decode cX9_goOn 7 = .ok (.aload_n 0, 1) := by decide +kernel
theorem dX9_goOn_8 : decode cX9_goOn 8 = .ok (.invokevirtual 127, 3) := by decide +kernel
theorem dX9_goOn_11 : decode cX9_goOn 11 = .ok (.return_, 1) := by decide +kernel
theorem dX9_figure_0 : decode cX9_figure 0 = .ok (.aload_n 0, 1) := by decide +kernel
theorem dX9_figure_1 : decode cX9_figure 1 = .ok (.aload_n 0, 1) := by decide +kernel
theorem dX9_figure_2 : decode cX9_figure 2 = .ok (.getfield 94, 3) := by decide +kernel
theorem dX9_figure_5 : decode cX9_figure 5 = .ok (.iconst 1, 1) := by decide +kernel
theorem dX9_figure_6 : decode cX9_figure 6 = .ok (.if_icmp .eq 7, 3) := by decide +kernel
theorem dX9_figure_9 : decode cX9_figure 9 = .ok (.iconst 1, 1) := by decide +kernel
theorem dX9_figure_10 : decode cX9_figure 10 = .ok (.goto 4, 3) := by decide +kernel
theorem dX9_figure_13 : decode cX9_figure 13 = .ok (.iconst 0, 1) := by decide +kernel
theorem dX9_figure_14 : decode cX9_figure 14 = .ok (.bipush (-11), 2) := by decide +kernel
theorem dX9_figure_16 : decode cX9_figure 16 = .ok (.invokevirtual 130, 3) := by decide +kernel
theorem dX9_figure_19 : decode cX9_figure 19 = .ok (.aload_n 0, 1) := by decide +kernel
theorem dX9_figure_20 : decode cX9_figure 20 = .ok (.aload_n 0, 1) := by decide +kernel
theorem dX9_figure_21 : decode cX9_figure 21 = .ok (.getfield 103, 3) := by decide +kernel
theorem dX9_figure_24 : decode cX9_figure 24 = .ok (.iload_n 1, 1) := by decide +kernel
theorem dX9_figure_25 : decode cX9_figure 25 = .ok (.if_icmp .lt 11, 3) := by decide +kernel
theorem dX9_figure_28 : decode cX9_figure 28 = .ok (.aload_n 0, 1) := by decide +kernel
theorem dX9_figure_29 : decode cX9_figure 29 = .ok (.getfield 103, 3) := by decide +kernel
theorem dX9_figure_32 : decode cX9_figure 32 = .ok (.iload_n 2, 1) := by decide +kernel
theorem dX9_figure_33 : decode cX9_figure 33 = .ok (.if_icmp .le 7, 3) := by decide +kernel
theorem dX9_figure_36 : decode cX9_figure 36 = .ok (.iconst 1, 1) := by decide +kernel
theorem dX9_figure_37 : decode cX9_figure 37 = .ok (.goto 4, 3) := by decide +kernel
theorem dX9_figure_40 : decode cX9_figure 40 = .ok (.iconst 0, 1) := by decide +kernel
theorem dX9_figure_41 : decode cX9_figure 41 = .ok (.bipush (-12), 2) := by decide +kernel
theorem dX9_figure_43 : decode cX9_figure 43 = .ok (.invokevirtual 130, 3) := by decide +kernel
theorem dX9_figure_46 : decode cX9_figure 46 = .ok (.aload_n 0, 1) := by decide +kernel
theorem dX9_figure_47 : decode cX9_figure 47 = .ok (.getfield 121, 3) := by decide +kernel
theorem dX9_figure_50 : decode cX9_figure 50 = .ok (.ifCond .ne 10, 3) := by decide +kernel
theorem dX9_figure_53 : decode cX9_figure 53 = .ok (.aload_n 0, 1) := by decide +kernel
theorem dX9_figure_54 : decode cX9_figure 54 = .ok (.getfield 103, 3) := by decide +kernel
theorem dX9_figure_57 : decode cX9_figure 57 = .ok (.goto 4, 3) := by decide +kernel
theorem dX9_figure_60 : decode cX9_figure 60 = .ok (.iload_n 1, 1) := by decide +kernel
theorem dX9_figure_61 : decode cX9_figure 61 = .ok (.ireturn, 1) := by decide +kernel
theorem dX9_integer_0 : decode cX9_integer 0 = .ok (.aload_n 0, 1) := by decide +kernel
theorem dX9_integer_1 : decode cX9_integer 1 = .ok (.iload_n 1, 1) := by decide +kernel
theorem dX9_integer_2 : decode cX9_integer 2 = .ok (.iload_n 2, 1) := by decide +kernel
theorem dX9_integer_3 : decode cX9_integer 3 = .ok (.invokevirtual 134, 3) := by decide +kernel
theorem dX9_integer_6 : decode cX9_integer 6 = .ok (.istore_n 3, 1) := by decide +kernel
theorem dX9_integer_7 : decode cX9_integer 7 = .ok (.aload_n 0, 1) := by decide +kernel
theorem dX9_integer_8 : decode cX9_integer 8 = .ok (.invokevirtual 138, 3) := by decide +kernel
theorem dX9_integer_11 : decode cX9_integer 11 = .ok (.iload_n 3, 1) := by decide +kernel
theorem dX9_integer_12 : decode cX9_integer 12 = .ok (.ireturn, 1) := by decide +kernel
theorem dX9_seesName_0 : decode cX9_seesName 0 = .ok (.aload_n 0, 1) := by decide +kernel
theorem dX9_seesName_1 : decode cX9_seesName 1 = .ok (.aload_n 0, 1) := by decide +kernel
theorem dX9_seesName_2 : decode cX9_seesName 2 = .ok (.getfield 94, 3) := by decide +kernel
theorem dX9_seesName_5 : decode cX9_seesName 5 = .ok (.ifCond .ne 25, 3) := by decide +kernel
theorem dX9_seesName_8 : decode cX9_seesName 8 = .ok (.aload_n 0, 1) := by decide +kernel
theorem dX9_seesName_9 : decode cX9_seesName 9 = .ok (.getfield 103, 3) := by decide +kernel
theorem dX9_seesName_12 : decode cX9_seesName 12 = .ok (.iconst (-1), 1) := by decide +kernel
theorem dX9_seesName_13 : decode cX9_seesName 13 = .ok (.if_icmp .ne 17, 3) := by decide +kernel
theorem dX9_seesName_16 : decode cX9_seesName 16 = .ok (.aload_n 0, 1) := by decide +kernel
theorem dX9_seesName_17 : decode cX9_seesName 17 = .ok (.getfield 81, 3) := by decide +kernel
theorem dX9_seesName_20 : decode cX9_seesName 20 = .ok (.aload_n 0, 1) := by decide +kernel
theorem dX9_seesName_21 : decode cX9_seesName 21 = .ok (.getfield 91, 3) := by decide +kernel
theorem dX9_seesName_24 : decode cX9_seesName 24 = .ok (.isub, 1) := by decide +kernel
theorem dX9_seesName_25 : decode cX9_seesName 25 = .ok (.bipush 6, 2) := by decide +kernel
theorem dX9_seesName_27 : decode cX9_seesName 27 = .ok (.if_icmp .le 7, 3) := by decide +kernel
theorem dX9_seesName_30 : decode cX9_seesName 30 = .ok (.iconst 1, 1) := by decide +kernel
theorem dX9_seesName_31 : decode cX9_seesName 31 = .ok (.goto 4, 3) := by decide +kernel
theorem dX9_seesName_34 : decode cX9_seesName 34 = .ok (.iconst 0, 1) := by decide +kernel
theorem dX9_seesName_35 : decode cX9_seesName 35 = .ok (.bipush (-11), 2) := by decide +kernel
theorem dX9_seesName_37 : decode cX9_seesName 37 = .ok (.invokevirtual 130, 3) := by decide +kernel
theorem dX9_seesName_40 : decode cX9_seesName 40 = .ok (.aload_n 0, 1) := by decide +kernel
theorem dX9_seesName_41 : decode cX9_seesName 41 = .ok (.iconst 0, 1) := by decide +kernel
theorem dX9_seesName_42 : decode cX9_seesName 42 = .ok (.putfield 141, 3) := by decide +kernel
theorem dX9_seesName_45 : decode cX9_seesName 45 = .ok (.iconst 0, 1) := by decide +kernel
theorem dX9_seesName_46 : decode cX9_seesName 46 = .ok (.istore_n 1, 1) := by decide +kernel
theorem dX9_seesName_47 : decode cX9_seesName 47 = .ok (.iload_n 1, 1) := by decide +kernel
theorem dX9_seesName_48 : decode cX9_seesName 48 = .ok (.bipush 6, 2) := by decide +kernel
theorem dX9_seesName_50 : decode cX9_seesName 50 = .ok (.if_icmp .ge 60, 3) := by decide +kernel
theorem dX9_seesName_53 : decode cX9_seesName 53 = .ok (.aload_n 0, 1) := by decide +kernel
theorem dX9_seesName_54 : decode cX9_seesName 54 = .ok (.getfield 121, 3) := by decide +kernel
theorem dX9_seesName_57 : decode cX9_seesName 57 = .ok (.ifCond .ne 53, 3) := by decide +kernel
theorem dX9_seesName_60 : decode cX9_seesName 60 = .ok (.aload_n 0, 1) := by decide +kernel
theorem dX9_seesName_61 : decode cX9_seesName 61 = .ok (.aload_n 0, 1) := by decide +kernel
theorem dX9_seesName_62 : decode cX9_seesName 62 = .ok (.getfield 141, 3) := by decide +kernel
theorem dX9_seesName_65 : decode cX9_seesName 65 = .ok (.iconst 5, 1) := by decide +kernel
theorem dX9_seesName_66 : decode cX9_seesName 66 = .ok (.ishl, 1) := by decide +kernel
theorem dX9_seesName_67 : decode cX9_seesName 67 = .ok (.aload_n 0, 1) := by decide +kernel
theorem dX9_seesName_68 : decode cX9_seesName 68 = .ok (.getfield 91, 3) := by decide +kernel
theorem dX9_seesName_71 : decode cX9_seesName 71 = .ok (.iload_n 1, 1) := by decide +kernel
theorem dX9_seesName_72 : decode cX9_seesName 72 = .ok (.iadd, 1) := by decide +kernel
theorem dX9_seesName_73 : decode cX9_seesName 73 = .ok (.aload_n 0, 1) := by decide +kernel
theorem dX9_seesName_74 : decode cX9_seesName 74 = .ok (.getfield 81, 3) := by decide +kernel
theorem dX9_seesName_77 : decode cX9_seesName 77 = .ok (.if_icmp .ge 22, 3) := by decide +kernel
theorem dX9_seesName_80 : decode cX9_seesName 80 = .ok (.aload_n 0, 1) := by decide +kernel
theorem dX9_seesName_81 : decode cX9_seesName 81 = .ok (.getfield 7, 3) := by decide +kernel
theorem dX9_seesName_84 : decode cX9_seesName 84 = .ok (.aload_n 0, 1) := by decide +kernel
theorem dX9_seesName_85 : decode cX9_seesName 85 = .ok (.getfield 91, 3) := by decide +kernel
theorem dX9_seesName_88 : decode cX9_seesName 88 = .ok (.iload_n 1, 1) := by decide +kernel
theorem dX9_seesName_89 : decode cX9_seesName 89 = .ok (.iadd, 1) := by decide +kernel
theorem dX9_seesName_90 : decode cX9_seesName 90 = .ok (.iaload, 1) := by decide +kernel
theorem dX9_seesName_91 : decode cX9_seesName 91 = .ok (.bipush 97, 2) := by decide +kernel
theorem dX9_seesName_93 : decode cX9_seesName 93 = .ok (.isub, 1) := by decide +kernel
theorem dX9_seesName_94 : decode cX9_seesName 94 = .ok (.iconst 1, 1) := by decide +kernel
theorem dX9_seesName_95 : decode cX9_seesName 95 = .ok (.iadd, 1) := by decide +kernel
theorem dX9_seesName_96 : decode cX9_seesName 96 = .ok (.goto 4, 3) := by decide +kernel
theorem dX9_seesName_99 : decode cX9_seesName 99 = .ok (.iconst 0, 1) := by decide +kernel
theorem dX9_seesName_100 : decode cX9_seesName 100 = .ok (.ior, 1) := by decide +kernel
theorem dX9_seesName_101 : decode cX9_seesName 101 = .ok (.putfield 141, 3) := by decide +kernel
theorem dX9_seesName_104 : decode cX9_seesName 104 = .ok (.iinc 1 1, 3) := by decide +kernel
theorem dX9_seesName_107 : decode cX9_seesName 107 = .ok (.goto (-60), 3) := by decide +kernel
theorem dX9_seesName_110 : decode cX9_seesName 110 = .ok (.return_, 1) := by decide +kernel
theorem dX9_found_0 : decode cX9_found 0 = .ok (.iconst 0, 1) := by decide +kernel
theorem dX9_found_1 : decode cX9_found 1 = .ok (.istore 4, 2) := by decide +kernel
theorem dX9_found_3 : decode cX9_found 3 = .ok (.iload 4, 2) := by decide +kernel
theorem dX9_found_5 : decode cX9_found 5 = .ok (.iload_n 2, 1) := by decide +kernel
theorem dX9_found_6 : decode cX9_found 6 = .ok (.if_icmp .ge 25, 3) := by decide +kernel
theorem dX9_found_9 : decode cX9_found 9 = .ok (.aload_n 0, 1) := by decide +kernel
theorem dX9_found_10 : decode cX9_found 10 = .ok (.getfield 13, 3) := by decide +kernel
theorem dX9_found_13 : decode cX9_found 13 = .ok (.iload_n 1, 1) := by decide +kernel
theorem dX9_found_14 : decode cX9_found 14 = .ok (.iload 4, 2) := by decide +kernel
theorem dX9_found_16 : decode cX9_found 16 = .ok (.iadd, 1) := by decide +kernel
theorem dX9_found_17 : decode cX9_found 17 = .ok (.iaload, 1) := by decide +kernel
theorem dX9_found_18 : decode cX9_found 18 = .ok (.iload_n 3, 1) := by decide +kernel
theorem dX9_found_19 : decode cX9_found 19 = .ok (.if_icmp .ne 6, 3) := by decide +kernel
theorem dX9_found_22 : decode cX9_found 22 = .ok (.iload 4, 2) := by decide +kernel
theorem dX9_found_24 : decode cX9_found 24 = .ok (.ireturn, 1) := by decide +kernel
theorem dX9_found_25 : decode cX9_found 25 = .ok (.iinc 4 1, 3) := by decide +kernel
theorem dX9_found_28 : decode cX9_found 28 = .ok (.goto (-25), 3) := by decide +kernel
theorem dX9_found_31 : decode cX9_found 31 = .ok (.iconst (-1), 1) := by decide +kernel
theorem dX9_found_32 : decode cX9_found 32 = .ok (.ireturn, 1) := by decide +kernel
theorem dX9_newName_0 : decode cX9_newName 0 = .ok (.aload_n 0, 1) := by decide +kernel
theorem dX9_newName_1 : decode cX9_newName 1 = .ok (.invokevirtual 144, 3) := by decide +kernel
theorem dX9_newName_4 : decode cX9_newName 4 = .ok (.aload_n 0, 1) := by decide +kernel
theorem dX9_newName_5 : decode cX9_newName 5 = .ok (.iconst 0, 1) := by decide +kernel
theorem dX9_newName_6 : decode cX9_newName 6 = .ok (.aload_n 0, 1) := by decide +kernel
theorem dX9_newName_7 : decode cX9_newName 7 = .ok (.getfield 13, 3) := by decide +kernel
theorem dX9_newName_10 : decode cX9_newName 10 = .ok (.bipush 80, 2) := by decide +kernel
theorem dX9_newName_12 : decode cX9_newName 12 = .ok (.iaload, 1) := by decide +kernel
theorem dX9_newName_13 : decode cX9_newName 13 = .ok (.aload_n 0, 1) := by decide +kernel
theorem dX9_newName_14 : decode cX9_newName 14 = .ok (.getfield 141, 3) := by decide +kernel
theorem dX9_newName_17 : decode cX9_newName 17 = .ok (.invokevirtual 147, 3) := by decide +kernel
theorem dX9_newName_20 : decode cX9_newName 20 = .ok (.iconst (-1), 1) := by decide +kernel
theorem dX9_newName_21 : decode cX9_newName 21 = .ok (.if_icmp .ne 24, 3) := by decide +kernel
theorem dX9_newName_24 : decode cX9_newName 24 = .ok (.aload_n 0, 1) := by decide +kernel
theorem dX9_newName_25 : decode cX9_newName 25 = .ok (.bipush 12, 2) := by decide +kernel
theorem dX9_newName_27 : decode cX9_newName 27 = .ok (.aload_n 0, 1) := by decide +kernel
theorem dX9_newName_28 : decode cX9_newName 28 = .ok (.getfield 13, 3) := by decide +kernel
theorem dX9_newName_31 : decode cX9_newName 31 = .ok (.bipush 81, 2) := by decide +kernel
theorem dX9_newName_33 : decode cX9_newName 33 = .ok (.iaload, 1) := by decide +kernel
theorem dX9_newName_34 : decode cX9_newName 34 = .ok (.aload_n 0, 1) := by decide +kernel
theorem dX9_newName_35 : decode cX9_newName 35 = .ok (.getfield 141, 3) := by decide +kernel
theorem dX9_newName_38 : decode cX9_newName 38 = .ok (.invokevirtual 147, 3) := by decide +kernel
theorem dX9_newName_41 : decode cX9_newName 41 = .ok (.iconst (-1), 1) := by decide +kernel
theorem dX9_newName_42 : decode cX9_newName 42 = .ok (.if_icmp .eq 7, 3) := by decide +kernel
theorem dX9_newName_45 : decode cX9_newName 45 = .ok (.iconst 1, 1) := by decide +kernel
theorem dX9_newName_46 : decode cX9_newName 46 = .ok (.goto 4, 3) := by decide +kernel
theorem dX9_newName_49 : decode cX9_newName 49 = .ok (.iconst 0, 1) := by decide +kernel
theorem dX9_newName_50 : decode cX9_newName 50 = .ok (.istore_n 1, 1) := by decide +kernel
theorem dX9_newName_51 : decode cX9_newName 51 = .ok (.aload_n 0, 1) := by decide +kernel
theorem dX9_newName_52 : decode cX9_newName 52 = .ok (.aload_n 0, 1) := by decide +kernel
theorem dX9_newName_53 : decode cX9_newName 53 = .ok (.getfield 121, 3) := by decide +kernel
theorem dX9_newName_56 : decode cX9_newName 56 = .ok (.ifCond .ne 11, 3) := by decide +kernel
theorem dX9_newName_59 : decode cX9_newName 59 = .ok (.iload_n 1, 1) := by decide +kernel
theorem dX9_newName_60 : decode cX9_newName 60 = .ok (.ifCond .eq 7, 3) := by decide +kernel
theorem dX9_newName_63 : decode cX9_newName 63 = .ok (.iconst 1, 1) := by decide +kernel
theorem dX9_newName_64 : decode cX9_newName 64 = .ok (.goto 4, 3) := by decide +kernel
theorem dX9_newName_67 : decode cX9_newName 67 = .ok (.iconst 0, 1) := by decide +kernel
theorem dX9_newName_68 : decode cX9_newName 68 = .ok (.bipush (-14), 2) := by decide +kernel
theorem dX9_newName_70 : decode cX9_newName 70 = .ok (.invokevirtual 130, 3) := by decide +kernel
theorem dX9_newName_73 : decode cX9_newName 73 = .ok (.aload_n 0, 1) := by decide +kernel
theorem dX9_newName_74 : decode cX9_newName 74 = .ok (.invokevirtual 138, 3) := by decide +kernel
theorem dX9_newName_77 : decode cX9_newName 77 = .ok (.aload_n 0, 1) := by decide +kernel
theorem dX9_newName_78 : decode cX9_newName 78 = .ok (.getfield 141, 3) := by decide +kernel
theorem dX9_newName_81 : decode cX9_newName 81 = .ok (.ireturn, 1) := by decide +kernel
theorem dX9_isWord_0 : decode cX9_isWord 0 = .ok (.aload_n 0, 1) := by decide +kernel
theorem dX9_isWord_1 : decode cX9_isWord 1 = .ok (.getfield 121, 3) := by decide +kernel
theorem dX9_isWord_4 : decode cX9_isWord 4 = .ok (.ifCond .ne 22, 3) := by decide +kernel
theorem dX9_isWord_7 : decode cX9_isWord 7 = .ok (.aload_n 0, 1) := by decide +kernel
theorem dX9_isWord_8 : decode cX9_isWord 8 = .ok (.getfield 94, 3) := by decide +kernel
theorem dX9_isWord_11 : decode cX9_isWord 11 = .ok (.ifCond .ne 15, 3) := by decide +kernel
theorem dX9_isWord_14 : decode cX9_isWord 14 = .ok (.aload_n 0, 1) := by decide +kernel
theorem dX9_isWord_15 : decode cX9_isWord 15 = .ok (.getfield 103, 3) := by decide +kernel
theorem dX9_isWord_18 : decode cX9_isWord 18 = .ok (.iload_n 1, 1) := by decide +kernel
theorem dX9_isWord_19 : decode cX9_isWord 19 = .ok (.if_icmp .ne 7, 3) := by decide +kernel
theorem dX9_isWord_22 : decode cX9_isWord 22 = .ok (.iconst 1, 1) := by decide +kernel
theorem dX9_isWord_23 : decode cX9_isWord 23 = .ok (.goto 4, 3) := by decide +kernel
theorem dX9_isWord_26 : decode cX9_isWord 26 = .ok (.iconst 0, 1) := by decide +kernel
theorem dX9_isWord_27 : decode cX9_isWord 27 = .ok (.ireturn, 1) := by decide +kernel
theorem dX9_readLocation_0 : decode cX9_readLocation 0 = .ok (.aload_n 0, 1) := by decide +kernel
theorem dX9_readLocation_1 : decode cX9_readLocation 1 = .ok (.getfield 13, 3) := by decide +kernel
theorem dX9_readLocation_4 : decode cX9_readLocation 4 = .ok (.bipush 80, 2) := by decide +kernel
theorem dX9_readLocation_6 : decode cX9_readLocation 6 = .ok (.iaload, 1) := by decide +kernel
theorem dX9_readLocation_7 : decode cX9_readLocation 7 = .ok (.istore_n 1, 1) := by decide +kernel
theorem dX9_readLocation_8 : decode cX9_readLocation 8 = .ok (.aload_n 0, 1) := by decide +kernel
theorem dX9_readLocation_9 : decode cX9_readLocation 9 = .ok (.iload_n 1, 1) := by decide +kernel
theorem dX9_readLocation_10 : decode cX9_readLocation 10 = .ok (.iconst 4, 1) := by decide +kernel
theorem dX9_readLocation_11 : decode cX9_readLocation 11 = .ok (.if_icmp .ne 7, 3) := by decide +kernel
theorem dX9_readLocation_14 : decode cX9_readLocation 14 = .ok (.iconst 1, 1) := by decide +kernel
theorem dX9_readLocation_15 : decode cX9_readLocation 15 = .ok (.goto 4, 3) := by decide +kernel
theorem dX9_readLocation_18 : decode cX9_readLocation 18 = .ok (.iconst 0, 1) := by decide +kernel
theorem dX9_readLocation_19 : decode cX9_readLocation 19 = .ok (.bipush (-17), 2) := by decide +kernel
theorem dX9_readLocation_21 : decode cX9_readLocation 21 = .ok (.invokevirtual 130, 3) := by decide +kernel
theorem dX9_readLocation_24 : decode cX9_readLocation 24 = .ok (.aload_n 0, 1) := by decide +kernel
theorem dX9_readLocation_25 : decode cX9_readLocation 25 = .ok (.invokevirtual 138, 3) := by decide +kernel
theorem dX9_readLocation_28 : decode cX9_readLocation 28 = .ok (.aload_n 0, 1) := by decide +kernel
theorem dX9_readLocation_29 : decode cX9_readLocation 29 = .ok (.invokevirtual 151, 3) := by decide +kernel
theorem dX9_readLocation_32 : decode cX9_readLocation 32 = .ok (.istore_n 2, 1) := by decide +kernel
theorem dX9_readLocation_33 : decode cX9_readLocation 33 = .ok (.aload_n 0, 1) := by decide +kernel
theorem dX9_readLocation_34 : decode cX9_readLocation 34 = .ok (.iconst 0, 1) := by decide +kernel
theorem dX9_readLocation_35 : decode cX9_readLocation 35 = .ok (.sipush 9999, 3) := by decide +kernel
theorem dX9_readLocation_38 : decode cX9_readLocation 38 = .ok (.invokevirtual 154, 3) := by decide +kernel
theorem dX9_readLocation_41 : decode cX9_readLocation 41 = .ok (.istore_n 3, 1) := by decide +kernel
theorem dX9_readLocation_42 : decode cX9_readLocation 42 = .ok (.aload_n 0, 1) := by decide +kernel
theorem dX9_readLocation_43 : decode cX9_readLocation 43 = .ok (.iconst 5, 1) := by decide +kernel
theorem dX9_readLocation_44 : decode cX9_readLocation 44 = .ok (.invokevirtual 157, 3) := by decide +kernel
theorem dX9_readLocation_47 : decode cX9_readLocation 47 = .ok (.istore 4, 2) := by decide +kernel
theorem dX9_readLocation_49 : decode cX9_readLocation 49 = .ok (.aload_n 0, 1) := by decide +kernel
theorem dX9_readLocation_50 : decode cX9_readLocation 50 = .ok (.iload 4, 2) := by decide +kernel
theorem dX9_readLocation_52 : decode cX9_readLocation 52 = .ok (.ifCond .ne 16, 3) := by decide +kernel
theorem dX9_readLocation_55 : decode cX9_readLocation 55 = .ok (.aload_n 0, 1) := by decide +kernel
theorem dX9_readLocation_56 : decode cX9_readLocation 56 = .ok (.bipush 6, 2) := by decide +kernel
theorem dX9_readLocation_58 : decode cX9_readLocation 58 = .ok (.invokevirtual 157, 3) := by decide +kernel
theorem dX9_readLocation_61 : decode cX9_readLocation 61 = .ok (.ifCond .ne 7, 3) := by decide +kernel
theorem dX9_readLocation_64 : decode cX9_readLocation 64 = .ok (.iconst 1, 1) := by decide +kernel
theorem dX9_readLocation_65 : decode cX9_readLocation 65 = .ok (.goto 4, 3) := by decide +kernel
theorem dX9_readLocation_68 : decode cX9_readLocation 68 = .ok (.iconst 0, 1) := by decide +kernel
theorem dX9_readLocation_69 : decode cX9_readLocation 69 = .ok (.bipush (-11), 2) := by decide +kernel
theorem dX9_readLocation_71 : decode cX9_readLocation 71 = .ok (.invokevirtual 130, 3) := by decide +kernel
theorem dX9_readLocation_74 : decode cX9_readLocation 74 = .ok (.aload_n 0, 1) := by decide +kernel
theorem dX9_readLocation_75 : decode cX9_readLocation 75 = .ok (.invokevirtual 138, 3) := by decide +kernel
theorem dX9_readLocation_78 : decode cX9_readLocation 78 = .ok (.aload_n 0, 1) := by decide +kernel
theorem dX9_readLocation_79 : decode cX9_readLocation 79 = .ok (.getfield 121, 3) := by decide +kernel
theorem dX9_readLocation_82 : decode cX9_readLocation 82 = .ok (.ifCond .eq 4, 3) := by decide +kernel
theorem dX9_readLocation_85 : decode cX9_readLocation 85 = .ok (.return_, 1) := by decide +kernel
theorem dX9_readLocation_86 : decode cX9_readLocation 86 = .ok (.aload_n 0, 1) := by decide +kernel
theorem dX9_readLocation_87 : decode cX9_readLocation 87 = .ok (.getfield 13, 3) := by decide +kernel
theorem dX9_readLocation_90 : decode cX9_readLocation 90 = .ok (.iconst 0, 1) := by decide +kernel
theorem dX9_readLocation_91 : decode cX9_readLocation 91 = .ok (.iload_n 1, 1) := by decide +kernel
theorem dX9_readLocation_92 : decode cX9_readLocation 92 = .ok (.iadd, 1) := by decide +kernel
theorem dX9_readLocation_93 : decode cX9_readLocation 93 = .ok (.iload_n 2, 1) := by decide +kernel
theorem dX9_readLocation_94 : decode cX9_readLocation 94 = .ok (.iastore, 1) := by decide +kernel
theorem dX9_readLocation_95 : decode cX9_readLocation 95 = .ok (.aload_n 0, 1) := by decide +kernel
theorem dX9_readLocation_96 : decode cX9_readLocation 96 = .ok (.getfield 13, 3) := by decide +kernel
theorem dX9_readLocation_99 : decode cX9_readLocation 99 = .ok (.iconst 4, 1) := by decide +kernel
theorem dX9_readLocation_100 : decode cX9_readLocation 100 = .ok (.iload_n 1, 1) := by decide +kernel
theorem dX9_readLocation_101 : decode cX9_readLocation 101 = .ok (.iadd, 1) := by decide +kernel
theorem dX9_readLocation_102 : decode cX9_readLocation 102 = .ok (.iload_n 3, 1) := by decide +kernel
theorem dX9_readLocation_103 : decode cX9_readLocation 103 = .ok (.iastore, 1) := by decide +kernel
theorem dX9_readLocation_104 : decode cX9_readLocation 104 = .ok (.aload_n 0, 1) := by decide +kernel
theorem dX9_readLocation_105 : decode cX9_readLocation 105 = .ok (.getfield 13, 3) := by decide +kernel
theorem dX9_readLocation_108 : decode cX9_readLocation 108 = .ok (.bipush 8, 2) := by decide +kernel
theorem dX9_readLocation_110 : decode cX9_readLocation 110 = .ok (.iload_n 1, 1) := by decide +kernel
theorem dX9_readLocation_111 : decode cX9_readLocation 111 = .ok (.iadd, 1) := by decide +kernel
theorem dX9_readLocation_112 : decode cX9_readLocation 112 = .ok (.iload 4, 2) := by decide +kernel
theorem dX9_readLocation_114 : decode cX9_readLocation 114 = .ok (.ifCond .eq 7, 3) := by decide +kernel
theorem dX9_readLocation_117 : decode cX9_readLocation 117 = .ok (.iconst 1, 1) := by decide +kernel
theorem dX9_readLocation_118 : decode cX9_readLocation 118 = .ok (.goto 4, 3) := by decide +kernel
theorem dX9_readLocation_121 : decode cX9_readLocation 121 = .ok (.iconst 0, 1) := by decide +kernel
theorem dX9_readLocation_122 : decode cX9_readLocation 122 = .ok (.iastore, 1) := by decide +kernel
theorem dX9_readLocation_123 : decode cX9_readLocation 123 = .ok (.aload_n 0, 1) := by decide +kernel
theorem dX9_readLocation_124 : decode cX9_readLocation 124 = .ok (.getfield 13, 3) := by decide +kernel
theorem dX9_readLocation_127 : decode cX9_readLocation 127 = .ok (.bipush 80, 2) := by decide +kernel
theorem dX9_readLocation_129 : decode cX9_readLocation 129 = .ok (.dup2, 1) := by decide +kernel
theorem dX9_readLocation_130 : decode cX9_readLocation 130 = .ok (.iaload, 1) := by decide +kernel
theorem dX9_readLocation_131 : decode cX9_readLocation 131 = .ok (.iconst 1, 1) := by decide +kernel
theorem dX9_readLocation_132 : decode cX9_readLocation 132 = .ok (.iadd, 1) := by decide +kernel
theorem dX9_readLocation_133 : decode cX9_readLocation 133 = .ok (.iastore, 1) := by decide +kernel
theorem dX9_readLocation_134 : decode cX9_readLocation 134 = .ok (.return_, 1) := by decide +kernel
theorem dX9_readActor_0 : decode cX9_readActor 0 = .ok (.aload_n 0, 1) := by decide +kernel
theorem dX9_readActor_1 : decode cX9_readActor 1 = .ok (.getfield 13, 3) := by decide +kernel
theorem dX9_readActor_4 : decode cX9_readActor 4 = .ok (.bipush 81, 2) := by decide +kernel
theorem dX9_readActor_6 : decode cX9_readActor 6 = .ok (.iaload, 1) := by decide +kernel
theorem dX9_readActor_7 : decode cX9_readActor 7 = .ok (.istore_n 1, 1) := by decide +kernel
theorem dX9_readActor_8 : decode cX9_readActor 8 = .ok (.aload_n 0, 1) := by decide +kernel
theorem dX9_readActor_9 : decode cX9_readActor 9 = .ok (.iload_n 1, 1) := by decide +kernel
theorem dX9_readActor_10 : decode cX9_readActor 10 = .ok (.bipush 6, 2) := by decide +kernel
theorem dX9_readActor_12 : decode cX9_readActor 12 = .ok (.if_icmp .ne 7, 3) := by decide +kernel
theorem dX9_readActor_15 : decode cX9_readActor 15 = .ok (.iconst 1, 1) := by decide +kernel
theorem dX9_readActor_16 : decode cX9_readActor 16 = .ok (.goto 4, 3) := by decide +kernel
theorem dX9_readActor_19 : decode cX9_readActor 19 = .ok (.iconst 0, 1) := by decide +kernel
theorem dX9_readActor_20 : decode cX9_readActor 20 = .ok (.bipush (-17), 2) := by decide +kernel
theorem dX9_readActor_22 : decode cX9_readActor 22 = .ok (.invokevirtual 130, 3) := by decide +kernel
theorem dX9_readActor_25 : decode cX9_readActor 25 = .ok (.aload_n 0, 1) := by decide +kernel
theorem dX9_readActor_26 : decode cX9_readActor 26 = .ok (.invokevirtual 138, 3) := by decide +kernel
theorem dX9_readActor_29 : decode cX9_readActor 29 = .ok (.aload_n 0, 1) := by decide +kernel
theorem dX9_readActor_30 : decode cX9_readActor 30 = .ok (.invokevirtual 151, 3) := by decide +kernel
theorem dX9_readActor_33 : decode cX9_readActor 33 = .ok (.istore_n 2, 1) := by decide +kernel
theorem dX9_readActor_34 : decode cX9_readActor 34 = .ok (.aload_n 0, 1) := by decide +kernel
theorem dX9_readActor_35 : decode cX9_readActor 35 = .ok (.iconst 0, 1) := by decide +kernel
theorem dX9_readActor_36 : decode cX9_readActor 36 = .ok (.sipush 9999, 3) := by decide +kernel
theorem dX9_readActor_39 : decode cX9_readActor 39 = .ok (.invokevirtual 154, 3) := by decide +kernel
theorem dX9_readActor_42 : decode cX9_readActor 42 = .ok (.istore_n 3, 1) := by decide +kernel
theorem dX9_readActor_43 : decode cX9_readActor 43 = .ok (.aload_n 0, 1) := by decide +kernel
theorem dX9_readActor_44 : decode cX9_readActor 44 = .ok (.getfield 121, 3) := by decide +kernel
theorem dX9_readActor_47 : decode cX9_readActor 47 = .ok (.ifCond .eq 4, 3) := by decide +kernel
theorem dX9_readActor_50 : decode cX9_readActor 50 = .ok (.return_, 1) := by decide +kernel
theorem dX9_readActor_51 : decode cX9_readActor 51 = .ok (.aload_n 0, 1) := by decide +kernel
theorem dX9_readActor_52 : decode cX9_readActor 52 = .ok (.getfield 13, 3) := by decide +kernel
theorem dX9_readActor_55 : decode cX9_readActor 55 = .ok (.bipush 12, 2) := by decide +kernel
theorem dX9_readActor_57 : decode cX9_readActor 57 = .ok (.iload_n 1, 1) := by decide +kernel
theorem dX9_readActor_58 : decode cX9_readActor 58 = .ok (.iadd, 1) := by decide +kernel
theorem dX9_readActor_59 : decode cX9_readActor 59 = .ok (.iload_n 2, 1) := by decide +kernel
theorem dX9_readActor_60 : decode cX9_readActor 60 = .ok (.iastore, 1) := by decide +kernel
theorem dX9_readActor_61 : decode cX9_readActor 61 = .ok (.aload_n 0, 1) := by decide +kernel
theorem dX9_readActor_62 : decode cX9_readActor 62 = .ok (.getfield 13, 3) := by decide +kernel
theorem dX9_readActor_65 : decode cX9_readActor 65 = .ok (.bipush 18, 2) := by decide +kernel
theorem dX9_readActor_67 : decode cX9_readActor 67 = .ok (.iload_n 1, 1) := by decide +kernel
theorem dX9_readActor_68 : decode cX9_readActor 68 = .ok (.iadd, 1) := by decide +kernel
theorem dX9_readActor_69 : decode cX9_readActor 69 = .ok (.iload_n 3, 1) := by decide +kernel
theorem dX9_readActor_70 : decode cX9_readActor 70 = .ok (.iastore, 1) := by decide +kernel
theorem dX9_readActor_71 : decode cX9_readActor 71 = .ok (.aload_n 0, 1) := by decide +kernel
theorem dX9_readActor_72 : decode cX9_readActor 72 = .ok (.getfield 13, 3) := by decide +kernel
theorem dX9_readActor_75 : decode cX9_readActor 75 = .ok (.bipush 81, 2) := by decide +kernel
theorem dX9_readActor_77 : decode cX9_readActor 77 = .ok (.dup2, 1) := by decide +kernel
theorem dX9_readActor_78 : decode cX9_readActor 78 = .ok (.iaload, 1) := by decide +kernel
theorem dX9_readActor_79 : decode cX9_readActor 79 = .ok (.iconst 1, 1) := by decide +kernel
theorem dX9_readActor_80 : decode cX9_readActor 80 = .ok (.iadd, 1) := by decide +kernel
theorem dX9_readActor_81 : decode cX9_readActor 81 = .ok (.iastore, 1) := by decide +kernel
theorem dX9_readActor_82 : decode cX9_readActor 82 = .ok (.return_, 1) := by decide +kernel
theorem dX9_readCast_0 : decode cX9_readCast 0 = .ok (.iconst 0, 1) := by decide +kernel
theorem dX9_readCast_1 : decode cX9_readCast 1 = .ok (.istore_n 1, 1) := by decide +kernel
theorem dX9_readCast_2 : decode cX9_readCast 2 = .ok (.aload_n 0, 1) := by decide +kernel
theorem dX9_readCast_3 : decode cX9_readCast 3 = .ok (.getfield 121, 3) := by decide +kernel
theorem dX9_readCast_6 : decode cX9_readCast 6 = .ok (.ifCond .ne 107, 3) := by decide +kernel
theorem dX9_readCast_9 : decode cX9_readCast 9 = .ok (.aload_n 0, 1) := by decide +kernel
theorem dX9_readCast_10 : decode cX9_readCast 10 = .ok (.getfield 94, 3) := by decide +kernel
theorem dX9_readCast_13 : decode cX9_readCast 13 = .ok (.iconst 2, 1) := by decide +kernel
theorem dX9_readCast_14 : decode cX9_readCast 14 = .ok (.if_icmp .eq 99, 3) := by decide +kernel
theorem dX9_readCast_17 : decode cX9_readCast 17 = .ok (.aload_n 0, 1) := by decide +kernel
theorem dX9_readCast_18 : decode cX9_readCast 18 = .ok (.invokevirtual 144, 3) := by decide +kernel
theorem dX9_readCast_21 : decode cX9_readCast 21 = .ok (.aload_n 0, 1) := by decide +kernel
theorem dX9_readCast_22 : decode cX9_readCast 22 = .ok (.getfield 121, 3) := by decide +kernel
theorem dX9_readCast_25 : decode cX9_readCast 25 = .ok (.ifCond .ne 23, 3) := by decide +kernel
theorem dX9_readCast_28 : decode cX9_readCast 28 = .ok (.aload_n 0, 1) := by decide +kernel
theorem dX9_readCast_29 : decode cX9_readCast 29 = .ok (.bipush 12, 2) := by decide +kernel
theorem dX9_readCast_31 : decode cX9_readCast 31 = .ok (.aload_n 0, 1) := by decide +kernel
theorem dX9_readCast_32 : decode cX9_readCast 32 = .ok (.getfield 13, 3) := by decide +kernel
theorem dX9_readCast_35 : decode cX9_readCast 35 = .ok (.bipush 81, 2) := by decide +kernel
theorem dX9_readCast_37 : decode cX9_readCast 37 = .ok (.iaload, 1) := by decide +kernel
theorem dX9_readCast_38 : decode cX9_readCast 38 = .ok (.aload_n 0, 1) := by decide +kernel
theorem dX9_readCast_39 : decode cX9_readCast 39 = .ok (.getfield 141, 3) := by decide +kernel
theorem dX9_readCast_42 : decode cX9_readCast 42 = .ok (.invokevirtual 147, 3) := by decide +kernel
theorem dX9_readCast_45 : decode cX9_readCast 45 = .ok (.goto 4, 3) := by decide +kernel
theorem dX9_readCast_48 : decode cX9_readCast 48 = .ok (.iconst 0, 1) := by decide +kernel
theorem dX9_readCast_49 : decode cX9_readCast 49 = .ok (.istore_n 2, 1) := by decide +kernel
theorem dX9_readCast_50 : decode cX9_readCast 50 = .ok (.aload_n 0, 1) := by decide +kernel
theorem dX9_readCast_51 : decode cX9_readCast 51 = .ok (.iload_n 2, 1) := by decide +kernel
theorem dX9_readCast_52 : decode cX9_readCast 52 = .ok (.iconst (-1), 1) := by decide +kernel
theorem dX9_readCast_53 : decode cX9_readCast 53 = .ok (.if_icmp .ne 7, 3) := by decide +kernel
theorem dX9_readCast_56 : decode cX9_readCast 56 = .ok (.iconst 1, 1) := by decide +kernel
theorem dX9_readCast_57 : decode cX9_readCast 57 = .ok (.goto 4, 3) := by decide +kernel
theorem dX9_readCast_60 : decode cX9_readCast 60 = .ok (.iconst 0, 1) := by decide +kernel
theorem dX9_readCast_61 : decode cX9_readCast 61 = .ok (.bipush (-13), 2) := by decide +kernel
theorem dX9_readCast_63 : decode cX9_readCast 63 = .ok (.invokevirtual 130, 3) := by decide +kernel
theorem dX9_readCast_66 : decode cX9_readCast 66 = .ok (.aload_n 0, 1) := by decide +kernel
theorem dX9_readCast_67 : decode cX9_readCast 67 = .ok (.aload_n 0, 1) := by decide +kernel
theorem dX9_readCast_68 : decode cX9_readCast 68 = .ok (.getfield 121, 3) := by decide +kernel
theorem dX9_readCast_71 : decode cX9_readCast 71 = .ok (.ifCond .ne 16, 3) := by decide +kernel
theorem dX9_readCast_74 : decode cX9_readCast 74 = .ok (.iload_n 1, 1) := by decide +kernel
theorem dX9_readCast_75 : decode cX9_readCast 75 = .ok (.iload_n 2, 1) := by decide +kernel
theorem dX9_readCast_76 : decode cX9_readCast 76 = .ok (.ishr, 1) := by decide +kernel
theorem dX9_readCast_77 : decode cX9_readCast 77 = .ok (.iconst 1, 1) := by decide +kernel
theorem dX9_readCast_78 : decode cX9_readCast 78 = .ok (.iand, 1) := by decide +kernel
theorem dX9_readCast_79 : decode cX9_readCast 79 = .ok (.iconst 1, 1) := by decide +kernel
theorem dX9_readCast_80 : decode cX9_readCast 80 = .ok (.if_icmp .ne 7, 3) := by decide +kernel
theorem dX9_readCast_83 : decode cX9_readCast 83 = .ok (.iconst 1, 1) := by decide +kernel
theorem dX9_readCast_84 : decode cX9_readCast 84 = .ok (.goto 4, 3) := by decide +kernel
theorem dX9_readCast_87 : decode cX9_readCast 87 = .ok (.iconst 0, 1) := by decide +kernel
theorem dX9_readCast_88 : decode cX9_readCast 88 = .ok (.bipush (-14), 2) := by decide +kernel
theorem dX9_readCast_90 : decode cX9_readCast 90 = .ok (.invokevirtual 130, 3) := by decide +kernel
theorem dX9_readCast_93 : decode cX9_readCast 93 = .ok (.aload_n 0, 1) := by decide +kernel
theorem dX9_readCast_94 : decode cX9_readCast 94 = .ok (.getfield 121, 3) := by decide +kernel
theorem dX9_readCast_97 : decode cX9_readCast 97 = .ok (.ifCond .ne 9, 3) := by decide +kernel
theorem dX9_readCast_100 : decode cX9_readCast 100 = .ok (.iload_n 1, 1) := by decide +kernel
theorem dX9_readCast_101 : decode cX9_readCast 101 = .ok (.iconst 1, 1) := by decide +kernel
theorem dX9_readCast_102 : decode cX9_readCast 102 = .ok (.iload_n 2, 1) := by decide +kernel
theorem dX9_readCast_103 : decode cX9_readCast 103 = .ok (.ishl, 1) := by decide +kernel
theorem dX9_readCast_104 : decode cX9_readCast 104 = .ok (.ior, 1) := by decide +kernel
theorem dX9_readCast_105 : decode cX9_readCast 105 = .ok (.istore_n 1, 1) := by decide +kernel
theorem dX9_readCast_106 : decode cX9_readCast 106 = .ok (.aload_n 0, 1) := by decide +kernel
theorem dX9_readCast_107 : decode cX9_readCast 107 = .ok (.invokevirtual 138, 3) := by decide +kernel
theorem dX9_readCast_110 : decode cX9_readCast 110 = .ok (.goto (-108), 3) := by decide +kernel
theorem dX9_readCast_113 : decode cX9_readCast 113 = .ok (.iload_n 1, 1) := by decide +kernel
theorem dX9_readCast_114 : decode cX9_readCast 114 = .ok (.ireturn, 1) := by decide +kernel
theorem dX9_readScene_0 : decode cX9_readScene 0 = .ok (.aload_n 0, 1) := by decide +kernel
theorem dX9_readScene_1 : decode cX9_readScene 1 = .ok (.getfield 13, 3) := by decide +kernel
theorem dX9_readScene_4 : decode cX9_readScene 4 = .ok (.bipush 82, 2) := by decide +kernel
theorem dX9_readScene_6 : decode cX9_readScene 6 = .ok (.iaload, 1) := by decide +kernel
theorem dX9_readScene_7 : decode cX9_readScene 7 = .ok (.istore_n 1, 1) := by decide +kernel
theorem dX9_readScene_8 : decode cX9_readScene 8 = .ok (.aload_n 0, 1) := by decide +kernel
theorem dX9_readScene_9 : decode cX9_readScene 9 = .ok (.iload_n 1, 1) := by decide +kernel
theorem dX9_readScene_10 : decode cX9_readScene 10 = .ok (.bipush 14, 2) := by decide +kernel
theorem dX9_readScene_12 : decode cX9_readScene 12 = .ok (.if_icmp .ne 7, 3) := by decide +kernel
theorem dX9_readScene_15 : decode cX9_readScene 15 = .ok (.iconst 1, 1) := by decide +kernel
theorem dX9_readScene_16 : decode cX9_readScene 16 = .ok (.goto 4, 3) := by decide +kernel
theorem dX9_readScene_19 : decode cX9_readScene 19 = .ok (.iconst 0, 1) := by decide +kernel
theorem dX9_readScene_20 : decode cX9_readScene 20 = .ok (.bipush (-17), 2) := by decide +kernel
theorem dX9_readScene_22 : decode cX9_readScene 22 = .ok (.invokevirtual 130, 3) := by decide +kernel
theorem dX9_readScene_25 : decode cX9_readScene 25 = .ok (.aload_n 0, 1) := by decide +kernel
theorem dX9_readScene_26 : decode cX9_readScene 26 = .ok (.invokevirtual 138, 3) := by decide +kernel
theorem dX9_readScene_29 : decode cX9_readScene 29 = .ok (.aload_n 0, 1) := by decide +kernel
theorem dX9_readScene_30 : decode cX9_readScene 30 = .ok (.invokevirtual 144, 3) := by decide +kernel
theorem dX9_readScene_33 : decode cX9_readScene 33 = .ok (.aload_n 0, 1) := by decide +kernel
theorem dX9_readScene_34 : decode cX9_readScene 34 = .ok (.getfield 121, 3) := by decide +kernel
theorem dX9_readScene_37 : decode cX9_readScene 37 = .ok (.ifCond .ne 22, 3) := by decide +kernel
theorem dX9_readScene_40 : decode cX9_readScene 40 = .ok (.aload_n 0, 1) := by decide +kernel
theorem dX9_readScene_41 : decode cX9_readScene 41 = .ok (.iconst 0, 1) := by decide +kernel
theorem dX9_readScene_42 : decode cX9_readScene 42 = .ok (.aload_n 0, 1) := by decide +kernel
theorem dX9_readScene_43 : decode cX9_readScene 43 = .ok (.getfield 13, 3) := by decide +kernel
theorem dX9_readScene_46 : decode cX9_readScene 46 = .ok (.bipush 80, 2) := by decide +kernel
theorem dX9_readScene_48 : decode cX9_readScene 48 = .ok (.iaload, 1) := by decide +kernel
theorem dX9_readScene_49 : decode cX9_readScene 49 = .ok (.aload_n 0, 1) := by decide +kernel
theorem dX9_readScene_50 : decode cX9_readScene 50 = .ok (.getfield 141, 3) := by decide +kernel
theorem dX9_readScene_53 : decode cX9_readScene 53 = .ok (.invokevirtual 147, 3) := by decide +kernel
theorem dX9_readScene_56 : decode cX9_readScene 56 = .ok (.goto 4, 3) := by decide +kernel
theorem dX9_readScene_59 : decode cX9_readScene 59 = .ok (.iconst 0, 1) := by decide +kernel
theorem dX9_readScene_60 : decode cX9_readScene 60 = .ok (.istore_n 2, 1) := by decide +kernel
theorem dX9_readScene_61 : decode cX9_readScene 61 = .ok (.aload_n 0, 1) := by decide +kernel
theorem dX9_readScene_62 : decode cX9_readScene 62 = .ok (.iload_n 2, 1) := by decide +kernel
theorem dX9_readScene_63 : decode cX9_readScene 63 = .ok (.iconst (-1), 1) := by decide +kernel
theorem dX9_readScene_64 : decode cX9_readScene 64 = .ok (.if_icmp .ne 7, 3) := by decide +kernel
theorem dX9_readScene_67 : decode cX9_readScene 67 = .ok (.iconst 1, 1) := by decide +kernel
theorem dX9_readScene_68 : decode cX9_readScene 68 = .ok (.goto 4, 3) := by decide +kernel
theorem dX9_readScene_71 : decode cX9_readScene 71 = .ok (.iconst 0, 1) := by decide +kernel
theorem dX9_readScene_72 : decode cX9_readScene 72 = .ok (.bipush (-13), 2) := by decide +kernel
theorem dX9_readScene_74 : decode cX9_readScene 74 = .ok (.invokevirtual 130, 3) := by decide +kernel
theorem dX9_readScene_77 : decode cX9_readScene 77 = .ok (.aload_n 0, 1) := by decide +kernel
theorem dX9_readScene_78 : decode cX9_readScene 78 = .ok (.invokevirtual 138, 3) := by decide +kernel
theorem dX9_readScene_81 : decode cX9_readScene 81 = .ok (.aload_n 0, 1) := by decide +kernel
theorem dX9_readScene_82 : decode cX9_readScene 82 = .ok (.iconst 1, 1) := by decide +kernel
theorem dX9_readScene_83 : decode cX9_readScene 83 = .ok (.bipush 60, 2) := by decide +kernel
theorem dX9_readScene_85 : decode cX9_readScene 85 = .ok (.invokevirtual 154, 3) := by decide +kernel
theorem dX9_readScene_88 : decode cX9_readScene 88 = .ok (.istore_n 3, 1) := by decide +kernel
theorem dX9_readScene_89 : decode cX9_readScene 89 = .ok (.aload_n 0, 1) := by decide +kernel
theorem dX9_readScene_90 : decode cX9_readScene 90 = .ok (.bipush 7, 2) := by decide +kernel
theorem dX9_readScene_92 : decode cX9_readScene 92 = .ok (.invokevirtual 157, 3) := by decide +kernel
theorem dX9_readScene_95 : decode cX9_readScene 95 = .ok (.istore 4, 2) := by decide +kernel
theorem dX9_readScene_97 : decode cX9_readScene 97 = .ok (.iload 4, 2) := by decide +kernel
theorem dX9_readScene_99 : decode cX9_readScene 99 = .ok (.ifCond .eq 7, 3) := by decide +kernel
theorem dX9_readScene_102 : decode cX9_readScene 102 = .ok (.aload_n 0, 1) := by decide +kernel
theorem dX9_readScene_103 : decode cX9_readScene 103 = .ok (.invokevirtual 127, 3) := by decide +kernel
theorem dX9_readScene_106 : decode cX9_readScene 106 = .ok (.aload_n 0, 1) := by decide +kernel
theorem dX9_readScene_107 : decode cX9_readScene 107 = .ok (.invokevirtual 160, 3) := by decide +kernel
theorem dX9_readScene_110 : decode cX9_readScene 110 = .ok (.istore 5, 2) := by decide +kernel
theorem dX9_readScene_112 : decode cX9_readScene 112 = .ok (.aload_n 0, 1) := by decide +kernel
theorem dX9_readScene_113 : decode cX9_readScene 113 = .ok (.getfield 121, 3) := by decide +kernel
theorem dX9_readScene_116 : decode cX9_readScene 116 = .ok (.ifCond .eq 4, 3) := by decide +kernel
theorem dX9_readScene_119 : decode cX9_readScene 119 = .ok (.return_, 1) := by decide +kernel
theorem dX9_readScene_120 : decode cX9_readScene 120 = .ok (.aload_n 0, 1) := by decide +kernel
theorem dX9_readScene_121 : decode cX9_readScene 121 = .ok (.getfield 13, 3) := by decide +kernel
theorem dX9_readScene_124 : decode cX9_readScene 124 = .ok (.bipush 24, 2) := by decide +kernel
theorem dX9_readScene_126 : decode cX9_readScene 126 = .ok (.iload_n 1, 1) := by decide +kernel
theorem dX9_readScene_127 : decode cX9_readScene 127 = .ok (.iadd, 1) := by decide +kernel
theorem dX9_readScene_128 : decode cX9_readScene 128 = .ok (.iload_n 2, 1) := by decide +kernel
theorem dX9_readScene_129 : decode cX9_readScene 129 = .ok (.iastore, 1) := by decide +kernel
theorem dX9_readScene_130 : decode cX9_readScene 130 = .ok (.aload_n 0, 1) := by decide +kernel
theorem dX9_readScene_131 : decode cX9_readScene 131 = .ok (.getfield 13, 3) := by decide +kernel
theorem dX9_readScene_134 : decode cX9_readScene 134 = .ok (.bipush 38, 2) := by decide +kernel
theorem dX9_readScene_136 : decode cX9_readScene 136 = .ok (.iload_n 1, 1) := by decide +kernel
theorem dX9_readScene_137 : decode cX9_readScene 137 = .ok (.iadd, 1) := by decide +kernel
theorem dX9_readScene_138 : decode cX9_readScene 138 = .ok (.iload_n 3, 1) := by decide +kernel
theorem dX9_readScene_139 : decode cX9_readScene 139 = .ok (.iastore, 1) := by decide +kernel
theorem dX9_readScene_140 : decode cX9_readScene 140 = .ok (.aload_n 0, 1) := by decide +kernel
theorem dX9_readScene_141 : decode cX9_readScene 141 = .ok (.getfield 13, 3) := by decide +kernel
theorem dX9_readScene_144 : decode cX9_readScene 144 = .ok (.bipush 52, 2) := by decide +kernel
theorem dX9_readScene_146 : decode cX9_readScene 146 = .ok (.iload_n 1, 1) := by decide +kernel
theorem dX9_readScene_147 : decode cX9_readScene 147 = .ok (.iadd, 1) := by decide +kernel
theorem dX9_readScene_148 : decode cX9_readScene 148 = .ok (.iload 4, 2) := by decide +kernel
theorem dX9_readScene_150 : decode cX9_readScene 150 = .ok (.ifCond .eq 7, 3) := by decide +kernel
theorem dX9_readScene_153 : decode cX9_readScene 153 = .ok (.iconst 1, 1) := by decide +kernel
theorem dX9_readScene_154 : decode cX9_readScene 154 = .ok (.goto 4, 3) := by decide +kernel
theorem dX9_readScene_157 : decode cX9_readScene 157 = .ok (.iconst 0, 1) := by decide +kernel
theorem dX9_readScene_158 : decode cX9_readScene 158 = .ok (.iastore, 1) := by decide +kernel
theorem dX9_readScene_159 : decode cX9_readScene 159 = .ok (.aload_n 0, 1) := by decide +kernel
theorem dX9_readScene_160 : decode cX9_readScene 160 = .ok (.getfield 13, 3) := by decide +kernel
theorem dX9_readScene_163 : decode cX9_readScene 163 = .ok (.bipush 66, 2) := by decide +kernel
theorem dX9_readScene_165 : decode cX9_readScene 165 = .ok (.iload_n 1, 1) := by decide +kernel
theorem dX9_readScene_166 : decode cX9_readScene 166 = .ok (.iadd, 1) := by decide +kernel
theorem dX9_readScene_167 : decode cX9_readScene 167 = .ok (.iload 5, 2) := by decide +kernel
theorem dX9_readScene_169 : decode cX9_readScene 169 = .ok (.iastore, 1) := by decide +kernel
theorem dX9_readScene_170 : decode cX9_readScene 170 = .ok (.aload_n 0, 1) := by decide +kernel
theorem dX9_readScene_171 : decode cX9_readScene 171 = .ok (.getfield 13, 3) := by decide +kernel
theorem dX9_readScene_174 : decode cX9_readScene 174 = .ok (.bipush 82, 2) := by decide +kernel
theorem dX9_readScene_176 : decode cX9_readScene 176 = .ok (.dup2, 1) := by decide +kernel
theorem dX9_readScene_177 : decode cX9_readScene 177 = .ok (.iaload, 1) := by decide +kernel
theorem dX9_readScene_178 : decode cX9_readScene 178 = .ok (.iconst 1, 1) := by decide +kernel
theorem dX9_readScene_179 : decode cX9_readScene 179 = .ok (.iadd, 1) := by decide +kernel
theorem dX9_readScene_180 : decode cX9_readScene 180 = .ok (.iastore, 1) := by decide +kernel
theorem dX9_readScene_181 : decode cX9_readScene 181 = .ok (.return_, 1) := by decide +kernel
theorem dX9_readSet_0 : decode cX9_readSet 0 = .ok (.aload_n 0, 1) := by decide +kernel
theorem dX9_readSet_1 : decode cX9_readSet 1 = .ok (.aload_n 0, 1) := by decide +kernel
theorem dX9_readSet_2 : decode cX9_readSet 2 = .ok (.getfield 163, 3) := by decide +kernel
theorem dX9_readSet_5 : decode cX9_readSet 5 = .ok (.bipush (-15), 2) := by decide +kernel
theorem dX9_readSet_7 : decode cX9_readSet 7 = .ok (.invokevirtual 130, 3) := by decide +kernel
theorem dX9_readSet_10 : decode cX9_readSet 10 = .ok (.aload_n 0, 1) := by decide +kernel
theorem dX9_readSet_11 : decode cX9_readSet 11 = .ok (.invokevirtual 138, 3) := by decide +kernel
theorem dX9_readSet_14 : decode cX9_readSet 14 = .ok (.aload_n 0, 1) := by decide +kernel
theorem dX9_readSet_15 : decode cX9_readSet 15 = .ok (.getfield 121, 3) := by decide +kernel
theorem dX9_readSet_18 : decode cX9_readSet 18 = .ok (.ifCond .ne 23, 3) := by decide +kernel
theorem dX9_readSet_21 : decode cX9_readSet 21 = .ok (.aload_n 0, 1) := by decide +kernel
theorem dX9_readSet_22 : decode cX9_readSet 22 = .ok (.getfield 94, 3) := by decide +kernel
theorem dX9_readSet_25 : decode cX9_readSet 25 = .ok (.ifCond .ne 16, 3) := by decide +kernel
theorem dX9_readSet_28 : decode cX9_readSet 28 = .ok (.aload_n 0, 1) := by decide +kernel
theorem dX9_readSet_29 : decode cX9_readSet 29 = .ok (.getfield 103, 3) := by decide +kernel
theorem dX9_readSet_32 : decode cX9_readSet 32 = .ok (.bipush 8, 2) := by decide +kernel
theorem dX9_readSet_34 : decode cX9_readSet 34 = .ok (.if_icmp .lt 7, 3) := by decide +kernel
theorem dX9_readSet_37 : decode cX9_readSet 37 = .ok (.iconst 1, 1) := by decide +kernel
theorem dX9_readSet_38 : decode cX9_readSet 38 = .ok (.goto 4, 3) := by decide +kernel
theorem dX9_readSet_41 : decode cX9_readSet 41 = .ok (.iconst 0, 1) := by decide +kernel
theorem dX9_readSet_42 : decode cX9_readSet 42 = .ok (.istore_n 1, 1) := by decide +kernel
theorem dX9_readSet_43 : decode cX9_readSet 43 = .ok (.aload_n 0, 1) := by decide +kernel
theorem dX9_readSet_44 : decode cX9_readSet 44 = .ok (.iload_n 1, 1) := by decide +kernel
theorem dX9_readSet_45 : decode cX9_readSet 45 = .ok (.ifCond .ne 7, 3) := by decide +kernel
theorem dX9_readSet_48 : decode cX9_readSet 48 = .ok (.iconst 1, 1) := by decide +kernel
theorem dX9_readSet_49 : decode cX9_readSet 49 = .ok (.goto 4, 3) := by decide +kernel
theorem dX9_readSet_52 : decode cX9_readSet 52 = .ok (.iconst 0, 1) := by decide +kernel
theorem dX9_readSet_53 : decode cX9_readSet 53 = .ok (.bipush (-11), 2) := by decide +kernel
theorem dX9_readSet_55 : decode cX9_readSet 55 = .ok (.invokevirtual 130, 3) := by decide +kernel
theorem dX9_readSet_58 : decode cX9_readSet 58 = .ok (.iload_n 1, 1) := by decide +kernel
theorem dX9_readSet_59 : decode cX9_readSet 59 = .ok (.ifCond .eq 13, 3) := by decide +kernel
theorem dX9_readSet_62 : decode cX9_readSet 62 = .ok (.aload_n 0, 1) := by decide +kernel
theorem dX9_readSet_63 : decode cX9_readSet 63 = .ok (.getfield 103, 3) := by decide +kernel
theorem dX9_readSet_66 : decode cX9_readSet 66 = .ok (.bipush 8, 2) := by decide +kernel
theorem dX9_readSet_68 : decode cX9_readSet 68 = .ok (.isub, 1) := by decide +kernel
theorem dX9_readSet_69 : decode cX9_readSet 69 = .ok (.goto 4, 3) := by decide +kernel
theorem dX9_readSet_72 : decode cX9_readSet 72 = .ok (.iconst 0, 1) := by decide +kernel
theorem dX9_readSet_73 : decode cX9_readSet 73 = .ok (.istore_n 2, 1) := by decide +kernel
theorem dX9_readSet_74 : decode cX9_readSet 74 = .ok (.aload_n 0, 1) := by decide +kernel
theorem dX9_readSet_75 : decode cX9_readSet 75 = .ok (.aload_n 0, 1) := by decide +kernel
theorem dX9_readSet_76 : decode cX9_readSet 76 = .ok (.getfield 167, 3) := by decide +kernel
theorem dX9_readSet_79 : decode cX9_readSet 79 = .ok (.iload_n 2, 1) := by decide +kernel
theorem dX9_readSet_80 : decode cX9_readSet 80 = .ok (.ishr, 1) := by decide +kernel
theorem dX9_readSet_81 : decode cX9_readSet 81 = .ok (.iconst 1, 1) := by decide +kernel
theorem dX9_readSet_82 : decode cX9_readSet 82 = .ok (.iand, 1) := by decide +kernel
theorem dX9_readSet_83 : decode cX9_readSet 83 = .ok (.iconst 1, 1) := by decide +kernel
theorem dX9_readSet_84 : decode cX9_readSet 84 = .ok (.if_icmp .ne 7, 3) := by decide +kernel
theorem dX9_readSet_87 : decode cX9_readSet 87 = .ok (.iconst 1, 1) := by decide +kernel
theorem dX9_readSet_88 : decode cX9_readSet 88 = .ok (.goto 4, 3) := by decide +kernel
theorem dX9_readSet_91 : decode cX9_readSet 91 = .ok (.iconst 0, 1) := by decide +kernel
theorem dX9_readSet_92 : decode cX9_readSet 92 = .ok (.bipush (-14), 2) := by decide +kernel
theorem dX9_readSet_94 : decode cX9_readSet 94 = .ok (.invokevirtual 130, 3) := by decide +kernel
theorem dX9_readSet_97 : decode cX9_readSet 97 = .ok (.aload_n 0, 1) := by decide +kernel
theorem dX9_readSet_98 : decode cX9_readSet 98 = .ok (.dup, 1) := by decide +kernel
theorem dX9_readSet_99 : decode cX9_readSet 99 = .ok (.getfield 167, 3) := by decide +kernel
theorem dX9_readSet_102 : decode cX9_readSet 102 = .ok (.iconst 1, 1) := by decide +kernel
theorem dX9_readSet_103 : decode cX9_readSet 103 = .ok (.iload_n 2, 1) := by decide +kernel
theorem dX9_readSet_104 : decode cX9_readSet 104 = .ok (.ishl, 1) := by decide +kernel
theorem dX9_readSet_105 : decode cX9_readSet 105 = .ok (.ior, 1) := by decide +kernel
theorem dX9_readSet_106 : decode cX9_readSet 106 = .ok (.putfield 167, 3) := by decide +kernel
theorem dX9_readSet_109 : decode cX9_readSet 109 = .ok (.aload_n 0, 1) := by decide +kernel
theorem dX9_readSet_110 : decode cX9_readSet 110 = .ok (.invokevirtual 138, 3) := by decide +kernel
theorem dX9_readSet_113 : decode cX9_readSet 113 = .ok (.aload_n 0, 1) := by decide +kernel
theorem dX9_readSet_114 : decode cX9_readSet 114 = .ok (.getfield 19, 3) := by decide +kernel
theorem dX9_readSet_117 : decode cX9_readSet 117 = .ok (.iconst 0, 1) := by decide +kernel
theorem dX9_readSet_118 : decode cX9_readSet 118 = .ok (.iload_n 2, 1) := by decide +kernel
theorem dX9_readSet_119 : decode cX9_readSet 119 = .ok (.iadd, 1) := by decide +kernel
theorem dX9_readSet_120 : decode cX9_readSet 120 = .ok (.aload_n 0, 1) := by decide +kernel
theorem dX9_readSet_121 : decode cX9_readSet 121 = .ok (.iload_n 2, 1) := by decide +kernel
theorem dX9_readSet_122 : decode cX9_readSet 122 = .ok (.invokestatic 170, 3) := by decide +kernel
theorem dX9_readSet_125 : decode cX9_readSet 125 = .ok (.iload_n 2, 1) := by decide +kernel
theorem dX9_readSet_126 : decode cX9_readSet 126 = .ok (.invokestatic 173, 3) := by decide +kernel
theorem dX9_readSet_129 : decode cX9_readSet 129 = .ok (.invokevirtual 154, 3) := by decide +kernel
theorem dX9_readSet_132 : decode cX9_readSet 132 = .ok (.iastore, 1) := by decide +kernel
theorem dX9_readSet_133 : decode cX9_readSet 133 = .ok (.return_, 1) := by decide +kernel
theorem dX9_readDay_0 : decode cX9_readDay 0 = .ok (.aload_n 0, 1) := by decide +kernel
theorem dX9_readDay_1 : decode cX9_readDay 1 = .ok (.iconst 1, 1) := by decide +kernel
theorem dX9_readDay_2 : decode cX9_readDay 2 = .ok (.putfield 163, 3) := by decide +kernel
theorem dX9_readDay_5 : decode cX9_readDay 5 = .ok (.aload_n 0, 1) := by decide +kernel
theorem dX9_readDay_6 : decode cX9_readDay 6 = .ok (.invokevirtual 138, 3) := by decide +kernel
theorem dX9_readDay_9 : decode cX9_readDay 9 = .ok (.aload_n 0, 1) := by decide +kernel
theorem dX9_readDay_10 : decode cX9_readDay 10 = .ok (.iconst 0, 1) := by decide +kernel
theorem dX9_readDay_11 : decode cX9_readDay 11 = .ok (.bipush 11, 2) := by decide +kernel
theorem dX9_readDay_13 : decode cX9_readDay 13 = .ok (.invokevirtual 154, 3) := by decide +kernel
theorem dX9_readDay_16 : decode cX9_readDay 16 = .ok (.istore_n 1, 1) := by decide +kernel
theorem dX9_readDay_17 : decode cX9_readDay 17 = .ok (.iconst 1, 1) := by decide +kernel
theorem dX9_readDay_18 : decode cX9_readDay 18 = .ok (.istore_n 2, 1) := by decide +kernel
theorem dX9_readDay_19 : decode cX9_readDay 19 = .ok (.iload_n 2, 1) := by decide +kernel
theorem dX9_readDay_20 : decode cX9_readDay 20 = .ok (.ifCond .eq 119, 3) := by decide +kernel
theorem dX9_readDay_23 : decode cX9_readDay 23 = .ok (.aload_n 0, 1) := by decide +kernel
theorem dX9_readDay_24 : decode cX9_readDay 24 = .ok (.getfield 121, 3) := by decide +kernel
theorem dX9_readDay_27 : decode cX9_readDay 27 = .ok (.ifCond .ne 112, 3) := by decide +kernel
theorem dX9_readDay_30 : decode cX9_readDay 30 = .ok (.aload_n 0, 1) := by decide +kernel
theorem dX9_readDay_31 : decode cX9_readDay 31 = .ok (.iconst 0, 1) := by decide +kernel
theorem dX9_readDay_32 : decode cX9_readDay 32 = .ok (.aload_n 0, 1) := by decide +kernel
theorem dX9_readDay_33 : decode cX9_readDay 33 = .ok (.getfield 13, 3) := by decide +kernel
theorem dX9_readDay_36 : decode cX9_readDay 36 = .ok (.bipush 82, 2) := by decide +kernel
theorem dX9_readDay_38 : decode cX9_readDay 38 = .ok (.iaload, 1) := by decide +kernel
theorem dX9_readDay_39 : decode cX9_readDay 39 = .ok (.iconst 1, 1) := by decide +kernel
theorem dX9_readDay_40 : decode cX9_readDay 40 = .ok (.isub, 1) := by decide +kernel
theorem dX9_readDay_41 : decode cX9_readDay 41 = .ok (.invokevirtual 134, 3) := by decide +kernel
theorem dX9_readDay_44 : decode cX9_readDay 44 = .ok (.istore_n 3, 1) := by decide +kernel
theorem dX9_readDay_45 : decode cX9_readDay 45 = .ok (.aload_n 0, 1) := by decide +kernel
theorem dX9_readDay_46 : decode cX9_readDay 46 = .ok (.aload_n 0, 1) := by decide +kernel
theorem dX9_readDay_47 : decode cX9_readDay 47 = .ok (.getfield 121, 3) := by decide +kernel
theorem dX9_readDay_50 : decode cX9_readDay 50 = .ok (.ifCond .ne 19, 3) := by decide +kernel
theorem dX9_readDay_53 : decode cX9_readDay 53 = .ok (.aload_n 0, 1) := by decide +kernel
theorem dX9_readDay_54 : decode cX9_readDay 54 = .ok (.getfield 19, 3) := by decide +kernel
theorem dX9_readDay_57 : decode cX9_readDay 57 = .ok (.iconst 4, 1) := by decide +kernel
theorem dX9_readDay_58 : decode cX9_readDay 58 = .ok (.iload_n 3, 1) := by decide +kernel
theorem dX9_readDay_59 : decode cX9_readDay 59 = .ok (.iadd, 1) := by decide +kernel
theorem dX9_readDay_60 : decode cX9_readDay 60 = .ok (.iaload, 1) := by decide +kernel
theorem dX9_readDay_61 : decode cX9_readDay 61 = .ok (.iconst (-1), 1) := by decide +kernel
theorem dX9_readDay_62 : decode cX9_readDay 62 = .ok (.if_icmp .eq 7, 3) := by decide +kernel
theorem dX9_readDay_65 : decode cX9_readDay 65 = .ok (.iconst 1, 1) := by decide +kernel
theorem dX9_readDay_66 : decode cX9_readDay 66 = .ok (.goto 4, 3) := by decide +kernel
theorem dX9_readDay_69 : decode cX9_readDay 69 = .ok (.iconst 0, 1) := by decide +kernel
theorem dX9_readDay_70 : decode cX9_readDay 70 = .ok (.bipush (-14), 2) := by decide +kernel
theorem dX9_readDay_72 : decode cX9_readDay 72 = .ok (.invokevirtual 130, 3) := by decide +kernel
theorem dX9_readDay_75 : decode cX9_readDay 75 = .ok (.aload_n 0, 1) := by decide +kernel
theorem dX9_readDay_76 : decode cX9_readDay 76 = .ok (.aload_n 0, 1) := by decide +kernel
theorem dX9_readDay_77 : decode cX9_readDay 77 = .ok (.getfield 121, 3) := by decide +kernel
theorem dX9_readDay_80 : decode cX9_readDay 80 = .ok (.ifCond .ne 16, 3) := by decide +kernel
theorem dX9_readDay_83 : decode cX9_readDay 83 = .ok (.aload_n 0, 1) := by decide +kernel
theorem dX9_readDay_84 : decode cX9_readDay 84 = .ok (.iload_n 3, 1) := by decide +kernel
theorem dX9_readDay_85 : decode cX9_readDay 85 = .ok (.iload_n 1, 1) := by decide +kernel
theorem dX9_readDay_86 : decode cX9_readDay 86 = .ok (.invokevirtual 176, 3) := by decide +kernel
theorem dX9_readDay_89 : decode cX9_readDay 89 = .ok (.ifCond .eq 7, 3) := by decide +kernel
theorem dX9_readDay_92 : decode cX9_readDay 92 = .ok (.iconst 1, 1) := by decide +kernel
theorem dX9_readDay_93 : decode cX9_readDay 93 = .ok (.goto 4, 3) := by decide +kernel
theorem dX9_readDay_96 : decode cX9_readDay 96 = .ok (.iconst 0, 1) := by decide +kernel
theorem dX9_readDay_97 : decode cX9_readDay 97 = .ok (.bipush (-16), 2) := by decide +kernel
theorem dX9_readDay_99 : decode cX9_readDay 99 = .ok (.invokevirtual 130, 3) := by decide +kernel
theorem dX9_readDay_102 : decode cX9_readDay 102 = .ok (.aload_n 0, 1) := by decide +kernel
theorem dX9_readDay_103 : decode cX9_readDay 103 = .ok (.getfield 121, 3) := by decide +kernel
theorem dX9_readDay_106 : decode cX9_readDay 106 = .ok (.ifCond .ne 12, 3) := by decide +kernel
theorem dX9_readDay_109 : decode cX9_readDay 109 = .ok (.aload_n 0, 1) := by decide +kernel
theorem dX9_readDay_110 : decode cX9_readDay 110 = .ok (.getfield 19, 3) := by decide +kernel
theorem dX9_readDay_113 : decode cX9_readDay 113 = .ok (.iconst 4, 1) := by decide +kernel
theorem dX9_readDay_114 : decode cX9_readDay 114 = .ok (.iload_n 3, 1) := by decide +kernel
theorem dX9_readDay_115 : decode cX9_readDay 115 = .ok (.iadd, 1) := by decide +kernel
theorem dX9_readDay_116 : decode cX9_readDay 116 = .ok (.iload_n 1, 1) := by decide +kernel
theorem dX9_readDay_117 : decode cX9_readDay 117 = .ok (.iastore, 1) := by decide +kernel
theorem dX9_readDay_118 : decode cX9_readDay 118 = .ok (.aload_n 0, 1) := by decide +kernel
theorem dX9_readDay_119 : decode cX9_readDay 119 = .ok (.invokevirtual 138, 3) := by decide +kernel
theorem dX9_readDay_122 : decode cX9_readDay 122 = .ok (.aload_n 0, 1) := by decide +kernel
theorem dX9_readDay_123 : decode cX9_readDay 123 = .ok (.getfield 94, 3) := by decide +kernel
theorem dX9_readDay_126 : decode cX9_readDay 126 = .ok (.iconst 1, 1) := by decide +kernel
theorem dX9_readDay_127 : decode cX9_readDay 127 = .ok (.if_icmp .ne 7, 3) := by decide +kernel
theorem dX9_readDay_130 : decode cX9_readDay 130 = .ok (.iconst 1, 1) := by decide +kernel
theorem dX9_readDay_131 : decode cX9_readDay 131 = .ok (.goto 4, 3) := by decide +kernel
theorem dX9_readDay_134 : decode cX9_readDay 134 = .ok (.iconst 0, 1) := by decide +kernel
theorem dX9_readDay_135 : decode cX9_readDay 135 = .ok (.istore_n 2, 1) := by decide +kernel
theorem dX9_readDay_136 : decode cX9_readDay 136 = .ok (.goto (-117), 3) := by decide +kernel
theorem dX9_readDay_139 : decode cX9_readDay 139 = .ok (.return_, 1) := by decide +kernel
theorem dX9_readStatement_0 : decode cX9_readStatement 0 = .ok (.aload_n 0, 1) := by decide +kernel
theorem dX9_readStatement_1 : decode cX9_readStatement 1 = .ok (.getfield 94, 3) := by decide +kernel
theorem dX9_readStatement_4 : decode cX9_readStatement 4 = .ok (.ifCond .ne 10, 3) := by decide +kernel
theorem dX9_readStatement_7 : decode cX9_readStatement 7 = .ok (.aload_n 0, 1) := by decide +kernel
theorem dX9_readStatement_8 : decode cX9_readStatement 8 = .ok (.getfield 103, 3) := by decide +kernel
theorem dX9_readStatement_11 : decode cX9_readStatement 11 = .ok (.goto 4, 3) := by decide +kernel
theorem dX9_readStatement_14 : decode cX9_readStatement 14 = .ok (.iconst (-1), 1) := by decide +kernel
theorem dX9_readStatement_15 : decode cX9_readStatement 15 = .ok (.istore_n 1, 1) := by decide +kernel
theorem dX9_readStatement_16 : decode cX9_readStatement 16 = .ok (.iload_n 1, 1) := by decide +kernel
theorem dX9_readStatement_17 : decode cX9_readStatement 17 = .ok (.tableswitch 70 0 4 #[35, 42, 49, 56, 63], 35) := by decide +kernel
theorem dX9_readStatement_52 : decode cX9_readStatement 52 = .ok (.aload_n 0, 1) := by decide +kernel
theorem dX9_readStatement_53 : decode cX9_readStatement 53 = .ok (.invokevirtual 179, 3) := by decide +kernel
theorem dX9_readStatement_56 : decode cX9_readStatement 56 = .ok (.goto 38, 3) := by decide +kernel
theorem dX9_readStatement_59 : decode cX9_readStatement 59 = .ok (.aload_n 0, 1) := by decide +kernel
theorem dX9_readStatement_60 : decode cX9_readStatement 60 = .ok (.invokevirtual 182, 3) := by decide +kernel
theorem dX9_readStatement_63 : decode cX9_readStatement 63 = .ok (.goto 31, 3) := by decide +kernel
theorem dX9_readStatement_66 : decode cX9_readStatement 66 = .ok (.aload_n 0, 1) := by decide +kernel
theorem dX9_readStatement_67 : decode cX9_readStatement 67 = .ok (.invokevirtual 185, 3) := by decide +kernel
theorem dX9_readStatement_70 : decode cX9_readStatement 70 = .ok (.goto 24, 3) := by decide +kernel
theorem dX9_readStatement_73 : decode cX9_readStatement 73 = .ok (.aload_n 0, 1) := by decide +kernel
theorem dX9_readStatement_74 : decode cX9_readStatement 74 = .ok (.invokevirtual 188, 3) := by decide +kernel
theorem dX9_readStatement_77 : decode cX9_readStatement 77 = .ok (.goto 17, 3) := by decide +kernel
theorem dX9_readStatement_80 : decode cX9_readStatement 80 = .ok (.aload_n 0, 1) := by decide +kernel
theorem dX9_readStatement_81 : decode cX9_readStatement 81 = .ok (.invokevirtual 191, 3) := by decide +kernel
theorem dX9_readStatement_84 : decode cX9_readStatement 84 = .ok (.goto 10, 3) := by decide +kernel
theorem dX9_readStatement_87 : decode cX9_readStatement 87 = .ok (.aload_n 0, 1) := by decide +kernel
theorem dX9_readStatement_88 : decode cX9_readStatement 88 = .ok (.iconst 1, 1) := by decide +kernel
theorem dX9_readStatement_89 : decode cX9_readStatement 89 = .ok (.bipush (-11), 2) := by decide +kernel
theorem dX9_readStatement_91 : decode cX9_readStatement 91 = .ok (.invokevirtual 130, 3) := by decide +kernel
theorem dX9_readStatement_94 : decode cX9_readStatement 94 = .ok (.aload_n 0, 1) := by decide +kernel
theorem dX9_readStatement_95 : decode cX9_readStatement 95 = .ok (.aload_n 0, 1) := by decide +kernel
theorem dX9_readStatement_96 : decode cX9_readStatement 96 = .ok (.getfield 94, 3) := by decide +kernel
theorem dX9_readStatement_99 : decode cX9_readStatement 99 = .ok (.iconst 2, 1) := by decide +kernel
theorem dX9_readStatement_100 : decode cX9_readStatement 100 = .ok (.if_icmp .eq 7, 3) := by decide +kernel
theorem dX9_readStatement_103 : decode cX9_readStatement 103 = .ok (.iconst 1, 1) := by decide +kernel
theorem dX9_readStatement_104 : decode cX9_readStatement 104 = .ok (.goto 4, 3) := by decide +kernel
theorem dX9_readStatement_107 : decode cX9_readStatement 107 = .ok (.iconst 0, 1) := by decide +kernel
theorem dX9_readStatement_108 : decode cX9_readStatement 108 = .ok (.bipush (-11), 2) := by decide +kernel
theorem dX9_readStatement_110 : decode cX9_readStatement 110 = .ok (.invokevirtual 130, 3) := by decide +kernel
theorem dX9_readStatement_113 : decode cX9_readStatement 113 = .ok (.aload_n 0, 1) := by decide +kernel
theorem dX9_readStatement_114 : decode cX9_readStatement 114 = .ok (.invokevirtual 138, 3) := by decide +kernel
theorem dX9_readStatement_117 : decode cX9_readStatement 117 = .ok (.aload_n 0, 1) := by decide +kernel
theorem dX9_readStatement_118 : decode cX9_readStatement 118 = .ok (.dup, 1) := by decide +kernel
theorem dX9_readStatement_119 : decode cX9_readStatement 119 = .ok (.getfield 194, 3) := by decide +kernel
theorem dX9_readStatement_122 : decode cX9_readStatement 122 = .ok (.iconst 1, 1) := by decide +kernel
theorem dX9_readStatement_123 : decode cX9_readStatement 123 = .ok (.iadd, 1) := by decide +kernel
theorem dX9_readStatement_124 : decode cX9_readStatement 124 = .ok (.putfield 194, 3) := by decide +kernel
theorem dX9_readStatement_127 : decode cX9_readStatement 127 = .ok (.return_, 1) := by decide +kernel
theorem dX9_load_0 : decode cX9_load 0 = .ok (.aload_n 0, 1) := by decide +kernel
theorem dX9_load_1 : decode cX9_load 1 = .ok (.iconst 0, 1) := by decide +kernel
theorem dX9_load_2 : decode cX9_load 2 = .ok (.putfield 53, 3) := by decide +kernel
theorem dX9_load_5 : decode cX9_load 5 = .ok (.iload_n 1, 1) := by decide +kernel
theorem dX9_load_6 : decode cX9_load 6 = .ok (.ifCond .lt 11, 3) := by decide +kernel
theorem dX9_load_9 : decode cX9_load 9 = .ok (.iload_n 1, 1) := by decide +kernel
theorem dX9_load_10 : decode cX9_load 10 = .ok (.aload_n 0, 1) := by decide +kernel
theorem dX9_load_11 : decode cX9_load 11 = .ok (.getfield 56, 3) := by decide +kernel
theorem dX9_load_14 : decode cX9_load 14 = .ok (.if_icmp .le 6, 3) := by decide +kernel
theorem dX9_load_17 : decode cX9_load 17 = .ok (.bipush (-2), 2) := by decide +kernel
theorem dX9_load_19 : decode cX9_load 19 = .ok (.ireturn, 1) := by decide +kernel
theorem dX9_load_20 : decode cX9_load 20 = .ok (.aload_n 0, 1) := by decide +kernel
theorem dX9_load_21 : decode cX9_load 21 = .ok (.getfield 13, 3) := by decide +kernel
theorem dX9_load_24 : decode cX9_load 24 = .ok (.aload_n 0, 1) := by decide +kernel
theorem dX9_load_25 : decode cX9_load 25 = .ok (.getfield 16, 3) := by decide +kernel
theorem dX9_load_28 : decode cX9_load 28 = .ok (.invokestatic 197, 3) := by decide +kernel
theorem dX9_load_31 : decode cX9_load 31 = .ok (.aload_n 0, 1) := by decide +kernel
theorem dX9_load_32 : decode cX9_load 32 = .ok (.getfield 19, 3) := by decide +kernel
theorem dX9_load_35 : decode cX9_load 35 = .ok (.aload_n 0, 1) := by decide +kernel
theorem dX9_load_36 : decode cX9_load 36 = .ok (.getfield 22, 3) := by decide +kernel
theorem dX9_load_39 : decode cX9_load 39 = .ok (.invokestatic 197, 3) := by decide +kernel
theorem dX9_load_42 : decode cX9_load 42 = .ok (.aload_n 0, 1) := by decide +kernel
theorem dX9_load_43 : decode cX9_load 43 = .ok (.invokevirtual 50, 3) := by decide +kernel
theorem dX9_load_46 : decode cX9_load 46 = .ok (.aload_n 0, 1) := by decide +kernel
theorem dX9_load_47 : decode cX9_load 47 = .ok (.iload_n 1, 1) := by decide +kernel
theorem dX9_load_48 : decode cX9_load 48 = .ok (.putfield 84, 3) := by decide +kernel
theorem dX9_load_51 : decode cX9_load 51 = .ok (.aload_n 0, 1) := by decide +kernel
theorem dX9_load_52 : decode cX9_load 52 = .ok (.iconst 0, 1) := by decide +kernel
theorem dX9_load_53 : decode cX9_load 53 = .ok (.putfield 81, 3) := by decide +kernel
theorem dX9_load_56 : decode cX9_load 56 = .ok (.aload_n 0, 1) := by decide +kernel
theorem dX9_load_57 : decode cX9_load 57 = .ok (.iconst 0, 1) := by decide +kernel
theorem dX9_load_58 : decode cX9_load 58 = .ok (.putfield 121, 3) := by decide +kernel
theorem dX9_load_61 : decode cX9_load 61 = .ok (.aload_n 0, 1) := by decide +kernel
theorem dX9_load_62 : decode cX9_load 62 = .ok (.iconst 0, 1) := by decide +kernel
theorem dX9_load_63 : decode cX9_load 63 = .ok (.putfield 167, 3) := by decide +kernel
theorem dX9_load_66 : decode cX9_load 66 = .ok (.aload_n 0, 1) := by decide +kernel
theorem dX9_load_67 : decode cX9_load 67 = .ok (.iconst 0, 1) := by decide +kernel
theorem dX9_load_68 : decode cX9_load 68 = .ok (.putfield 163, 3) := by decide +kernel
theorem dX9_load_71 : decode cX9_load 71 = .ok (.aload_n 0, 1) := by decide +kernel
theorem dX9_load_72 : decode cX9_load 72 = .ok (.iconst 0, 1) := by decide +kernel
theorem dX9_load_73 : decode cX9_load 73 = .ok (.putfield 194, 3) := by decide +kernel
theorem dX9_load_76 : decode cX9_load 76 = .ok (.aload_n 0, 1) := by decide +kernel
theorem dX9_load_77 : decode cX9_load 77 = .ok (.invokevirtual 127, 3) := by decide +kernel
theorem dX9_load_80 : decode cX9_load 80 = .ok (.aload_n 0, 1) := by decide +kernel
theorem dX9_load_81 : decode cX9_load 81 = .ok (.getfield 121, 3) := by decide +kernel
theorem dX9_load_84 : decode cX9_load 84 = .ok (.ifCond .ne 18, 3) := by decide +kernel
theorem dX9_load_87 : decode cX9_load 87 = .ok (.aload_n 0, 1) := by decide +kernel
theorem dX9_load_88 : decode cX9_load 88 = .ok (.getfield 94, 3) := by decide +kernel
theorem dX9_load_91 : decode cX9_load 91 = .ok (.iconst 3, 1) := by decide +kernel
theorem dX9_load_92 : decode cX9_load 92 = .ok (.if_icmp .eq 10, 3) := by decide +kernel
theorem dX9_load_95 : decode cX9_load 95 = .ok (.aload_n 0, 1) := by decide +kernel
theorem dX9_load_96 : decode cX9_load 96 = .ok (.invokevirtual 201, 3) := by decide +kernel
theorem dX9_load_99 : decode cX9_load 99 = .ok (.goto (-19), 3) := by decide +kernel
theorem dX9_load_102 : decode cX9_load 102 = .ok (.aload_n 0, 1) := by decide +kernel
theorem dX9_load_103 : decode cX9_load 103 = .ok (.iconst 0, 1) := by decide +kernel
theorem dX9_load_104 : decode cX9_load 104 = .ok (.putfield 56, 3) := by decide +kernel
theorem dX9_load_107 : decode cX9_load 107 = .ok (.aload_n 0, 1) := by decide +kernel
theorem dX9_load_108 : decode cX9_load 108 = .ok (.aload_n 0, 1) := by decide +kernel
theorem dX9_load_109 : decode cX9_load 109 = .ok (.getfield 121, 3) := by decide +kernel
theorem dX9_load_112 : decode cX9_load 112 = .ok (.ifCond .ne 7, 3) := by decide +kernel
theorem dX9_load_115 : decode cX9_load 115 = .ok (.iconst (-1), 1) := by decide +kernel
theorem dX9_load_116 : decode cX9_load 116 = .ok (.goto 7, 3) := by decide +kernel
theorem dX9_load_119 : decode cX9_load 119 = .ok (.aload_n 0, 1) := by decide +kernel
theorem dX9_load_120 : decode cX9_load 120 = .ok (.getfield 124, 3) := by decide +kernel
theorem dX9_load_123 : decode cX9_load 123 = .ok (.putfield 31, 3) := by decide +kernel
theorem dX9_load_126 : decode cX9_load 126 = .ok (.aload_n 0, 1) := by decide +kernel
theorem dX9_load_127 : decode cX9_load 127 = .ok (.getfield 121, 3) := by decide +kernel
theorem dX9_load_130 : decode cX9_load 130 = .ok (.ifCond .eq 30, 3) := by decide +kernel
theorem dX9_load_133 : decode cX9_load 133 = .ok (.aload_n 0, 1) := by decide +kernel
theorem dX9_load_134 : decode cX9_load 134 = .ok (.getfield 16, 3) := by decide +kernel
theorem dX9_load_137 : decode cX9_load 137 = .ok (.aload_n 0, 1) := by decide +kernel
theorem dX9_load_138 : decode cX9_load 138 = .ok (.getfield 13, 3) := by decide +kernel
theorem dX9_load_141 : decode cX9_load 141 = .ok (.invokestatic 197, 3) := by decide +kernel
theorem dX9_load_144 : decode cX9_load 144 = .ok (.aload_n 0, 1) := by decide +kernel
theorem dX9_load_145 : decode cX9_load 145 = .ok (.getfield 22, 3) := by decide +kernel
theorem dX9_load_148 : decode cX9_load 148 = .ok (.aload_n 0, 1) := by decide +kernel
theorem dX9_load_149 : decode cX9_load 149 = .ok (.getfield 19, 3) := by decide +kernel
theorem dX9_load_152 : decode cX9_load 152 = .ok (.invokestatic 197, 3) := by decide +kernel
theorem dX9_load_155 : decode cX9_load 155 = .ok (.aload_n 0, 1) := by decide +kernel
theorem dX9_load_156 : decode cX9_load 156 = .ok (.getfield 121, 3) := by decide +kernel
theorem dX9_load_159 : decode cX9_load 159 = .ok (.ireturn, 1) := by decide +kernel
theorem dX9_load_160 : decode cX9_load 160 = .ok (.aload_n 0, 1) := by decide +kernel
theorem dX9_load_161 : decode cX9_load 161 = .ok (.iconst 0, 1) := by decide +kernel
theorem dX9_load_162 : decode cX9_load 162 = .ok (.putfield 204, 3) := by decide +kernel
theorem dX9_load_165 : decode cX9_load 165 = .ok (.aload_n 0, 1) := by decide +kernel
theorem dX9_load_166 : decode cX9_load 166 = .ok (.getfield 194, 3) := by decide +kernel
theorem dX9_load_169 : decode cX9_load 169 = .ok (.ireturn, 1) := by decide +kernel
theorem dX9_errorPosition_0 : decode cX9_errorPosition 0 = .ok (.aload_n 0, 1) := by decide +kernel
theorem dX9_errorPosition_1 : decode cX9_errorPosition 1 = .ok (.iconst 0, 1) := by decide +kernel
theorem dX9_errorPosition_2 : decode cX9_errorPosition 2 = .ok (.putfield 53, 3) := by decide +kernel
theorem dX9_errorPosition_5 : decode cX9_errorPosition 5 = .ok (.aload_n 0, 1) := by decide +kernel
theorem dX9_errorPosition_6 : decode cX9_errorPosition 6 = .ok (.getfield 31, 3) := by decide +kernel
theorem dX9_errorPosition_9 : decode cX9_errorPosition 9 = .ok (.ireturn, 1) := by decide +kernel
theorem dX9_isActor_0 : decode cX9_isActor 0 = .ok (.iload_n 1, 1) := by decide +kernel
theorem dX9_isActor_1 : decode cX9_isActor 1 = .ok (.ifCond .lt 18, 3) := by decide +kernel
theorem dX9_isActor_4 : decode cX9_isActor 4 = .ok (.iload_n 1, 1) := by decide +kernel
theorem dX9_isActor_5 : decode cX9_isActor 5 = .ok (.aload_n 0, 1) := by decide +kernel
theorem dX9_isActor_6 : decode cX9_isActor 6 = .ok (.getfield 13, 3) := by decide +kernel
theorem dX9_isActor_9 : decode cX9_isActor 9 = .ok (.bipush 81, 2) := by decide +kernel
theorem dX9_isActor_11 : decode cX9_isActor 11 = .ok (.iaload, 1) := by decide +kernel
theorem dX9_isActor_12 : decode cX9_isActor 12 = .ok (.if_icmp .ge 7, 3) := by decide +kernel
theorem dX9_isActor_15 : decode cX9_isActor 15 = .ok (.iconst 1, 1) := by decide +kernel
theorem dX9_isActor_16 : decode cX9_isActor 16 = .ok (.goto 4, 3) := by decide +kernel
theorem dX9_isActor_19 : decode cX9_isActor 19 = .ok (.iconst 0, 1) := by decide +kernel
theorem dX9_isActor_20 : decode cX9_isActor 20 = .ok (.ireturn, 1) := by decide +kernel
theorem dX9_isScene_0 : decode cX9_isScene 0 = .ok (.iload_n 1, 1) := by decide +kernel
theorem dX9_isScene_1 : decode cX9_isScene 1 = .ok (.ifCond .lt 18, 3) := by decide +kernel
theorem dX9_isScene_4 : decode cX9_isScene 4 = .ok (.iload_n 1, 1) := by decide +kernel
theorem dX9_isScene_5 : decode cX9_isScene 5 = .ok (.aload_n 0, 1) := by decide +kernel
theorem dX9_isScene_6 : decode cX9_isScene 6 = .ok (.getfield 13, 3) := by decide +kernel
theorem dX9_isScene_9 : decode cX9_isScene 9 = .ok (.bipush 82, 2) := by decide +kernel
theorem dX9_isScene_11 : decode cX9_isScene 11 = .ok (.iaload, 1) := by decide +kernel
theorem dX9_isScene_12 : decode cX9_isScene 12 = .ok (.if_icmp .ge 7, 3) := by decide +kernel
theorem dX9_isScene_15 : decode cX9_isScene 15 = .ok (.iconst 1, 1) := by decide +kernel
theorem dX9_isScene_16 : decode cX9_isScene 16 = .ok (.goto 4, 3) := by decide +kernel
theorem dX9_isScene_19 : decode cX9_isScene 19 = .ok (.iconst 0, 1) := by decide +kernel
theorem dX9_isScene_20 : decode cX9_isScene 20 = .ok (.ireturn, 1) := by decide +kernel
theorem dX9_isDay_0 : decode cX9_isDay 0 = .ok (.iload_n 0, 1) := by decide +kernel
theorem dX9_isDay_1 : decode cX9_isDay 1 = .ok (.ifCond .lt 13, 3) := by decide +kernel
theorem dX9_isDay_4 : decode cX9_isDay 4 = .ok (.iload_n 0, 1) := by decide +kernel
theorem dX9_isDay_5 : decode cX9_isDay 5 = .ok (.bipush 12, 2) := by decide +kernel
theorem dX9_isDay_7 : decode cX9_isDay 7 = .ok (.if_icmp .ge 7, 3) := by decide +kernel
theorem dX9_isDay_10 : decode cX9_isDay 10 = .ok (.iconst 1, 1) := by decide +kernel
theorem dX9_isDay_11 : decode cX9_isDay 11 = .ok (.goto 4, 3) := by decide +kernel
theorem dX9_isDay_14 : decode cX9_isDay 14 = .ok (.iconst 0, 1) := by decide +kernel
theorem dX9_isDay_15 : decode cX9_isDay 15 = .ok (.ireturn, 1) := by decide +kernel
theorem dX9_isSetting_0 : decode cX9_isSetting 0 = .ok (.iload_n 0, 1) := by decide +kernel
theorem dX9_isSetting_1 : decode cX9_isSetting 1 = .ok (.ifCond .lt 12, 3) := by decide +kernel
theorem dX9_isSetting_4 : decode cX9_isSetting 4 = .ok (.iload_n 0, 1) := by decide +kernel
theorem dX9_isSetting_5 : decode cX9_isSetting 5 = .ok (.iconst 3, 1) := by decide +kernel
theorem dX9_isSetting_6 : decode cX9_isSetting 6 = .ok (.if_icmp .gt 7, 3) := by decide +kernel
theorem dX9_isSetting_9 : decode cX9_isSetting 9 = .ok (.iconst 1, 1) := by decide +kernel
theorem dX9_isSetting_10 : decode cX9_isSetting 10 = .ok (.goto 4, 3) := by decide +kernel
theorem dX9_isSetting_13 : decode cX9_isSetting 13 = .ok (.iconst 0, 1) := by decide +kernel
theorem dX9_isSetting_14 : decode cX9_isSetting 14 = .ok (.ireturn, 1) := by decide +kernel
theorem dX9_checks_0 : decode cX9_checks 0 = .ok (.aload_n 0, 1) := by decide +kernel
theorem dX9_checks_1 : decode cX9_checks 1 = .ok (.iload_n 1, 1) := by decide +kernel
theorem dX9_checks_2 : decode cX9_checks 2 = .ok (.ifCond .eq 7, 3) := by decide +kernel
theorem dX9_checks_5 : decode cX9_checks 5 = .ok (.iconst 0, 1) := by decide +kernel
theorem dX9_checks_6 : decode cX9_checks 6 = .ok (.goto 4, 3) := by decide +kernel
theorem dX9_checks_9 : decode cX9_checks 9 = .ok (.iconst 1, 1) := by decide +kernel
theorem dX9_checks_10 : decode cX9_checks 10 = .ok (.putfield 53, 3) := by decide +kernel
theorem dX9_checks_13 : decode cX9_checks 13 = .ok (.iload_n 1, 1) := by decide +kernel
theorem dX9_checks_14 : decode cX9_checks 14 = .ok (.ireturn, 1) := by decide +kernel
theorem dX9_locationCount_0 : decode cX9_locationCount 0 = .ok (.aload_n 0, 1) := by decide +kernel
theorem dX9_locationCount_1 : decode cX9_locationCount 1 = .ok (.iconst 0, 1) := by decide +kernel
theorem dX9_locationCount_2 : decode cX9_locationCount 2 = .ok (.putfield 53, 3) := by decide +kernel
theorem dX9_locationCount_5 : decode cX9_locationCount 5 = .ok (.aload_n 0, 1) := by decide +kernel
theorem dX9_locationCount_6 : decode cX9_locationCount 6 = .ok (.getfield 13, 3) := by decide +kernel
theorem dX9_locationCount_9 : decode cX9_locationCount 9 = .ok (.bipush 80, 2) := by decide +kernel
theorem dX9_locationCount_11 : decode cX9_locationCount 11 = .ok (.iaload, 1) := by decide +kernel
theorem dX9_locationCount_12 : decode cX9_locationCount 12 = .ok (.ireturn, 1) := by decide +kernel
theorem dX9_actorCount_0 : decode cX9_actorCount 0 = .ok (.aload_n 0, 1) := by decide +kernel
theorem dX9_actorCount_1 : decode cX9_actorCount 1 = .ok (.iconst 0, 1) := by decide +kernel
theorem dX9_actorCount_2 : decode cX9_actorCount 2 = .ok (.putfield 53, 3) := by decide +kernel
theorem dX9_actorCount_5 : decode cX9_actorCount 5 = .ok (.aload_n 0, 1) := by decide +kernel
theorem dX9_actorCount_6 : decode cX9_actorCount 6 = .ok (.getfield 13, 3) := by decide +kernel
theorem dX9_actorCount_9 : decode cX9_actorCount 9 = .ok (.bipush 81, 2) := by decide +kernel
theorem dX9_actorCount_11 : decode cX9_actorCount 11 = .ok (.iaload, 1) := by decide +kernel
theorem dX9_actorCount_12 : decode cX9_actorCount 12 = .ok (.ireturn, 1) := by decide +kernel
theorem dX9_sceneCount_0 : decode cX9_sceneCount 0 = .ok (.aload_n 0, 1) := by decide +kernel
theorem dX9_sceneCount_1 : decode cX9_sceneCount 1 = .ok (.iconst 0, 1) := by decide +kernel
theorem dX9_sceneCount_2 : decode cX9_sceneCount 2 = .ok (.putfield 53, 3) := by decide +kernel
theorem dX9_sceneCount_5 : decode cX9_sceneCount 5 = .ok (.aload_n 0, 1) := by decide +kernel
theorem dX9_sceneCount_6 : decode cX9_sceneCount 6 = .ok (.getfield 13, 3) := by decide +kernel
theorem dX9_sceneCount_9 : decode cX9_sceneCount 9 = .ok (.bipush 82, 2) := by decide +kernel
theorem dX9_sceneCount_11 : decode cX9_sceneCount 11 = .ok (.iaload, 1) := by decide +kernel
theorem dX9_sceneCount_12 : decode cX9_sceneCount 12 = .ok (.ireturn, 1) := by decide +kernel
theorem dX9_undoCount_0 : decode cX9_undoCount 0 = .ok (.aload_n 0, 1) := by decide +kernel
theorem dX9_undoCount_1 : decode cX9_undoCount 1 = .ok (.iconst 0, 1) := by decide +kernel
theorem dX9_undoCount_2 : decode cX9_undoCount 2 = .ok (.putfield 53, 3) := by decide +kernel
theorem dX9_undoCount_5 : decode cX9_undoCount 5 = .ok (.aload_n 0, 1) := by decide +kernel
theorem dX9_undoCount_6 : decode cX9_undoCount 6 = .ok (.getfield 204, 3) := by decide +kernel
theorem dX9_undoCount_9 : decode cX9_undoCount 9 = .ok (.ireturn, 1) := by decide +kernel
theorem dX9_locationNamed_0 : decode cX9_locationNamed 0 = .ok (.aload_n 0, 1) := by decide +kernel
theorem dX9_locationNamed_1 : decode cX9_locationNamed 1 = .ok (.iconst 0, 1) := by decide +kernel
theorem dX9_locationNamed_2 : decode cX9_locationNamed 2 = .ok (.putfield 53, 3) := by decide +kernel
theorem dX9_locationNamed_5 : decode cX9_locationNamed 5 = .ok (.aload_n 0, 1) := by decide +kernel
theorem dX9_locationNamed_6 : decode cX9_locationNamed 6 = .ok (.iconst 0, 1) := by decide +kernel
theorem dX9_locationNamed_7 : decode cX9_locationNamed 7 = .ok (.aload_n 0, 1) := by decide +kernel
theorem dX9_locationNamed_8 : decode cX9_locationNamed 8 = .ok (.getfield 13, 3) := by decide +kernel
theorem dX9_locationNamed_11 : decode cX9_locationNamed 11 = .ok (.bipush 80, 2) := by decide +kernel
theorem dX9_locationNamed_13 : decode cX9_locationNamed 13 = .ok (.iaload, 1) := by decide +kernel
theorem dX9_locationNamed_14 : decode cX9_locationNamed 14 = .ok (.iload_n 1, 1) := by decide +kernel
theorem dX9_locationNamed_15 : decode cX9_locationNamed 15 = .ok (.invokevirtual 147, 3) := by decide +kernel
theorem dX9_locationNamed_18 : decode cX9_locationNamed 18 = .ok (.ireturn, 1) := by decide +kernel
theorem dX9_actorNamed_0 : decode cX9_actorNamed 0 = .ok (.aload_n 0, 1) := by decide +kernel
theorem dX9_actorNamed_1 : decode cX9_actorNamed 1 = .ok (.iconst 0, 1) := by decide +kernel
theorem dX9_actorNamed_2 : decode cX9_actorNamed 2 = .ok (.putfield 53, 3) := by decide +kernel
theorem dX9_actorNamed_5 : decode cX9_actorNamed 5 = .ok (.aload_n 0, 1) := by decide +kernel
theorem dX9_actorNamed_6 : decode cX9_actorNamed 6 = .ok (.bipush 12, 2) := by decide +kernel
theorem dX9_actorNamed_8 : decode cX9_actorNamed 8 = .ok (.aload_n 0, 1) := by decide +kernel
theorem dX9_actorNamed_9 : decode cX9_actorNamed 9 = .ok (.getfield 13, 3) := by decide +kernel
theorem dX9_actorNamed_12 : decode cX9_actorNamed 12 = .ok (.bipush 81, 2) := by decide +kernel
theorem dX9_actorNamed_14 : decode cX9_actorNamed 14 = .ok (.iaload, 1) := by decide +kernel
theorem dX9_actorNamed_15 : decode cX9_actorNamed 15 = .ok (.iload_n 1, 1) := by decide +kernel
theorem dX9_actorNamed_16 : decode cX9_actorNamed 16 = .ok (.invokevirtual 147, 3) := by decide +kernel
theorem dX9_actorNamed_19 : decode cX9_actorNamed 19 = .ok (.ireturn, 1) := by decide +kernel
theorem dX9_getSetting_0 : decode cX9_getSetting 0 = .ok (.aload_n 0, 1) := by decide +kernel
theorem dX9_getSetting_1 : decode cX9_getSetting 1 = .ok (.iconst 0, 1) := by decide +kernel
theorem dX9_getSetting_2 : decode cX9_getSetting 2 = .ok (.putfield 53, 3) := by decide +kernel
theorem dX9_getSetting_5 : decode cX9_getSetting 5 = .ok (.iload_n 1, 1) := by decide +kernel
theorem dX9_getSetting_6 : decode cX9_getSetting 6 = .ok (.invokestatic 207, 3) := by decide +kernel
theorem dX9_getSetting_9 : decode cX9_getSetting 9 = .ok (.ifCond .eq 14, 3) := by decide +kernel
theorem dX9_getSetting_12 : decode cX9_getSetting 12 = .ok (.aload_n 0, 1) := by decide +kernel
theorem dX9_getSetting_13 : decode cX9_getSetting 13 = .ok (.getfield 19, 3) := by decide +kernel
theorem dX9_getSetting_16 : decode cX9_getSetting 16 = .ok (.iconst 0, 1) := by decide +kernel
theorem dX9_getSetting_17 : decode cX9_getSetting 17 = .ok (.iload_n 1, 1) := by decide +kernel
theorem dX9_getSetting_18 : decode cX9_getSetting 18 = .ok (.iadd, 1) := by decide +kernel
theorem dX9_getSetting_19 : decode cX9_getSetting 19 = .ok (.iaload, 1) := by decide +kernel
theorem dX9_getSetting_20 : decode cX9_getSetting 20 = .ok (.goto 5, 3) := by decide +kernel
theorem dX9_getSetting_23 : decode cX9_getSetting 23 = .ok (.bipush (-2), 2) := by decide +kernel
theorem dX9_getSetting_25 : decode cX9_getSetting 25 = .ok (.ireturn, 1) := by decide +kernel
theorem dX9_locationProperty_0 : decode cX9_locationProperty 0 = .ok (.aload_n 0, 1) := by decide +kernel
theorem dX9_locationProperty_1 : decode cX9_locationProperty 1 = .ok (.iload_n 1, 1) := by decide +kernel
theorem dX9_locationProperty_2 : decode cX9_locationProperty 2 = .ok (.ifCond .lt 18, 3) := by decide +kernel
theorem dX9_locationProperty_5 : decode cX9_locationProperty 5 = .ok (.iload_n 1, 1) := by decide +kernel
theorem dX9_locationProperty_6 : decode cX9_locationProperty 6 = .ok (.aload_n 0, 1) := by decide +kernel
theorem dX9_locationProperty_7 : decode cX9_locationProperty 7 = .ok (.getfield 13, 3) := by decide +kernel
theorem dX9_locationProperty_10 : decode cX9_locationProperty 10 = .ok (.bipush 80, 2) := by decide +kernel
theorem dX9_locationProperty_12 : decode cX9_locationProperty 12 = .ok (.iaload, 1) := by decide +kernel
theorem dX9_locationProperty_13 : decode cX9_locationProperty 13 = .ok (.if_icmp .ge 7, 3) := by decide +kernel
theorem dX9_locationProperty_16 : decode cX9_locationProperty 16 = .ok (.iconst 1, 1) := by decide +kernel
theorem dX9_locationProperty_17 : decode cX9_locationProperty 17 = .ok (.goto 4, 3) := by decide +kernel
theorem dX9_locationProperty_20 : decode cX9_locationProperty 20 = .ok (.iconst 0, 1) := by decide +kernel
theorem dX9_locationProperty_21 : decode cX9_locationProperty 21 = .ok (.invokevirtual 210, 3) := by decide +kernel
theorem dX9_locationProperty_24 : decode cX9_locationProperty 24 = .ok (.ifCond .ne 5, 3) := by decide +kernel
theorem dX9_locationProperty_27 : decode cX9_locationProperty 27 = .ok (.iconst 0, 1) := by decide +kernel
theorem dX9_locationProperty_28 : decode cX9_locationProperty 28 = .ok (.ireturn, 1) := by decide +kernel
theorem dX9_locationProperty_29 : decode cX9_locationProperty 29 = .ok (.iload_n 2, 1) := by decide +kernel
theorem dX9_locationProperty_30 : decode cX9_locationProperty 30 = .ok (.ifCond .ne 14, 3) := by decide +kernel
theorem dX9_locationProperty_33 : decode cX9_locationProperty 33 = .ok (.aload_n 0, 1) := by decide +kernel
theorem dX9_locationProperty_34 : decode cX9_locationProperty 34 = .ok (.getfield 13, 3) := by decide +kernel
theorem dX9_locationProperty_37 : decode cX9_locationProperty 37 = .ok (.iconst 4, 1) := by decide +kernel
theorem dX9_locationProperty_38 : decode cX9_locationProperty 38 = .ok (.iload_n 1, 1) := by decide +kernel
theorem dX9_locationProperty_39 : decode cX9_locationProperty 39 = .ok (.iadd, 1) := by decide +kernel
theorem dX9_locationProperty_40 : decode cX9_locationProperty 40 = .ok (.iaload, 1) := by decide +kernel
theorem dX9_locationProperty_41 : decode cX9_locationProperty 41 = .ok (.goto 22, 3) := by decide +kernel
theorem dX9_locationProperty_44 : decode cX9_locationProperty 44 = .ok (.iload_n 2, 1) := by decide +kernel
theorem dX9_locationProperty_45 : decode cX9_locationProperty 45 = .ok (.iconst 1, 1) := by decide +kernel
theorem dX9_locationProperty_46 : decode cX9_locationProperty 46 = .ok (.if_icmp .ne 15, 3) := by decide +kernel
theorem dX9_locationProperty_49 : decode cX9_locationProperty 49 = .ok (.aload_n 0, 1) := by decide +kernel
theorem dX9_locationProperty_50 : decode cX9_locationProperty 50 = .ok (.getfield 13, 3) := by decide +kernel
theorem dX9_locationProperty_53 : decode cX9_locationProperty 53 = .ok (.bipush 8, 2) := by decide +kernel
theorem dX9_locationProperty_55 : decode cX9_locationProperty 55 = .ok (.iload_n 1, 1) := by decide +kernel
theorem dX9_locationProperty_56 : decode cX9_locationProperty 56 = .ok (.iadd, 1) := by decide +kernel
theorem dX9_locationProperty_57 : decode cX9_locationProperty 57 = .ok (.iaload, 1) := by decide +kernel
theorem dX9_locationProperty_58 : decode cX9_locationProperty 58 = .ok (.goto 5, 3) := by decide +kernel
theorem dX9_locationProperty_61 : decode cX9_locationProperty 61 = .ok (.bipush (-2), 2) := by decide +kernel
theorem dX9_locationProperty_63 : decode cX9_locationProperty 63 = .ok (.ireturn, 1) := by decide +kernel
theorem dX9_feeOf_0 : decode cX9_feeOf 0 = .ok (.aload_n 0, 1) := by decide +kernel
theorem dX9_feeOf_1 : decode cX9_feeOf 1 = .ok (.aload_n 0, 1) := by decide +kernel
theorem dX9_feeOf_2 : decode cX9_feeOf 2 = .ok (.iload_n 1, 1) := by decide +kernel
theorem dX9_feeOf_3 : decode cX9_feeOf 3 = .ok (.invokevirtual 214, 3) := by decide +kernel
theorem dX9_feeOf_6 : decode cX9_feeOf 6 = .ok (.invokevirtual 210, 3) := by decide +kernel
theorem dX9_feeOf_9 : decode cX9_feeOf 9 = .ok (.ifCond .eq 15, 3) := by decide +kernel
theorem dX9_feeOf_12 : decode cX9_feeOf 12 = .ok (.aload_n 0, 1) := by decide +kernel
theorem dX9_feeOf_13 : decode cX9_feeOf 13 = .ok (.getfield 13, 3) := by decide +kernel
theorem dX9_feeOf_16 : decode cX9_feeOf 16 = .ok (.bipush 18, 2) := by decide +kernel
theorem dX9_feeOf_18 : decode cX9_feeOf 18 = .ok (.iload_n 1, 1) := by decide +kernel
theorem dX9_feeOf_19 : decode cX9_feeOf 19 = .ok (.iadd, 1) := by decide +kernel
theorem dX9_feeOf_20 : decode cX9_feeOf 20 = .ok (.iaload, 1) := by decide +kernel
theorem dX9_feeOf_21 : decode cX9_feeOf 21 = .ok (.goto 4, 3) := by decide +kernel
theorem dX9_feeOf_24 : decode cX9_feeOf 24 = .ok (.iconst 0, 1) := by decide +kernel
theorem dX9_feeOf_25 : decode cX9_feeOf 25 = .ok (.ireturn, 1) := by decide +kernel
theorem dX9_sceneProperty_0 : decode cX9_sceneProperty 0 = .ok (.aload_n 0, 1) := by decide +kernel
theorem dX9_sceneProperty_1 : decode cX9_sceneProperty 1 = .ok (.aload_n 0, 1) := by decide +kernel
theorem dX9_sceneProperty_2 : decode cX9_sceneProperty 2 = .ok (.iload_n 1, 1) := by decide +kernel
theorem dX9_sceneProperty_3 : decode cX9_sceneProperty 3 = .ok (.invokevirtual 217, 3) := by decide +kernel
theorem dX9_sceneProperty_6 : decode cX9_sceneProperty 6 = .ok (.invokevirtual 210, 3) := by decide +kernel
theorem dX9_sceneProperty_9 : decode cX9_sceneProperty 9 = .ok (.ifCond .ne 5, 3) := by decide +kernel
theorem dX9_sceneProperty_12 : decode cX9_sceneProperty 12 = .ok (.iconst 0, 1) := by decide +kernel
theorem dX9_sceneProperty_13 : decode cX9_sceneProperty 13 = .ok (.ireturn, 1) := by decide +kernel
theorem dX9_sceneProperty_14 : decode cX9_sceneProperty 14 = .ok (.iload_n 2, 1) := by decide +kernel
theorem dX9_sceneProperty_15 : decode cX9_sceneProperty 15 = .ok (.tableswitch 69 0 3 #[29, 39, 49, 59], 29) := by decide +kernel
theorem dX9_sceneProperty_44 : decode cX9_sceneProperty 44 = .ok (.aload_n 0, 1) := by decide +kernel
theorem dX9_sceneProperty_45 : decode cX9_sceneProperty 45 = .ok (.getfield 13, 3) := by decide +kernel
theorem dX9_sceneProperty_48 : decode cX9_sceneProperty 48 = .ok (.bipush 24, 2) := by decide +kernel
theorem dX9_sceneProperty_50 : decode cX9_sceneProperty 50 = .ok (.iload_n 1, 1) := by decide +kernel
theorem dX9_sceneProperty_51 : decode cX9_sceneProperty 51 = .ok (.iadd, 1) := by decide +kernel
theorem dX9_sceneProperty_52 : decode cX9_sceneProperty 52 = .ok (.iaload, 1) := by decide +kernel
theorem dX9_sceneProperty_53 : decode cX9_sceneProperty 53 = .ok (.ireturn, 1) := by decide +kernel
theorem dX9_sceneProperty_54 : decode cX9_sceneProperty 54 = .ok (.aload_n 0, 1) := by decide +kernel
theorem dX9_sceneProperty_55 : decode cX9_sceneProperty 55 = .ok (.getfield 13, 3) := by decide +kernel
theorem dX9_sceneProperty_58 : decode cX9_sceneProperty 58 = .ok (.bipush 38, 2) := by decide +kernel
theorem dX9_sceneProperty_60 : decode cX9_sceneProperty 60 = .ok (.iload_n 1, 1) := by decide +kernel
theorem dX9_sceneProperty_61 : decode cX9_sceneProperty 61 = .ok (.iadd, 1) := by decide +kernel
theorem dX9_sceneProperty_62 : decode cX9_sceneProperty 62 = .ok (.iaload, 1) := by decide +kernel
theorem dX9_sceneProperty_63 : decode cX9_sceneProperty 63 = .ok (.ireturn, 1) := by decide +kernel
theorem dX9_sceneProperty_64 : decode cX9_sceneProperty 64 = .ok (.aload_n 0, 1) := by decide +kernel
theorem dX9_sceneProperty_65 : decode cX9_sceneProperty 65 = .ok (.getfield 13, 3) := by decide +kernel
theorem dX9_sceneProperty_68 : decode cX9_sceneProperty 68 = .ok (.bipush 52, 2) := by decide +kernel
theorem dX9_sceneProperty_70 : decode cX9_sceneProperty 70 = .ok (.iload_n 1, 1) := by decide +kernel
theorem dX9_sceneProperty_71 : decode cX9_sceneProperty 71 = .ok (.iadd, 1) := by decide +kernel
theorem dX9_sceneProperty_72 : decode cX9_sceneProperty 72 = .ok (.iaload, 1) := by decide +kernel
theorem dX9_sceneProperty_73 : decode cX9_sceneProperty 73 = .ok (.ireturn, 1) := by decide +kernel
theorem dX9_sceneProperty_74 : decode cX9_sceneProperty 74 = .ok (.aload_n 0, 1) := by decide +kernel
theorem dX9_sceneProperty_75 : decode cX9_sceneProperty 75 = .ok (.getfield 13, 3) := by decide +kernel
theorem dX9_sceneProperty_78 : decode cX9_sceneProperty 78 = .ok (.bipush 66, 2) := by decide +kernel
theorem dX9_sceneProperty_80 : decode cX9_sceneProperty 80 = .ok (.iload_n 1, 1) := by decide +kernel
theorem dX9_sceneProperty_81 : decode cX9_sceneProperty 81 = .ok (.iadd, 1) := by decide +kernel
theorem dX9_sceneProperty_82 : decode cX9_sceneProperty 82 = .ok (.iaload, 1) := by decide +kernel
theorem dX9_sceneProperty_83 : decode cX9_sceneProperty 83 = .ok (.ireturn, 1) := by decide +kernel
theorem dX9_sceneProperty_84 : decode cX9_sceneProperty 84 = .ok (.bipush (-2), 2) := by decide +kernel
