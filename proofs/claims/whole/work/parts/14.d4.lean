theorem dX9_sceneProperty_86 : decode cX9_sceneProperty 86 = .ok (.ireturn, 1) := by decide +kernel
theorem dX9_dayOf_0 : decode cX9_dayOf 0 = .ok (.aload_n 0, 1) := by decide +kernel
theorem dX9_dayOf_1 : decode cX9_dayOf 1 = .ok (.aload_n 0, 1) := by decide +kernel
theorem dX9_dayOf_2 : decode cX9_dayOf 2 = .ok (.iload_n 1, 1) := by decide +kernel
theorem dX9_dayOf_3 : decode cX9_dayOf 3 = .ok (.invokevirtual 217, 3) := by decide +kernel
theorem dX9_dayOf_6 : decode cX9_dayOf 6 = .ok (.invokevirtual 210, 3) := by decide +kernel
theorem dX9_dayOf_9 : decode cX9_dayOf 9 = .ok (.ifCond .eq 14, 3) := by decide +kernel
theorem dX9_dayOf_12 : decode cX9_dayOf 12 = .ok (.aload_n 0, 1) := by decide +kernel
theorem dX9_dayOf_13 : decode cX9_dayOf 13 = .ok (.getfield 19, 3) := by decide +kernel
theorem dX9_dayOf_16 : decode cX9_dayOf 16 = .ok (.iconst 4, 1) := by decide +kernel
theorem dX9_dayOf_17 : decode cX9_dayOf 17 = .ok (.iload_n 1, 1) := by decide +kernel
theorem dX9_dayOf_18 : decode cX9_dayOf 18 = .ok (.iadd, 1) := by decide +kernel
theorem dX9_dayOf_19 : decode cX9_dayOf 19 = .ok (.iaload, 1) := by decide +kernel
theorem dX9_dayOf_20 : decode cX9_dayOf 20 = .ok (.goto 4, 3) := by decide +kernel
theorem dX9_dayOf_23 : decode cX9_dayOf 23 = .ok (.iconst 0, 1) := by decide +kernel
theorem dX9_dayOf_24 : decode cX9_dayOf 24 = .ok (.ireturn, 1) := by decide +kernel
theorem dX9_scenesOn_0 : decode cX9_scenesOn 0 = .ok (.aload_n 0, 1) := by decide +kernel
theorem dX9_scenesOn_1 : decode cX9_scenesOn 1 = .ok (.iload_n 1, 1) := by decide +kernel
theorem dX9_scenesOn_2 : decode cX9_scenesOn 2 = .ok (.invokestatic 220, 3) := by decide +kernel
theorem dX9_scenesOn_5 : decode cX9_scenesOn 5 = .ok (.invokevirtual 210, 3) := by decide +kernel
theorem dX9_scenesOn_8 : decode cX9_scenesOn 8 = .ok (.ifCond .eq 11, 3) := by decide +kernel
theorem dX9_scenesOn_11 : decode cX9_scenesOn 11 = .ok (.aload_n 0, 1) := by decide +kernel
theorem dX9_scenesOn_12 : decode cX9_scenesOn 12 = .ok (.iload_n 1, 1) := by decide +kernel
theorem dX9_scenesOn_13 : decode cX9_scenesOn 13 = .ok (.invokevirtual 223, 3) := by decide +kernel
theorem dX9_scenesOn_16 : decode cX9_scenesOn 16 = .ok (.goto 4, 3) := by decide +kernel
theorem dX9_scenesOn_19 : decode cX9_scenesOn 19 = .ok (.iconst 0, 1) := by decide +kernel
theorem dX9_scenesOn_20 : decode cX9_scenesOn 20 = .ok (.ireturn, 1) := by decide +kernel
theorem dX9_locationOn_0 : decode cX9_locationOn 0 = .ok (.aload_n 0, 1) := by decide +kernel
theorem dX9_locationOn_1 : decode cX9_locationOn 1 = .ok (.iload_n 1, 1) := by decide +kernel
theorem dX9_locationOn_2 : decode cX9_locationOn 2 = .ok (.invokestatic 220, 3) := by decide +kernel
theorem dX9_locationOn_5 : decode cX9_locationOn 5 = .ok (.invokevirtual 210, 3) := by decide +kernel
theorem dX9_locationOn_8 : decode cX9_locationOn 8 = .ok (.ifCond .eq 11, 3) := by decide +kernel
theorem dX9_locationOn_11 : decode cX9_locationOn 11 = .ok (.aload_n 0, 1) := by decide +kernel
theorem dX9_locationOn_12 : decode cX9_locationOn 12 = .ok (.iload_n 1, 1) := by decide +kernel
theorem dX9_locationOn_13 : decode cX9_locationOn 13 = .ok (.invokevirtual 226, 3) := by decide +kernel
theorem dX9_locationOn_16 : decode cX9_locationOn 16 = .ok (.goto 4, 3) := by decide +kernel
theorem dX9_locationOn_19 : decode cX9_locationOn 19 = .ok (.iconst 0, 1) := by decide +kernel
theorem dX9_locationOn_20 : decode cX9_locationOn 20 = .ok (.ireturn, 1) := by decide +kernel
theorem dX9_isNight_0 : decode cX9_isNight 0 = .ok (.aload_n 0, 1) := by decide +kernel
theorem dX9_isNight_1 : decode cX9_isNight 1 = .ok (.iload_n 1, 1) := by decide +kernel
theorem dX9_isNight_2 : decode cX9_isNight 2 = .ok (.invokestatic 220, 3) := by decide +kernel
theorem dX9_isNight_5 : decode cX9_isNight 5 = .ok (.invokevirtual 210, 3) := by decide +kernel
theorem dX9_isNight_8 : decode cX9_isNight 8 = .ok (.ifCond .eq 15, 3) := by decide +kernel
theorem dX9_isNight_11 : decode cX9_isNight 11 = .ok (.aload_n 0, 1) := by decide +kernel
theorem dX9_isNight_12 : decode cX9_isNight 12 = .ok (.iload_n 1, 1) := by decide +kernel
theorem dX9_isNight_13 : decode cX9_isNight 13 = .ok (.invokevirtual 67, 3) := by decide +kernel
theorem dX9_isNight_16 : decode cX9_isNight 16 = .ok (.ifCond .eq 7, 3) := by decide +kernel
theorem dX9_isNight_19 : decode cX9_isNight 19 = .ok (.iconst 1, 1) := by decide +kernel
theorem dX9_isNight_20 : decode cX9_isNight 20 = .ok (.goto 4, 3) := by decide +kernel
theorem dX9_isNight_23 : decode cX9_isNight 23 = .ok (.iconst 0, 1) := by decide +kernel
theorem dX9_isNight_24 : decode cX9_isNight 24 = .ok (.ireturn, 1) := by decide +kernel
theorem dX9_lengthOn_0 : decode cX9_lengthOn 0 = .ok (.aload_n 0, 1) := by decide +kernel
theorem dX9_lengthOn_1 : decode cX9_lengthOn 1 = .ok (.iload_n 1, 1) := by decide +kernel
theorem dX9_lengthOn_2 : decode cX9_lengthOn 2 = .ok (.invokestatic 220, 3) := by decide +kernel
theorem dX9_lengthOn_5 : decode cX9_lengthOn 5 = .ok (.invokevirtual 210, 3) := by decide +kernel
theorem dX9_lengthOn_8 : decode cX9_lengthOn 8 = .ok (.ifCond .eq 11, 3) := by decide +kernel
theorem dX9_lengthOn_11 : decode cX9_lengthOn 11 = .ok (.aload_n 0, 1) := by decide +kernel
theorem dX9_lengthOn_12 : decode cX9_lengthOn 12 = .ok (.iload_n 1, 1) := by decide +kernel
theorem dX9_lengthOn_13 : decode cX9_lengthOn 13 = .ok (.invokevirtual 74, 3) := by decide +kernel
theorem dX9_lengthOn_16 : decode cX9_lengthOn 16 = .ok (.goto 4, 3) := by decide +kernel
theorem dX9_lengthOn_19 : decode cX9_lengthOn 19 = .ok (.iconst 0, 1) := by decide +kernel
theorem dX9_lengthOn_20 : decode cX9_lengthOn 20 = .ok (.ireturn, 1) := by decide +kernel
theorem dX9_castOn_0 : decode cX9_castOn 0 = .ok (.aload_n 0, 1) := by decide +kernel
theorem dX9_castOn_1 : decode cX9_castOn 1 = .ok (.iload_n 1, 1) := by decide +kernel
theorem dX9_castOn_2 : decode cX9_castOn 2 = .ok (.invokestatic 220, 3) := by decide +kernel
theorem dX9_castOn_5 : decode cX9_castOn 5 = .ok (.invokevirtual 210, 3) := by decide +kernel
theorem dX9_castOn_8 : decode cX9_castOn 8 = .ok (.ifCond .eq 11, 3) := by decide +kernel
theorem dX9_castOn_11 : decode cX9_castOn 11 = .ok (.aload_n 0, 1) := by decide +kernel
theorem dX9_castOn_12 : decode cX9_castOn 12 = .ok (.iload_n 1, 1) := by decide +kernel
theorem dX9_castOn_13 : decode cX9_castOn 13 = .ok (.invokevirtual 71, 3) := by decide +kernel
theorem dX9_castOn_16 : decode cX9_castOn 16 = .ok (.goto 4, 3) := by decide +kernel
theorem dX9_castOn_19 : decode cX9_castOn 19 = .ok (.iconst 0, 1) := by decide +kernel
theorem dX9_castOn_20 : decode cX9_castOn 20 = .ok (.ireturn, 1) := by decide +kernel
theorem dX9_spanNow_0 : decode cX9_spanNow 0 = .ok (.bipush 12, 2) := by decide +kernel
theorem dX9_spanNow_2 : decode cX9_spanNow 2 = .ok (.istore_n 1, 1) := by decide +kernel
theorem dX9_spanNow_3 : decode cX9_spanNow 3 = .ok (.iload_n 1, 1) := by decide +kernel
theorem dX9_spanNow_4 : decode cX9_spanNow 4 = .ok (.ifCond .le 20, 3) := by decide +kernel
theorem dX9_spanNow_7 : decode cX9_spanNow 7 = .ok (.aload_n 0, 1) := by decide +kernel
theorem dX9_spanNow_8 : decode cX9_spanNow 8 = .ok (.iload_n 1, 1) := by decide +kernel
theorem dX9_spanNow_9 : decode cX9_spanNow 9 = .ok (.iconst 1, 1) := by decide +kernel
theorem dX9_spanNow_10 : decode cX9_spanNow 10 = .ok (.isub, 1) := by decide +kernel
theorem dX9_spanNow_11 : decode cX9_spanNow 11 = .ok (.invokevirtual 63, 3) := by decide +kernel
theorem dX9_spanNow_14 : decode cX9_spanNow 14 = .ok (.iconst (-1), 1) := by decide +kernel
theorem dX9_spanNow_15 : decode cX9_spanNow 15 = .ok (.if_icmp .ne 9, 3) := by decide +kernel
theorem dX9_spanNow_18 : decode cX9_spanNow 18 = .ok (.iinc 1 (-1), 3) := by decide +kernel
theorem dX9_spanNow_21 : decode cX9_spanNow 21 = .ok (.goto (-18), 3) := by decide +kernel
theorem dX9_spanNow_24 : decode cX9_spanNow 24 = .ok (.iload_n 1, 1) := by decide +kernel
theorem dX9_spanNow_25 : decode cX9_spanNow 25 = .ok (.ireturn, 1) := by decide +kernel
theorem dX9_span_0 : decode cX9_span 0 = .ok (.aload_n 0, 1) := by decide +kernel
theorem dX9_span_1 : decode cX9_span 1 = .ok (.iconst 0, 1) := by decide +kernel
theorem dX9_span_2 : decode cX9_span 2 = .ok (.putfield 53, 3) := by decide +kernel
theorem dX9_span_5 : decode cX9_span 5 = .ok (.aload_n 0, 1) := by decide +kernel
theorem dX9_span_6 : decode cX9_span 6 = .ok (.invokevirtual 229, 3) := by decide +kernel
theorem dX9_span_9 : decode cX9_span 9 = .ok (.ireturn, 1) := by decide +kernel
theorem dX9_laysCasts_0 : decode cX9_laysCasts 0 = .ok (.iconst 0, 1) := by decide +kernel
theorem dX9_laysCasts_1 : decode cX9_laysCasts 1 = .ok (.istore_n 1, 1) := by decide +kernel
theorem dX9_laysCasts_2 : decode cX9_laysCasts 2 = .ok (.iload_n 1, 1) := by decide +kernel
theorem dX9_laysCasts_3 : decode cX9_laysCasts 3 = .ok (.bipush 12, 2) := by decide +kernel
theorem dX9_laysCasts_5 : decode cX9_laysCasts 5 = .ok (.if_icmp .ge 20, 3) := by decide +kernel
theorem dX9_laysCasts_8 : decode cX9_laysCasts 8 = .ok (.aload_n 0, 1) := by decide +kernel
theorem dX9_laysCasts_9 : decode cX9_laysCasts 9 = .ok (.getfield 35, 3) := by decide +kernel
theorem dX9_laysCasts_12 : decode cX9_laysCasts 12 = .ok (.iload_n 1, 1) := by decide +kernel
theorem dX9_laysCasts_13 : decode cX9_laysCasts 13 = .ok (.aload_n 0, 1) := by decide +kernel
theorem dX9_laysCasts_14 : decode cX9_laysCasts 14 = .ok (.iload_n 1, 1) := by decide +kernel
theorem dX9_laysCasts_15 : decode cX9_laysCasts 15 = .ok (.invokevirtual 71, 3) := by decide +kernel
theorem dX9_laysCasts_18 : decode cX9_laysCasts 18 = .ok (.iastore, 1) := by decide +kernel
theorem dX9_laysCasts_19 : decode cX9_laysCasts 19 = .ok (.iinc 1 1, 3) := by decide +kernel
theorem dX9_laysCasts_22 : decode cX9_laysCasts 22 = .ok (.goto (-20), 3) := by decide +kernel
theorem dX9_laysCasts_25 : decode cX9_laysCasts 25 = .ok (.return_, 1) := by decide +kernel
theorem dX9_works_0 : decode cX9_works 0 = .ok (.aload_n 0, 1) := by decide +kernel
theorem dX9_works_1 : decode cX9_works 1 = .ok (.getfield 35, 3) := by decide +kernel
theorem dX9_works_4 : decode cX9_works 4 = .ok (.iload_n 2, 1) := by decide +kernel
theorem dX9_works_5 : decode cX9_works 5 = .ok (.iaload, 1) := by decide +kernel
theorem dX9_works_6 : decode cX9_works 6 = .ok (.iload_n 1, 1) := by decide +kernel
theorem dX9_works_7 : decode cX9_works 7 = .ok (.ishr, 1) := by decide +kernel
theorem dX9_works_8 : decode cX9_works 8 = .ok (.iconst 1, 1) := by decide +kernel
theorem dX9_works_9 : decode cX9_works 9 = .ok (.iand, 1) := by decide +kernel
theorem dX9_works_10 : decode cX9_works 10 = .ok (.iconst 1, 1) := by decide +kernel
theorem dX9_works_11 : decode cX9_works 11 = .ok (.if_icmp .ne 7, 3) := by decide +kernel
theorem dX9_works_14 : decode cX9_works 14 = .ok (.iconst 1, 1) := by decide +kernel
theorem dX9_works_15 : decode cX9_works 15 = .ok (.goto 4, 3) := by decide +kernel
theorem dX9_works_18 : decode cX9_works 18 = .ok (.iconst 0, 1) := by decide +kernel
theorem dX9_works_19 : decode cX9_works 19 = .ok (.ireturn, 1) := by decide +kernel
theorem dX9_firstOf_0 : decode cX9_firstOf 0 = .ok (.iconst 0, 1) := by decide +kernel
theorem dX9_firstOf_1 : decode cX9_firstOf 1 = .ok (.istore_n 2, 1) := by decide +kernel
theorem dX9_firstOf_2 : decode cX9_firstOf 2 = .ok (.iload_n 2, 1) := by decide +kernel
theorem dX9_firstOf_3 : decode cX9_firstOf 3 = .ok (.bipush 12, 2) := by decide +kernel
theorem dX9_firstOf_5 : decode cX9_firstOf 5 = .ok (.if_icmp .ge 20, 3) := by decide +kernel
theorem dX9_firstOf_8 : decode cX9_firstOf 8 = .ok (.aload_n 0, 1) := by decide +kernel
theorem dX9_firstOf_9 : decode cX9_firstOf 9 = .ok (.iload_n 1, 1) := by decide +kernel
theorem dX9_firstOf_10 : decode cX9_firstOf 10 = .ok (.iload_n 2, 1) := by decide +kernel
theorem dX9_firstOf_11 : decode cX9_firstOf 11 = .ok (.invokevirtual 232, 3) := by decide +kernel
theorem dX9_firstOf_14 : decode cX9_firstOf 14 = .ok (.ifCond .eq 5, 3) := by decide +kernel
theorem dX9_firstOf_17 : decode cX9_firstOf 17 = .ok (.iload_n 2, 1) := by decide +kernel
theorem dX9_firstOf_18 : decode cX9_firstOf 18 = .ok (.ireturn, 1) := by decide +kernel
theorem dX9_firstOf_19 : decode cX9_firstOf 19 = .ok (.iinc 2 1, 3) := by decide +kernel
theorem dX9_firstOf_22 : decode cX9_firstOf 22 = .ok (.goto (-20), 3) := by decide +kernel
theorem dX9_firstOf_25 : decode cX9_firstOf 25 = .ok (.iconst (-1), 1) := by decide +kernel
theorem dX9_firstOf_26 : decode cX9_firstOf 26 = .ok (.ireturn, 1) := by decide +kernel
theorem dX9_lastOf_0 : decode cX9_lastOf 0 = .ok (.bipush 11, 2) := by decide +kernel
theorem dX9_lastOf_2 : decode cX9_lastOf 2 = .ok (.istore_n 2, 1) := by decide +kernel
theorem dX9_lastOf_3 : decode cX9_lastOf 3 = .ok (.iload_n 2, 1) := by decide +kernel
theorem dX9_lastOf_4 : decode cX9_lastOf 4 = .ok (.ifCond .lt 20, 3) := by decide +kernel
theorem dX9_lastOf_7 : decode cX9_lastOf 7 = .ok (.aload_n 0, 1) := by decide +kernel
theorem dX9_lastOf_8 : decode cX9_lastOf 8 = .ok (.iload_n 1, 1) := by decide +kernel
theorem dX9_lastOf_9 : decode cX9_lastOf 9 = .ok (.iload_n 2, 1) := by decide +kernel
theorem dX9_lastOf_10 : decode cX9_lastOf 10 = .ok (.invokevirtual 232, 3) := by decide +kernel
theorem dX9_lastOf_13 : decode cX9_lastOf 13 = .ok (.ifCond .eq 5, 3) := by decide +kernel
theorem dX9_lastOf_16 : decode cX9_lastOf 16 = .ok (.iload_n 2, 1) := by decide +kernel
theorem dX9_lastOf_17 : decode cX9_lastOf 17 = .ok (.ireturn, 1) := by decide +kernel
theorem dX9_lastOf_18 : decode cX9_lastOf 18 = .ok (.iinc 2 (-1), 3) := by decide +kernel
theorem dX9_lastOf_21 : decode cX9_lastOf 21 = .ok (.goto (-18), 3) := by decide +kernel
theorem dX9_lastOf_24 : decode cX9_lastOf 24 = .ok (.iconst (-1), 1) := by decide +kernel
theorem dX9_lastOf_25 : decode cX9_lastOf 25 = .ok (.ireturn, 1) := by decide +kernel
theorem dX9_findsGap_0 : decode cX9_findsGap 0 = .ok (.aload_n 0, 1) := by decide +kernel
theorem dX9_findsGap_1 : decode cX9_findsGap 1 = .ok (.iconst (-1), 1) := by decide +kernel
theorem dX9_findsGap_2 : decode cX9_findsGap 2 = .ok (.putfield 235, 3) := by decide +kernel
theorem dX9_findsGap_5 : decode cX9_findsGap 5 = .ok (.aload_n 0, 1) := by decide +kernel
theorem dX9_findsGap_6 : decode cX9_findsGap 6 = .ok (.iconst 0, 1) := by decide +kernel
theorem dX9_findsGap_7 : decode cX9_findsGap 7 = .ok (.putfield 238, 3) := by decide +kernel
theorem dX9_findsGap_10 : decode cX9_findsGap 10 = .ok (.iconst (-1), 1) := by decide +kernel
theorem dX9_findsGap_11 : decode cX9_findsGap 11 = .ok (.istore_n 2, 1) := by decide +kernel
theorem dX9_findsGap_12 : decode cX9_findsGap 12 = .ok (.iconst 0, 1) := by decide +kernel
theorem dX9_findsGap_13 : decode cX9_findsGap 13 = .ok (.istore_n 3, 1) := by decide +kernel
theorem dX9_findsGap_14 : decode cX9_findsGap 14 = .ok (.iload_n 3, 1) := by decide +kernel
theorem dX9_findsGap_15 : decode cX9_findsGap 15 = .ok (.bipush 12, 2) := by decide +kernel
theorem dX9_findsGap_17 : decode cX9_findsGap 17 = .ok (.if_icmp .ge 56, 3) := by decide +kernel
theorem dX9_findsGap_20 : decode cX9_findsGap 20 = .ok (.aload_n 0, 1) := by decide +kernel
theorem dX9_findsGap_21 : decode cX9_findsGap 21 = .ok (.iload_n 1, 1) := by decide +kernel
theorem dX9_findsGap_22 : decode cX9_findsGap 22 = .ok (.iload_n 3, 1) := by decide +kernel
theorem dX9_findsGap_23 : decode cX9_findsGap 23 = .ok (.invokevirtual 232, 3) := by decide +kernel
theorem dX9_findsGap_26 : decode cX9_findsGap 26 = .ok (.ifCond .ne 6, 3) := by decide +kernel
theorem dX9_findsGap_29 : decode cX9_findsGap 29 = .ok (.goto 38, 3) := by decide +kernel
theorem dX9_findsGap_32 : decode cX9_findsGap 32 = .ok (.iload_n 2, 1) := by decide +kernel
theorem dX9_findsGap_33 : decode cX9_findsGap 33 = .ok (.iconst (-1), 1) := by decide +kernel
theorem dX9_findsGap_34 : decode cX9_findsGap 34 = .ok (.if_icmp .eq 31, 3) := by decide +kernel
theorem dX9_findsGap_37 : decode cX9_findsGap 37 = .ok (.iload_n 3, 1) := by decide +kernel
theorem dX9_findsGap_38 : decode cX9_findsGap 38 = .ok (.iload_n 2, 1) := by decide +kernel
theorem dX9_findsGap_39 : decode cX9_findsGap 39 = .ok (.isub, 1) := by decide +kernel
theorem dX9_findsGap_40 : decode cX9_findsGap 40 = .ok (.iconst 1, 1) := by decide +kernel
theorem dX9_findsGap_41 : decode cX9_findsGap 41 = .ok (.isub, 1) := by decide +kernel
theorem dX9_findsGap_42 : decode cX9_findsGap 42 = .ok (.aload_n 0, 1) := by decide +kernel
theorem dX9_findsGap_43 : decode cX9_findsGap 43 = .ok (.getfield 238, 3) := by decide +kernel
theorem dX9_findsGap_46 : decode cX9_findsGap 46 = .ok (.if_icmp .le 19, 3) := by decide +kernel
theorem dX9_findsGap_49 : decode cX9_findsGap 49 = .ok (.aload_n 0, 1) := by decide +kernel
theorem dX9_findsGap_50 : decode cX9_findsGap 50 = .ok (.iload_n 2, 1) := by decide +kernel
theorem dX9_findsGap_51 : decode cX9_findsGap 51 = .ok (.iconst 1, 1) := by decide +kernel
theorem dX9_findsGap_52 : decode cX9_findsGap 52 = .ok (.iadd, 1) := by decide +kernel
theorem dX9_findsGap_53 : decode cX9_findsGap 53 = .ok (.putfield 235, 3) := by decide +kernel
theorem dX9_findsGap_56 : decode cX9_findsGap 56 = .ok (.aload_n 0, 1) := by decide +kernel
theorem dX9_findsGap_57 : decode cX9_findsGap 57 = .ok (.iload_n 3, 1) := by decide +kernel
theorem dX9_findsGap_58 : decode cX9_findsGap 58 = .ok (.iload_n 2, 1) := by decide +kernel
theorem dX9_findsGap_59 : decode cX9_findsGap 59 = .ok (.isub, 1) := by decide +kernel
theorem dX9_findsGap_60 : decode cX9_findsGap 60 = .ok (.iconst 1, 1) := by decide +kernel
theorem dX9_findsGap_61 : decode cX9_findsGap 61 = .ok (.isub, 1) := by decide +kernel
theorem dX9_findsGap_62 : decode cX9_findsGap 62 = .ok (.putfield 238, 3) := by decide +kernel
theorem dX9_findsGap_65 : decode cX9_findsGap 65 = .ok (.iload_n 3, 1) := by decide +kernel
theorem dX9_findsGap_66 : decode cX9_findsGap 66 = .ok (.istore_n 2, 1) := by decide +kernel
theorem dX9_findsGap_67 : decode cX9_findsGap 67 = .ok (.iinc 3 1, 3) := by decide +kernel
theorem dX9_findsGap_70 : decode cX9_findsGap 70 = .ok (.goto (-56), 3) := by decide +kernel
theorem dX9_findsGap_73 : decode cX9_findsGap 73 = .ok (.return_, 1) := by decide +kernel
theorem dX9_status_0 : decode cX9_status 0 = .ok (.aload_n 0, 1) := by decide +kernel
theorem dX9_status_1 : decode cX9_status 1 = .ok (.iload_n 1, 1) := by decide +kernel
theorem dX9_status_2 : decode cX9_status 2 = .ok (.iload_n 2, 1) := by decide +kernel
theorem dX9_status_3 : decode cX9_status 3 = .ok (.invokevirtual 232, 3) := by decide +kernel
theorem dX9_status_6 : decode cX9_status 6 = .ok (.ifCond .eq 5, 3) := by decide +kernel
theorem dX9_status_9 : decode cX9_status 9 = .ok (.iconst 1, 1) := by decide +kernel
theorem dX9_status_10 : decode cX9_status 10 = .ok (.ireturn, 1) := by decide +kernel
theorem dX9_status_11 : decode cX9_status 11 = .ok (.aload_n 0, 1) := by decide +kernel
theorem dX9_status_12 : decode cX9_status 12 = .ok (.iload_n 1, 1) := by decide +kernel
theorem dX9_status_13 : decode cX9_status 13 = .ok (.invokevirtual 241, 3) := by decide +kernel
theorem dX9_status_16 : decode cX9_status 16 = .ok (.istore_n 3, 1) := by decide +kernel
theorem dX9_status_17 : decode cX9_status 17 = .ok (.iload_n 3, 1) := by decide +kernel
theorem dX9_status_18 : decode cX9_status 18 = .ok (.iconst (-1), 1) := by decide +kernel
theorem dX9_status_19 : decode cX9_status 19 = .ok (.if_icmp .eq 17, 3) := by decide +kernel
theorem dX9_status_22 : decode cX9_status 22 = .ok (.iload_n 2, 1) := by decide +kernel
theorem dX9_status_23 : decode cX9_status 23 = .ok (.iload_n 3, 1) := by decide +kernel
theorem dX9_status_24 : decode cX9_status 24 = .ok (.if_icmp .lt 12, 3) := by decide +kernel
theorem dX9_status_27 : decode cX9_status 27 = .ok (.iload_n 2, 1) := by decide +kernel
theorem dX9_status_28 : decode cX9_status 28 = .ok (.aload_n 0, 1) := by decide +kernel
theorem dX9_status_29 : decode cX9_status 29 = .ok (.iload_n 1, 1) := by decide +kernel
theorem dX9_status_30 : decode cX9_status 30 = .ok (.invokevirtual 244, 3) := by decide +kernel
theorem dX9_status_33 : decode cX9_status 33 = .ok (.if_icmp .le 5, 3) := by decide +kernel
theorem dX9_status_36 : decode cX9_status 36 = .ok (.iconst 0, 1) := by decide +kernel
theorem dX9_status_37 : decode cX9_status 37 = .ok (.ireturn, 1) := by decide +kernel
theorem dX9_status_38 : decode cX9_status 38 = .ok (.aload_n 0, 1) := by decide +kernel
theorem dX9_status_39 : decode cX9_status 39 = .ok (.getfield 238, 3) := by decide +kernel
theorem dX9_status_42 : decode cX9_status 42 = .ok (.aload_n 0, 1) := by decide +kernel
theorem dX9_status_43 : decode cX9_status 43 = .ok (.getfield 19, 3) := by decide +kernel
theorem dX9_status_46 : decode cX9_status 46 = .ok (.iconst 3, 1) := by decide +kernel
theorem dX9_status_47 : decode cX9_status 47 = .ok (.iaload, 1) := by decide +kernel
theorem dX9_status_48 : decode cX9_status 48 = .ok (.if_icmp .lt 28, 3) := by decide +kernel
theorem dX9_status_51 : decode cX9_status 51 = .ok (.iload_n 2, 1) := by decide +kernel
theorem dX9_status_52 : decode cX9_status 52 = .ok (.aload_n 0, 1) := by decide +kernel
theorem dX9_status_53 : decode cX9_status 53 = .ok (.getfield 235, 3) := by decide +kernel
theorem dX9_status_56 : decode cX9_status 56 = .ok (.if_icmp .lt 20, 3) := by decide +kernel
theorem dX9_status_59 : decode cX9_status 59 = .ok (.iload_n 2, 1) := by decide +kernel
theorem dX9_status_60 : decode cX9_status 60 = .ok (.aload_n 0, 1) := by decide +kernel
theorem dX9_status_61 : decode cX9_status 61 = .ok (.getfield 235, 3) := by decide +kernel
theorem dX9_status_64 : decode cX9_status 64 = .ok (.aload_n 0, 1) := by decide +kernel
theorem dX9_status_65 : decode cX9_status 65 = .ok (.getfield 238, 3) := by decide +kernel
theorem dX9_status_68 : decode cX9_status 68 = .ok (.iadd, 1) := by decide +kernel
theorem dX9_status_69 : decode cX9_status 69 = .ok (.if_icmp .ge 7, 3) := by decide +kernel
theorem dX9_status_72 : decode cX9_status 72 = .ok (.iconst 1, 1) := by decide +kernel
theorem dX9_status_73 : decode cX9_status 73 = .ok (.goto 4, 3) := by decide +kernel
theorem dX9_status_76 : decode cX9_status 76 = .ok (.iconst 0, 1) := by decide +kernel
theorem dX9_status_77 : decode cX9_status 77 = .ok (.istore 4, 2) := by decide +kernel
theorem dX9_status_79 : decode cX9_status 79 = .ok (.iload 4, 2) := by decide +kernel
theorem dX9_status_81 : decode cX9_status 81 = .ok (.ifCond .eq 7, 3) := by decide +kernel
theorem dX9_status_84 : decode cX9_status 84 = .ok (.iconst 3, 1) := by decide +kernel
theorem dX9_status_85 : decode cX9_status 85 = .ok (.goto 4, 3) := by decide +kernel
theorem dX9_status_88 : decode cX9_status 88 = .ok (.iconst 2, 1) := by decide +kernel
theorem dX9_status_89 : decode cX9_status 89 = .ok (.ireturn, 1) := by decide +kernel
theorem dX9_days_0 : decode cX9_days 0 = .ok (.aload_n 0, 1) := by decide +kernel
theorem dX9_days_1 : decode cX9_days 1 = .ok (.iload_n 1, 1) := by decide +kernel
theorem dX9_days_2 : decode cX9_days 2 = .ok (.invokevirtual 247, 3) := by decide +kernel
theorem dX9_days_5 : decode cX9_days 5 = .ok (.iconst 0, 1) := by decide +kernel
theorem dX9_days_6 : decode cX9_days 6 = .ok (.istore_n 3, 1) := by decide +kernel
theorem dX9_days_7 : decode cX9_days 7 = .ok (.iconst 0, 1) := by decide +kernel
theorem dX9_days_8 : decode cX9_days 8 = .ok (.istore 4, 2) := by decide +kernel
theorem dX9_days_10 : decode cX9_days 10 = .ok (.iload 4, 2) := by decide +kernel
theorem dX9_days_12 : decode cX9_days 12 = .ok (.bipush 12, 2) := by decide +kernel
theorem dX9_days_14 : decode cX9_days 14 = .ok (.if_icmp .ge 28, 3) := by decide +kernel
theorem dX9_days_17 : decode cX9_days 17 = .ok (.iload_n 3, 1) := by decide +kernel
theorem dX9_days_18 : decode cX9_days 18 = .ok (.aload_n 0, 1) := by decide +kernel
theorem dX9_days_19 : decode cX9_days 19 = .ok (.iload_n 1, 1) := by decide +kernel
theorem dX9_days_20 : decode cX9_days 20 = .ok (.iload 4, 2) := by decide +kernel
theorem dX9_days_22 : decode cX9_days 22 = .ok (.invokevirtual 251, 3) := by decide +kernel
theorem dX9_days_25 : decode cX9_days 25 = .ok (.iload_n 2, 1) := by decide +kernel
theorem dX9_days_26 : decode cX9_days 26 = .ok (.if_icmp .ne 7, 3) := by decide +kernel
theorem dX9_days_29 : decode cX9_days 29 = .ok (.iconst 1, 1) := by decide +kernel
theorem dX9_days_30 : decode cX9_days 30 = .ok (.goto 4, 3) := by decide +kernel
theorem dX9_days_33 : decode cX9_days 33 = .ok (.iconst 0, 1) := by decide +kernel
theorem dX9_days_34 : decode cX9_days 34 = .ok (.iadd, 1) := by decide +kernel
theorem dX9_days_35 : decode cX9_days 35 = .ok (.istore_n 3, 1) := by decide +kernel
theorem dX9_days_36 : decode cX9_days 36 = .ok (.iinc 4 1, 3) := by decide +kernel
theorem dX9_days_39 : decode cX9_days 39 = .ok (.goto (-29), 3) := by decide +kernel
theorem dX9_days_42 : decode cX9_days 42 = .ok (.iload_n 3, 1) := by decide +kernel
theorem dX9_days_43 : decode cX9_days 43 = .ok (.ireturn, 1) := by decide +kernel
theorem dX9_statusOf_0 : decode cX9_statusOf 0 = .ok (.aload_n 0, 1) := by decide +kernel
theorem dX9_statusOf_1 : decode cX9_statusOf 1 = .ok (.aload_n 0, 1) := by decide +kernel
theorem dX9_statusOf_2 : decode cX9_statusOf 2 = .ok (.iload_n 1, 1) := by decide +kernel
theorem dX9_statusOf_3 : decode cX9_statusOf 3 = .ok (.invokevirtual 214, 3) := by decide +kernel
theorem dX9_statusOf_6 : decode cX9_statusOf 6 = .ok (.ifCond .eq 14, 3) := by decide +kernel
theorem dX9_statusOf_9 : decode cX9_statusOf 9 = .ok (.iload_n 2, 1) := by decide +kernel
theorem dX9_statusOf_10 : decode cX9_statusOf 10 = .ok (.invokestatic 220, 3) := by decide +kernel
theorem dX9_statusOf_13 : decode cX9_statusOf 13 = .ok (.ifCond .eq 7, 3) := by decide +kernel
theorem dX9_statusOf_16 : decode cX9_statusOf 16 = .ok (.iconst 1, 1) := by decide +kernel
theorem dX9_statusOf_17 : decode cX9_statusOf 17 = .ok (.goto 4, 3) := by decide +kernel
theorem dX9_statusOf_20 : decode cX9_statusOf 20 = .ok (.iconst 0, 1) := by decide +kernel
theorem dX9_statusOf_21 : decode cX9_statusOf 21 = .ok (.invokevirtual 210, 3) := by decide +kernel
theorem dX9_statusOf_24 : decode cX9_statusOf 24 = .ok (.ifCond .ne 5, 3) := by decide +kernel
theorem dX9_statusOf_27 : decode cX9_statusOf 27 = .ok (.iconst 0, 1) := by decide +kernel
theorem dX9_statusOf_28 : decode cX9_statusOf 28 = .ok (.ireturn, 1) := by decide +kernel
theorem dX9_statusOf_29 : decode cX9_statusOf 29 = .ok (.aload_n 0, 1) := by decide +kernel
theorem dX9_statusOf_30 : decode cX9_statusOf 30 = .ok (.invokevirtual 254, 3) := by decide +kernel
theorem dX9_statusOf_33 : decode cX9_statusOf 33 = .ok (.aload_n 0, 1) := by decide +kernel
theorem dX9_statusOf_34 : decode cX9_statusOf 34 = .ok (.iload_n 1, 1) := by decide +kernel
theorem dX9_statusOf_35 : decode cX9_statusOf 35 = .ok (.invokevirtual 247, 3) := by decide +kernel
theorem dX9_statusOf_38 : decode cX9_statusOf 38 = .ok (.aload_n 0, 1) := by decide +kernel
theorem dX9_statusOf_39 : decode cX9_statusOf 39 = .ok (.iload_n 1, 1) := by decide +kernel
theorem dX9_statusOf_40 : decode cX9_statusOf 40 = .ok (.iload_n 2, 1) := by decide +kernel
theorem dX9_statusOf_41 : decode cX9_statusOf 41 = .ok (.invokevirtual 251, 3) := by decide +kernel
theorem dX9_statusOf_44 : decode cX9_statusOf 44 = .ok (.ireturn, 1) := by decide +kernel
theorem dX9_firstDay_0 : decode cX9_firstDay 0 = .ok (.aload_n 0, 1) := by decide +kernel
theorem dX9_firstDay_1 : decode cX9_firstDay 1 = .ok (.aload_n 0, 1) := by decide +kernel
theorem dX9_firstDay_2 : decode cX9_firstDay 2 = .ok (.iload_n 1, 1) := by decide +kernel
theorem dX9_firstDay_3 : decode cX9_firstDay 3 = .ok (.invokevirtual 214, 3) := by decide +kernel
theorem dX9_firstDay_6 : decode cX9_firstDay 6 = .ok (.invokevirtual 210, 3) := by decide +kernel
theorem dX9_firstDay_9 : decode cX9_firstDay 9 = .ok (.ifCond .ne 5, 3) := by decide +kernel
theorem dX9_firstDay_12 : decode cX9_firstDay 12 = .ok (.iconst 0, 1) := by decide +kernel
theorem dX9_firstDay_13 : decode cX9_firstDay 13 = .ok (.ireturn, 1) := by decide +kernel
theorem dX9_firstDay_14 : decode cX9_firstDay 14 = .ok (.aload_n 0, 1) := by decide +kernel
theorem dX9_firstDay_15 : decode cX9_firstDay 15 = .ok (.invokevirtual 254, 3) := by decide +kernel
theorem dX9_firstDay_18 : decode cX9_firstDay 18 = .ok (.aload_n 0, 1) := by decide +kernel
theorem dX9_firstDay_19 : decode cX9_firstDay 19 = .ok (.iload_n 1, 1) := by decide +kernel
theorem dX9_firstDay_20 : decode cX9_firstDay 20 = .ok (.invokevirtual 241, 3) := by decide +kernel
theorem dX9_firstDay_23 : decode cX9_firstDay 23 = .ok (.ireturn, 1) := by decide +kernel
theorem dX9_lastDay_0 : decode cX9_lastDay 0 = .ok (.aload_n 0, 1) := by decide +kernel
theorem dX9_lastDay_1 : decode cX9_lastDay 1 = .ok (.aload_n 0, 1) := by decide +kernel
theorem dX9_lastDay_2 : decode cX9_lastDay 2 = .ok (.iload_n 1, 1) := by decide +kernel
theorem dX9_lastDay_3 : decode cX9_lastDay 3 = .ok (.invokevirtual 214, 3) := by decide +kernel
theorem dX9_lastDay_6 : decode cX9_lastDay 6 = .ok (.invokevirtual 210, 3) := by decide +kernel
theorem dX9_lastDay_9 : decode cX9_lastDay 9 = .ok (.ifCond .ne 5, 3) := by decide +kernel
theorem dX9_lastDay_12 : decode cX9_lastDay 12 = .ok (.iconst 0, 1) := by decide +kernel
theorem dX9_lastDay_13 : decode cX9_lastDay 13 = .ok (.ireturn, 1) := by decide +kernel
theorem dX9_lastDay_14 : decode cX9_lastDay 14 = .ok (.aload_n 0, 1) := by decide +kernel
theorem dX9_lastDay_15 : decode cX9_lastDay 15 = .ok (.invokevirtual 254, 3) := by decide +kernel
theorem dX9_lastDay_18 : decode cX9_lastDay 18 = .ok (.aload_n 0, 1) := by decide +kernel
theorem dX9_lastDay_19 : decode cX9_lastDay 19 = .ok (.iload_n 1, 1) := by decide +kernel
theorem dX9_lastDay_20 : decode cX9_lastDay 20 = .ok (.invokevirtual 244, 3) := by decide +kernel
theorem dX9_lastDay_23 : decode cX9_lastDay 23 = .ok (.ireturn, 1) := by decide +kernel
theorem dX9_daysWith_0 : decode cX9_daysWith 0 = .ok (.aload_n 0, 1) := by decide +kernel
theorem dX9_daysWith_1 : decode cX9_daysWith 1 = .ok (.aload_n 0, 1) := by decide +kernel
theorem dX9_daysWith_2 : decode cX9_daysWith 2 = .ok (.iload_n 1, 1) := by decide +kernel
theorem dX9_daysWith_3 : decode cX9_daysWith 3 = .ok (.invokevirtual 214, 3) := by decide +kernel
theorem dX9_daysWith_6 : decode cX9_daysWith 6 = .ok (.invokevirtual 210, 3) := by decide +kernel
theorem dX9_daysWith_9 : decode cX9_daysWith 9 = .ok (.ifCond .ne 5, 3) := by decide +kernel
theorem dX9_daysWith_12 : decode cX9_daysWith 12 = .ok (.iconst 0, 1) := by decide +kernel
theorem dX9_daysWith_13 : decode cX9_daysWith 13 = .ok (.ireturn, 1) := by decide +kernel
theorem dX9_daysWith_14 : decode cX9_daysWith 14 = .ok (.iload_n 2, 1) := by decide +kernel
theorem dX9_daysWith_15 : decode cX9_daysWith 15 = .ok (.ifCond .lt 8, 3) := by decide +kernel
theorem dX9_daysWith_18 : decode cX9_daysWith 18 = .ok (.iload_n 2, 1) := by decide +kernel
theorem dX9_daysWith_19 : decode cX9_daysWith 19 = .ok (.iconst 3, 1) := by decide +kernel
theorem dX9_daysWith_20 : decode cX9_daysWith 20 = .ok (.if_icmp .le 6, 3) := by decide +kernel
theorem dX9_daysWith_23 : decode cX9_daysWith 23 = .ok (.bipush (-2), 2) := by decide +kernel
theorem dX9_daysWith_25 : decode cX9_daysWith 25 = .ok (.ireturn, 1) := by decide +kernel
theorem dX9_daysWith_26 : decode cX9_daysWith 26 = .ok (.aload_n 0, 1) := by decide +kernel
theorem dX9_daysWith_27 : decode cX9_daysWith 27 = .ok (.invokevirtual 254, 3) := by decide +kernel
theorem dX9_daysWith_30 : decode cX9_daysWith 30 = .ok (.aload_n 0, 1) := by decide +kernel
theorem dX9_daysWith_31 : decode cX9_daysWith 31 = .ok (.iload_n 1, 1) := by decide +kernel
theorem dX9_daysWith_32 : decode cX9_daysWith 32 = .ok (.iload_n 2, 1) := by decide +kernel
theorem dX9_daysWith_33 : decode cX9_daysWith 33 = .ok (.invokevirtual 257, 3) := by decide +kernel
theorem dX9_daysWith_36 : decode cX9_daysWith 36 = .ok (.ireturn, 1) := by decide +kernel
theorem dX9_held_0 : decode cX9_held 0 = .ok (.aload_n 0, 1) := by decide +kernel
theorem dX9_held_1 : decode cX9_held 1 = .ok (.iload_n 1, 1) := by decide +kernel
theorem dX9_held_2 : decode cX9_held 2 = .ok (.iconst 2, 1) := by decide +kernel
theorem dX9_held_3 : decode cX9_held 3 = .ok (.invokevirtual 257, 3) := by decide +kernel
theorem dX9_held_6 : decode cX9_held 6 = .ok (.aload_n 0, 1) := by decide +kernel
theorem dX9_held_7 : decode cX9_held 7 = .ok (.getfield 13, 3) := by decide +kernel
theorem dX9_held_10 : decode cX9_held 10 = .ok (.bipush 18, 2) := by decide +kernel
theorem dX9_held_12 : decode cX9_held 12 = .ok (.iload_n 1, 1) := by decide +kernel
theorem dX9_held_13 : decode cX9_held 13 = .ok (.iadd, 1) := by decide +kernel
theorem dX9_held_14 : decode cX9_held 14 = .ok (.iaload, 1) := by decide +kernel
theorem dX9_held_15 : decode cX9_held 15 = .ok (.aload_n 0, 1) := by decide +kernel
theorem dX9_held_16 : decode cX9_held 16 = .ok (.getfield 19, 3) := by decide +kernel
theorem dX9_held_19 : decode cX9_held 19 = .ok (.iconst 2, 1) := by decide +kernel
theorem dX9_held_20 : decode cX9_held 20 = .ok (.iaload, 1) := by decide +kernel
theorem dX9_held_21 : decode cX9_held 21 = .ok (.imul, 1) := by decide +kernel
theorem dX9_held_22 : decode cX9_held 22 = .ok (.bipush 100, 2) := by decide +kernel
theorem dX9_held_24 : decode cX9_held 24 = .ok (.idiv, 1) := by decide +kernel
theorem dX9_held_25 : decode cX9_held 25 = .ok (.imul, 1) := by decide +kernel
theorem dX9_held_26 : decode cX9_held 26 = .ok (.ireturn, 1) := by decide +kernel
theorem dX9_price_0 : decode cX9_price 0 = .ok (.aload_n 0, 1) := by decide +kernel
theorem dX9_price_1 : decode cX9_price 1 = .ok (.iload_n 1, 1) := by decide +kernel
theorem dX9_price_2 : decode cX9_price 2 = .ok (.iconst 1, 1) := by decide +kernel
theorem dX9_price_3 : decode cX9_price 3 = .ok (.invokevirtual 257, 3) := by decide +kernel
theorem dX9_price_6 : decode cX9_price 6 = .ok (.aload_n 0, 1) := by decide +kernel
theorem dX9_price_7 : decode cX9_price 7 = .ok (.getfield 13, 3) := by decide +kernel
theorem dX9_price_10 : decode cX9_price 10 = .ok (.bipush 18, 2) := by decide +kernel
theorem dX9_price_12 : decode cX9_price 12 = .ok (.iload_n 1, 1) := by decide +kernel
theorem dX9_price_13 : decode cX9_price 13 = .ok (.iadd, 1) := by decide +kernel
theorem dX9_price_14 : decode cX9_price 14 = .ok (.iaload, 1) := by decide +kernel
theorem dX9_price_15 : decode cX9_price 15 = .ok (.imul, 1) := by decide +kernel
theorem dX9_price_16 : decode cX9_price 16 = .ok (.aload_n 0, 1) := by decide +kernel
theorem dX9_price_17 : decode cX9_price 17 = .ok (.iload_n 1, 1) := by decide +kernel
theorem dX9_price_18 : decode cX9_price 18 = .ok (.invokevirtual 260, 3) := by decide +kernel
theorem dX9_price_21 : decode cX9_price 21 = .ok (.iadd, 1) := by decide +kernel
theorem dX9_price_22 : decode cX9_price 22 = .ok (.ireturn, 1) := by decide +kernel
theorem dX9_actorCost_0 : decode cX9_actorCost 0 = .ok (.aload_n 0, 1) := by decide +kernel
theorem dX9_actorCost_1 : decode cX9_actorCost 1 = .ok (.aload_n 0, 1) := by decide +kernel
theorem dX9_actorCost_2 : decode cX9_actorCost 2 = .ok (.iload_n 1, 1) := by decide +kernel
theorem dX9_actorCost_3 : decode cX9_actorCost 3 = .ok (.invokevirtual 214, 3) := by decide +kernel
theorem dX9_actorCost_6 : decode cX9_actorCost 6 = .ok (.invokevirtual 210, 3) := by decide +kernel
theorem dX9_actorCost_9 : decode cX9_actorCost 9 = .ok (.ifCond .ne 5, 3) := by decide +kernel
theorem dX9_actorCost_12 : decode cX9_actorCost 12 = .ok (.iconst 0, 1) := by decide +kernel
theorem dX9_actorCost_13 : decode cX9_actorCost 13 = .ok (.ireturn, 1) := by decide +kernel
theorem dX9_actorCost_14 : decode cX9_actorCost 14 = .ok (.aload_n 0, 1) := by decide +kernel
theorem dX9_actorCost_15 : decode cX9_actorCost 15 = .ok (.invokevirtual 254, 3) := by decide +kernel
theorem dX9_actorCost_18 : decode cX9_actorCost 18 = .ok (.aload_n 0, 1) := by decide +kernel
theorem dX9_actorCost_19 : decode cX9_actorCost 19 = .ok (.iload_n 1, 1) := by decide +kernel
theorem dX9_actorCost_20 : decode cX9_actorCost 20 = .ok (.invokevirtual 263, 3) := by decide +kernel
theorem dX9_actorCost_23 : decode cX9_actorCost 23 = .ok (.ireturn, 1) := by decide +kernel
theorem dX9_movesNow_0 : decode cX9_movesNow 0 = .ok (.iconst 0, 1) := by decide +kernel
theorem dX9_movesNow_1 : decode cX9_movesNow 1 = .ok (.istore_n 1, 1) := by decide +kernel
theorem dX9_movesNow_2 : decode cX9_movesNow 2 = .ok (.iconst (-1), 1) := by decide +kernel
theorem dX9_movesNow_3 : decode cX9_movesNow 3 = .ok (.istore_n 2, 1) := by decide +kernel
theorem dX9_movesNow_4 : decode cX9_movesNow 4 = .ok (.iconst 0, 1) := by decide +kernel
theorem dX9_movesNow_5 : decode cX9_movesNow 5 = .ok (.istore_n 3, 1) := by decide +kernel
theorem dX9_movesNow_6 : decode cX9_movesNow 6 = .ok (.iload_n 3, 1) := by decide +kernel
theorem dX9_movesNow_7 : decode cX9_movesNow 7 = .ok (.bipush 12, 2) := by decide +kernel
theorem dX9_movesNow_9 : decode cX9_movesNow 9 = .ok (.if_icmp .ge 47, 3) := by decide +kernel
theorem dX9_movesNow_12 : decode cX9_movesNow 12 = .ok (.aload_n 0, 1) := by decide +kernel
theorem dX9_movesNow_13 : decode cX9_movesNow 13 = .ok (.iload_n 3, 1) := by decide +kernel
theorem dX9_movesNow_14 : decode cX9_movesNow 14 = .ok (.invokevirtual 226, 3) := by decide +kernel
theorem dX9_movesNow_17 : decode cX9_movesNow 17 = .ok (.istore 4, 2) := by decide +kernel
theorem dX9_movesNow_19 : decode cX9_movesNow 19 = .ok (.iload 4, 2) := by decide +kernel
theorem dX9_movesNow_21 : decode cX9_movesNow 21 = .ok (.iconst (-1), 1) := by decide +kernel
theorem dX9_movesNow_22 : decode cX9_movesNow 22 = .ok (.if_icmp .ne 6, 3) := by decide +kernel
theorem dX9_movesNow_25 : decode cX9_movesNow 25 = .ok (.goto 25, 3) := by decide +kernel
theorem dX9_movesNow_28 : decode cX9_movesNow 28 = .ok (.iload_n 1, 1) := by decide +kernel
theorem dX9_movesNow_29 : decode cX9_movesNow 29 = .ok (.iload_n 2, 1) := by decide +kernel
theorem dX9_movesNow_30 : decode cX9_movesNow 30 = .ok (.iconst (-1), 1) := by decide +kernel
theorem dX9_movesNow_31 : decode cX9_movesNow 31 = .ok (.if_icmp .eq 13, 3) := by decide +kernel
theorem dX9_movesNow_34 : decode cX9_movesNow 34 = .ok (.iload 4, 2) := by decide +kernel
theorem dX9_movesNow_36 : decode cX9_movesNow 36 = .ok (.iload_n 2, 1) := by decide +kernel
theorem dX9_movesNow_37 : decode cX9_movesNow 37 = .ok (.if_icmp .eq 7, 3) := by decide +kernel
theorem dX9_movesNow_40 : decode cX9_movesNow 40 = .ok (.iconst 1, 1) := by decide +kernel
theorem dX9_movesNow_41 : decode cX9_movesNow 41 = .ok (.goto 4, 3) := by decide +kernel
theorem dX9_movesNow_44 : decode cX9_movesNow 44 = .ok (.iconst 0, 1) := by decide +kernel
theorem dX9_movesNow_45 : decode cX9_movesNow 45 = .ok (.iadd, 1) := by decide +kernel
theorem dX9_movesNow_46 : decode cX9_movesNow 46 = .ok (.istore_n 1, 1) := by decide +kernel
theorem dX9_movesNow_47 : decode cX9_movesNow 47 = .ok (.iload 4, 2) := by decide +kernel
theorem dX9_movesNow_49 : decode cX9_movesNow 49 = .ok (.istore_n 2, 1) := by decide +kernel
theorem dX9_movesNow_50 : decode cX9_movesNow 50 = .ok (.iinc 3 1, 3) := by decide +kernel
theorem dX9_movesNow_53 : decode cX9_movesNow 53 = .ok (.goto (-47), 3) := by decide +kernel
theorem dX9_movesNow_56 : decode cX9_movesNow 56 = .ok (.iload_n 1, 1) := by decide +kernel
theorem dX9_movesNow_57 : decode cX9_movesNow 57 = .ok (.ireturn, 1) := by decide +kernel
theorem dX9_moves_0 : decode cX9_moves 0 = .ok (.aload_n 0, 1) := by decide +kernel
theorem dX9_moves_1 : decode cX9_moves 1 = .ok (.iconst 0, 1) := by decide +kernel
theorem dX9_moves_2 : decode cX9_moves 2 = .ok (.putfield 53, 3) := by decide +kernel
theorem dX9_moves_5 : decode cX9_moves 5 = .ok (.aload_n 0, 1) := by decide +kernel
theorem dX9_moves_6 : decode cX9_moves 6 = .ok (.invokevirtual 266, 3) := by decide +kernel
theorem dX9_moves_9 : decode cX9_moves 9 = .ok (.ireturn, 1) := by decide +kernel
theorem dX9_costNow_0 : decode cX9_costNow 0 = .ok (.aload_n 0, 1) := by decide +kernel
theorem dX9_costNow_1 : decode cX9_costNow 1 = .ok (.invokevirtual 254, 3) := by decide +kernel
theorem dX9_costNow_4 : decode cX9_costNow 4 = .ok (.aload_n 0, 1) := by decide +kernel
theorem dX9_costNow_5 : decode cX9_costNow 5 = .ok (.invokevirtual 266, 3) := by decide +kernel
theorem dX9_costNow_8 : decode cX9_costNow 8 = .ok (.aload_n 0, 1) := by decide +kernel
theorem dX9_costNow_9 : decode cX9_costNow 9 = .ok (.getfield 19, 3) := by decide +kernel
theorem dX9_costNow_12 : decode cX9_costNow 12 = .ok (.iconst 1, 1) := by decide +kernel
theorem dX9_costNow_13 : decode cX9_costNow 13 = .ok (.iaload, 1) := by decide +kernel
theorem dX9_costNow_14 : decode cX9_costNow 14 = .ok (.imul, 1) := by decide +kernel
theorem dX9_costNow_15 : decode cX9_costNow 15 = .ok (.istore_n 1, 1) := by decide +kernel
theorem dX9_costNow_16 : decode cX9_costNow 16 = .ok (.iconst 0, 1) := by decide +kernel
theorem dX9_costNow_17 : decode cX9_costNow 17 = .ok (.istore_n 2, 1) := by decide +kernel
theorem dX9_costNow_18 : decode cX9_costNow 18 = .ok (.iload_n 2, 1) := by decide +kernel
theorem dX9_costNow_19 : decode cX9_costNow 19 = .ok (.bipush 12, 2) := by decide +kernel
theorem dX9_costNow_21 : decode cX9_costNow 21 = .ok (.if_icmp .ge 35, 3) := by decide +kernel
theorem dX9_costNow_24 : decode cX9_costNow 24 = .ok (.aload_n 0, 1) := by decide +kernel
theorem dX9_costNow_25 : decode cX9_costNow 25 = .ok (.iload_n 2, 1) := by decide +kernel
theorem dX9_costNow_26 : decode cX9_costNow 26 = .ok (.invokevirtual 226, 3) := by decide +kernel
theorem dX9_costNow_29 : decode cX9_costNow 29 = .ok (.istore_n 3, 1) := by decide +kernel
theorem dX9_costNow_30 : decode cX9_costNow 30 = .ok (.iload_n 1, 1) := by decide +kernel
theorem dX9_costNow_31 : decode cX9_costNow 31 = .ok (.iload_n 3, 1) := by decide +kernel
theorem dX9_costNow_32 : decode cX9_costNow 32 = .ok (.iconst (-1), 1) := by decide +kernel
theorem dX9_costNow_33 : decode cX9_costNow 33 = .ok (.if_icmp .ne 7, 3) := by decide +kernel
theorem dX9_costNow_36 : decode cX9_costNow 36 = .ok (.iconst 0, 1) := by decide +kernel
theorem dX9_costNow_37 : decode cX9_costNow 37 = .ok (.goto 11, 3) := by decide +kernel
theorem dX9_costNow_40 : decode cX9_costNow 40 = .ok (.aload_n 0, 1) := by decide +kernel
theorem dX9_costNow_41 : decode cX9_costNow 41 = .ok (.getfield 13, 3) := by decide +kernel
theorem dX9_costNow_44 : decode cX9_costNow 44 = .ok (.iconst 4, 1) := by decide +kernel
theorem dX9_costNow_45 : decode cX9_costNow 45 = .ok (.iload_n 3, 1) := by decide +kernel
theorem dX9_costNow_46 : decode cX9_costNow 46 = .ok (.iadd, 1) := by decide +kernel
theorem dX9_costNow_47 : decode cX9_costNow 47 = .ok (.iaload, 1) := by decide +kernel
theorem dX9_costNow_48 : decode cX9_costNow 48 = .ok (.iadd, 1) := by decide +kernel
theorem dX9_costNow_49 : decode cX9_costNow 49 = .ok (.istore_n 1, 1) := by decide +kernel
theorem dX9_costNow_50 : decode cX9_costNow 50 = .ok (.iinc 2 1, 3) := by decide +kernel
theorem dX9_costNow_53 : decode cX9_costNow 53 = .ok (.goto (-35), 3) := by decide +kernel
theorem dX9_costNow_56 : decode cX9_costNow 56 = .ok (.iconst 0, 1) := by decide +kernel
theorem dX9_costNow_57 : decode cX9_costNow 57 = .ok (.istore_n 2, 1) := by decide +kernel
theorem dX9_costNow_58 : decode cX9_costNow 58 = .ok (.iload_n 2, 1) := by decide +kernel
theorem dX9_costNow_59 : decode cX9_costNow 59 = .ok (.aload_n 0, 1) := by decide +kernel
theorem dX9_costNow_60 : decode cX9_costNow 60 = .ok (.getfield 13, 3) := by decide +kernel
theorem dX9_costNow_63 : decode cX9_costNow 63 = .ok (.bipush 81, 2) := by decide +kernel
theorem dX9_costNow_65 : decode cX9_costNow 65 = .ok (.iaload, 1) := by decide +kernel
theorem dX9_costNow_66 : decode cX9_costNow 66 = .ok (.if_icmp .ge 17, 3) := by decide +kernel
theorem dX9_costNow_69 : decode cX9_costNow 69 = .ok (.iload_n 1, 1) := by decide +kernel
theorem dX9_costNow_70 : decode cX9_costNow 70 = .ok (.aload_n 0, 1) := by decide +kernel
theorem dX9_costNow_71 : decode cX9_costNow 71 = .ok (.iload_n 2, 1) := by decide +kernel
theorem dX9_costNow_72 : decode cX9_costNow 72 = .ok (.invokevirtual 263, 3) := by decide +kernel
theorem dX9_costNow_75 : decode cX9_costNow 75 = .ok (.iadd, 1) := by decide +kernel
theorem dX9_costNow_76 : decode cX9_costNow 76 = .ok (.istore_n 1, 1) := by decide +kernel
theorem dX9_costNow_77 : decode cX9_costNow 77 = .ok (.iinc 2 1, 3) := by decide +kernel
theorem dX9_costNow_80 : decode cX9_costNow 80 = .ok (.goto (-22), 3) := by decide +kernel
theorem dX9_costNow_83 : decode cX9_costNow 83 = .ok (.iload_n 1, 1) := by decide +kernel
theorem dX9_costNow_84 : decode cX9_costNow 84 = .ok (.ireturn, 1) := by decide +kernel
theorem dX9_cost_0 : decode cX9_cost 0 = .ok (.aload_n 0, 1) := by decide +kernel
theorem dX9_cost_1 : decode cX9_cost 1 = .ok (.iconst 0, 1) := by decide +kernel
theorem dX9_cost_2 : decode cX9_cost 2 = .ok (.putfield 53, 3) := by decide +kernel
theorem dX9_cost_5 : decode cX9_cost 5 = .ok (.aload_n 0, 1) := by decide +kernel
theorem dX9_cost_6 : decode cX9_cost 6 = .ok (.invokevirtual 269, 3) := by decide +kernel
theorem dX9_cost_9 : decode cX9_cost 9 = .ok (.ireturn, 1) := by decide +kernel
theorem dX9_holdingCost_0 : decode cX9_holdingCost 0 = .ok (.aload_n 0, 1) := by decide +kernel
theorem dX9_holdingCost_1 : decode cX9_holdingCost 1 = .ok (.iconst 0, 1) := by decide +kernel
theorem dX9_holdingCost_2 : decode cX9_holdingCost 2 = .ok (.putfield 53, 3) := by decide +kernel
theorem dX9_holdingCost_5 : decode cX9_holdingCost 5 = .ok (.aload_n 0, 1) := by decide +kernel
theorem dX9_holdingCost_6 : decode cX9_holdingCost 6 = .ok (.invokevirtual 254, 3) := by decide +kernel
theorem dX9_holdingCost_9 : decode cX9_holdingCost 9 = .ok (.iconst 0, 1) := by decide +kernel
theorem dX9_holdingCost_10 : decode cX9_holdingCost 10 = .ok (.istore_n 1, 1) := by decide +kernel
theorem dX9_holdingCost_11 : decode cX9_holdingCost 11 = .ok (.iconst 0, 1) := by decide +kernel
theorem dX9_holdingCost_12 : decode cX9_holdingCost 12 = .ok (.istore_n 2, 1) := by decide +kernel
theorem dX9_holdingCost_13 : decode cX9_holdingCost 13 = .ok (.iload_n 2, 1) := by decide +kernel
theorem dX9_holdingCost_14 : decode cX9_holdingCost 14 = .ok (.aload_n 0, 1) := by decide +kernel
theorem dX9_holdingCost_15 : decode cX9_holdingCost 15 = .ok (.getfield 13, 3) := by decide +kernel
theorem dX9_holdingCost_18 : decode cX9_holdingCost 18 = .ok (.bipush 81, 2) := by decide +kernel
theorem dX9_holdingCost_20 : decode cX9_holdingCost 20 = .ok (.iaload, 1) := by decide +kernel
theorem dX9_holdingCost_21 : decode cX9_holdingCost 21 = .ok (.if_icmp .ge 17, 3) := by decide +kernel
theorem dX9_holdingCost_24 : decode cX9_holdingCost 24 = .ok (.iload_n 1, 1) := by decide +kernel
theorem dX9_holdingCost_25 : decode cX9_holdingCost 25 = .ok (.aload_n 0, 1) := by decide +kernel
theorem dX9_holdingCost_26 : decode cX9_holdingCost 26 = .ok (.iload_n 2, 1) := by decide +kernel
theorem dX9_holdingCost_27 : decode cX9_holdingCost 27 = .ok (.invokevirtual 260, 3) := by decide +kernel
theorem dX9_holdingCost_30 : decode cX9_holdingCost 30 = .ok (.iadd, 1) := by decide +kernel
theorem dX9_holdingCost_31 : decode cX9_holdingCost 31 = .ok (.istore_n 1, 1) := by decide +kernel
theorem dX9_holdingCost_32 : decode cX9_holdingCost 32 = .ok (.iinc 2 1, 3) := by decide +kernel
theorem dX9_holdingCost_35 : decode cX9_holdingCost 35 = .ok (.goto (-22), 3) := by decide +kernel
theorem dX9_holdingCost_38 : decode cX9_holdingCost 38 = .ok (.iload_n 1, 1) := by decide +kernel
theorem dX9_holdingCost_39 : decode cX9_holdingCost 39 = .ok (.ireturn, 1) := by decide +kernel
theorem dX9_reasonFor_0 : decode cX9_reasonFor 0 = .ok (.aload_n 0, 1) := by decide +kernel
theorem dX9_reasonFor_1 : decode cX9_reasonFor 1 = .ok (.aload_n 0, 1) := by decide +kernel
theorem dX9_reasonFor_2 : decode cX9_reasonFor 2 = .ok (.iload_n 1, 1) := by decide +kernel
theorem dX9_reasonFor_3 : decode cX9_reasonFor 3 = .ok (.invokevirtual 217, 3) := by decide +kernel
theorem dX9_reasonFor_6 : decode cX9_reasonFor 6 = .ok (.ifCond .eq 14, 3) := by decide +kernel
theorem dX9_reasonFor_9 : decode cX9_reasonFor 9 = .ok (.iload_n 2, 1) := by decide +kernel
theorem dX9_reasonFor_10 : decode cX9_reasonFor 10 = .ok (.invokestatic 220, 3) := by decide +kernel
theorem dX9_reasonFor_13 : decode cX9_reasonFor 13 = .ok (.ifCond .eq 7, 3) := by decide +kernel
theorem dX9_reasonFor_16 : decode cX9_reasonFor 16 = .ok (.iconst 1, 1) := by decide +kernel
theorem dX9_reasonFor_17 : decode cX9_reasonFor 17 = .ok (.goto 4, 3) := by decide +kernel
theorem dX9_reasonFor_20 : decode cX9_reasonFor 20 = .ok (.iconst 0, 1) := by decide +kernel
theorem dX9_reasonFor_21 : decode cX9_reasonFor 21 = .ok (.invokevirtual 210, 3) := by decide +kernel
theorem dX9_reasonFor_24 : decode cX9_reasonFor 24 = .ok (.ifCond .eq 12, 3) := by decide +kernel
theorem dX9_reasonFor_27 : decode cX9_reasonFor 27 = .ok (.aload_n 0, 1) := by decide +kernel
theorem dX9_reasonFor_28 : decode cX9_reasonFor 28 = .ok (.iload_n 1, 1) := by decide +kernel
theorem dX9_reasonFor_29 : decode cX9_reasonFor 29 = .ok (.iload_n 2, 1) := by decide +kernel
theorem dX9_reasonFor_30 : decode cX9_reasonFor 30 = .ok (.invokevirtual 176, 3) := by decide +kernel
theorem dX9_reasonFor_33 : decode cX9_reasonFor 33 = .ok (.goto 4, 3) := by decide +kernel
theorem dX9_reasonFor_36 : decode cX9_reasonFor 36 = .ok (.iconst 0, 1) := by decide +kernel
theorem dX9_reasonFor_37 : decode cX9_reasonFor 37 = .ok (.ireturn, 1) := by decide +kernel
theorem dX9_daysFor_0 : decode cX9_daysFor 0 = .ok (.aload_n 0, 1) := by decide +kernel
theorem dX9_daysFor_1 : decode cX9_daysFor 1 = .ok (.aload_n 0, 1) := by decide +kernel
theorem dX9_daysFor_2 : decode cX9_daysFor 2 = .ok (.iload_n 1, 1) := by decide +kernel
theorem dX9_daysFor_3 : decode cX9_daysFor 3 = .ok (.invokevirtual 217, 3) := by decide +kernel
theorem dX9_daysFor_6 : decode cX9_daysFor 6 = .ok (.invokevirtual 210, 3) := by decide +kernel
theorem dX9_daysFor_9 : decode cX9_daysFor 9 = .ok (.ifCond .ne 5, 3) := by decide +kernel
theorem dX9_daysFor_12 : decode cX9_daysFor 12 = .ok (.iconst 0, 1) := by decide +kernel
theorem dX9_daysFor_13 : decode cX9_daysFor 13 = .ok (.ireturn, 1) := by decide +kernel
theorem dX9_daysFor_14 : decode cX9_daysFor 14 = .ok (.iconst 0, 1) := by decide +kernel
theorem dX9_daysFor_15 : decode cX9_daysFor 15 = .ok (.istore_n 2, 1) := by decide +kernel
theorem dX9_daysFor_16 : decode cX9_daysFor 16 = .ok (.iconst 0, 1) := by decide +kernel
theorem dX9_daysFor_17 : decode cX9_daysFor 17 = .ok (.istore_n 3, 1) := by decide +kernel
theorem dX9_daysFor_18 : decode cX9_daysFor 18 = .ok (.iload_n 3, 1) := by decide +kernel
theorem dX9_daysFor_19 : decode cX9_daysFor 19 = .ok (.bipush 12, 2) := by decide +kernel
theorem dX9_daysFor_21 : decode cX9_daysFor 21 = .ok (.if_icmp .ge 28, 3) := by decide +kernel
theorem dX9_daysFor_24 : decode cX9_daysFor 24 = .ok (.iload_n 2, 1) := by decide +kernel
theorem dX9_daysFor_25 : decode cX9_daysFor 25 = .ok (.aload_n 0, 1) := by decide +kernel
theorem dX9_daysFor_26 : decode cX9_daysFor 26 = .ok (.iload_n 1, 1) := by decide +kernel
theorem dX9_daysFor_27 : decode cX9_daysFor 27 = .ok (.iload_n 3, 1) := by decide +kernel
theorem dX9_daysFor_28 : decode cX9_daysFor 28 = .ok (.invokevirtual 176, 3) := by decide +kernel
theorem dX9_daysFor_31 : decode cX9_daysFor 31 = .ok (.ifCond .ne 9, 3) := by decide +kernel
theorem dX9_daysFor_34 : decode cX9_daysFor 34 = .ok (.iconst 1, 1) := by decide +kernel
theorem dX9_daysFor_35 : decode cX9_daysFor 35 = .ok (.iload_n 3, 1) := by decide +kernel
theorem dX9_daysFor_36 : decode cX9_daysFor 36 = .ok (.ishl, 1) := by decide +kernel
theorem dX9_daysFor_37 : decode cX9_daysFor 37 = .ok (.goto 4, 3) := by decide +kernel
theorem dX9_daysFor_40 : decode cX9_daysFor 40 = .ok (.iconst 0, 1) := by decide +kernel
theorem dX9_daysFor_41 : decode cX9_daysFor 41 = .ok (.ior, 1) := by decide +kernel
theorem dX9_daysFor_42 : decode cX9_daysFor 42 = .ok (.istore_n 2, 1) := by decide +kernel
theorem dX9_daysFor_43 : decode cX9_daysFor 43 = .ok (.iinc 3 1, 3) := by decide +kernel
theorem dX9_daysFor_46 : decode cX9_daysFor 46 = .ok (.goto (-28), 3) := by decide +kernel
theorem dX9_daysFor_49 : decode cX9_daysFor 49 = .ok (.iload_n 2, 1) := by decide +kernel
theorem dX9_daysFor_50 : decode cX9_daysFor 50 = .ok (.ireturn, 1) := by decide +kernel
theorem dX9_costIf_0 : decode cX9_costIf 0 = .ok (.aload_n 0, 1) := by decide +kernel
theorem dX9_costIf_1 : decode cX9_costIf 1 = .ok (.iload_n 1, 1) := by decide +kernel
theorem dX9_costIf_2 : decode cX9_costIf 2 = .ok (.iload_n 2, 1) := by decide +kernel
theorem dX9_costIf_3 : decode cX9_costIf 3 = .ok (.invokevirtual 176, 3) := by decide +kernel
theorem dX9_costIf_6 : decode cX9_costIf 6 = .ok (.ifCond .eq 6, 3) := by decide +kernel
theorem dX9_costIf_9 : decode cX9_costIf 9 = .ok (.bipush (-5), 2) := by decide +kernel
theorem dX9_costIf_11 : decode cX9_costIf 11 = .ok (.ireturn, 1) := by decide +kernel
theorem dX9_costIf_12 : decode cX9_costIf 12 = .ok (.aload_n 0, 1) := by decide +kernel
theorem dX9_costIf_13 : decode cX9_costIf 13 = .ok (.getfield 19, 3) := by decide +kernel
theorem dX9_costIf_16 : decode cX9_costIf 16 = .ok (.iconst 4, 1) := by decide +kernel
theorem dX9_costIf_17 : decode cX9_costIf 17 = .ok (.iload_n 1, 1) := by decide +kernel
theorem dX9_costIf_18 : decode cX9_costIf 18 = .ok (.iadd, 1) := by decide +kernel
theorem dX9_costIf_19 : decode cX9_costIf 19 = .ok (.iaload, 1) := by decide +kernel
theorem dX9_costIf_20 : decode cX9_costIf 20 = .ok (.istore_n 3, 1) := by decide +kernel
theorem dX9_costIf_21 : decode cX9_costIf 21 = .ok (.aload_n 0, 1) := by decide +kernel
theorem dX9_costIf_22 : decode cX9_costIf 22 = .ok (.getfield 19, 3) := by decide +kernel
theorem dX9_costIf_25 : decode cX9_costIf 25 = .ok (.iconst 4, 1) := by decide +kernel
theorem dX9_costIf_26 : decode cX9_costIf 26 = .ok (.iload_n 1, 1) := by decide +kernel
theorem dX9_costIf_27 : decode cX9_costIf 27 = .ok (.iadd, 1) := by decide +kernel
theorem dX9_costIf_28 : decode cX9_costIf 28 = .ok (.iload_n 2, 1) := by decide +kernel
theorem dX9_costIf_29 : decode cX9_costIf 29 = .ok (.iastore, 1) := by decide +kernel
theorem dX9_costIf_30 : decode cX9_costIf 30 = .ok (.aload_n 0, 1) := by decide +kernel
theorem dX9_costIf_31 : decode cX9_costIf 31 = .ok (.invokevirtual 269, 3) := by decide +kernel
theorem dX9_costIf_34 : decode cX9_costIf 34 = .ok (.istore 4, 2) := by decide +kernel
theorem dX9_costIf_36 : decode cX9_costIf 36 = .ok (.aload_n 0, 1) := by decide +kernel
theorem dX9_costIf_37 : decode cX9_costIf 37 = .ok (.getfield 19, 3) := by decide +kernel
theorem dX9_costIf_40 : decode cX9_costIf 40 = .ok (.iconst 4, 1) := by decide +kernel
theorem dX9_costIf_41 : decode cX9_costIf 41 = .ok (.iload_n 1, 1) := by decide +kernel
theorem dX9_costIf_42 : decode cX9_costIf 42 = .ok (.iadd, 1) := by decide +kernel
theorem dX9_costIf_43 : decode cX9_costIf 43 = .ok (.iload_n 3, 1) := by decide +kernel
theorem dX9_costIf_44 : decode cX9_costIf 44 = .ok (.iastore, 1) := by decide +kernel
theorem dX9_costIf_45 : decode cX9_costIf 45 = .ok (.iload 4, 2) := by decide +kernel
theorem dX9_costIf_47 : decode cX9_costIf 47 = .ok (.ireturn, 1) := by decide +kernel
theorem dX9_costWith_0 : decode cX9_costWith 0 = .ok (.aload_n 0, 1) := by decide +kernel
theorem dX9_costWith_1 : decode cX9_costWith 1 = .ok (.aload_n 0, 1) := by decide +kernel
theorem dX9_costWith_2 : decode cX9_costWith 2 = .ok (.iload_n 1, 1) := by decide +kernel
theorem dX9_costWith_3 : decode cX9_costWith 3 = .ok (.invokevirtual 217, 3) := by decide +kernel
theorem dX9_costWith_6 : decode cX9_costWith 6 = .ok (.ifCond .eq 14, 3) := by decide +kernel
theorem dX9_costWith_9 : decode cX9_costWith 9 = .ok (.iload_n 2, 1) := by decide +kernel
theorem dX9_costWith_10 : decode cX9_costWith 10 = .ok (.invokestatic 220, 3) := by decide +kernel
theorem dX9_costWith_13 : decode cX9_costWith 13 = .ok (.ifCond .eq 7, 3) := by decide +kernel
theorem dX9_costWith_16 : decode cX9_costWith 16 = .ok (.iconst 1, 1) := by decide +kernel
theorem dX9_costWith_17 : decode cX9_costWith 17 = .ok (.goto 4, 3) := by decide +kernel
theorem dX9_costWith_20 : decode cX9_costWith 20 = .ok (.iconst 0, 1) := by decide +kernel
theorem dX9_costWith_21 : decode cX9_costWith 21 = .ok (.invokevirtual 210, 3) := by decide +kernel
theorem dX9_costWith_24 : decode cX9_costWith 24 = .ok (.ifCond .eq 12, 3) := by decide +kernel
theorem dX9_costWith_27 : decode cX9_costWith 27 = .ok (.aload_n 0, 1) := by decide +kernel
theorem dX9_costWith_28 : decode cX9_costWith 28 = .ok (.iload_n 1, 1) := by decide +kernel
theorem dX9_costWith_29 : decode cX9_costWith 29 = .ok (.iload_n 2, 1) := by decide +kernel
theorem dX9_costWith_30 : decode cX9_costWith 30 = .ok (.invokevirtual 272, 3) := by decide +kernel
theorem dX9_costWith_33 : decode cX9_costWith 33 = .ok (.goto 4, 3) := by decide +kernel
theorem dX9_costWith_36 : decode cX9_costWith 36 = .ok (.iconst 0, 1) := by decide +kernel
theorem dX9_costWith_37 : decode cX9_costWith 37 = .ok (.ireturn, 1) := by decide +kernel
theorem dX9_bestDay_0 : decode cX9_bestDay 0 = .ok (.aload_n 0, 1) := by decide +kernel
theorem dX9_bestDay_1 : decode cX9_bestDay 1 = .ok (.aload_n 0, 1) := by decide +kernel
theorem dX9_bestDay_2 : decode cX9_bestDay 2 = .ok (.iload_n 1, 1) := by decide +kernel
theorem dX9_bestDay_3 : decode cX9_bestDay 3 = .ok (.invokevirtual 217, 3) := by decide +kernel
theorem dX9_bestDay_6 : decode cX9_bestDay 6 = .ok (.invokevirtual 210, 3) := by decide +kernel
theorem dX9_bestDay_9 : decode cX9_bestDay 9 = .ok (.ifCond .ne 5, 3) := by decide +kernel
theorem dX9_bestDay_12 : decode cX9_bestDay 12 = .ok (.iconst 0, 1) := by decide +kernel
theorem dX9_bestDay_13 : decode cX9_bestDay 13 = .ok (.ireturn, 1) := by decide +kernel
theorem dX9_bestDay_14 : decode cX9_bestDay 14 = .ok (.iconst (-1), 1) := by decide +kernel
theorem dX9_bestDay_15 : decode cX9_bestDay 15 = .ok (.istore_n 2, 1) := by decide +kernel
theorem dX9_bestDay_16 : decode cX9_bestDay 16 = .ok (.iconst 0, 1) := by decide +kernel
theorem dX9_bestDay_17 : decode cX9_bestDay 17 = .ok (.istore_n 3, 1) := by decide +kernel
theorem dX9_bestDay_18 : decode cX9_bestDay 18 = .ok (.iconst 0, 1) := by decide +kernel
theorem dX9_bestDay_19 : decode cX9_bestDay 19 = .ok (.istore 4, 2) := by decide +kernel
theorem dX9_bestDay_21 : decode cX9_bestDay 21 = .ok (.iload 4, 2) := by decide +kernel
theorem dX9_bestDay_23 : decode cX9_bestDay 23 = .ok (.bipush 12, 2) := by decide +kernel
theorem dX9_bestDay_25 : decode cX9_bestDay 25 = .ok (.if_icmp .ge 45, 3) := by decide +kernel
theorem dX9_bestDay_28 : decode cX9_bestDay 28 = .ok (.aload_n 0, 1) := by decide +kernel
theorem dX9_bestDay_29 : decode cX9_bestDay 29 = .ok (.iload_n 1, 1) := by decide +kernel
theorem dX9_bestDay_30 : decode cX9_bestDay 30 = .ok (.iload 4, 2) := by decide +kernel
theorem dX9_bestDay_32 : decode cX9_bestDay 32 = .ok (.invokevirtual 272, 3) := by decide +kernel
theorem dX9_bestDay_35 : decode cX9_bestDay 35 = .ok (.istore 5, 2) := by decide +kernel
theorem dX9_bestDay_37 : decode cX9_bestDay 37 = .ok (.iload 5, 2) := by decide +kernel
theorem dX9_bestDay_39 : decode cX9_bestDay 39 = .ok (.bipush (-5), 2) := by decide +kernel
theorem dX9_bestDay_41 : decode cX9_bestDay 41 = .ok (.if_icmp .eq 23, 3) := by decide +kernel
theorem dX9_bestDay_44 : decode cX9_bestDay 44 = .ok (.iload_n 2, 1) := by decide +kernel
theorem dX9_bestDay_45 : decode cX9_bestDay 45 = .ok (.iconst (-1), 1) := by decide +kernel
theorem dX9_bestDay_46 : decode cX9_bestDay 46 = .ok (.if_icmp .eq 12, 3) := by decide +kernel
theorem dX9_bestDay_49 : decode cX9_bestDay 49 = .ok (.iload 5, 2) := by decide +kernel
theorem dX9_bestDay_51 : decode cX9_bestDay 51 = .ok (.iload_n 3, 1) := by decide +kernel
theorem dX9_bestDay_52 : decode cX9_bestDay 52 = .ok (.if_icmp .lt 6, 3) := by decide +kernel
theorem dX9_bestDay_55 : decode cX9_bestDay 55 = .ok (.goto 9, 3) := by decide +kernel
theorem dX9_bestDay_58 : decode cX9_bestDay 58 = .ok (.iload 4, 2) := by decide +kernel
theorem dX9_bestDay_60 : decode cX9_bestDay 60 = .ok (.istore_n 2, 1) := by decide +kernel
theorem dX9_bestDay_61 : decode cX9_bestDay 61 = .ok (.iload 5, 2) := by decide +kernel
theorem dX9_bestDay_63 : decode cX9_bestDay 63 = .ok (.istore_n 3, 1) := by decide +kernel
theorem dX9_bestDay_64 : decode cX9_bestDay 64 = .ok (.iinc 4 1, 3) := by decide +kernel
theorem dX9_bestDay_67 : decode cX9_bestDay 67 = .ok (.goto (-46), 3) := by decide +kernel
theorem dX9_bestDay_70 : decode cX9_bestDay 70 = .ok (.iload_n 2, 1) := by decide +kernel
theorem dX9_bestDay_71 : decode cX9_bestDay 71 = .ok (.ireturn, 1) := by decide +kernel
theorem dX9_fewestDays_0 : decode cX9_fewestDays 0 = .ok (.aload_n 0, 1) := by decide +kernel
theorem dX9_fewestDays_1 : decode cX9_fewestDays 1 = .ok (.iconst 0, 1) := by decide +kernel
theorem dX9_fewestDays_2 : decode cX9_fewestDays 2 = .ok (.putfield 53, 3) := by decide +kernel
theorem dX9_fewestDays_5 : decode cX9_fewestDays 5 = .ok (.iconst 0, 1) := by decide +kernel
theorem dX9_fewestDays_6 : decode cX9_fewestDays 6 = .ok (.istore_n 1, 1) := by decide +kernel
theorem dX9_fewestDays_7 : decode cX9_fewestDays 7 = .ok (.iconst 0, 1) := by decide +kernel
theorem dX9_fewestDays_8 : decode cX9_fewestDays 8 = .ok (.istore_n 2, 1) := by decide +kernel
theorem dX9_fewestDays_9 : decode cX9_fewestDays 9 = .ok (.iload_n 2, 1) := by decide +kernel
theorem dX9_fewestDays_10 : decode cX9_fewestDays 10 = .ok (.aload_n 0, 1) := by decide +kernel
theorem dX9_fewestDays_11 : decode cX9_fewestDays 11 = .ok (.getfield 13, 3) := by decide +kernel
theorem dX9_fewestDays_14 : decode cX9_fewestDays 14 = .ok (.bipush 80, 2) := by decide +kernel
theorem dX9_fewestDays_16 : decode cX9_fewestDays 16 = .ok (.iaload, 1) := by decide +kernel
theorem dX9_fewestDays_17 : decode cX9_fewestDays 17 = .ok (.if_icmp .ge 114, 3) := by decide +kernel
theorem dX9_fewestDays_20 : decode cX9_fewestDays 20 = .ok (.iconst 0, 1) := by decide +kernel
theorem dX9_fewestDays_21 : decode cX9_fewestDays 21 = .ok (.istore_n 3, 1) := by decide +kernel
theorem dX9_fewestDays_22 : decode cX9_fewestDays 22 = .ok (.iload_n 3, 1) := by decide +kernel
theorem dX9_fewestDays_23 : decode cX9_fewestDays 23 = .ok (.iconst 2, 1) := by decide +kernel
theorem dX9_fewestDays_24 : decode cX9_fewestDays 24 = .ok (.if_icmp .ge 101, 3) := by decide +kernel
theorem dX9_fewestDays_27 : decode cX9_fewestDays 27 = .ok (.iconst 0, 1) := by decide +kernel
theorem dX9_fewestDays_28 : decode cX9_fewestDays 28 = .ok (.istore 4, 2) := by decide +kernel
theorem dX9_fewestDays_30 : decode cX9_fewestDays 30 = .ok (.iconst 0, 1) := by decide +kernel
theorem dX9_fewestDays_31 : decode cX9_fewestDays 31 = .ok (.istore 5, 2) := by decide +kernel
theorem dX9_fewestDays_33 : decode cX9_fewestDays 33 = .ok (.iload 5, 2) := by decide +kernel
theorem dX9_fewestDays_35 : decode cX9_fewestDays 35 = .ok (.aload_n 0, 1) := by decide +kernel
theorem dX9_fewestDays_36 : decode cX9_fewestDays 36 = .ok (.getfield 13, 3) := by decide +kernel
theorem dX9_fewestDays_39 : decode cX9_fewestDays 39 = .ok (.bipush 82, 2) := by decide +kernel
theorem dX9_fewestDays_41 : decode cX9_fewestDays 41 = .ok (.iaload, 1) := by decide +kernel
theorem dX9_fewestDays_42 : decode cX9_fewestDays 42 = .ok (.if_icmp .ge 56, 3) := by decide +kernel
theorem dX9_fewestDays_45 : decode cX9_fewestDays 45 = .ok (.iload 4, 2) := by decide +kernel
theorem dX9_fewestDays_47 : decode cX9_fewestDays 47 = .ok (.aload_n 0, 1) := by decide +kernel
theorem dX9_fewestDays_48 : decode cX9_fewestDays 48 = .ok (.getfield 13, 3) := by decide +kernel
theorem dX9_fewestDays_51 : decode cX9_fewestDays 51 = .ok (.bipush 24, 2) := by decide +kernel
theorem dX9_fewestDays_53 : decode cX9_fewestDays 53 = .ok (.iload 5, 2) := by decide +kernel
theorem dX9_fewestDays_55 : decode cX9_fewestDays 55 = .ok (.iadd, 1) := by decide +kernel
theorem dX9_fewestDays_56 : decode cX9_fewestDays 56 = .ok (.iaload, 1) := by decide +kernel
theorem dX9_fewestDays_57 : decode cX9_fewestDays 57 = .ok (.iload_n 2, 1) := by decide +kernel
theorem dX9_fewestDays_58 : decode cX9_fewestDays 58 = .ok (.if_icmp .ne 30, 3) := by decide +kernel
theorem dX9_fewestDays_61 : decode cX9_fewestDays 61 = .ok (.aload_n 0, 1) := by decide +kernel
theorem dX9_fewestDays_62 : decode cX9_fewestDays 62 = .ok (.getfield 13, 3) := by decide +kernel
theorem dX9_fewestDays_65 : decode cX9_fewestDays 65 = .ok (.bipush 52, 2) := by decide +kernel
theorem dX9_fewestDays_67 : decode cX9_fewestDays 67 = .ok (.iload 5, 2) := by decide +kernel
theorem dX9_fewestDays_69 : decode cX9_fewestDays 69 = .ok (.iadd, 1) := by decide +kernel
theorem dX9_fewestDays_70 : decode cX9_fewestDays 70 = .ok (.iaload, 1) := by decide +kernel
theorem dX9_fewestDays_71 : decode cX9_fewestDays 71 = .ok (.iload_n 3, 1) := by decide +kernel
theorem dX9_fewestDays_72 : decode cX9_fewestDays 72 = .ok (.if_icmp .ne 16, 3) := by decide +kernel
theorem dX9_fewestDays_75 : decode cX9_fewestDays 75 = .ok (.aload_n 0, 1) := by decide +kernel
theorem dX9_fewestDays_76 : decode cX9_fewestDays 76 = .ok (.getfield 13, 3) := by decide +kernel
theorem dX9_fewestDays_79 : decode cX9_fewestDays 79 = .ok (.bipush 38, 2) := by decide +kernel
theorem dX9_fewestDays_81 : decode cX9_fewestDays 81 = .ok (.iload 5, 2) := by decide +kernel
theorem dX9_fewestDays_83 : decode cX9_fewestDays 83 = .ok (.iadd, 1) := by decide +kernel
theorem dX9_fewestDays_84 : decode cX9_fewestDays 84 = .ok (.iaload, 1) := by decide +kernel
theorem dX9_fewestDays_85 : decode cX9_fewestDays 85 = .ok (.goto 4, 3) := by decide +kernel
theorem dX9_fewestDays_88 : decode cX9_fewestDays 88 = .ok (.iconst 0, 1) := by decide +kernel
theorem dX9_fewestDays_89 : decode cX9_fewestDays 89 = .ok (.iadd, 1) := by decide +kernel
theorem dX9_fewestDays_90 : decode cX9_fewestDays 90 = .ok (.istore 4, 2) := by decide +kernel
theorem dX9_fewestDays_92 : decode cX9_fewestDays 92 = .ok (.iinc 5 1, 3) := by decide +kernel
theorem dX9_fewestDays_95 : decode cX9_fewestDays 95 = .ok (.goto (-62), 3) := by decide +kernel
theorem dX9_fewestDays_98 : decode cX9_fewestDays 98 = .ok (.iload_n 1, 1) := by decide +kernel
theorem dX9_fewestDays_99 : decode cX9_fewestDays 99 = .ok (.iload 4, 2) := by decide +kernel
theorem dX9_fewestDays_101 : decode cX9_fewestDays 101 = .ok (.aload_n 0, 1) := by decide +kernel
theorem dX9_fewestDays_102 : decode cX9_fewestDays 102 = .ok (.getfield 19, 3) := by decide +kernel
theorem dX9_fewestDays_105 : decode cX9_fewestDays 105 = .ok (.iconst 0, 1) := by decide +kernel
theorem dX9_fewestDays_106 : decode cX9_fewestDays 106 = .ok (.iaload, 1) := by decide +kernel
theorem dX9_fewestDays_107 : decode cX9_fewestDays 107 = .ok (.iadd, 1) := by decide +kernel
theorem dX9_fewestDays_108 : decode cX9_fewestDays 108 = .ok (.iconst 1, 1) := by decide +kernel
theorem dX9_fewestDays_109 : decode cX9_fewestDays 109 = .ok (.isub, 1) := by decide +kernel
theorem dX9_fewestDays_110 : decode cX9_fewestDays 110 = .ok (.aload_n 0, 1) := by decide +kernel
theorem dX9_fewestDays_111 : decode cX9_fewestDays 111 = .ok (.getfield 19, 3) := by decide +kernel
theorem dX9_fewestDays_114 : decode cX9_fewestDays 114 = .ok (.iconst 0, 1) := by decide +kernel
theorem dX9_fewestDays_115 : decode cX9_fewestDays 115 = .ok (.iaload, 1) := by decide +kernel
theorem dX9_fewestDays_116 : decode cX9_fewestDays 116 = .ok (.idiv, 1) := by decide +kernel
theorem dX9_fewestDays_117 : decode cX9_fewestDays 117 = .ok (.iadd, 1) := by decide +kernel
theorem dX9_fewestDays_118 : decode cX9_fewestDays 118 = .ok (.istore_n 1, 1) := by decide +kernel
theorem dX9_fewestDays_119 : decode cX9_fewestDays 119 = .ok (.iinc 3 1, 3) := by decide +kernel
theorem dX9_fewestDays_122 : decode cX9_fewestDays 122 = .ok (.goto (-100), 3) := by decide +kernel
theorem dX9_fewestDays_125 : decode cX9_fewestDays 125 = .ok (.iinc 2 1, 3) := by decide +kernel
theorem dX9_fewestDays_128 : decode cX9_fewestDays 128 = .ok (.goto (-119), 3) := by decide +kernel
theorem dX9_fewestDays_131 : decode cX9_fewestDays 131 = .ok (.iload_n 1, 1) := by decide +kernel
theorem dX9_fewestDays_132 : decode cX9_fewestDays 132 = .ok (.ireturn, 1) := by decide +kernel
theorem dX9_waitingFor_0 : decode cX9_waitingFor 0 = .ok (.aload_n 0, 1) := by decide +kernel
theorem dX9_waitingFor_1 : decode cX9_waitingFor 1 = .ok (.iload_n 1, 1) := by decide +kernel
theorem dX9_waitingFor_2 : decode cX9_waitingFor 2 = .ok (.ifCond .lt 18, 3) := by decide +kernel
theorem dX9_waitingFor_5 : decode cX9_waitingFor 5 = .ok (.iload_n 1, 1) := by decide +kernel
theorem dX9_waitingFor_6 : decode cX9_waitingFor 6 = .ok (.aload_n 0, 1) := by decide +kernel
theorem dX9_waitingFor_7 : decode cX9_waitingFor 7 = .ok (.getfield 13, 3) := by decide +kernel
theorem dX9_waitingFor_10 : decode cX9_waitingFor 10 = .ok (.bipush 80, 2) := by decide +kernel
theorem dX9_waitingFor_12 : decode cX9_waitingFor 12 = .ok (.iaload, 1) := by decide +kernel
theorem dX9_waitingFor_13 : decode cX9_waitingFor 13 = .ok (.if_icmp .ge 7, 3) := by decide +kernel
theorem dX9_waitingFor_16 : decode cX9_waitingFor 16 = .ok (.iconst 1, 1) := by decide +kernel
theorem dX9_waitingFor_17 : decode cX9_waitingFor 17 = .ok (.goto 4, 3) := by decide +kernel
theorem dX9_waitingFor_20 : decode cX9_waitingFor 20 = .ok (.iconst 0, 1) := by decide +kernel
theorem dX9_waitingFor_21 : decode cX9_waitingFor 21 = .ok (.invokevirtual 210, 3) := by decide +kernel
theorem dX9_waitingFor_24 : decode cX9_waitingFor 24 = .ok (.ifCond .ne 5, 3) := by decide +kernel
theorem dX9_waitingFor_27 : decode cX9_waitingFor 27 = .ok (.iconst 0, 1) := by decide +kernel
theorem dX9_waitingFor_28 : decode cX9_waitingFor 28 = .ok (.ireturn, 1) := by decide +kernel
theorem dX9_waitingFor_29 : decode cX9_waitingFor 29 = .ok (.iconst 0, 1) := by decide +kernel
theorem dX9_waitingFor_30 : decode cX9_waitingFor 30 = .ok (.istore_n 3, 1) := by decide +kernel
theorem dX9_waitingFor_31 : decode cX9_waitingFor 31 = .ok (.iconst 0, 1) := by decide +kernel
theorem dX9_waitingFor_32 : decode cX9_waitingFor 32 = .ok (.istore 4, 2) := by decide +kernel
theorem dX9_waitingFor_34 : decode cX9_waitingFor 34 = .ok (.iload 4, 2) := by decide +kernel
theorem dX9_waitingFor_36 : decode cX9_waitingFor 36 = .ok (.aload_n 0, 1) := by decide +kernel
theorem dX9_waitingFor_37 : decode cX9_waitingFor 37 = .ok (.getfield 13, 3) := by decide +kernel
theorem dX9_waitingFor_40 : decode cX9_waitingFor 40 = .ok (.bipush 82, 2) := by decide +kernel
theorem dX9_waitingFor_42 : decode cX9_waitingFor 42 = .ok (.iaload, 1) := by decide +kernel
theorem dX9_waitingFor_43 : decode cX9_waitingFor 43 = .ok (.if_icmp .ge 78, 3) := by decide +kernel
theorem dX9_waitingFor_46 : decode cX9_waitingFor 46 = .ok (.aload_n 0, 1) := by decide +kernel
theorem dX9_waitingFor_47 : decode cX9_waitingFor 47 = .ok (.getfield 13, 3) := by decide +kernel
theorem dX9_waitingFor_50 : decode cX9_waitingFor 50 = .ok (.bipush 24, 2) := by decide +kernel
theorem dX9_waitingFor_52 : decode cX9_waitingFor 52 = .ok (.iload 4, 2) := by decide +kernel
theorem dX9_waitingFor_54 : decode cX9_waitingFor 54 = .ok (.iadd, 1) := by decide +kernel
theorem dX9_waitingFor_55 : decode cX9_waitingFor 55 = .ok (.iaload, 1) := by decide +kernel
theorem dX9_waitingFor_56 : decode cX9_waitingFor 56 = .ok (.iload_n 1, 1) := by decide +kernel
theorem dX9_waitingFor_57 : decode cX9_waitingFor 57 = .ok (.if_icmp .ne 29, 3) := by decide +kernel
theorem dX9_waitingFor_60 : decode cX9_waitingFor 60 = .ok (.aload_n 0, 1) := by decide +kernel
theorem dX9_waitingFor_61 : decode cX9_waitingFor 61 = .ok (.getfield 13, 3) := by decide +kernel
theorem dX9_waitingFor_64 : decode cX9_waitingFor 64 = .ok (.bipush 52, 2) := by decide +kernel
theorem dX9_waitingFor_66 : decode cX9_waitingFor 66 = .ok (.iload 4, 2) := by decide +kernel
theorem dX9_waitingFor_68 : decode cX9_waitingFor 68 = .ok (.iadd, 1) := by decide +kernel
theorem dX9_waitingFor_69 : decode cX9_waitingFor 69 = .ok (.iaload, 1) := by decide +kernel
theorem dX9_waitingFor_70 : decode cX9_waitingFor 70 = .ok (.iload_n 2, 1) := by decide +kernel
theorem dX9_waitingFor_71 : decode cX9_waitingFor 71 = .ok (.ifCond .eq 7, 3) := by decide +kernel
theorem dX9_waitingFor_74 : decode cX9_waitingFor 74 = .ok (.iconst 1, 1) := by decide +kernel
theorem dX9_waitingFor_75 : decode cX9_waitingFor 75 = .ok (.goto 4, 3) := by decide +kernel
theorem dX9_waitingFor_78 : decode cX9_waitingFor 78 = .ok (.iconst 0, 1) := by decide +kernel
theorem dX9_waitingFor_79 : decode cX9_waitingFor 79 = .ok (.if_icmp .ne 7, 3) := by decide +kernel
theorem dX9_waitingFor_82 : decode cX9_waitingFor 82 = .ok (.iconst 1, 1) := by decide +kernel
theorem dX9_waitingFor_83 : decode cX9_waitingFor 83 = .ok (.goto 4, 3) := by decide +kernel
theorem dX9_waitingFor_86 : decode cX9_waitingFor 86 = .ok (.iconst 0, 1) := by decide +kernel
theorem dX9_waitingFor_87 : decode cX9_waitingFor 87 = .ok (.istore 5, 2) := by decide +kernel
theorem dX9_waitingFor_89 : decode cX9_waitingFor 89 = .ok (.iload_n 3, 1) := by decide +kernel
theorem dX9_waitingFor_90 : decode cX9_waitingFor 90 = .ok (.iload 5, 2) := by decide +kernel
theorem dX9_waitingFor_92 : decode cX9_waitingFor 92 = .ok (.ifCond .eq 20, 3) := by decide +kernel
theorem dX9_waitingFor_95 : decode cX9_waitingFor 95 = .ok (.aload_n 0, 1) := by decide +kernel
theorem dX9_waitingFor_96 : decode cX9_waitingFor 96 = .ok (.getfield 19, 3) := by decide +kernel
theorem dX9_waitingFor_99 : decode cX9_waitingFor 99 = .ok (.iconst 4, 1) := by decide +kernel
theorem dX9_waitingFor_100 : decode cX9_waitingFor 100 = .ok (.iload 4, 2) := by decide +kernel
theorem dX9_waitingFor_102 : decode cX9_waitingFor 102 = .ok (.iadd, 1) := by decide +kernel
theorem dX9_waitingFor_103 : decode cX9_waitingFor 103 = .ok (.iaload, 1) := by decide +kernel
theorem dX9_waitingFor_104 : decode cX9_waitingFor 104 = .ok (.iconst (-1), 1) := by decide +kernel
theorem dX9_waitingFor_105 : decode cX9_waitingFor 105 = .ok (.if_icmp .ne 7, 3) := by decide +kernel
theorem dX9_waitingFor_108 : decode cX9_waitingFor 108 = .ok (.iconst 1, 1) := by decide +kernel
theorem dX9_waitingFor_109 : decode cX9_waitingFor 109 = .ok (.goto 4, 3) := by decide +kernel
theorem dX9_waitingFor_112 : decode cX9_waitingFor 112 = .ok (.iconst 0, 1) := by decide +kernel
theorem dX9_waitingFor_113 : decode cX9_waitingFor 113 = .ok (.iadd, 1) := by decide +kernel
theorem dX9_waitingFor_114 : decode cX9_waitingFor 114 = .ok (.istore_n 3, 1) := by decide +kernel
theorem dX9_waitingFor_115 : decode cX9_waitingFor 115 = .ok (.iinc 4 1, 3) := by decide +kernel
theorem dX9_waitingFor_118 : decode cX9_waitingFor 118 = .ok (.goto (-84), 3) := by decide +kernel
theorem dX9_waitingFor_121 : decode cX9_waitingFor 121 = .ok (.iload_n 3, 1) := by decide +kernel
theorem dX9_waitingFor_122 : decode cX9_waitingFor 122 = .ok (.ireturn, 1) := by decide +kernel
theorem dX9_isFree_0 : decode cX9_isFree 0 = .ok (.aload_n 0, 1) := by decide +kernel
theorem dX9_isFree_1 : decode cX9_isFree 1 = .ok (.getfield 35, 3) := by decide +kernel
theorem dX9_isFree_4 : decode cX9_isFree 4 = .ok (.iload_n 1, 1) := by decide +kernel
theorem dX9_isFree_5 : decode cX9_isFree 5 = .ok (.iaload, 1) := by decide +kernel
theorem dX9_isFree_6 : decode cX9_isFree 6 = .ok (.ifCond .ne 16, 3) := by decide +kernel
theorem dX9_isFree_9 : decode cX9_isFree 9 = .ok (.aload_n 0, 1) := by decide +kernel
theorem dX9_isFree_10 : decode cX9_isFree 10 = .ok (.iload_n 1, 1) := by decide +kernel
theorem dX9_isFree_11 : decode cX9_isFree 11 = .ok (.invokevirtual 63, 3) := by decide +kernel
theorem dX9_isFree_14 : decode cX9_isFree 14 = .ok (.iconst (-1), 1) := by decide +kernel
theorem dX9_isFree_15 : decode cX9_isFree 15 = .ok (.if_icmp .ne 7, 3) := by decide +kernel
theorem dX9_isFree_18 : decode cX9_isFree 18 = .ok (.iconst 1, 1) := by decide +kernel
theorem dX9_isFree_19 : decode cX9_isFree 19 = .ok (.goto 4, 3) := by decide +kernel
theorem dX9_isFree_22 : decode cX9_isFree 22 = .ok (.iconst 0, 1) := by decide +kernel
theorem dX9_isFree_23 : decode cX9_isFree 23 = .ok (.ireturn, 1) := by decide +kernel
theorem dX9_canWork_0 : decode cX9_canWork 0 = .ok (.aload_n 0, 1) := by decide +kernel
theorem dX9_canWork_1 : decode cX9_canWork 1 = .ok (.getfield 275, 3) := by decide +kernel
theorem dX9_canWork_4 : decode cX9_canWork 4 = .ok (.ifCond .ne 7, 3) := by decide +kernel
theorem dX9_canWork_7 : decode cX9_canWork 7 = .ok (.iconst (-1), 1) := by decide +kernel
theorem dX9_canWork_8 : decode cX9_canWork 8 = .ok (.goto 14, 3) := by decide +kernel
theorem dX9_canWork_11 : decode cX9_canWork 11 = .ok (.aload_n 0, 1) := by decide +kernel
theorem dX9_canWork_12 : decode cX9_canWork 12 = .ok (.getfield 38, 3) := by decide +kernel
theorem dX9_canWork_15 : decode cX9_canWork 15 = .ok (.aload_n 0, 1) := by decide +kernel
theorem dX9_canWork_16 : decode cX9_canWork 16 = .ok (.getfield 275, 3) := by decide +kernel
theorem dX9_canWork_19 : decode cX9_canWork 19 = .ok (.iconst 1, 1) := by decide +kernel
theorem dX9_canWork_20 : decode cX9_canWork 20 = .ok (.isub, 1) := by decide +kernel
theorem dX9_canWork_21 : decode cX9_canWork 21 = .ok (.iaload, 1) := by decide +kernel
theorem dX9_canWork_22 : decode cX9_canWork 22 = .ok (.istore_n 2, 1) := by decide +kernel
theorem dX9_canWork_23 : decode cX9_canWork 23 = .ok (.aload_n 0, 1) := by decide +kernel
theorem dX9_canWork_24 : decode cX9_canWork 24 = .ok (.iload_n 1, 1) := by decide +kernel
theorem dX9_canWork_25 : decode cX9_canWork 25 = .ok (.invokevirtual 67, 3) := by decide +kernel
theorem dX9_canWork_28 : decode cX9_canWork 28 = .ok (.ifCond .ne 32, 3) := by decide +kernel
theorem dX9_canWork_31 : decode cX9_canWork 31 = .ok (.iload_n 2, 1) := by decide +kernel
theorem dX9_canWork_32 : decode cX9_canWork 32 = .ok (.iconst (-1), 1) := by decide +kernel
theorem dX9_canWork_33 : decode cX9_canWork 33 = .ok (.if_icmp .eq 27, 3) := by decide +kernel
theorem dX9_canWork_36 : decode cX9_canWork 36 = .ok (.aload_n 0, 1) := by decide +kernel
theorem dX9_canWork_37 : decode cX9_canWork 37 = .ok (.iload_n 2, 1) := by decide +kernel
theorem dX9_canWork_38 : decode cX9_canWork 38 = .ok (.invokevirtual 67, 3) := by decide +kernel
theorem dX9_canWork_41 : decode cX9_canWork 41 = .ok (.ifCond .eq 19, 3) := by decide +kernel
theorem dX9_canWork_44 : decode cX9_canWork 44 = .ok (.aload_n 0, 1) := by decide +kernel
theorem dX9_canWork_45 : decode cX9_canWork 45 = .ok (.getfield 35, 3) := by decide +kernel
theorem dX9_canWork_48 : decode cX9_canWork 48 = .ok (.iload_n 2, 1) := by decide +kernel
theorem dX9_canWork_49 : decode cX9_canWork 49 = .ok (.iaload, 1) := by decide +kernel
theorem dX9_canWork_50 : decode cX9_canWork 50 = .ok (.aload_n 0, 1) := by decide +kernel
theorem dX9_canWork_51 : decode cX9_canWork 51 = .ok (.getfield 35, 3) := by decide +kernel
theorem dX9_canWork_54 : decode cX9_canWork 54 = .ok (.iload_n 1, 1) := by decide +kernel
theorem dX9_canWork_55 : decode cX9_canWork 55 = .ok (.iaload, 1) := by decide +kernel
theorem dX9_canWork_56 : decode cX9_canWork 56 = .ok (.iand, 1) := by decide +kernel
theorem dX9_canWork_57 : decode cX9_canWork 57 = .ok (.ifCond .ne 7, 3) := by decide +kernel
theorem dX9_canWork_60 : decode cX9_canWork 60 = .ok (.iconst 1, 1) := by decide +kernel
theorem dX9_canWork_61 : decode cX9_canWork 61 = .ok (.goto 4, 3) := by decide +kernel
theorem dX9_canWork_64 : decode cX9_canWork 64 = .ok (.iconst 0, 1) := by decide +kernel
theorem dX9_canWork_65 : decode cX9_canWork 65 = .ok (.ireturn, 1) := by decide +kernel
theorem dX9_shoots_0 : decode cX9_shoots 0 = .ok (.iconst 0, 1) := by decide +kernel
theorem dX9_shoots_1 : decode cX9_shoots 1 = .ok (.istore_n 3, 1) := by decide +kernel
theorem dX9_shoots_2 : decode cX9_shoots 2 = .ok (.iload_n 1, 1) := by decide +kernel
theorem dX9_shoots_3 : decode cX9_shoots 3 = .ok (.iload_n 3, 1) := by decide +kernel
theorem dX9_shoots_4 : decode cX9_shoots 4 = .ok (.ishr, 1) := by decide +kernel
theorem dX9_shoots_5 : decode cX9_shoots 5 = .ok (.iconst 1, 1) := by decide +kernel
theorem dX9_shoots_6 : decode cX9_shoots 6 = .ok (.iand, 1) := by decide +kernel
theorem dX9_shoots_7 : decode cX9_shoots 7 = .ok (.ifCond .ne 9, 3) := by decide +kernel
theorem dX9_shoots_10 : decode cX9_shoots 10 = .ok (.iinc 3 1, 3) := by decide +kernel
theorem dX9_shoots_13 : decode cX9_shoots 13 = .ok (.goto (-11), 3) := by decide +kernel
theorem dX9_shoots_16 : decode cX9_shoots 16 = .ok (.aload_n 0, 1) := by decide +kernel
theorem dX9_shoots_17 : decode cX9_shoots 17 = .ok (.iload_n 3, 1) := by decide +kernel
theorem dX9_shoots_18 : decode cX9_shoots 18 = .ok (.invokevirtual 278, 3) := by decide +kernel
theorem dX9_shoots_21 : decode cX9_shoots 21 = .ok (.ifCond .eq 5, 3) := by decide +kernel
theorem dX9_shoots_24 : decode cX9_shoots 24 = .ok (.iload_n 3, 1) := by decide +kernel
theorem dX9_shoots_25 : decode cX9_shoots 25 = .ok (.ireturn, 1) := by decide +kernel
theorem dX9_shoots_26 : decode cX9_shoots 26 = .ok (.iload_n 2, 1) := by decide +kernel
theorem dX9_shoots_27 : decode cX9_shoots 27 = .ok (.ifCond .eq 23, 3) := by decide +kernel
theorem dX9_shoots_30 : decode cX9_shoots 30 = .ok (.aload_n 0, 1) := by decide +kernel
theorem dX9_shoots_31 : decode cX9_shoots 31 = .ok (.getfield 13, 3) := by decide +kernel
theorem dX9_shoots_34 : decode cX9_shoots 34 = .ok (.bipush 8, 2) := by decide +kernel
theorem dX9_shoots_36 : decode cX9_shoots 36 = .ok (.aload_n 0, 1) := by decide +kernel
theorem dX9_shoots_37 : decode cX9_shoots 37 = .ok (.iload_n 3, 1) := by decide +kernel
theorem dX9_shoots_38 : decode cX9_shoots 38 = .ok (.invokevirtual 226, 3) := by decide +kernel
theorem dX9_shoots_41 : decode cX9_shoots 41 = .ok (.iadd, 1) := by decide +kernel
theorem dX9_shoots_42 : decode cX9_shoots 42 = .ok (.iaload, 1) := by decide +kernel
theorem dX9_shoots_43 : decode cX9_shoots 43 = .ok (.ifCond .ne 7, 3) := by decide +kernel
theorem dX9_shoots_46 : decode cX9_shoots 46 = .ok (.iconst 1, 1) := by decide +kernel
theorem dX9_shoots_47 : decode cX9_shoots 47 = .ok (.goto 4, 3) := by decide +kernel
theorem dX9_shoots_50 : decode cX9_shoots 50 = .ok (.iconst 0, 1) := by decide +kernel
theorem dX9_shoots_51 : decode cX9_shoots 51 = .ok (.istore 4, 2) := by decide +kernel
theorem dX9_shoots_53 : decode cX9_shoots 53 = .ok (.iload 4, 2) := by decide +kernel
theorem dX9_shoots_55 : decode cX9_shoots 55 = .ok (.ifCond .ne 17, 3) := by decide +kernel
theorem dX9_shoots_58 : decode cX9_shoots 58 = .ok (.aload_n 0, 1) := by decide +kernel
theorem dX9_shoots_59 : decode cX9_shoots 59 = .ok (.iload_n 3, 1) := by decide +kernel
theorem dX9_shoots_60 : decode cX9_shoots 60 = .ok (.invokevirtual 281, 3) := by decide +kernel
theorem dX9_shoots_63 : decode cX9_shoots 63 = .ok (.ifCond .eq 7, 3) := by decide +kernel
theorem dX9_shoots_66 : decode cX9_shoots 66 = .ok (.iload_n 3, 1) := by decide +kernel
theorem dX9_shoots_67 : decode cX9_shoots 67 = .ok (.goto 4, 3) := by decide +kernel
theorem dX9_shoots_70 : decode cX9_shoots 70 = .ok (.iconst (-1), 1) := by decide +kernel
theorem dX9_shoots_71 : decode cX9_shoots 71 = .ok (.ireturn, 1) := by decide +kernel
theorem dX9_shoots_72 : decode cX9_shoots 72 = .ok (.iload_n 3, 1) := by decide +kernel
theorem dX9_shoots_73 : decode cX9_shoots 73 = .ok (.iconst 1, 1) := by decide +kernel
theorem dX9_shoots_74 : decode cX9_shoots 74 = .ok (.iadd, 1) := by decide +kernel
theorem dX9_shoots_75 : decode cX9_shoots 75 = .ok (.istore 5, 2) := by decide +kernel
theorem dX9_shoots_77 : decode cX9_shoots 77 = .ok (.iload 5, 2) := by decide +kernel
theorem dX9_shoots_79 : decode cX9_shoots 79 = .ok (.bipush 12, 2) := by decide +kernel
theorem dX9_shoots_81 : decode cX9_shoots 81 = .ok (.if_icmp .ge 58, 3) := by decide +kernel
theorem dX9_shoots_84 : decode cX9_shoots 84 = .ok (.iload_n 1, 1) := by decide +kernel
theorem dX9_shoots_85 : decode cX9_shoots 85 = .ok (.iload 5, 2) := by decide +kernel
theorem dX9_shoots_87 : decode cX9_shoots 87 = .ok (.ishr, 1) := by decide +kernel
theorem dX9_shoots_88 : decode cX9_shoots 88 = .ok (.iconst 1, 1) := by decide +kernel
theorem dX9_shoots_89 : decode cX9_shoots 89 = .ok (.iand, 1) := by decide +kernel
theorem dX9_shoots_90 : decode cX9_shoots 90 = .ok (.iconst 1, 1) := by decide +kernel
theorem dX9_shoots_91 : decode cX9_shoots 91 = .ok (.if_icmp .ne 42, 3) := by decide +kernel
theorem dX9_shoots_94 : decode cX9_shoots 94 = .ok (.aload_n 0, 1) := by decide +kernel
theorem dX9_shoots_95 : decode cX9_shoots 95 = .ok (.iload 5, 2) := by decide +kernel
theorem dX9_shoots_97 : decode cX9_shoots 97 = .ok (.invokevirtual 278, 3) := by decide +kernel
theorem dX9_shoots_100 : decode cX9_shoots 100 = .ok (.ifCond .ne 33, 3) := by decide +kernel
theorem dX9_shoots_103 : decode cX9_shoots 103 = .ok (.aload_n 0, 1) := by decide +kernel
theorem dX9_shoots_104 : decode cX9_shoots 104 = .ok (.getfield 13, 3) := by decide +kernel
theorem dX9_shoots_107 : decode cX9_shoots 107 = .ok (.bipush 8, 2) := by decide +kernel
theorem dX9_shoots_109 : decode cX9_shoots 109 = .ok (.aload_n 0, 1) := by decide +kernel
theorem dX9_shoots_110 : decode cX9_shoots 110 = .ok (.iload 5, 2) := by decide +kernel
theorem dX9_shoots_112 : decode cX9_shoots 112 = .ok (.invokevirtual 226, 3) := by decide +kernel
theorem dX9_shoots_115 : decode cX9_shoots 115 = .ok (.iadd, 1) := by decide +kernel
theorem dX9_shoots_116 : decode cX9_shoots 116 = .ok (.iaload, 1) := by decide +kernel
theorem dX9_shoots_117 : decode cX9_shoots 117 = .ok (.iconst 1, 1) := by decide +kernel
theorem dX9_shoots_118 : decode cX9_shoots 118 = .ok (.if_icmp .ne 15, 3) := by decide +kernel
theorem dX9_shoots_121 : decode cX9_shoots 121 = .ok (.aload_n 0, 1) := by decide +kernel
theorem dX9_shoots_122 : decode cX9_shoots 122 = .ok (.iload 5, 2) := by decide +kernel
theorem dX9_shoots_124 : decode cX9_shoots 124 = .ok (.invokevirtual 281, 3) := by decide +kernel
theorem dX9_shoots_127 : decode cX9_shoots 127 = .ok (.ifCond .eq 6, 3) := by decide +kernel
theorem dX9_shoots_130 : decode cX9_shoots 130 = .ok (.iload 5, 2) := by decide +kernel
theorem dX9_shoots_132 : decode cX9_shoots 132 = .ok (.ireturn, 1) := by decide +kernel
theorem dX9_shoots_133 : decode cX9_shoots 133 = .ok (.iinc 5 1, 3) := by decide +kernel
theorem dX9_shoots_136 : decode cX9_shoots 136 = .ok (.goto (-59), 3) := by decide +kernel
theorem dX9_shoots_139 : decode cX9_shoots 139 = .ok (.aload_n 0, 1) := by decide +kernel
theorem dX9_shoots_140 : decode cX9_shoots 140 = .ok (.dup, 1) := by decide +kernel
theorem dX9_shoots_141 : decode cX9_shoots 141 = .ok (.getfield 284, 3) := by decide +kernel
theorem dX9_shoots_144 : decode cX9_shoots 144 = .ok (.iconst 1, 1) := by decide +kernel
theorem dX9_shoots_145 : decode cX9_shoots 145 = .ok (.iadd, 1) := by decide +kernel
theorem dX9_shoots_146 : decode cX9_shoots 146 = .ok (.putfield 284, 3) := by decide +kernel
theorem dX9_shoots_149 : decode cX9_shoots 149 = .ok (.iconst (-1), 1) := by decide +kernel
theorem dX9_shoots_150 : decode cX9_shoots 150 = .ok (.ireturn, 1) := by decide +kernel
theorem dX9_rains_0 : decode cX9_rains 0 = .ok (.aload_n 0, 1) := by decide +kernel
theorem dX9_rains_1 : decode cX9_rains 1 = .ok (.invokevirtual 254, 3) := by decide +kernel
theorem dX9_rains_4 : decode cX9_rains 4 = .ok (.aload_n 0, 1) := by decide +kernel
theorem dX9_rains_5 : decode cX9_rains 5 = .ok (.iconst 0, 1) := by decide +kernel
theorem dX9_rains_6 : decode cX9_rains 6 = .ok (.putfield 275, 3) := by decide +kernel
theorem dX9_rains_9 : decode cX9_rains 9 = .ok (.aload_n 0, 1) := by decide +kernel
theorem dX9_rains_10 : decode cX9_rains 10 = .ok (.iconst 0, 1) := by decide +kernel
theorem dX9_rains_11 : decode cX9_rains 11 = .ok (.putfield 284, 3) := by decide +kernel
theorem dX9_rains_14 : decode cX9_rains 14 = .ok (.iconst 1, 1) := by decide +kernel
theorem dX9_rains_15 : decode cX9_rains 15 = .ok (.aload_n 0, 1) := by decide +kernel
theorem dX9_rains_16 : decode cX9_rains 16 = .ok (.invokevirtual 229, 3) := by decide +kernel
theorem dX9_rains_19 : decode cX9_rains 19 = .ok (.ishl, 1) := by decide +kernel
theorem dX9_rains_20 : decode cX9_rains 20 = .ok (.iconst 1, 1) := by decide +kernel
theorem dX9_rains_21 : decode cX9_rains 21 = .ok (.isub, 1) := by decide +kernel
theorem dX9_rains_22 : decode cX9_rains 22 = .ok (.istore_n 2, 1) := by decide +kernel
theorem dX9_rains_23 : decode cX9_rains 23 = .ok (.iload_n 2, 1) := by decide +kernel
theorem dX9_rains_24 : decode cX9_rains 24 = .ok (.ifCond .eq 75, 3) := by decide +kernel
theorem dX9_rains_27 : decode cX9_rains 27 = .ok (.aload_n 0, 1) := by decide +kernel
theorem dX9_rains_28 : decode cX9_rains 28 = .ok (.iload_n 2, 1) := by decide +kernel
theorem dX9_rains_29 : decode cX9_rains 29 = .ok (.aload_n 0, 1) := by decide +kernel
theorem dX9_rains_30 : decode cX9_rains 30 = .ok (.getfield 275, 3) := by decide +kernel
theorem dX9_rains_33 : decode cX9_rains 33 = .ok (.bipush 12, 2) := by decide +kernel
theorem dX9_rains_35 : decode cX9_rains 35 = .ok (.if_icmp .ge 19, 3) := by decide +kernel
theorem dX9_rains_38 : decode cX9_rains 38 = .ok (.iload_n 1, 1) := by decide +kernel
theorem dX9_rains_39 : decode cX9_rains 39 = .ok (.aload_n 0, 1) := by decide +kernel
theorem dX9_rains_40 : decode cX9_rains 40 = .ok (.getfield 275, 3) := by decide +kernel
theorem dX9_rains_43 : decode cX9_rains 43 = .ok (.ishr, 1) := by decide +kernel
theorem dX9_rains_44 : decode cX9_rains 44 = .ok (.iconst 1, 1) := by decide +kernel
theorem dX9_rains_45 : decode cX9_rains 45 = .ok (.iand, 1) := by decide +kernel
theorem dX9_rains_46 : decode cX9_rains 46 = .ok (.iconst 1, 1) := by decide +kernel
theorem dX9_rains_47 : decode cX9_rains 47 = .ok (.if_icmp .ne 7, 3) := by decide +kernel
theorem dX9_rains_50 : decode cX9_rains 50 = .ok (.iconst 1, 1) := by decide +kernel
theorem dX9_rains_51 : decode cX9_rains 51 = .ok (.goto 4, 3) := by decide +kernel
theorem dX9_rains_54 : decode cX9_rains 54 = .ok (.iconst 0, 1) := by decide +kernel
theorem dX9_rains_55 : decode cX9_rains 55 = .ok (.invokevirtual 287, 3) := by decide +kernel
theorem dX9_rains_58 : decode cX9_rains 58 = .ok (.istore_n 3, 1) := by decide +kernel
theorem dX9_rains_59 : decode cX9_rains 59 = .ok (.iload_n 2, 1) := by decide +kernel
theorem dX9_rains_60 : decode cX9_rains 60 = .ok (.iload_n 3, 1) := by decide +kernel
theorem dX9_rains_61 : decode cX9_rains 61 = .ok (.iconst (-1), 1) := by decide +kernel
theorem dX9_rains_62 : decode cX9_rains 62 = .ok (.if_icmp .ne 7, 3) := by decide +kernel
theorem dX9_rains_65 : decode cX9_rains 65 = .ok (.iload_n 2, 1) := by decide +kernel
theorem dX9_rains_66 : decode cX9_rains 66 = .ok (.goto 8, 3) := by decide +kernel
theorem dX9_rains_69 : decode cX9_rains 69 = .ok (.iconst 1, 1) := by decide +kernel
theorem dX9_rains_70 : decode cX9_rains 70 = .ok (.iload_n 3, 1) := by decide +kernel
theorem dX9_rains_71 : decode cX9_rains 71 = .ok (.ishl, 1) := by decide +kernel
theorem dX9_rains_72 : decode cX9_rains 72 = .ok (.iconst (-1), 1) := by decide +kernel
theorem dX9_rains_73 : decode cX9_rains 73 = .ok (.ixor, 1) := by decide +kernel
theorem dX9_rains_74 : decode cX9_rains 74 = .ok (.iand, 1) := by decide +kernel
theorem dX9_rains_75 : decode cX9_rains 75 = .ok (.istore_n 2, 1) := by decide +kernel
theorem dX9_rains_76 : decode cX9_rains 76 = .ok (.aload_n 0, 1) := by decide +kernel
theorem dX9_rains_77 : decode cX9_rains 77 = .ok (.getfield 38, 3) := by decide +kernel
theorem dX9_rains_80 : decode cX9_rains 80 = .ok (.aload_n 0, 1) := by decide +kernel
theorem dX9_rains_81 : decode cX9_rains 81 = .ok (.getfield 275, 3) := by decide +kernel
theorem dX9_rains_84 : decode cX9_rains 84 = .ok (.iload_n 3, 1) := by decide +kernel
theorem dX9_rains_85 : decode cX9_rains 85 = .ok (.iastore, 1) := by decide +kernel
theorem dX9_rains_86 : decode cX9_rains 86 = .ok (.aload_n 0, 1) := by decide +kernel
theorem dX9_rains_87 : decode cX9_rains 87 = .ok (.dup, 1) := by decide +kernel
theorem dX9_rains_88 : decode cX9_rains 88 = .ok (.getfield 275, 3) := by decide +kernel
theorem dX9_rains_91 : decode cX9_rains 91 = .ok (.iconst 1, 1) := by decide +kernel
theorem dX9_rains_92 : decode cX9_rains 92 = .ok (.iadd, 1) := by decide +kernel
theorem dX9_rains_93 : decode cX9_rains 93 = .ok (.putfield 275, 3) := by decide +kernel
theorem dX9_rains_96 : decode cX9_rains 96 = .ok (.goto (-73), 3) := by decide +kernel
theorem dX9_rains_99 : decode cX9_rains 99 = .ok (.return_, 1) := by decide +kernel
theorem dX9_isRain_0 : decode cX9_isRain 0 = .ok (.iload_n 0, 1) := by decide +kernel
theorem dX9_isRain_1 : decode cX9_isRain 1 = .ok (.ifCond .lt 14, 3) := by decide +kernel
theorem dX9_isRain_4 : decode cX9_isRain 4 = .ok (.iload_n 0, 1) := by decide +kernel
theorem dX9_isRain_5 : decode cX9_isRain 5 = .ok (.sipush 4096, 3) := by decide +kernel
theorem dX9_isRain_8 : decode cX9_isRain 8 = .ok (.if_icmp .ge 7, 3) := by decide +kernel
theorem dX9_isRain_11 : decode cX9_isRain 11 = .ok (.iconst 1, 1) := by decide +kernel
theorem dX9_isRain_12 : decode cX9_isRain 12 = .ok (.goto 4, 3) := by decide +kernel
theorem dX9_isRain_15 : decode cX9_isRain 15 = .ok (.iconst 0, 1) := by decide +kernel
theorem dX9_isRain_16 : decode cX9_isRain 16 = .ok (.ireturn, 1) := by decide +kernel
theorem dX9_rainDays_0 : decode cX9_rainDays 0 = .ok (.aload_n 0, 1) := by decide +kernel
theorem dX9_rainDays_1 : decode cX9_rainDays 1 = .ok (.iconst 0, 1) := by decide +kernel
theorem dX9_rainDays_2 : decode cX9_rainDays 2 = .ok (.putfield 53, 3) := by decide +kernel
theorem dX9_rainDays_5 : decode cX9_rainDays 5 = .ok (.iload_n 1, 1) := by decide +kernel
theorem dX9_rainDays_6 : decode cX9_rainDays 6 = .ok (.invokestatic 291, 3) := by decide +kernel
theorem dX9_rainDays_9 : decode cX9_rainDays 9 = .ok (.ifCond .ne 6, 3) := by decide +kernel
theorem dX9_rainDays_12 : decode cX9_rainDays 12 = .ok (.bipush (-2), 2) := by decide +kernel
theorem dX9_rainDays_14 : decode cX9_rainDays 14 = .ok (.ireturn, 1) := by decide +kernel
theorem dX9_rainDays_15 : decode cX9_rainDays 15 = .ok (.aload_n 0, 1) := by decide +kernel
theorem dX9_rainDays_16 : decode cX9_rainDays 16 = .ok (.iload_n 1, 1) := by decide +kernel
theorem dX9_rainDays_17 : decode cX9_rainDays 17 = .ok (.invokevirtual 294, 3) := by decide +kernel
theorem dX9_rainDays_20 : decode cX9_rainDays 20 = .ok (.aload_n 0, 1) := by decide +kernel
theorem dX9_rainDays_21 : decode cX9_rainDays 21 = .ok (.getfield 275, 3) := by decide +kernel
theorem dX9_rainDays_24 : decode cX9_rainDays 24 = .ok (.ireturn, 1) := by decide +kernel
theorem dX9_rainLost_0 : decode cX9_rainLost 0 = .ok (.aload_n 0, 1) := by decide +kernel
theorem dX9_rainLost_1 : decode cX9_rainLost 1 = .ok (.iconst 0, 1) := by decide +kernel
theorem dX9_rainLost_2 : decode cX9_rainLost 2 = .ok (.putfield 53, 3) := by decide +kernel
theorem dX9_rainLost_5 : decode cX9_rainLost 5 = .ok (.iload_n 1, 1) := by decide +kernel
theorem dX9_rainLost_6 : decode cX9_rainLost 6 = .ok (.invokestatic 291, 3) := by decide +kernel
theorem dX9_rainLost_9 : decode cX9_rainLost 9 = .ok (.ifCond .ne 6, 3) := by decide +kernel
theorem dX9_rainLost_12 : decode cX9_rainLost 12 = .ok (.bipush (-2), 2) := by decide +kernel
theorem dX9_rainLost_14 : decode cX9_rainLost 14 = .ok (.ireturn, 1) := by decide +kernel
theorem dX9_rainLost_15 : decode cX9_rainLost 15 = .ok (.aload_n 0, 1) := by decide +kernel
theorem dX9_rainLost_16 : decode cX9_rainLost 16 = .ok (.iload_n 1, 1) := by decide +kernel
theorem dX9_rainLost_17 : decode cX9_rainLost 17 = .ok (.invokevirtual 294, 3) := by decide +kernel
theorem dX9_rainLost_20 : decode cX9_rainLost 20 = .ok (.aload_n 0, 1) := by decide +kernel
theorem dX9_rainLost_21 : decode cX9_rainLost 21 = .ok (.getfield 284, 3) := by decide +kernel
theorem dX9_rainLost_24 : decode cX9_rainLost 24 = .ok (.ireturn, 1) := by decide +kernel
theorem dX9_rainDay_0 : decode cX9_rainDay 0 = .ok (.aload_n 0, 1) := by decide +kernel
theorem dX9_rainDay_1 : decode cX9_rainDay 1 = .ok (.iconst 0, 1) := by decide +kernel
theorem dX9_rainDay_2 : decode cX9_rainDay 2 = .ok (.putfield 53, 3) := by decide +kernel
theorem dX9_rainDay_5 : decode cX9_rainDay 5 = .ok (.iload_n 1, 1) := by decide +kernel
theorem dX9_rainDay_6 : decode cX9_rainDay 6 = .ok (.invokestatic 291, 3) := by decide +kernel
theorem dX9_rainDay_9 : decode cX9_rainDay 9 = .ok (.ifCond .eq 7, 3) := by decide +kernel
theorem dX9_rainDay_12 : decode cX9_rainDay 12 = .ok (.iload_n 2, 1) := by decide +kernel
theorem dX9_rainDay_13 : decode cX9_rainDay 13 = .ok (.ifCond .ge 6, 3) := by decide +kernel
theorem dX9_rainDay_16 : decode cX9_rainDay 16 = .ok (.bipush (-2), 2) := by decide +kernel
theorem dX9_rainDay_18 : decode cX9_rainDay 18 = .ok (.ireturn, 1) := by decide +kernel
theorem dX9_rainDay_19 : decode cX9_rainDay 19 = .ok (.aload_n 0, 1) := by decide +kernel
theorem dX9_rainDay_20 : decode cX9_rainDay 20 = .ok (.iload_n 1, 1) := by decide +kernel
theorem dX9_rainDay_21 : decode cX9_rainDay 21 = .ok (.invokevirtual 294, 3) := by decide +kernel
theorem dX9_rainDay_24 : decode cX9_rainDay 24 = .ok (.iload_n 2, 1) := by decide +kernel
theorem dX9_rainDay_25 : decode cX9_rainDay 25 = .ok (.aload_n 0, 1) := by decide +kernel
theorem dX9_rainDay_26 : decode cX9_rainDay 26 = .ok (.getfield 275, 3) := by decide +kernel
theorem dX9_rainDay_29 : decode cX9_rainDay 29 = .ok (.if_icmp .ge 12, 3) := by decide +kernel
theorem dX9_rainDay_32 : decode cX9_rainDay 32 = .ok (.aload_n 0, 1) := by decide +kernel
theorem dX9_rainDay_33 : decode cX9_rainDay 33 = .ok (.getfield 38, 3) := by decide +kernel
theorem dX9_rainDay_36 : decode cX9_rainDay 36 = .ok (.iload_n 2, 1) := by decide +kernel
theorem dX9_rainDay_37 : decode cX9_rainDay 37 = .ok (.iaload, 1) := by decide +kernel
theorem dX9_rainDay_38 : decode cX9_rainDay 38 = .ok (.goto 4, 3) := by decide +kernel
theorem dX9_rainDay_41 : decode cX9_rainDay 41 = .ok (.iconst (-1), 1) := by decide +kernel
theorem dX9_rainDay_42 : decode cX9_rainDay 42 = .ok (.ireturn, 1) := by decide +kernel
theorem dX9_worstRain_0 : decode cX9_worstRain 0 = .ok (.aload_n 0, 1) := by decide +kernel
theorem dX9_worstRain_1 : decode cX9_worstRain 1 = .ok (.iconst 0, 1) := by decide +kernel
theorem dX9_worstRain_2 : decode cX9_worstRain 2 = .ok (.putfield 53, 3) := by decide +kernel
theorem dX9_worstRain_5 : decode cX9_worstRain 5 = .ok (.iconst 0, 1) := by decide +kernel
theorem dX9_worstRain_6 : decode cX9_worstRain 6 = .ok (.istore_n 1, 1) := by decide +kernel
theorem dX9_worstRain_7 : decode cX9_worstRain 7 = .ok (.iconst (-1), 1) := by decide +kernel
theorem dX9_worstRain_8 : decode cX9_worstRain 8 = .ok (.istore_n 2, 1) := by decide +kernel
theorem dX9_worstRain_9 : decode cX9_worstRain 9 = .ok (.iconst 0, 1) := by decide +kernel
theorem dX9_worstRain_10 : decode cX9_worstRain 10 = .ok (.istore_n 3, 1) := by decide +kernel
theorem dX9_worstRain_11 : decode cX9_worstRain 11 = .ok (.iload_n 3, 1) := by decide +kernel
theorem dX9_worstRain_12 : decode cX9_worstRain 12 = .ok (.bipush 12, 2) := by decide +kernel
theorem dX9_worstRain_14 : decode cX9_worstRain 14 = .ok (.if_icmp .ge 34, 3) := by decide +kernel
theorem dX9_worstRain_17 : decode cX9_worstRain 17 = .ok (.aload_n 0, 1) := by decide +kernel
theorem dX9_worstRain_18 : decode cX9_worstRain 18 = .ok (.iconst 1, 1) := by decide +kernel
theorem dX9_worstRain_19 : decode cX9_worstRain 19 = .ok (.iload_n 3, 1) := by decide +kernel
theorem dX9_worstRain_20 : decode cX9_worstRain 20 = .ok (.ishl, 1) := by decide +kernel
theorem dX9_worstRain_21 : decode cX9_worstRain 21 = .ok (.invokevirtual 294, 3) := by decide +kernel
theorem dX9_worstRain_24 : decode cX9_worstRain 24 = .ok (.aload_n 0, 1) := by decide +kernel
theorem dX9_worstRain_25 : decode cX9_worstRain 25 = .ok (.getfield 275, 3) := by decide +kernel
theorem dX9_worstRain_28 : decode cX9_worstRain 28 = .ok (.iload_n 2, 1) := by decide +kernel
theorem dX9_worstRain_29 : decode cX9_worstRain 29 = .ok (.if_icmp .gt 6, 3) := by decide +kernel
theorem dX9_worstRain_32 : decode cX9_worstRain 32 = .ok (.goto 10, 3) := by decide +kernel
theorem dX9_worstRain_35 : decode cX9_worstRain 35 = .ok (.iload_n 3, 1) := by decide +kernel
theorem dX9_worstRain_36 : decode cX9_worstRain 36 = .ok (.istore_n 1, 1) := by decide +kernel
theorem dX9_worstRain_37 : decode cX9_worstRain 37 = .ok (.aload_n 0, 1) := by decide +kernel
theorem dX9_worstRain_38 : decode cX9_worstRain 38 = .ok (.getfield 275, 3) := by decide +kernel
theorem dX9_worstRain_41 : decode cX9_worstRain 41 = .ok (.istore_n 2, 1) := by decide +kernel
theorem dX9_worstRain_42 : decode cX9_worstRain 42 = .ok (.iinc 3 1, 3) := by decide +kernel
theorem dX9_worstRain_45 : decode cX9_worstRain 45 = .ok (.goto (-34), 3) := by decide +kernel
theorem dX9_worstRain_48 : decode cX9_worstRain 48 = .ok (.iload_n 1, 1) := by decide +kernel
theorem dX9_worstRain_49 : decode cX9_worstRain 49 = .ok (.ireturn, 1) := by decide +kernel
theorem dX9_laysRow_0 : decode cX9_laysRow 0 = .ok (.iload_n 1, 1) := by decide +kernel
theorem dX9_laysRow_1 : decode cX9_laysRow 1 = .ok (.istore_n 2, 1) := by decide +kernel
theorem dX9_laysRow_2 : decode cX9_laysRow 2 = .ok (.iconst 0, 1) := by decide +kernel
theorem dX9_laysRow_3 : decode cX9_laysRow 3 = .ok (.istore_n 3, 1) := by decide +kernel
theorem dX9_laysRow_4 : decode cX9_laysRow 4 = .ok (.aload_n 0, 1) := by decide +kernel
theorem dX9_laysRow_5 : decode cX9_laysRow 5 = .ok (.getfield 297, 3) := by decide +kernel
theorem dX9_laysRow_8 : decode cX9_laysRow 8 = .ok (.iconst 1, 1) := by decide +kernel
theorem dX9_laysRow_9 : decode cX9_laysRow 9 = .ok (.isub, 1) := by decide +kernel
theorem dX9_laysRow_10 : decode cX9_laysRow 10 = .ok (.istore 4, 2) := by decide +kernel
theorem dX9_laysRow_12 : decode cX9_laysRow 12 = .ok (.iload 4, 2) := by decide +kernel
theorem dX9_laysRow_14 : decode cX9_laysRow 14 = .ok (.ifCond .lt 41, 3) := by decide +kernel
theorem dX9_laysRow_17 : decode cX9_laysRow 17 = .ok (.aload_n 0, 1) := by decide +kernel
theorem dX9_laysRow_18 : decode cX9_laysRow 18 = .ok (.getfield 44, 3) := by decide +kernel
theorem dX9_laysRow_21 : decode cX9_laysRow 21 = .ok (.iload 4, 2) := by decide +kernel
theorem dX9_laysRow_23 : decode cX9_laysRow 23 = .ok (.iload_n 2, 1) := by decide +kernel
theorem dX9_laysRow_24 : decode cX9_laysRow 24 = .ok (.aload_n 0, 1) := by decide +kernel
theorem dX9_laysRow_25 : decode cX9_laysRow 25 = .ok (.getfield 297, 3) := by decide +kernel
theorem dX9_laysRow_28 : decode cX9_laysRow 28 = .ok (.irem, 1) := by decide +kernel
theorem dX9_laysRow_29 : decode cX9_laysRow 29 = .ok (.iastore, 1) := by decide +kernel
theorem dX9_laysRow_30 : decode cX9_laysRow 30 = .ok (.iload_n 2, 1) := by decide +kernel
theorem dX9_laysRow_31 : decode cX9_laysRow 31 = .ok (.aload_n 0, 1) := by decide +kernel
theorem dX9_laysRow_32 : decode cX9_laysRow 32 = .ok (.getfield 297, 3) := by decide +kernel
theorem dX9_laysRow_35 : decode cX9_laysRow 35 = .ok (.idiv, 1) := by decide +kernel
theorem dX9_laysRow_36 : decode cX9_laysRow 36 = .ok (.istore_n 2, 1) := by decide +kernel
theorem dX9_laysRow_37 : decode cX9_laysRow 37 = .ok (.iload_n 3, 1) := by decide +kernel
theorem dX9_laysRow_38 : decode cX9_laysRow 38 = .ok (.iconst 1, 1) := by decide +kernel
theorem dX9_laysRow_39 : decode cX9_laysRow 39 = .ok (.aload_n 0, 1) := by decide +kernel
theorem dX9_laysRow_40 : decode cX9_laysRow 40 = .ok (.getfield 44, 3) := by decide +kernel
theorem dX9_laysRow_43 : decode cX9_laysRow 43 = .ok (.iload 4, 2) := by decide +kernel
theorem dX9_laysRow_45 : decode cX9_laysRow 45 = .ok (.iaload, 1) := by decide +kernel
theorem dX9_laysRow_46 : decode cX9_laysRow 46 = .ok (.ishl, 1) := by decide +kernel
theorem dX9_laysRow_47 : decode cX9_laysRow 47 = .ok (.ior, 1) := by decide +kernel
theorem dX9_laysRow_48 : decode cX9_laysRow 48 = .ok (.istore_n 3, 1) := by decide +kernel
theorem dX9_laysRow_49 : decode cX9_laysRow 49 = .ok (.iinc 4 (-1), 3) := by decide +kernel
theorem dX9_laysRow_52 : decode cX9_laysRow 52 = .ok (.goto (-40), 3) := by decide +kernel
theorem dX9_laysRow_55 : decode cX9_laysRow 55 = .ok (.iload_n 3, 1) := by decide +kernel
theorem dX9_laysRow_56 : decode cX9_laysRow 56 = .ok (.iconst 1, 1) := by decide +kernel
theorem dX9_laysRow_57 : decode cX9_laysRow 57 = .ok (.aload_n 0, 1) := by decide +kernel
theorem dX9_laysRow_58 : decode cX9_laysRow 58 = .ok (.getfield 297, 3) := by decide +kernel
theorem dX9_laysRow_61 : decode cX9_laysRow 61 = .ok (.ishl, 1) := by decide +kernel
theorem dX9_laysRow_62 : decode cX9_laysRow 62 = .ok (.iconst 1, 1) := by decide +kernel
theorem dX9_laysRow_63 : decode cX9_laysRow 63 = .ok (.isub, 1) := by decide +kernel
theorem dX9_laysRow_64 : decode cX9_laysRow 64 = .ok (.if_icmp .ne 7, 3) := by decide +kernel
theorem dX9_laysRow_67 : decode cX9_laysRow 67 = .ok (.iconst 1, 1) := by decide +kernel
theorem dX9_laysRow_68 : decode cX9_laysRow 68 = .ok (.goto 4, 3) := by decide +kernel
theorem dX9_laysRow_71 : decode cX9_laysRow 71 = .ok (.iconst 0, 1) := by decide +kernel
theorem dX9_laysRow_72 : decode cX9_laysRow 72 = .ok (.ireturn, 1) := by decide +kernel
theorem dX9_stands_0 : decode cX9_stands 0 = .ok (.iconst 0, 1) := by decide +kernel
theorem dX9_stands_1 : decode cX9_stands 1 = .ok (.istore_n 2, 1) := by decide +kernel
theorem dX9_stands_2 : decode cX9_stands 2 = .ok (.iload_n 2, 1) := by decide +kernel
theorem dX9_stands_3 : decode cX9_stands 3 = .ok (.aload_n 0, 1) := by decide +kernel
theorem dX9_stands_4 : decode cX9_stands 4 = .ok (.getfield 13, 3) := by decide +kernel
theorem dX9_stands_7 : decode cX9_stands 7 = .ok (.bipush 82, 2) := by decide +kernel
theorem dX9_stands_9 : decode cX9_stands 9 = .ok (.iaload, 1) := by decide +kernel
theorem dX9_stands_10 : decode cX9_stands 10 = .ok (.if_icmp .ge 62, 3) := by decide +kernel
theorem dX9_stands_13 : decode cX9_stands 13 = .ok (.aload_n 0, 1) := by decide +kernel
theorem dX9_stands_14 : decode cX9_stands 14 = .ok (.getfield 19, 3) := by decide +kernel
theorem dX9_stands_17 : decode cX9_stands 17 = .ok (.iconst 4, 1) := by decide +kernel
theorem dX9_stands_18 : decode cX9_stands 18 = .ok (.iload_n 2, 1) := by decide +kernel
theorem dX9_stands_19 : decode cX9_stands 19 = .ok (.iadd, 1) := by decide +kernel
theorem dX9_stands_20 : decode cX9_stands 20 = .ok (.iconst (-1), 1) := by decide +kernel
theorem dX9_stands_21 : decode cX9_stands 21 = .ok (.iastore, 1) := by decide +kernel
theorem dX9_stands_22 : decode cX9_stands 22 = .ok (.iconst 0, 1) := by decide +kernel
theorem dX9_stands_23 : decode cX9_stands 23 = .ok (.istore_n 3, 1) := by decide +kernel
theorem dX9_stands_24 : decode cX9_stands 24 = .ok (.iload_n 3, 1) := by decide +kernel
theorem dX9_stands_25 : decode cX9_stands 25 = .ok (.aload_n 0, 1) := by decide +kernel
theorem dX9_stands_26 : decode cX9_stands 26 = .ok (.getfield 297, 3) := by decide +kernel
theorem dX9_stands_29 : decode cX9_stands 29 = .ok (.if_icmp .ge 37, 3) := by decide +kernel
theorem dX9_stands_32 : decode cX9_stands 32 = .ok (.aload_n 0, 1) := by decide +kernel
theorem dX9_stands_33 : decode cX9_stands 33 = .ok (.getfield 25, 3) := by decide +kernel
theorem dX9_stands_36 : decode cX9_stands 36 = .ok (.iconst 4, 1) := by decide +kernel
theorem dX9_stands_37 : decode cX9_stands 37 = .ok (.iload_n 2, 1) := by decide +kernel
theorem dX9_stands_38 : decode cX9_stands 38 = .ok (.iadd, 1) := by decide +kernel
theorem dX9_stands_39 : decode cX9_stands 39 = .ok (.iaload, 1) := by decide +kernel
theorem dX9_stands_40 : decode cX9_stands 40 = .ok (.aload_n 0, 1) := by decide +kernel
theorem dX9_stands_41 : decode cX9_stands 41 = .ok (.getfield 41, 3) := by decide +kernel
theorem dX9_stands_44 : decode cX9_stands 44 = .ok (.aload_n 1, 1) := by decide +kernel
theorem dX9_stands_45 : decode cX9_stands 45 = .ok (.iload_n 3, 1) := by decide +kernel
theorem dX9_stands_46 : decode cX9_stands 46 = .ok (.iaload, 1) := by decide +kernel
theorem dX9_stands_47 : decode cX9_stands 47 = .ok (.iaload, 1) := by decide +kernel
theorem dX9_stands_48 : decode cX9_stands 48 = .ok (.if_icmp .ne 12, 3) := by decide +kernel
theorem dX9_stands_51 : decode cX9_stands 51 = .ok (.aload_n 0, 1) := by decide +kernel
theorem dX9_stands_52 : decode cX9_stands 52 = .ok (.getfield 19, 3) := by decide +kernel
theorem dX9_stands_55 : decode cX9_stands 55 = .ok (.iconst 4, 1) := by decide +kernel
theorem dX9_stands_56 : decode cX9_stands 56 = .ok (.iload_n 2, 1) := by decide +kernel
theorem dX9_stands_57 : decode cX9_stands 57 = .ok (.iadd, 1) := by decide +kernel
theorem dX9_stands_58 : decode cX9_stands 58 = .ok (.iload_n 3, 1) := by decide +kernel
theorem dX9_stands_59 : decode cX9_stands 59 = .ok (.iastore, 1) := by decide +kernel
theorem dX9_stands_60 : decode cX9_stands 60 = .ok (.iinc 3 1, 3) := by decide +kernel
theorem dX9_stands_63 : decode cX9_stands 63 = .ok (.goto (-39), 3) := by decide +kernel
theorem dX9_stands_66 : decode cX9_stands 66 = .ok (.iinc 2 1, 3) := by decide +kernel
theorem dX9_stands_69 : decode cX9_stands 69 = .ok (.goto (-67), 3) := by decide +kernel
theorem dX9_stands_72 : decode cX9_stands 72 = .ok (.return_, 1) := by decide +kernel
theorem dX9_searches_0 : decode cX9_searches 0 = .ok (.iconst 0, 1) := by decide +kernel
theorem dX9_searches_1 : decode cX9_searches 1 = .ok (.istore_n 1, 1) := by decide +kernel
theorem dX9_searches_2 : decode cX9_searches 2 = .ok (.iconst 0, 1) := by decide +kernel
theorem dX9_searches_3 : decode cX9_searches 3 = .ok (.istore_n 2, 1) := by decide +kernel
theorem dX9_searches_4 : decode cX9_searches 4 = .ok (.iload_n 2, 1) := by decide +kernel
theorem dX9_searches_5 : decode cX9_searches 5 = .ok (.bipush 12, 2) := by decide +kernel
theorem dX9_searches_7 : decode cX9_searches 7 = .ok (.if_icmp .ge 37, 3) := by decide +kernel
theorem dX9_searches_10 : decode cX9_searches 10 = .ok (.aload_n 0, 1) := by decide +kernel
theorem dX9_searches_11 : decode cX9_searches 11 = .ok (.iload_n 2, 1) := by decide +kernel
theorem dX9_searches_12 : decode cX9_searches 12 = .ok (.invokevirtual 63, 3) := by decide +kernel
theorem dX9_searches_15 : decode cX9_searches 15 = .ok (.iconst (-1), 1) := by decide +kernel
theorem dX9_searches_16 : decode cX9_searches 16 = .ok (.if_icmp .ne 6, 3) := by decide +kernel
theorem dX9_searches_19 : decode cX9_searches 19 = .ok (.goto 19, 3) := by decide +kernel
theorem dX9_searches_22 : decode cX9_searches 22 = .ok (.iload_n 1, 1) := by decide +kernel
theorem dX9_searches_23 : decode cX9_searches 23 = .ok (.bipush 7, 2) := by decide +kernel
theorem dX9_searches_25 : decode cX9_searches 25 = .ok (.if_icmp .ge 10, 3) := by decide +kernel
theorem dX9_searches_28 : decode cX9_searches 28 = .ok (.aload_n 0, 1) := by decide +kernel
theorem dX9_searches_29 : decode cX9_searches 29 = .ok (.getfield 41, 3) := by decide +kernel
theorem dX9_searches_32 : decode cX9_searches 32 = .ok (.iload_n 1, 1) := by decide +kernel
theorem dX9_searches_33 : decode cX9_searches 33 = .ok (.iload_n 2, 1) := by decide +kernel
theorem dX9_searches_34 : decode cX9_searches 34 = .ok (.iastore, 1) := by decide +kernel
theorem dX9_searches_35 : decode cX9_searches 35 = .ok (.iinc 1 1, 3) := by decide +kernel
theorem dX9_searches_38 : decode cX9_searches 38 = .ok (.iinc 2 1, 3) := by decide +kernel
theorem dX9_searches_41 : decode cX9_searches 41 = .ok (.goto (-37), 3) := by decide +kernel
theorem dX9_searches_44 : decode cX9_searches 44 = .ok (.iload_n 1, 1) := by decide +kernel
theorem dX9_searches_45 : decode cX9_searches 45 = .ok (.bipush 7, 2) := by decide +kernel
theorem dX9_searches_47 : decode cX9_searches 47 = .ok (.if_icmp .le 6, 3) := by decide +kernel
theorem dX9_searches_50 : decode cX9_searches 50 = .ok (.bipush (-4), 2) := by decide +kernel
theorem dX9_searches_52 : decode cX9_searches 52 = .ok (.ireturn, 1) := by decide +kernel
theorem dX9_searches_53 : decode cX9_searches 53 = .ok (.aload_n 0, 1) := by decide +kernel
theorem dX9_searches_54 : decode cX9_searches 54 = .ok (.iload_n 1, 1) := by decide +kernel
theorem dX9_searches_55 : decode cX9_searches 55 = .ok (.putfield 297, 3) := by decide +kernel
theorem dX9_searches_58 : decode cX9_searches 58 = .ok (.aload_n 0, 1) := by decide +kernel
theorem dX9_searches_59 : decode cX9_searches 59 = .ok (.getfield 19, 3) := by decide +kernel
theorem dX9_searches_62 : decode cX9_searches 62 = .ok (.aload_n 0, 1) := by decide +kernel
theorem dX9_searches_63 : decode cX9_searches 63 = .ok (.getfield 25, 3) := by decide +kernel
theorem dX9_searches_66 : decode cX9_searches 66 = .ok (.invokestatic 197, 3) := by decide +kernel
theorem dX9_searches_69 : decode cX9_searches 69 = .ok (.iconst 1, 1) := by decide +kernel
theorem dX9_searches_70 : decode cX9_searches 70 = .ok (.istore_n 2, 1) := by decide +kernel
theorem dX9_searches_71 : decode cX9_searches 71 = .ok (.iconst 0, 1) := by decide +kernel
theorem dX9_searches_72 : decode cX9_searches 72 = .ok (.istore_n 3, 1) := by decide +kernel
theorem dX9_searches_73 : decode cX9_searches 73 = .ok (.iload_n 3, 1) := by decide +kernel
theorem dX9_searches_74 : decode cX9_searches 74 = .ok (.aload_n 0, 1) := by decide +kernel
theorem dX9_searches_75 : decode cX9_searches 75 = .ok (.getfield 297, 3) := by decide +kernel
theorem dX9_searches_78 : decode cX9_searches 78 = .ok (.if_icmp .ge 16, 3) := by decide +kernel
theorem dX9_searches_81 : decode cX9_searches 81 = .ok (.iload_n 2, 1) := by decide +kernel
theorem dX9_searches_82 : decode cX9_searches 82 = .ok (.aload_n 0, 1) := by decide +kernel
theorem dX9_searches_83 : decode cX9_searches 83 = .ok (.getfield 297, 3) := by decide +kernel
theorem dX9_searches_86 : decode cX9_searches 86 = .ok (.imul, 1) := by decide +kernel
theorem dX9_searches_87 : decode cX9_searches 87 = .ok (.istore_n 2, 1) := by decide +kernel
theorem dX9_searches_88 : decode cX9_searches 88 = .ok (.iinc 3 1, 3) := by decide +kernel
theorem dX9_searches_91 : decode cX9_searches 91 = .ok (.goto (-18), 3) := by decide +kernel
theorem dX9_searches_94 : decode cX9_searches 94 = .ok (.aload_n 0, 1) := by decide +kernel
theorem dX9_searches_95 : decode cX9_searches 95 = .ok (.iconst (-1), 1) := by decide +kernel
theorem dX9_searches_96 : decode cX9_searches 96 = .ok (.putfield 300, 3) := by decide +kernel
theorem dX9_searches_99 : decode cX9_searches 99 = .ok (.iconst 0, 1) := by decide +kernel
theorem dX9_searches_100 : decode cX9_searches 100 = .ok (.istore_n 3, 1) := by decide +kernel
theorem dX9_searches_101 : decode cX9_searches 101 = .ok (.iload_n 3, 1) := by decide +kernel
theorem dX9_searches_102 : decode cX9_searches 102 = .ok (.iload_n 2, 1) := by decide +kernel
theorem dX9_searches_103 : decode cX9_searches 103 = .ok (.if_icmp .ge 81, 3) := by decide +kernel
theorem dX9_searches_106 : decode cX9_searches 106 = .ok (.aload_n 0, 1) := by decide +kernel
theorem dX9_searches_107 : decode cX9_searches 107 = .ok (.iload_n 3, 1) := by decide +kernel
theorem dX9_searches_108 : decode cX9_searches 108 = .ok (.invokevirtual 303, 3) := by decide +kernel
theorem dX9_searches_111 : decode cX9_searches 111 = .ok (.ifCond .ne 6, 3) := by decide +kernel
theorem dX9_searches_114 : decode cX9_searches 114 = .ok (.goto 64, 3) := by decide +kernel
theorem dX9_searches_117 : decode cX9_searches 117 = .ok (.aload_n 0, 1) := by decide +kernel
theorem dX9_searches_118 : decode cX9_searches 118 = .ok (.aload_n 0, 1) := by decide +kernel
theorem dX9_searches_119 : decode cX9_searches 119 = .ok (.getfield 44, 3) := by decide +kernel
theorem dX9_searches_122 : decode cX9_searches 122 = .ok (.invokevirtual 306, 3) := by decide +kernel
theorem dX9_searches_125 : decode cX9_searches 125 = .ok (.aload_n 0, 1) := by decide +kernel
theorem dX9_searches_126 : decode cX9_searches 126 = .ok (.invokevirtual 77, 3) := by decide +kernel
theorem dX9_searches_129 : decode cX9_searches 129 = .ok (.ifCond .ne 6, 3) := by decide +kernel
theorem dX9_searches_132 : decode cX9_searches 132 = .ok (.goto 46, 3) := by decide +kernel
theorem dX9_searches_135 : decode cX9_searches 135 = .ok (.aload_n 0, 1) := by decide +kernel
theorem dX9_searches_136 : decode cX9_searches 136 = .ok (.invokevirtual 269, 3) := by decide +kernel
theorem dX9_searches_139 : decode cX9_searches 139 = .ok (.istore 4, 2) := by decide +kernel
theorem dX9_searches_141 : decode cX9_searches 141 = .ok (.aload_n 0, 1) := by decide +kernel
theorem dX9_searches_142 : decode cX9_searches 142 = .ok (.getfield 300, 3) := by decide +kernel
theorem dX9_searches_145 : decode cX9_searches 145 = .ok (.iconst (-1), 1) := by decide +kernel
theorem dX9_searches_146 : decode cX9_searches 146 = .ok (.if_icmp .eq 15, 3) := by decide +kernel
theorem dX9_searches_149 : decode cX9_searches 149 = .ok (.iload 4, 2) := by decide +kernel
theorem dX9_searches_151 : decode cX9_searches 151 = .ok (.aload_n 0, 1) := by decide +kernel
theorem dX9_searches_152 : decode cX9_searches 152 = .ok (.getfield 300, 3) := by decide +kernel
theorem dX9_searches_155 : decode cX9_searches 155 = .ok (.if_icmp .lt 6, 3) := by decide +kernel
theorem dX9_searches_158 : decode cX9_searches 158 = .ok (.goto 20, 3) := by decide +kernel
theorem dX9_searches_161 : decode cX9_searches 161 = .ok (.aload_n 0, 1) := by decide +kernel
theorem dX9_searches_162 : decode cX9_searches 162 = .ok (.iload 4, 2) := by decide +kernel
theorem dX9_searches_164 : decode cX9_searches 164 = .ok (.putfield 300, 3) := by decide +kernel
theorem dX9_searches_167 : decode cX9_searches 167 = .ok (.aload_n 0, 1) := by decide +kernel
theorem dX9_searches_168 : decode cX9_searches 168 = .ok (.getfield 44, 3) := by decide +kernel
theorem dX9_searches_171 : decode cX9_searches 171 = .ok (.aload_n 0, 1) := by decide +kernel
theorem dX9_searches_172 : decode cX9_searches 172 = .ok (.getfield 47, 3) := by decide +kernel
theorem dX9_searches_175 : decode cX9_searches 175 = .ok (.invokestatic 197, 3) := by decide +kernel
theorem dX9_searches_178 : decode cX9_searches 178 = .ok (.iinc 3 1, 3) := by decide +kernel
theorem dX9_searches_181 : decode cX9_searches 181 = .ok (.goto (-80), 3) := by decide +kernel
theorem dX9_searches_184 : decode cX9_searches 184 = .ok (.aload_n 0, 1) := by decide +kernel
theorem dX9_searches_185 : decode cX9_searches 185 = .ok (.getfield 25, 3) := by decide +kernel
theorem dX9_searches_188 : decode cX9_searches 188 = .ok (.aload_n 0, 1) := by decide +kernel
theorem dX9_searches_189 : decode cX9_searches 189 = .ok (.getfield 19, 3) := by decide +kernel
theorem dX9_searches_192 : decode cX9_searches 192 = .ok (.invokestatic 197, 3) := by decide +kernel
theorem dX9_searches_195 : decode cX9_searches 195 = .ok (.aload_n 0, 1) := by decide +kernel
theorem dX9_searches_196 : decode cX9_searches 196 = .ok (.getfield 300, 3) := by decide +kernel
theorem dX9_searches_199 : decode cX9_searches 199 = .ok (.ireturn, 1) := by decide +kernel
theorem dX9_bestCost_0 : decode cX9_bestCost 0 = .ok (.aload_n 0, 1) := by decide +kernel
theorem dX9_bestCost_1 : decode cX9_bestCost 1 = .ok (.iconst 0, 1) := by decide +kernel
theorem dX9_bestCost_2 : decode cX9_bestCost 2 = .ok (.putfield 53, 3) := by decide +kernel
theorem dX9_bestCost_5 : decode cX9_bestCost 5 = .ok (.aload_n 0, 1) := by decide +kernel
theorem dX9_bestCost_6 : decode cX9_bestCost 6 = .ok (.invokevirtual 310, 3) := by decide +kernel
theorem dX9_bestCost_9 : decode cX9_bestCost 9 = .ok (.ireturn, 1) := by decide +kernel
theorem dX9_bestOrder_0 : decode cX9_bestOrder 0 = .ok (.aload_n 0, 1) := by decide +kernel
theorem dX9_bestOrder_1 : decode cX9_bestOrder 1 = .ok (.iconst 0, 1) := by decide +kernel
theorem dX9_bestOrder_2 : decode cX9_bestOrder 2 = .ok (.putfield 53, 3) := by decide +kernel
theorem dX9_bestOrder_5 : decode cX9_bestOrder 5 = .ok (.aload_n 0, 1) := by decide +kernel
theorem dX9_bestOrder_6 : decode cX9_bestOrder 6 = .ok (.invokevirtual 310, 3) := by decide +kernel
theorem dX9_bestOrder_9 : decode cX9_bestOrder 9 = .ok (.istore_n 2, 1) := by decide +kernel
theorem dX9_bestOrder_10 : decode cX9_bestOrder 10 = .ok (.iload_n 2, 1) := by decide +kernel
theorem dX9_bestOrder_11 : decode cX9_bestOrder 11 = .ok (.bipush (-4), 2) := by decide +kernel
theorem dX9_bestOrder_13 : decode cX9_bestOrder 13 = .ok (.if_icmp .ne 6, 3) := by decide +kernel
theorem dX9_bestOrder_16 : decode cX9_bestOrder 16 = .ok (.bipush (-4), 2) := by decide +kernel
theorem dX9_bestOrder_18 : decode cX9_bestOrder 18 = .ok (.ireturn, 1) := by decide +kernel
theorem dX9_bestOrder_19 : decode cX9_bestOrder 19 = .ok (.iload_n 2, 1) := by decide +kernel
theorem dX9_bestOrder_20 : decode cX9_bestOrder 20 = .ok (.iconst (-1), 1) := by decide +kernel
theorem dX9_bestOrder_21 : decode cX9_bestOrder 21 = .ok (.if_icmp .eq 29, 3) := by decide +kernel
theorem dX9_bestOrder_24 : decode cX9_bestOrder 24 = .ok (.iload_n 1, 1) := by decide +kernel
theorem dX9_bestOrder_25 : decode cX9_bestOrder 25 = .ok (.ifCond .lt 25, 3) := by decide +kernel
theorem dX9_bestOrder_28 : decode cX9_bestOrder 28 = .ok (.iload_n 1, 1) := by decide +kernel
theorem dX9_bestOrder_29 : decode cX9_bestOrder 29 = .ok (.aload_n 0, 1) := by decide +kernel
theorem dX9_bestOrder_30 : decode cX9_bestOrder 30 = .ok (.getfield 297, 3) := by decide +kernel
theorem dX9_bestOrder_33 : decode cX9_bestOrder 33 = .ok (.if_icmp .ge 17, 3) := by decide +kernel
theorem dX9_bestOrder_36 : decode cX9_bestOrder 36 = .ok (.aload_n 0, 1) := by decide +kernel
theorem dX9_bestOrder_37 : decode cX9_bestOrder 37 = .ok (.getfield 41, 3) := by decide +kernel
theorem dX9_bestOrder_40 : decode cX9_bestOrder 40 = .ok (.aload_n 0, 1) := by decide +kernel
theorem dX9_bestOrder_41 : decode cX9_bestOrder 41 = .ok (.getfield 47, 3) := by decide +kernel
theorem dX9_bestOrder_44 : decode cX9_bestOrder 44 = .ok (.iload_n 1, 1) := by decide +kernel
theorem dX9_bestOrder_45 : decode cX9_bestOrder 45 = .ok (.iaload, 1) := by decide +kernel
theorem dX9_bestOrder_46 : decode cX9_bestOrder 46 = .ok (.iaload, 1) := by decide +kernel
theorem dX9_bestOrder_47 : decode cX9_bestOrder 47 = .ok (.goto 4, 3) := by decide +kernel
theorem dX9_bestOrder_50 : decode cX9_bestOrder 50 = .ok (.iconst (-1), 1) := by decide +kernel
theorem dX9_bestOrder_51 : decode cX9_bestOrder 51 = .ok (.ireturn, 1) := by decide +kernel
theorem dX9_keeps_0 : decode cX9_keeps 0 = .ok (.aload_n 0, 1) := by decide +kernel
theorem dX9_keeps_1 : decode cX9_keeps 1 = .ok (.getfield 204, 3) := by decide +kernel
theorem dX9_keeps_4 : decode cX9_keeps 4 = .ok (.bipush 12, 2) := by decide +kernel
theorem dX9_keeps_6 : decode cX9_keeps 6 = .ok (.if_icmp .ne 44, 3) := by decide +kernel
theorem dX9_keeps_9 : decode cX9_keeps 9 = .ok (.bipush 18, 2) := by decide +kernel
theorem dX9_keeps_11 : decode cX9_keeps 11 = .ok (.istore_n 1, 1) := by decide +kernel
theorem dX9_keeps_12 : decode cX9_keeps 12 = .ok (.iload_n 1, 1) := by decide +kernel
theorem dX9_keeps_13 : decode cX9_keeps 13 = .ok (.sipush 216, 3) := by decide +kernel
theorem dX9_keeps_16 : decode cX9_keeps 16 = .ok (.if_icmp .ge 24, 3) := by decide +kernel
theorem dX9_keeps_19 : decode cX9_keeps 19 = .ok (.aload_n 0, 1) := by decide +kernel
theorem dX9_keeps_20 : decode cX9_keeps 20 = .ok (.getfield 28, 3) := by decide +kernel
theorem dX9_keeps_23 : decode cX9_keeps 23 = .ok (.iload_n 1, 1) := by decide +kernel
theorem dX9_keeps_24 : decode cX9_keeps 24 = .ok (.bipush 18, 2) := by decide +kernel
theorem dX9_keeps_26 : decode cX9_keeps 26 = .ok (.isub, 1) := by decide +kernel
theorem dX9_keeps_27 : decode cX9_keeps 27 = .ok (.aload_n 0, 1) := by decide +kernel
theorem dX9_keeps_28 : decode cX9_keeps 28 = .ok (.getfield 28, 3) := by decide +kernel
theorem dX9_keeps_31 : decode cX9_keeps 31 = .ok (.iload_n 1, 1) := by decide +kernel
theorem dX9_keeps_32 : decode cX9_keeps 32 = .ok (.iaload, 1) := by decide +kernel
theorem dX9_keeps_33 : decode cX9_keeps 33 = .ok (.iastore, 1) := by decide +kernel
theorem dX9_keeps_34 : decode cX9_keeps 34 = .ok (.iinc 1 1, 3) := by decide +kernel
theorem dX9_keeps_37 : decode cX9_keeps 37 = .ok (.goto (-25), 3) := by decide +kernel
theorem dX9_keeps_40 : decode cX9_keeps 40 = .ok (.aload_n 0, 1) := by decide +kernel
theorem dX9_keeps_41 : decode cX9_keeps 41 = .ok (.dup, 1) := by decide +kernel
theorem dX9_keeps_42 : decode cX9_keeps 42 = .ok (.getfield 204, 3) := by decide +kernel
theorem dX9_keeps_45 : decode cX9_keeps 45 = .ok (.iconst 1, 1) := by decide +kernel
theorem dX9_keeps_46 : decode cX9_keeps 46 = .ok (.isub, 1) := by decide +kernel
theorem dX9_keeps_47 : decode cX9_keeps 47 = .ok (.putfield 204, 3) := by decide +kernel
theorem dX9_keeps_50 : decode cX9_keeps 50 = .ok (.iconst 0, 1) := by decide +kernel
theorem dX9_keeps_51 : decode cX9_keeps 51 = .ok (.istore_n 1, 1) := by decide +kernel
theorem dX9_keeps_52 : decode cX9_keeps 52 = .ok (.iload_n 1, 1) := by decide +kernel
theorem dX9_keeps_53 : decode cX9_keeps 53 = .ok (.bipush 18, 2) := by decide +kernel
theorem dX9_keeps_55 : decode cX9_keeps 55 = .ok (.if_icmp .ge 29, 3) := by decide +kernel
theorem dX9_keeps_58 : decode cX9_keeps 58 = .ok (.aload_n 0, 1) := by decide +kernel
theorem dX9_keeps_59 : decode cX9_keeps 59 = .ok (.getfield 28, 3) := by decide +kernel
theorem dX9_keeps_62 : decode cX9_keeps 62 = .ok (.bipush 18, 2) := by decide +kernel
theorem dX9_keeps_64 : decode cX9_keeps 64 = .ok (.aload_n 0, 1) := by decide +kernel
theorem dX9_keeps_65 : decode cX9_keeps 65 = .ok (.getfield 204, 3) := by decide +kernel
theorem dX9_keeps_68 : decode cX9_keeps 68 = .ok (.imul, 1) := by decide +kernel
theorem dX9_keeps_69 : decode cX9_keeps 69 = .ok (.iload_n 1, 1) := by decide +kernel
theorem dX9_keeps_70 : decode cX9_keeps 70 = .ok (.iadd, 1) := by decide +kernel
theorem dX9_keeps_71 : decode cX9_keeps 71 = .ok (.aload_n 0, 1) := by decide +kernel
theorem dX9_keeps_72 : decode cX9_keeps 72 = .ok (.getfield 19, 3) := by decide +kernel
theorem dX9_keeps_75 : decode cX9_keeps 75 = .ok (.iload_n 1, 1) := by decide +kernel
theorem dX9_keeps_76 : decode cX9_keeps 76 = .ok (.iaload, 1) := by decide +kernel
theorem dX9_keeps_77 : decode cX9_keeps 77 = .ok (.iastore, 1) := by decide +kernel
theorem dX9_keeps_78 : decode cX9_keeps 78 = .ok (.iinc 1 1, 3) := by decide +kernel
theorem dX9_keeps_81 : decode cX9_keeps 81 = .ok (.goto (-29), 3) := by decide +kernel
theorem dX9_keeps_84 : decode cX9_keeps 84 = .ok (.aload_n 0, 1) := by decide +kernel
theorem dX9_keeps_85 : decode cX9_keeps 85 = .ok (.dup, 1) := by decide +kernel
theorem dX9_keeps_86 : decode cX9_keeps 86 = .ok (.getfield 204, 3) := by decide +kernel
theorem dX9_keeps_89 : decode cX9_keeps 89 = .ok (.iconst 1, 1) := by decide +kernel
theorem dX9_keeps_90 : decode cX9_keeps 90 = .ok (.iadd, 1) := by decide +kernel
theorem dX9_keeps_91 : decode cX9_keeps 91 = .ok (.putfield 204, 3) := by decide +kernel
theorem dX9_keeps_94 : decode cX9_keeps 94 = .ok (.return_, 1) := by decide +kernel
theorem dX9_undo_0 : decode cX9_undo 0 = .ok (.aload_n 0, 1) := by decide +kernel
theorem dX9_undo_1 : decode cX9_undo 1 = .ok (.iconst 0, 1) := by decide +kernel
theorem dX9_undo_2 : decode cX9_undo 2 = .ok (.putfield 53, 3) := by decide +kernel
theorem dX9_undo_5 : decode cX9_undo 5 = .ok (.aload_n 0, 1) := by decide +kernel
theorem dX9_undo_6 : decode cX9_undo 6 = .ok (.getfield 204, 3) := by decide +kernel
theorem dX9_undo_9 : decode cX9_undo 9 = .ok (.ifCond .ne 5, 3) := by decide +kernel
theorem dX9_undo_12 : decode cX9_undo 12 = .ok (.iconst (-1), 1) := by decide +kernel
theorem dX9_undo_13 : decode cX9_undo 13 = .ok (.ireturn, 1) := by decide +kernel
theorem dX9_undo_14 : decode cX9_undo 14 = .ok (.aload_n 0, 1) := by decide +kernel
theorem dX9_undo_15 : decode cX9_undo 15 = .ok (.dup, 1) := by decide +kernel
theorem dX9_undo_16 : decode cX9_undo 16 = .ok (.getfield 204, 3) := by decide +kernel
theorem dX9_undo_19 : decode cX9_undo 19 = .ok (.iconst 1, 1) := by decide +kernel
theorem dX9_undo_20 : decode cX9_undo 20 = .ok (.isub, 1) := by decide +kernel
theorem dX9_undo_21 : decode cX9_undo 21 = .ok (.putfield 204, 3) := by decide +kernel
theorem dX9_undo_24 : decode cX9_undo 24 = .ok (.iconst 0, 1) := by decide +kernel
theorem dX9_undo_25 : decode cX9_undo 25 = .ok (.istore_n 1, 1) := by decide +kernel
theorem dX9_undo_26 : decode cX9_undo 26 = .ok (.iload_n 1, 1) := by decide +kernel
theorem dX9_undo_27 : decode cX9_undo 27 = .ok (.bipush 18, 2) := by decide +kernel
theorem dX9_undo_29 : decode cX9_undo 29 = .ok (.if_icmp .ge 29, 3) := by decide +kernel
theorem dX9_undo_32 : decode cX9_undo 32 = .ok (.aload_n 0, 1) := by decide +kernel
theorem dX9_undo_33 : decode cX9_undo 33 = .ok (.getfield 19, 3) := by decide +kernel
theorem dX9_undo_36 : decode cX9_undo 36 = .ok (.iload_n 1, 1) := by decide +kernel
theorem dX9_undo_37 : decode cX9_undo 37 = .ok (.aload_n 0, 1) := by decide +kernel
theorem dX9_undo_38 : decode cX9_undo 38 = .ok (.getfield 28, 3) := by decide +kernel
theorem dX9_undo_41 : decode cX9_undo 41 = .ok (.bipush 18, 2) := by decide +kernel
theorem dX9_undo_43 : decode cX9_undo 43 = .ok (.aload_n 0, 1) := by decide +kernel
theorem dX9_undo_44 : decode cX9_undo 44 = .ok (.getfield 204, 3) := by decide +kernel
theorem dX9_undo_47 : decode cX9_undo 47 = .ok (.imul, 1) := by decide +kernel
theorem dX9_undo_48 : decode cX9_undo 48 = .ok (.iload_n 1, 1) := by decide +kernel
theorem dX9_undo_49 : decode cX9_undo 49 = .ok (.iadd, 1) := by decide +kernel
theorem dX9_undo_50 : decode cX9_undo 50 = .ok (.iaload, 1) := by decide +kernel
theorem dX9_undo_51 : decode cX9_undo 51 = .ok (.iastore, 1) := by decide +kernel
theorem dX9_undo_52 : decode cX9_undo 52 = .ok (.iinc 1 1, 3) := by decide +kernel
theorem dX9_undo_55 : decode cX9_undo 55 = .ok (.goto (-29), 3) := by decide +kernel
theorem dX9_undo_58 : decode cX9_undo 58 = .ok (.aload_n 0, 1) := by decide +kernel
theorem dX9_undo_59 : decode cX9_undo 59 = .ok (.getfield 204, 3) := by decide +kernel
theorem dX9_undo_62 : decode cX9_undo 62 = .ok (.ireturn, 1) := by decide +kernel
theorem dX9_put_0 : decode cX9_put 0 = .ok (.aload_n 0, 1) := by decide +kernel
theorem dX9_put_1 : decode cX9_put 1 = .ok (.iconst 0, 1) := by decide +kernel
theorem dX9_put_2 : decode cX9_put 2 = .ok (.putfield 53, 3) := by decide +kernel
theorem dX9_put_5 : decode cX9_put 5 = .ok (.aload_n 0, 1) := by decide +kernel
theorem dX9_put_6 : decode cX9_put 6 = .ok (.iload_n 1, 1) := by decide +kernel
theorem dX9_put_7 : decode cX9_put 7 = .ok (.invokevirtual 217, 3) := by decide +kernel
theorem dX9_put_10 : decode cX9_put 10 = .ok (.ifCond .ne 5, 3) := by decide +kernel
theorem dX9_put_13 : decode cX9_put 13 = .ok (.iconst (-1), 1) := by decide +kernel
theorem dX9_put_14 : decode cX9_put 14 = .ok (.ireturn, 1) := by decide +kernel
theorem dX9_put_15 : decode cX9_put 15 = .ok (.iload_n 2, 1) := by decide +kernel
theorem dX9_put_16 : decode cX9_put 16 = .ok (.invokestatic 220, 3) := by decide +kernel
theorem dX9_put_19 : decode cX9_put 19 = .ok (.ifCond .ne 6, 3) := by decide +kernel
theorem dX9_put_22 : decode cX9_put 22 = .ok (.bipush (-2), 2) := by decide +kernel
theorem dX9_put_24 : decode cX9_put 24 = .ok (.ireturn, 1) := by decide +kernel
theorem dX9_put_25 : decode cX9_put 25 = .ok (.aload_n 0, 1) := by decide +kernel
theorem dX9_put_26 : decode cX9_put 26 = .ok (.iload_n 1, 1) := by decide +kernel
theorem dX9_put_27 : decode cX9_put 27 = .ok (.iload_n 2, 1) := by decide +kernel
theorem dX9_put_28 : decode cX9_put 28 = .ok (.invokevirtual 176, 3) := by decide +kernel
theorem dX9_put_31 : decode cX9_put 31 = .ok (.ifCond .eq 6, 3) := by decide +kernel
theorem dX9_put_34 : decode cX9_put 34 = .ok (.bipush (-5), 2) := by decide +kernel
theorem dX9_put_36 : decode cX9_put 36 = .ok (.ireturn, 1) := by decide +kernel
theorem dX9_put_37 : decode cX9_put 37 = .ok (.aload_n 0, 1) := by decide +kernel
theorem dX9_put_38 : decode cX9_put 38 = .ok (.invokevirtual 313, 3) := by decide +kernel
theorem dX9_put_41 : decode cX9_put 41 = .ok (.aload_n 0, 1) := by decide +kernel
theorem dX9_put_42 : decode cX9_put 42 = .ok (.getfield 19, 3) := by decide +kernel
theorem dX9_put_45 : decode cX9_put 45 = .ok (.iconst 4, 1) := by decide +kernel
theorem dX9_put_46 : decode cX9_put 46 = .ok (.iload_n 1, 1) := by decide +kernel
theorem dX9_put_47 : decode cX9_put 47 = .ok (.iadd, 1) := by decide +kernel
theorem dX9_put_48 : decode cX9_put 48 = .ok (.iload_n 2, 1) := by decide +kernel
theorem dX9_put_49 : decode cX9_put 49 = .ok (.iastore, 1) := by decide +kernel
theorem dX9_put_50 : decode cX9_put 50 = .ok (.aload_n 0, 1) := by decide +kernel
theorem dX9_put_51 : decode cX9_put 51 = .ok (.invokevirtual 269, 3) := by decide +kernel
theorem dX9_put_54 : decode cX9_put 54 = .ok (.ireturn, 1) := by decide +kernel
theorem dX9_take_0 : decode cX9_take 0 = .ok (.aload_n 0, 1) := by decide +kernel
theorem dX9_take_1 : decode cX9_take 1 = .ok (.iconst 0, 1) := by decide +kernel
theorem dX9_take_2 : decode cX9_take 2 = .ok (.putfield 53, 3) := by decide +kernel
theorem dX9_take_5 : decode cX9_take 5 = .ok (.aload_n 0, 1) := by decide +kernel
theorem dX9_take_6 : decode cX9_take 6 = .ok (.iload_n 1, 1) := by decide +kernel
theorem dX9_take_7 : decode cX9_take 7 = .ok (.invokevirtual 217, 3) := by decide +kernel
theorem dX9_take_10 : decode cX9_take 10 = .ok (.ifCond .eq 15, 3) := by decide +kernel
theorem dX9_take_13 : decode cX9_take 13 = .ok (.aload_n 0, 1) := by decide +kernel
theorem dX9_take_14 : decode cX9_take 14 = .ok (.getfield 19, 3) := by decide +kernel
theorem dX9_take_17 : decode cX9_take 17 = .ok (.iconst 4, 1) := by decide +kernel
theorem dX9_take_18 : decode cX9_take 18 = .ok (.iload_n 1, 1) := by decide +kernel
theorem dX9_take_19 : decode cX9_take 19 = .ok (.iadd, 1) := by decide +kernel
theorem dX9_take_20 : decode cX9_take 20 = .ok (.iaload, 1) := by decide +kernel
theorem dX9_take_21 : decode cX9_take 21 = .ok (.iconst (-1), 1) := by decide +kernel
theorem dX9_take_22 : decode cX9_take 22 = .ok (.if_icmp .ne 5, 3) := by decide +kernel
theorem dX9_take_25 : decode cX9_take 25 = .ok (.iconst (-1), 1) := by decide +kernel
theorem dX9_take_26 : decode cX9_take 26 = .ok (.ireturn, 1) := by decide +kernel
theorem dX9_take_27 : decode cX9_take 27 = .ok (.aload_n 0, 1) := by decide +kernel
theorem dX9_take_28 : decode cX9_take 28 = .ok (.invokevirtual 313, 3) := by decide +kernel
theorem dX9_take_31 : decode cX9_take 31 = .ok (.aload_n 0, 1) := by decide +kernel
theorem dX9_take_32 : decode cX9_take 32 = .ok (.getfield 19, 3) := by decide +kernel
theorem dX9_take_35 : decode cX9_take 35 = .ok (.iconst 4, 1) := by decide +kernel
theorem dX9_take_36 : decode cX9_take 36 = .ok (.iload_n 1, 1) := by decide +kernel
theorem dX9_take_37 : decode cX9_take 37 = .ok (.iadd, 1) := by decide +kernel
theorem dX9_take_38 : decode cX9_take 38 = .ok (.iconst (-1), 1) := by decide +kernel
theorem dX9_take_39 : decode cX9_take 39 = .ok (.iastore, 1) := by decide +kernel
theorem dX9_take_40 : decode cX9_take 40 = .ok (.aload_n 0, 1) := by decide +kernel
theorem dX9_take_41 : decode cX9_take 41 = .ok (.invokevirtual 269, 3) := by decide +kernel
theorem dX9_take_44 : decode cX9_take 44 = .ok (.ireturn, 1) := by decide +kernel
theorem dX9_exchanges_0 : decode cX9_exchanges 0 = .ok (.iconst 0, 1) := by decide +kernel
theorem dX9_exchanges_1 : decode cX9_exchanges 1 = .ok (.istore_n 3, 1) := by decide +kernel
theorem dX9_exchanges_2 : decode cX9_exchanges 2 = .ok (.iload_n 3, 1) := by decide +kernel
theorem dX9_exchanges_3 : decode cX9_exchanges 3 = .ok (.aload_n 0, 1) := by decide +kernel
theorem dX9_exchanges_4 : decode cX9_exchanges 4 = .ok (.getfield 13, 3) := by decide +kernel
theorem dX9_exchanges_7 : decode cX9_exchanges 7 = .ok (.bipush 82, 2) := by decide +kernel
theorem dX9_exchanges_9 : decode cX9_exchanges 9 = .ok (.iaload, 1) := by decide +kernel
theorem dX9_exchanges_10 : decode cX9_exchanges 10 = .ok (.if_icmp .ge 49, 3) := by decide +kernel
theorem dX9_exchanges_13 : decode cX9_exchanges 13 = .ok (.aload_n 0, 1) := by decide +kernel
theorem dX9_exchanges_14 : decode cX9_exchanges 14 = .ok (.getfield 19, 3) := by decide +kernel
theorem dX9_exchanges_17 : decode cX9_exchanges 17 = .ok (.iconst 4, 1) := by decide +kernel
theorem dX9_exchanges_18 : decode cX9_exchanges 18 = .ok (.iload_n 3, 1) := by decide +kernel
theorem dX9_exchanges_19 : decode cX9_exchanges 19 = .ok (.iadd, 1) := by decide +kernel
theorem dX9_exchanges_20 : decode cX9_exchanges 20 = .ok (.iaload, 1) := by decide +kernel
theorem dX9_exchanges_21 : decode cX9_exchanges 21 = .ok (.istore 4, 2) := by decide +kernel
theorem dX9_exchanges_23 : decode cX9_exchanges 23 = .ok (.aload_n 0, 1) := by decide +kernel
theorem dX9_exchanges_24 : decode cX9_exchanges 24 = .ok (.getfield 19, 3) := by decide +kernel
theorem dX9_exchanges_27 : decode cX9_exchanges 27 = .ok (.iconst 4, 1) := by decide +kernel
theorem dX9_exchanges_28 : decode cX9_exchanges 28 = .ok (.iload_n 3, 1) := by decide +kernel
theorem dX9_exchanges_29 : decode cX9_exchanges 29 = .ok (.iadd, 1) := by decide +kernel
theorem dX9_exchanges_30 : decode cX9_exchanges 30 = .ok (.iload 4, 2) := by decide +kernel
theorem dX9_exchanges_32 : decode cX9_exchanges 32 = .ok (.iload_n 1, 1) := by decide +kernel
theorem dX9_exchanges_33 : decode cX9_exchanges 33 = .ok (.if_icmp .ne 7, 3) := by decide +kernel
theorem dX9_exchanges_36 : decode cX9_exchanges 36 = .ok (.iload_n 2, 1) := by decide +kernel
theorem dX9_exchanges_37 : decode cX9_exchanges 37 = .ok (.goto 15, 3) := by decide +kernel
theorem dX9_exchanges_40 : decode cX9_exchanges 40 = .ok (.iload 4, 2) := by decide +kernel
theorem dX9_exchanges_42 : decode cX9_exchanges 42 = .ok (.iload_n 2, 1) := by decide +kernel
theorem dX9_exchanges_43 : decode cX9_exchanges 43 = .ok (.if_icmp .ne 7, 3) := by decide +kernel
theorem dX9_exchanges_46 : decode cX9_exchanges 46 = .ok (.iload_n 1, 1) := by decide +kernel
theorem dX9_exchanges_47 : decode cX9_exchanges 47 = .ok (.goto 5, 3) := by decide +kernel
theorem dX9_exchanges_50 : decode cX9_exchanges 50 = .ok (.iload 4, 2) := by decide +kernel
theorem dX9_exchanges_52 : decode cX9_exchanges 52 = .ok (.iastore, 1) := by decide +kernel
theorem dX9_exchanges_53 : decode cX9_exchanges 53 = .ok (.iinc 3 1, 3) := by decide +kernel
theorem dX9_exchanges_56 : decode cX9_exchanges 56 = .ok (.goto (-54), 3) := by decide +kernel
theorem dX9_exchanges_59 : decode cX9_exchanges 59 = .ok (.return_, 1) := by decide +kernel
theorem dX9_exchange_0 : decode cX9_exchange 0 = .ok (.aload_n 0, 1) := by decide +kernel
theorem dX9_exchange_1 : decode cX9_exchange 1 = .ok (.iconst 0, 1) := by decide +kernel
theorem dX9_exchange_2 : decode cX9_exchange 2 = .ok (.putfield 53, 3) := by decide +kernel
theorem dX9_exchange_5 : decode cX9_exchange 5 = .ok (.iload_n 1, 1) := by decide +kernel
theorem dX9_exchange_6 : decode cX9_exchange 6 = .ok (.invokestatic 220, 3) := by decide +kernel
theorem dX9_exchange_9 : decode cX9_exchange 9 = .ok (.ifCond .eq 10, 3) := by decide +kernel
theorem dX9_exchange_12 : decode cX9_exchange 12 = .ok (.iload_n 2, 1) := by decide +kernel
theorem dX9_exchange_13 : decode cX9_exchange 13 = .ok (.invokestatic 220, 3) := by decide +kernel
theorem dX9_exchange_16 : decode cX9_exchange 16 = .ok (.ifCond .ne 6, 3) := by decide +kernel
theorem dX9_exchange_19 : decode cX9_exchange 19 = .ok (.bipush (-2), 2) := by decide +kernel
theorem dX9_exchange_21 : decode cX9_exchange 21 = .ok (.ireturn, 1) := by decide +kernel
theorem dX9_exchange_22 : decode cX9_exchange 22 = .ok (.aload_n 0, 1) := by decide +kernel
theorem dX9_exchange_23 : decode cX9_exchange 23 = .ok (.iload_n 1, 1) := by decide +kernel
theorem dX9_exchange_24 : decode cX9_exchange 24 = .ok (.iload_n 2, 1) := by decide +kernel
theorem dX9_exchange_25 : decode cX9_exchange 25 = .ok (.invokevirtual 316, 3) := by decide +kernel
theorem dX9_exchange_28 : decode cX9_exchange 28 = .ok (.aload_n 0, 1) := by decide +kernel
theorem dX9_exchange_29 : decode cX9_exchange 29 = .ok (.invokevirtual 77, 3) := by decide +kernel
theorem dX9_exchange_32 : decode cX9_exchange 32 = .ok (.istore_n 3, 1) := by decide +kernel
theorem dX9_exchange_33 : decode cX9_exchange 33 = .ok (.aload_n 0, 1) := by decide +kernel
theorem dX9_exchange_34 : decode cX9_exchange 34 = .ok (.iload_n 1, 1) := by decide +kernel
theorem dX9_exchange_35 : decode cX9_exchange 35 = .ok (.iload_n 2, 1) := by decide +kernel
theorem dX9_exchange_36 : decode cX9_exchange 36 = .ok (.invokevirtual 316, 3) := by decide +kernel
theorem dX9_exchange_39 : decode cX9_exchange 39 = .ok (.iload_n 3, 1) := by decide +kernel
theorem dX9_exchange_40 : decode cX9_exchange 40 = .ok (.ifCond .ne 6, 3) := by decide +kernel
theorem dX9_exchange_43 : decode cX9_exchange 43 = .ok (.bipush (-5), 2) := by decide +kernel
theorem dX9_exchange_45 : decode cX9_exchange 45 = .ok (.ireturn, 1) := by decide +kernel
theorem dX9_exchange_46 : decode cX9_exchange 46 = .ok (.aload_n 0, 1) := by decide +kernel
theorem dX9_exchange_47 : decode cX9_exchange 47 = .ok (.invokevirtual 313, 3) := by decide +kernel
theorem dX9_exchange_50 : decode cX9_exchange 50 = .ok (.aload_n 0, 1) := by decide +kernel
theorem dX9_exchange_51 : decode cX9_exchange 51 = .ok (.iload_n 1, 1) := by decide +kernel
theorem dX9_exchange_52 : decode cX9_exchange 52 = .ok (.iload_n 2, 1) := by decide +kernel
theorem dX9_exchange_53 : decode cX9_exchange 53 = .ok (.invokevirtual 316, 3) := by decide +kernel
theorem dX9_exchange_56 : decode cX9_exchange 56 = .ok (.aload_n 0, 1) := by decide +kernel
theorem dX9_exchange_57 : decode cX9_exchange 57 = .ok (.invokevirtual 269, 3) := by decide +kernel
theorem dX9_exchange_60 : decode cX9_exchange 60 = .ok (.ireturn, 1) := by decide +kernel
theorem dX9_fill_0 : decode cX9_fill 0 = .ok (.aload_n 0, 1) := by decide +kernel
theorem dX9_fill_1 : decode cX9_fill 1 = .ok (.iconst 0, 1) := by decide +kernel
theorem dX9_fill_2 : decode cX9_fill 2 = .ok (.putfield 53, 3) := by decide +kernel
theorem dX9_fill_5 : decode cX9_fill 5 = .ok (.aload_n 0, 1) := by decide +kernel
theorem dX9_fill_6 : decode cX9_fill 6 = .ok (.getfield 19, 3) := by decide +kernel
theorem dX9_fill_9 : decode cX9_fill 9 = .ok (.aload_n 0, 1) := by decide +kernel
theorem dX9_fill_10 : decode cX9_fill 10 = .ok (.getfield 25, 3) := by decide +kernel
theorem dX9_fill_13 : decode cX9_fill 13 = .ok (.invokestatic 197, 3) := by decide +kernel
theorem dX9_fill_16 : decode cX9_fill 16 = .ok (.iconst 0, 1) := by decide +kernel
theorem dX9_fill_17 : decode cX9_fill 17 = .ok (.istore_n 1, 1) := by decide +kernel
theorem dX9_fill_18 : decode cX9_fill 18 = .ok (.iconst 0, 1) := by decide +kernel
theorem dX9_fill_19 : decode cX9_fill 19 = .ok (.istore_n 2, 1) := by decide +kernel
theorem dX9_fill_20 : decode cX9_fill 20 = .ok (.iload_n 2, 1) := by decide +kernel
theorem dX9_fill_21 : decode cX9_fill 21 = .ok (.aload_n 0, 1) := by decide +kernel
theorem dX9_fill_22 : decode cX9_fill 22 = .ok (.getfield 13, 3) := by decide +kernel
theorem dX9_fill_25 : decode cX9_fill 25 = .ok (.bipush 82, 2) := by decide +kernel
theorem dX9_fill_27 : decode cX9_fill 27 = .ok (.iaload, 1) := by decide +kernel
theorem dX9_fill_28 : decode cX9_fill 28 = .ok (.if_icmp .ge 56, 3) := by decide +kernel
theorem dX9_fill_31 : decode cX9_fill 31 = .ok (.iconst 0, 1) := by decide +kernel
theorem dX9_fill_32 : decode cX9_fill 32 = .ok (.istore_n 3, 1) := by decide +kernel
theorem dX9_fill_33 : decode cX9_fill 33 = .ok (.iload_n 3, 1) := by decide +kernel
theorem dX9_fill_34 : decode cX9_fill 34 = .ok (.bipush 12, 2) := by decide +kernel
theorem dX9_fill_36 : decode cX9_fill 36 = .ok (.if_icmp .ge 42, 3) := by decide +kernel
theorem dX9_fill_39 : decode cX9_fill 39 = .ok (.aload_n 0, 1) := by decide +kernel
theorem dX9_fill_40 : decode cX9_fill 40 = .ok (.getfield 19, 3) := by decide +kernel
theorem dX9_fill_43 : decode cX9_fill 43 = .ok (.iconst 4, 1) := by decide +kernel
theorem dX9_fill_44 : decode cX9_fill 44 = .ok (.iload_n 2, 1) := by decide +kernel
theorem dX9_fill_45 : decode cX9_fill 45 = .ok (.iadd, 1) := by decide +kernel
theorem dX9_fill_46 : decode cX9_fill 46 = .ok (.iaload, 1) := by decide +kernel
theorem dX9_fill_47 : decode cX9_fill 47 = .ok (.iconst (-1), 1) := by decide +kernel
theorem dX9_fill_48 : decode cX9_fill 48 = .ok (.if_icmp .ne 30, 3) := by decide +kernel
theorem dX9_fill_51 : decode cX9_fill 51 = .ok (.aload_n 0, 1) := by decide +kernel
theorem dX9_fill_52 : decode cX9_fill 52 = .ok (.iload_n 2, 1) := by decide +kernel
theorem dX9_fill_53 : decode cX9_fill 53 = .ok (.iload_n 3, 1) := by decide +kernel
theorem dX9_fill_54 : decode cX9_fill 54 = .ok (.invokevirtual 176, 3) := by decide +kernel
theorem dX9_fill_57 : decode cX9_fill 57 = .ok (.ifCond .ne 15, 3) := by decide +kernel
theorem dX9_fill_60 : decode cX9_fill 60 = .ok (.aload_n 0, 1) := by decide +kernel
theorem dX9_fill_61 : decode cX9_fill 61 = .ok (.getfield 19, 3) := by decide +kernel
theorem dX9_fill_64 : decode cX9_fill 64 = .ok (.iconst 4, 1) := by decide +kernel
theorem dX9_fill_65 : decode cX9_fill 65 = .ok (.iload_n 2, 1) := by decide +kernel
theorem dX9_fill_66 : decode cX9_fill 66 = .ok (.iadd, 1) := by decide +kernel
theorem dX9_fill_67 : decode cX9_fill 67 = .ok (.iload_n 3, 1) := by decide +kernel
theorem dX9_fill_68 : decode cX9_fill 68 = .ok (.iastore, 1) := by decide +kernel
theorem dX9_fill_69 : decode cX9_fill 69 = .ok (.iinc 1 1, 3) := by decide +kernel
theorem dX9_fill_72 : decode cX9_fill 72 = .ok (.iinc 3 1, 3) := by decide +kernel
theorem dX9_fill_75 : decode cX9_fill 75 = .ok (.goto (-42), 3) := by decide +kernel
theorem dX9_fill_78 : decode cX9_fill 78 = .ok (.iinc 2 1, 3) := by decide +kernel
theorem dX9_fill_81 : decode cX9_fill 81 = .ok (.goto (-61), 3) := by decide +kernel
theorem dX9_fill_84 : decode cX9_fill 84 = .ok (.iload_n 1, 1) := by decide +kernel
theorem dX9_fill_85 : decode cX9_fill 85 = .ok (.ifCond .ne 5, 3) := by decide +kernel
theorem dX9_fill_88 : decode cX9_fill 88 = .ok (.iconst 0, 1) := by decide +kernel
theorem dX9_fill_89 : decode cX9_fill 89 = .ok (.ireturn, 1) := by decide +kernel
theorem dX9_fill_90 : decode cX9_fill 90 = .ok (.aload_n 0, 1) := by decide +kernel
theorem dX9_fill_91 : decode cX9_fill 91 = .ok (.getfield 19, 3) := by decide +kernel
theorem dX9_fill_94 : decode cX9_fill 94 = .ok (.aload_n 0, 1) := by decide +kernel
theorem dX9_fill_95 : decode cX9_fill 95 = .ok (.getfield 22, 3) := by decide +kernel
theorem dX9_fill_98 : decode cX9_fill 98 = .ok (.invokestatic 197, 3) := by decide +kernel
theorem dX9_fill_101 : decode cX9_fill 101 = .ok (.aload_n 0, 1) := by decide +kernel
theorem dX9_fill_102 : decode cX9_fill 102 = .ok (.getfield 25, 3) := by decide +kernel
theorem dX9_fill_105 : decode cX9_fill 105 = .ok (.aload_n 0, 1) := by decide +kernel
theorem dX9_fill_106 : decode cX9_fill 106 = .ok (.getfield 19, 3) := by decide +kernel
theorem dX9_fill_109 : decode cX9_fill 109 = .ok (.invokestatic 197, 3) := by decide +kernel
theorem dX9_fill_112 : decode cX9_fill 112 = .ok (.aload_n 0, 1) := by decide +kernel
theorem dX9_fill_113 : decode cX9_fill 113 = .ok (.invokevirtual 313, 3) := by decide +kernel
theorem dX9_fill_116 : decode cX9_fill 116 = .ok (.aload_n 0, 1) := by decide +kernel
theorem dX9_fill_117 : decode cX9_fill 117 = .ok (.getfield 22, 3) := by decide +kernel
theorem dX9_fill_120 : decode cX9_fill 120 = .ok (.aload_n 0, 1) := by decide +kernel
theorem dX9_fill_121 : decode cX9_fill 121 = .ok (.getfield 19, 3) := by decide +kernel
theorem dX9_fill_124 : decode cX9_fill 124 = .ok (.invokestatic 197, 3) := by decide +kernel
theorem dX9_fill_127 : decode cX9_fill 127 = .ok (.iload_n 1, 1) := by decide +kernel
theorem dX9_fill_128 : decode cX9_fill 128 = .ok (.ireturn, 1) := by decide +kernel
theorem dX9_useBestOrder_0 : decode cX9_useBestOrder 0 = .ok (.aload_n 0, 1) := by decide +kernel
theorem dX9_useBestOrder_1 : decode cX9_useBestOrder 1 = .ok (.iconst 0, 1) := by decide +kernel
theorem dX9_useBestOrder_2 : decode cX9_useBestOrder 2 = .ok (.putfield 53, 3) := by decide +kernel
theorem dX9_useBestOrder_5 : decode cX9_useBestOrder 5 = .ok (.aload_n 0, 1) := by decide +kernel
theorem dX9_useBestOrder_6 : decode cX9_useBestOrder 6 = .ok (.invokevirtual 310, 3) := by decide +kernel
theorem dX9_useBestOrder_9 : decode cX9_useBestOrder 9 = .ok (.istore_n 1, 1) := by decide +kernel
theorem dX9_useBestOrder_10 : decode cX9_useBestOrder 10 = .ok (.iload_n 1, 1) := by decide +kernel
theorem dX9_useBestOrder_11 : decode cX9_useBestOrder 11 = .ok (.ifCond .ge 5, 3) := by decide +kernel
theorem dX9_useBestOrder_14 : decode cX9_useBestOrder 14 = .ok (.iload_n 1, 1) := by decide +kernel
theorem dX9_useBestOrder_15 : decode cX9_useBestOrder 15 = .ok (.ireturn, 1) := by decide +kernel
theorem dX9_useBestOrder_16 : decode cX9_useBestOrder 16 = .ok (.aload_n 0, 1) := by decide +kernel
theorem dX9_useBestOrder_17 : decode cX9_useBestOrder 17 = .ok (.invokevirtual 313, 3) := by decide +kernel
theorem dX9_useBestOrder_20 : decode cX9_useBestOrder 20 = .ok (.aload_n 0, 1) := by decide +kernel
theorem dX9_useBestOrder_21 : decode cX9_useBestOrder 21 = .ok (.getfield 19, 3) := by decide +kernel
theorem dX9_useBestOrder_24 : decode cX9_useBestOrder 24 = .ok (.aload_n 0, 1) := by decide +kernel
theorem dX9_useBestOrder_25 : decode cX9_useBestOrder 25 = .ok (.getfield 25, 3) := by decide +kernel
theorem dX9_useBestOrder_28 : decode cX9_useBestOrder 28 = .ok (.invokestatic 197, 3) := by decide +kernel
theorem dX9_useBestOrder_31 : decode cX9_useBestOrder 31 = .ok (.aload_n 0, 1) := by decide +kernel
theorem dX9_useBestOrder_32 : decode cX9_useBestOrder 32 = .ok (.aload_n 0, 1) := by decide +kernel
theorem dX9_useBestOrder_33 : decode cX9_useBestOrder 33 = .ok (.getfield 47, 3) := by decide +kernel
theorem dX9_useBestOrder_36 : decode cX9_useBestOrder 36 = .ok (.invokevirtual 306, 3) := by decide +kernel
theorem dX9_useBestOrder_39 : decode cX9_useBestOrder 39 = .ok (.iload_n 1, 1) := by decide +kernel
theorem dX9_useBestOrder_40 : decode cX9_useBestOrder 40 = .ok (.ireturn, 1) := by decide +kernel
theorem dX9_setSetting_0 : decode cX9_setSetting 0 = .ok (.aload_n 0, 1) := by decide +kernel
theorem dX9_setSetting_1 : decode cX9_setSetting 1 = .ok (.iconst 0, 1) := by decide +kernel
theorem dX9_setSetting_2 : decode cX9_setSetting 2 = .ok (.putfield 53, 3) := by decide +kernel
theorem dX9_setSetting_5 : decode cX9_setSetting 5 = .ok (.iload_n 1, 1) := by decide +kernel
theorem dX9_setSetting_6 : decode cX9_setSetting 6 = .ok (.invokestatic 207, 3) := by decide +kernel
theorem dX9_setSetting_9 : decode cX9_setSetting 9 = .ok (.ifCond .eq 19, 3) := by decide +kernel
theorem dX9_setSetting_12 : decode cX9_setSetting 12 = .ok (.iload_n 2, 1) := by decide +kernel
theorem dX9_setSetting_13 : decode cX9_setSetting 13 = .ok (.iload_n 1, 1) := by decide +kernel
theorem dX9_setSetting_14 : decode cX9_setSetting 14 = .ok (.invokestatic 170, 3) := by decide +kernel
theorem dX9_setSetting_17 : decode cX9_setSetting 17 = .ok (.if_icmp .lt 11, 3) := by decide +kernel
theorem dX9_setSetting_20 : decode cX9_setSetting 20 = .ok (.iload_n 2, 1) := by decide +kernel
theorem dX9_setSetting_21 : decode cX9_setSetting 21 = .ok (.iload_n 1, 1) := by decide +kernel
theorem dX9_setSetting_22 : decode cX9_setSetting 22 = .ok (.invokestatic 173, 3) := by decide +kernel
theorem dX9_setSetting_25 : decode cX9_setSetting 25 = .ok (.if_icmp .le 6, 3) := by decide +kernel
theorem dX9_setSetting_28 : decode cX9_setSetting 28 = .ok (.bipush (-2), 2) := by decide +kernel
theorem dX9_setSetting_30 : decode cX9_setSetting 30 = .ok (.ireturn, 1) := by decide +kernel
theorem dX9_setSetting_31 : decode cX9_setSetting 31 = .ok (.iconst 0, 1) := by decide +kernel
theorem dX9_setSetting_32 : decode cX9_setSetting 32 = .ok (.istore_n 3, 1) := by decide +kernel
theorem dX9_setSetting_33 : decode cX9_setSetting 33 = .ok (.iload_n 3, 1) := by decide +kernel
theorem dX9_setSetting_34 : decode cX9_setSetting 34 = .ok (.bipush 12, 2) := by decide +kernel
theorem dX9_setSetting_36 : decode cX9_setSetting 36 = .ok (.if_icmp .ge 25, 3) := by decide +kernel
theorem dX9_setSetting_39 : decode cX9_setSetting 39 = .ok (.iload_n 1, 1) := by decide +kernel
theorem dX9_setSetting_40 : decode cX9_setSetting 40 = .ok (.ifCond .ne 15, 3) := by decide +kernel
theorem dX9_setSetting_43 : decode cX9_setSetting 43 = .ok (.aload_n 0, 1) := by decide +kernel
theorem dX9_setSetting_44 : decode cX9_setSetting 44 = .ok (.iload_n 3, 1) := by decide +kernel
theorem dX9_setSetting_45 : decode cX9_setSetting 45 = .ok (.invokevirtual 74, 3) := by decide +kernel
theorem dX9_setSetting_48 : decode cX9_setSetting 48 = .ok (.iload_n 2, 1) := by decide +kernel
theorem dX9_setSetting_49 : decode cX9_setSetting 49 = .ok (.if_icmp .le 6, 3) := by decide +kernel
theorem dX9_setSetting_52 : decode cX9_setSetting 52 = .ok (.bipush (-5), 2) := by decide +kernel
theorem dX9_setSetting_54 : decode cX9_setSetting 54 = .ok (.ireturn, 1) := by decide +kernel
theorem dX9_setSetting_55 : decode cX9_setSetting 55 = .ok (.iinc 3 1, 3) := by decide +kernel
theorem dX9_setSetting_58 : decode cX9_setSetting 58 = .ok (.goto (-25), 3) := by decide +kernel
theorem dX9_setSetting_61 : decode cX9_setSetting 61 = .ok (.aload_n 0, 1) := by decide +kernel
theorem dX9_setSetting_62 : decode cX9_setSetting 62 = .ok (.invokevirtual 313, 3) := by decide +kernel
theorem dX9_setSetting_65 : decode cX9_setSetting 65 = .ok (.aload_n 0, 1) := by decide +kernel
theorem dX9_setSetting_66 : decode cX9_setSetting 66 = .ok (.getfield 19, 3) := by decide +kernel
theorem dX9_setSetting_69 : decode cX9_setSetting 69 = .ok (.iconst 0, 1) := by decide +kernel
theorem dX9_setSetting_70 : decode cX9_setSetting 70 = .ok (.iload_n 1, 1) := by decide +kernel
theorem dX9_setSetting_71 : decode cX9_setSetting 71 = .ok (.iadd, 1) := by decide +kernel
theorem dX9_setSetting_72 : decode cX9_setSetting 72 = .ok (.iaload, 1) := by decide +kernel
theorem dX9_setSetting_73 : decode cX9_setSetting 73 = .ok (.istore_n 3, 1) := by decide +kernel
theorem dX9_setSetting_74 : decode cX9_setSetting 74 = .ok (.aload_n 0, 1) := by decide +kernel
theorem dX9_setSetting_75 : decode cX9_setSetting 75 = .ok (.getfield 19, 3) := by decide +kernel
theorem dX9_setSetting_78 : decode cX9_setSetting 78 = .ok (.iconst 0, 1) := by decide +kernel
theorem dX9_setSetting_79 : decode cX9_setSetting 79 = .ok (.iload_n 1, 1) := by decide +kernel
theorem dX9_setSetting_80 : decode cX9_setSetting 80 = .ok (.iadd, 1) := by decide +kernel
theorem dX9_setSetting_81 : decode cX9_setSetting 81 = .ok (.iload_n 2, 1) := by decide +kernel
theorem dX9_setSetting_82 : decode cX9_setSetting 82 = .ok (.iastore, 1) := by decide +kernel
theorem dX9_setSetting_83 : decode cX9_setSetting 83 = .ok (.iload_n 3, 1) := by decide +kernel
theorem dX9_setSetting_84 : decode cX9_setSetting 84 = .ok (.ireturn, 1) := by decide +kernel
