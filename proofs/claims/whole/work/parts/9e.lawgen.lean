/-! ===== the helpers of the law: words, rows, trees ===== -/
theorem q_987 : Cond.methodLink "FilmScheduleLaw" 7 ⟨"FilmSchedule", "locationProperty", "(II)I"⟩ ∈ fs_tb := fs_in 987 (by decide +kernel) rfl
theorem q_1062 : Cond.methodLink "FilmScheduleLaw" 15 ⟨"FilmSchedule", "feeOf", "(I)I"⟩ ∈ fs_tb := fs_in 1062 (by decide +kernel) rfl
theorem q_1069 : Cond.methodLink "FilmScheduleLaw" 19 ⟨"FilmSchedule", "sceneProperty", "(II)I"⟩ ∈ fs_tb := fs_in 1069 (by decide +kernel) rfl
theorem q_1076 : Cond.methodLink "FilmScheduleLaw" 22 ⟨"FilmSchedule", "dayOf", "(I)I"⟩ ∈ fs_tb := fs_in 1076 (by decide +kernel) rfl
theorem q_1083 : Cond.methodLink "FilmScheduleLaw" 25 ⟨"FilmSchedule", "scenesOn", "(I)I"⟩ ∈ fs_tb := fs_in 1083 (by decide +kernel) rfl
theorem q_1090 : Cond.methodLink "FilmScheduleLaw" 28 ⟨"FilmSchedule", "locationOn", "(I)I"⟩ ∈ fs_tb := fs_in 1090 (by decide +kernel) rfl
theorem q_1097 : Cond.methodLink "FilmScheduleLaw" 31 ⟨"FilmSchedule", "isNight", "(I)Z"⟩ ∈ fs_tb := fs_in 1097 (by decide +kernel) rfl
theorem q_1104 : Cond.methodLink "FilmScheduleLaw" 35 ⟨"FilmSchedule", "lengthOn", "(I)I"⟩ ∈ fs_tb := fs_in 1104 (by decide +kernel) rfl
theorem q_1111 : Cond.methodLink "FilmScheduleLaw" 38 ⟨"FilmSchedule", "castOn", "(I)I"⟩ ∈ fs_tb := fs_in 1111 (by decide +kernel) rfl
theorem q_1118 : Cond.methodLink "FilmScheduleLaw" 41 ⟨"FilmSchedule", "statusOf", "(II)I"⟩ ∈ fs_tb := fs_in 1118 (by decide +kernel) rfl
theorem q_1129 : Cond.methodLink "FilmScheduleLaw" 44 ⟨"FilmSchedule", "firstDay", "(I)I"⟩ ∈ fs_tb := fs_in 1129 (by decide +kernel) rfl
theorem q_1137 : Cond.methodLink "FilmScheduleLaw" 47 ⟨"FilmSchedule", "lastDay", "(I)I"⟩ ∈ fs_tb := fs_in 1137 (by decide +kernel) rfl
theorem q_1147 : Cond.methodLink "FilmScheduleLaw" 50 ⟨"FilmSchedule", "daysWith", "(II)I"⟩ ∈ fs_tb := fs_in 1147 (by decide +kernel) rfl
theorem q_1156 : Cond.methodLink "FilmScheduleLaw" 53 ⟨"FilmSchedule", "actorCost", "(I)I"⟩ ∈ fs_tb := fs_in 1156 (by decide +kernel) rfl
theorem q_1164 : Cond.methodLink "FilmScheduleLaw" 56 ⟨"FilmSchedule", "reasonFor", "(II)I"⟩ ∈ fs_tb := fs_in 1164 (by decide +kernel) rfl
theorem q_1171 : Cond.methodLink "FilmScheduleLaw" 59 ⟨"FilmSchedule", "daysFor", "(I)I"⟩ ∈ fs_tb := fs_in 1171 (by decide +kernel) rfl
theorem q_1178 : Cond.methodLink "FilmScheduleLaw" 62 ⟨"FilmSchedule", "costWith", "(II)I"⟩ ∈ fs_tb := fs_in 1178 (by decide +kernel) rfl
theorem q_1185 : Cond.methodLink "FilmScheduleLaw" 65 ⟨"FilmSchedule", "bestDay", "(I)I"⟩ ∈ fs_tb := fs_in 1185 (by decide +kernel) rfl
theorem q_1192 : Cond.methodLink "FilmScheduleLaw" 68 ⟨"FilmSchedule", "waitingFor", "(IZ)I"⟩ ∈ fs_tb := fs_in 1192 (by decide +kernel) rfl
theorem dL_locationProperty_0 : decode cL_locationProperty 0 = .ok (.aload_n 3, 1) := by decide +kernel
theorem dL_locationProperty_1 : decode cL_locationProperty 1 = .ok (.iconst 0, 1) := by decide +kernel
theorem dL_locationProperty_2 : decode cL_locationProperty 2 = .ok (.aload_n 0, 1) := by decide +kernel
theorem dL_locationProperty_3 : decode cL_locationProperty 3 = .ok (.iload_n 1, 1) := by decide +kernel
theorem dL_locationProperty_4 : decode cL_locationProperty 4 = .ok (.iload_n 2, 1) := by decide +kernel
theorem dL_locationProperty_5 : decode cL_locationProperty 5 = .ok (.invokevirtual 7, 3) := by decide +kernel
theorem dL_locationProperty_8 : decode cL_locationProperty 8 = .ok (.i2l, 1) := by decide +kernel
theorem dL_locationProperty_9 : decode cL_locationProperty 9 = .ok (.lastore, 1) := by decide +kernel
theorem dL_locationProperty_10 : decode cL_locationProperty 10 = .ok (.goto 7, 3) := by decide +kernel
theorem dL_locationProperty_13 : decode cL_locationProperty 13 = .ok (.astore 4, 2) := by decide +kernel
theorem dL_locationProperty_15 : decode cL_locationProperty 15 = .ok (.iconst 1, 1) := by decide +kernel
theorem dL_locationProperty_16 : decode cL_locationProperty 16 = .ok (.ireturn, 1) := by decide +kernel
theorem dL_locationProperty_17 : decode cL_locationProperty 17 = .ok (.iconst 0, 1) := by decide +kernel
theorem dL_locationProperty_18 : decode cL_locationProperty 18 = .ok (.ireturn, 1) := by decide +kernel
theorem dL_feeOf_0 : decode cL_feeOf 0 = .ok (.aload_n 2, 1) := by decide +kernel
theorem dL_feeOf_1 : decode cL_feeOf 1 = .ok (.iconst 0, 1) := by decide +kernel
theorem dL_feeOf_2 : decode cL_feeOf 2 = .ok (.aload_n 0, 1) := by decide +kernel
theorem dL_feeOf_3 : decode cL_feeOf 3 = .ok (.iload_n 1, 1) := by decide +kernel
theorem dL_feeOf_4 : decode cL_feeOf 4 = .ok (.invokevirtual 15, 3) := by decide +kernel
theorem dL_feeOf_7 : decode cL_feeOf 7 = .ok (.i2l, 1) := by decide +kernel
theorem dL_feeOf_8 : decode cL_feeOf 8 = .ok (.lastore, 1) := by decide +kernel
theorem dL_feeOf_9 : decode cL_feeOf 9 = .ok (.goto 6, 3) := by decide +kernel
theorem dL_feeOf_12 : decode cL_feeOf 12 = .ok (.astore_n 3, 1) := by decide +kernel
theorem dL_feeOf_13 : decode cL_feeOf 13 = .ok (.iconst 1, 1) := by decide +kernel
theorem dL_feeOf_14 : decode cL_feeOf 14 = .ok (.ireturn, 1) := by decide +kernel
theorem dL_feeOf_15 : decode cL_feeOf 15 = .ok (.iconst 0, 1) := by decide +kernel
theorem dL_feeOf_16 : decode cL_feeOf 16 = .ok (.ireturn, 1) := by decide +kernel
theorem dL_sceneProperty_0 : decode cL_sceneProperty 0 = .ok (.aload_n 3, 1) := by decide +kernel
theorem dL_sceneProperty_1 : decode cL_sceneProperty 1 = .ok (.iconst 0, 1) := by decide +kernel
theorem dL_sceneProperty_2 : decode cL_sceneProperty 2 = .ok (.aload_n 0, 1) := by decide +kernel
theorem dL_sceneProperty_3 : decode cL_sceneProperty 3 = .ok (.iload_n 1, 1) := by decide +kernel
theorem dL_sceneProperty_4 : decode cL_sceneProperty 4 = .ok (.iload_n 2, 1) := by decide +kernel
theorem dL_sceneProperty_5 : decode cL_sceneProperty 5 = .ok (.invokevirtual 19, 3) := by decide +kernel
theorem dL_sceneProperty_8 : decode cL_sceneProperty 8 = .ok (.i2l, 1) := by decide +kernel
theorem dL_sceneProperty_9 : decode cL_sceneProperty 9 = .ok (.lastore, 1) := by decide +kernel
theorem dL_sceneProperty_10 : decode cL_sceneProperty 10 = .ok (.goto 7, 3) := by decide +kernel
theorem dL_sceneProperty_13 : decode cL_sceneProperty 13 = .ok (.astore 4, 2) := by decide +kernel
theorem dL_sceneProperty_15 : decode cL_sceneProperty 15 = .ok (.iconst 1, 1) := by decide +kernel
theorem dL_sceneProperty_16 : decode cL_sceneProperty 16 = .ok (.ireturn, 1) := by decide +kernel
theorem dL_sceneProperty_17 : decode cL_sceneProperty 17 = .ok (.iconst 0, 1) := by decide +kernel
theorem dL_sceneProperty_18 : decode cL_sceneProperty 18 = .ok (.ireturn, 1) := by decide +kernel
theorem dL_dayOf_0 : decode cL_dayOf 0 = .ok (.aload_n 2, 1) := by decide +kernel
theorem dL_dayOf_1 : decode cL_dayOf 1 = .ok (.iconst 0, 1) := by decide +kernel
theorem dL_dayOf_2 : decode cL_dayOf 2 = .ok (.aload_n 0, 1) := by decide +kernel
theorem dL_dayOf_3 : decode cL_dayOf 3 = .ok (.iload_n 1, 1) := by decide +kernel
theorem dL_dayOf_4 : decode cL_dayOf 4 = .ok (.invokevirtual 22, 3) := by decide +kernel
theorem dL_dayOf_7 : decode cL_dayOf 7 = .ok (.i2l, 1) := by decide +kernel
theorem dL_dayOf_8 : decode cL_dayOf 8 = .ok (.lastore, 1) := by decide +kernel
theorem dL_dayOf_9 : decode cL_dayOf 9 = .ok (.goto 6, 3) := by decide +kernel
theorem dL_dayOf_12 : decode cL_dayOf 12 = .ok (.astore_n 3, 1) := by decide +kernel
theorem dL_dayOf_13 : decode cL_dayOf 13 = .ok (.iconst 1, 1) := by decide +kernel
theorem dL_dayOf_14 : decode cL_dayOf 14 = .ok (.ireturn, 1) := by decide +kernel
theorem dL_dayOf_15 : decode cL_dayOf 15 = .ok (.iconst 0, 1) := by decide +kernel
theorem dL_dayOf_16 : decode cL_dayOf 16 = .ok (.ireturn, 1) := by decide +kernel
theorem dL_scenesOn_0 : decode cL_scenesOn 0 = .ok (.aload_n 2, 1) := by decide +kernel
theorem dL_scenesOn_1 : decode cL_scenesOn 1 = .ok (.iconst 0, 1) := by decide +kernel
theorem dL_scenesOn_2 : decode cL_scenesOn 2 = .ok (.aload_n 0, 1) := by decide +kernel
theorem dL_scenesOn_3 : decode cL_scenesOn 3 = .ok (.iload_n 1, 1) := by decide +kernel
theorem dL_scenesOn_4 : decode cL_scenesOn 4 = .ok (.invokevirtual 25, 3) := by decide +kernel
theorem dL_scenesOn_7 : decode cL_scenesOn 7 = .ok (.i2l, 1) := by decide +kernel
theorem dL_scenesOn_8 : decode cL_scenesOn 8 = .ok (.lastore, 1) := by decide +kernel
theorem dL_scenesOn_9 : decode cL_scenesOn 9 = .ok (.goto 6, 3) := by decide +kernel
theorem dL_scenesOn_12 : decode cL_scenesOn 12 = .ok (.astore_n 3, 1) := by decide +kernel
theorem dL_scenesOn_13 : decode cL_scenesOn 13 = .ok (.iconst 1, 1) := by decide +kernel
theorem dL_scenesOn_14 : decode cL_scenesOn 14 = .ok (.ireturn, 1) := by decide +kernel
theorem dL_scenesOn_15 : decode cL_scenesOn 15 = .ok (.iconst 0, 1) := by decide +kernel
theorem dL_scenesOn_16 : decode cL_scenesOn 16 = .ok (.ireturn, 1) := by decide +kernel
theorem dL_locationOn_0 : decode cL_locationOn 0 = .ok (.aload_n 2, 1) := by decide +kernel
theorem dL_locationOn_1 : decode cL_locationOn 1 = .ok (.iconst 0, 1) := by decide +kernel
theorem dL_locationOn_2 : decode cL_locationOn 2 = .ok (.aload_n 0, 1) := by decide +kernel
theorem dL_locationOn_3 : decode cL_locationOn 3 = .ok (.iload_n 1, 1) := by decide +kernel
theorem dL_locationOn_4 : decode cL_locationOn 4 = .ok (.invokevirtual 28, 3) := by decide +kernel
theorem dL_locationOn_7 : decode cL_locationOn 7 = .ok (.i2l, 1) := by decide +kernel
theorem dL_locationOn_8 : decode cL_locationOn 8 = .ok (.lastore, 1) := by decide +kernel
theorem dL_locationOn_9 : decode cL_locationOn 9 = .ok (.goto 6, 3) := by decide +kernel
theorem dL_locationOn_12 : decode cL_locationOn 12 = .ok (.astore_n 3, 1) := by decide +kernel
theorem dL_locationOn_13 : decode cL_locationOn 13 = .ok (.iconst 1, 1) := by decide +kernel
theorem dL_locationOn_14 : decode cL_locationOn 14 = .ok (.ireturn, 1) := by decide +kernel
theorem dL_locationOn_15 : decode cL_locationOn 15 = .ok (.iconst 0, 1) := by decide +kernel
theorem dL_locationOn_16 : decode cL_locationOn 16 = .ok (.ireturn, 1) := by decide +kernel
theorem dL_isNight_0 : decode cL_isNight 0 = .ok (.aload_n 2, 1) := by decide +kernel
theorem dL_isNight_1 : decode cL_isNight 1 = .ok (.iconst 0, 1) := by decide +kernel
theorem dL_isNight_2 : decode cL_isNight 2 = .ok (.aload_n 0, 1) := by decide +kernel
theorem dL_isNight_3 : decode cL_isNight 3 = .ok (.iload_n 1, 1) := by decide +kernel
theorem dL_isNight_4 : decode cL_isNight 4 = .ok (.invokevirtual 31, 3) := by decide +kernel
theorem dL_isNight_7 : decode cL_isNight 7 = .ok (.ifCond .eq 7, 3) := by decide +kernel
theorem dL_isNight_10 : decode cL_isNight 10 = .ok (.lconst 1, 1) := by decide +kernel
theorem dL_isNight_11 : decode cL_isNight 11 = .ok (.goto 4, 3) := by decide +kernel
theorem dL_isNight_14 : decode cL_isNight 14 = .ok (.lconst 0, 1) := by decide +kernel
theorem dL_isNight_15 : decode cL_isNight 15 = .ok (.lastore, 1) := by decide +kernel
theorem dL_isNight_16 : decode cL_isNight 16 = .ok (.goto 6, 3) := by decide +kernel
theorem dL_isNight_19 : decode cL_isNight 19 = .ok (.astore_n 3, 1) := by decide +kernel
theorem dL_isNight_20 : decode cL_isNight 20 = .ok (.iconst 1, 1) := by decide +kernel
theorem dL_isNight_21 : decode cL_isNight 21 = .ok (.ireturn, 1) := by decide +kernel
theorem dL_isNight_22 : decode cL_isNight 22 = .ok (.iconst 0, 1) := by decide +kernel
theorem dL_isNight_23 : decode cL_isNight 23 = .ok (.ireturn, 1) := by decide +kernel
theorem dL_lengthOn_0 : decode cL_lengthOn 0 = .ok (.aload_n 2, 1) := by decide +kernel
theorem dL_lengthOn_1 : decode cL_lengthOn 1 = .ok (.iconst 0, 1) := by decide +kernel
theorem dL_lengthOn_2 : decode cL_lengthOn 2 = .ok (.aload_n 0, 1) := by decide +kernel
theorem dL_lengthOn_3 : decode cL_lengthOn 3 = .ok (.iload_n 1, 1) := by decide +kernel
theorem dL_lengthOn_4 : decode cL_lengthOn 4 = .ok (.invokevirtual 35, 3) := by decide +kernel
theorem dL_lengthOn_7 : decode cL_lengthOn 7 = .ok (.i2l, 1) := by decide +kernel
theorem dL_lengthOn_8 : decode cL_lengthOn 8 = .ok (.lastore, 1) := by decide +kernel
theorem dL_lengthOn_9 : decode cL_lengthOn 9 = .ok (.goto 6, 3) := by decide +kernel
theorem dL_lengthOn_12 : decode cL_lengthOn 12 = .ok (.astore_n 3, 1) := by decide +kernel
theorem dL_lengthOn_13 : decode cL_lengthOn 13 = .ok (.iconst 1, 1) := by decide +kernel
theorem dL_lengthOn_14 : decode cL_lengthOn 14 = .ok (.ireturn, 1) := by decide +kernel
theorem dL_lengthOn_15 : decode cL_lengthOn 15 = .ok (.iconst 0, 1) := by decide +kernel
theorem dL_lengthOn_16 : decode cL_lengthOn 16 = .ok (.ireturn, 1) := by decide +kernel
theorem dL_castOn_0 : decode cL_castOn 0 = .ok (.aload_n 2, 1) := by decide +kernel
theorem dL_castOn_1 : decode cL_castOn 1 = .ok (.iconst 0, 1) := by decide +kernel
theorem dL_castOn_2 : decode cL_castOn 2 = .ok (.aload_n 0, 1) := by decide +kernel
theorem dL_castOn_3 : decode cL_castOn 3 = .ok (.iload_n 1, 1) := by decide +kernel
theorem dL_castOn_4 : decode cL_castOn 4 = .ok (.invokevirtual 38, 3) := by decide +kernel
theorem dL_castOn_7 : decode cL_castOn 7 = .ok (.i2l, 1) := by decide +kernel
theorem dL_castOn_8 : decode cL_castOn 8 = .ok (.lastore, 1) := by decide +kernel
theorem dL_castOn_9 : decode cL_castOn 9 = .ok (.goto 6, 3) := by decide +kernel
theorem dL_castOn_12 : decode cL_castOn 12 = .ok (.astore_n 3, 1) := by decide +kernel
theorem dL_castOn_13 : decode cL_castOn 13 = .ok (.iconst 1, 1) := by decide +kernel
theorem dL_castOn_14 : decode cL_castOn 14 = .ok (.ireturn, 1) := by decide +kernel
theorem dL_castOn_15 : decode cL_castOn 15 = .ok (.iconst 0, 1) := by decide +kernel
theorem dL_castOn_16 : decode cL_castOn 16 = .ok (.ireturn, 1) := by decide +kernel
theorem dL_statusOf_0 : decode cL_statusOf 0 = .ok (.aload_n 3, 1) := by decide +kernel
theorem dL_statusOf_1 : decode cL_statusOf 1 = .ok (.iconst 0, 1) := by decide +kernel
theorem dL_statusOf_2 : decode cL_statusOf 2 = .ok (.aload_n 0, 1) := by decide +kernel
theorem dL_statusOf_3 : decode cL_statusOf 3 = .ok (.iload_n 1, 1) := by decide +kernel
theorem dL_statusOf_4 : decode cL_statusOf 4 = .ok (.iload_n 2, 1) := by decide +kernel
theorem dL_statusOf_5 : decode cL_statusOf 5 = .ok (.invokevirtual 41, 3) := by decide +kernel
theorem dL_statusOf_8 : decode cL_statusOf 8 = .ok (.i2l, 1) := by decide +kernel
theorem dL_statusOf_9 : decode cL_statusOf 9 = .ok (.lastore, 1) := by decide +kernel
theorem dL_statusOf_10 : decode cL_statusOf 10 = .ok (.goto 7, 3) := by decide +kernel
theorem dL_statusOf_13 : decode cL_statusOf 13 = .ok (.astore 4, 2) := by decide +kernel
theorem dL_statusOf_15 : decode cL_statusOf 15 = .ok (.iconst 1, 1) := by decide +kernel
theorem dL_statusOf_16 : decode cL_statusOf 16 = .ok (.ireturn, 1) := by decide +kernel
theorem dL_statusOf_17 : decode cL_statusOf 17 = .ok (.iconst 0, 1) := by decide +kernel
theorem dL_statusOf_18 : decode cL_statusOf 18 = .ok (.ireturn, 1) := by decide +kernel
theorem dL_firstDay_0 : decode cL_firstDay 0 = .ok (.aload_n 2, 1) := by decide +kernel
theorem dL_firstDay_1 : decode cL_firstDay 1 = .ok (.iconst 0, 1) := by decide +kernel
theorem dL_firstDay_2 : decode cL_firstDay 2 = .ok (.aload_n 0, 1) := by decide +kernel
theorem dL_firstDay_3 : decode cL_firstDay 3 = .ok (.iload_n 1, 1) := by decide +kernel
theorem dL_firstDay_4 : decode cL_firstDay 4 = .ok (.invokevirtual 44, 3) := by decide +kernel
theorem dL_firstDay_7 : decode cL_firstDay 7 = .ok (.i2l, 1) := by decide +kernel
theorem dL_firstDay_8 : decode cL_firstDay 8 = .ok (.lastore, 1) := by decide +kernel
theorem dL_firstDay_9 : decode cL_firstDay 9 = .ok (.goto 6, 3) := by decide +kernel
theorem dL_firstDay_12 : decode cL_firstDay 12 = .ok (.astore_n 3, 1) := by decide +kernel
theorem dL_firstDay_13 : decode cL_firstDay 13 = .ok (.iconst 1, 1) := by decide +kernel
theorem dL_firstDay_14 : decode cL_firstDay 14 = .ok (.ireturn, 1) := by decide +kernel
theorem dL_firstDay_15 : decode cL_firstDay 15 = .ok (.iconst 0, 1) := by decide +kernel
theorem dL_firstDay_16 : decode cL_firstDay 16 = .ok (.ireturn, 1) := by decide +kernel
theorem dL_lastDay_0 : decode cL_lastDay 0 = .ok (.aload_n 2, 1) := by decide +kernel
theorem dL_lastDay_1 : decode cL_lastDay 1 = .ok (.iconst 0, 1) := by decide +kernel
theorem dL_lastDay_2 : decode cL_lastDay 2 = .ok (.aload_n 0, 1) := by decide +kernel
theorem dL_lastDay_3 : decode cL_lastDay 3 = .ok (.iload_n 1, 1) := by decide +kernel
theorem dL_lastDay_4 : decode cL_lastDay 4 = .ok (.invokevirtual 47, 3) := by decide +kernel
theorem dL_lastDay_7 : decode cL_lastDay 7 = .ok (.i2l, 1) := by decide +kernel
theorem dL_lastDay_8 : decode cL_lastDay 8 = .ok (.lastore, 1) := by decide +kernel
theorem dL_lastDay_9 : decode cL_lastDay 9 = .ok (.goto 6, 3) := by decide +kernel
theorem dL_lastDay_12 : decode cL_lastDay 12 = .ok (.astore_n 3, 1) := by decide +kernel
theorem dL_lastDay_13 : decode cL_lastDay 13 = .ok (.iconst 1, 1) := by decide +kernel
theorem dL_lastDay_14 : decode cL_lastDay 14 = .ok (.ireturn, 1) := by decide +kernel
theorem dL_lastDay_15 : decode cL_lastDay 15 = .ok (.iconst 0, 1) := by decide +kernel
theorem dL_lastDay_16 : decode cL_lastDay 16 = .ok (.ireturn, 1) := by decide +kernel
theorem dL_daysWith_0 : decode cL_daysWith 0 = .ok (.aload_n 3, 1) := by decide +kernel
theorem dL_daysWith_1 : decode cL_daysWith 1 = .ok (.iconst 0, 1) := by decide +kernel
theorem dL_daysWith_2 : decode cL_daysWith 2 = .ok (.aload_n 0, 1) := by decide +kernel
theorem dL_daysWith_3 : decode cL_daysWith 3 = .ok (.iload_n 1, 1) := by decide +kernel
theorem dL_daysWith_4 : decode cL_daysWith 4 = .ok (.iload_n 2, 1) := by decide +kernel
theorem dL_daysWith_5 : decode cL_daysWith 5 = .ok (.invokevirtual 50, 3) := by decide +kernel
theorem dL_daysWith_8 : decode cL_daysWith 8 = .ok (.i2l, 1) := by decide +kernel
theorem dL_daysWith_9 : decode cL_daysWith 9 = .ok (.lastore, 1) := by decide +kernel
theorem dL_daysWith_10 : decode cL_daysWith 10 = .ok (.goto 7, 3) := by decide +kernel
theorem dL_daysWith_13 : decode cL_daysWith 13 = .ok (.astore 4, 2) := by decide +kernel
theorem dL_daysWith_15 : decode cL_daysWith 15 = .ok (.iconst 1, 1) := by decide +kernel
theorem dL_daysWith_16 : decode cL_daysWith 16 = .ok (.ireturn, 1) := by decide +kernel
theorem dL_daysWith_17 : decode cL_daysWith 17 = .ok (.iconst 0, 1) := by decide +kernel
theorem dL_daysWith_18 : decode cL_daysWith 18 = .ok (.ireturn, 1) := by decide +kernel
theorem dL_actorCost_0 : decode cL_actorCost 0 = .ok (.aload_n 2, 1) := by decide +kernel
theorem dL_actorCost_1 : decode cL_actorCost 1 = .ok (.iconst 0, 1) := by decide +kernel
theorem dL_actorCost_2 : decode cL_actorCost 2 = .ok (.aload_n 0, 1) := by decide +kernel
theorem dL_actorCost_3 : decode cL_actorCost 3 = .ok (.iload_n 1, 1) := by decide +kernel
theorem dL_actorCost_4 : decode cL_actorCost 4 = .ok (.invokevirtual 53, 3) := by decide +kernel
theorem dL_actorCost_7 : decode cL_actorCost 7 = .ok (.i2l, 1) := by decide +kernel
theorem dL_actorCost_8 : decode cL_actorCost 8 = .ok (.lastore, 1) := by decide +kernel
theorem dL_actorCost_9 : decode cL_actorCost 9 = .ok (.goto 6, 3) := by decide +kernel
theorem dL_actorCost_12 : decode cL_actorCost 12 = .ok (.astore_n 3, 1) := by decide +kernel
theorem dL_actorCost_13 : decode cL_actorCost 13 = .ok (.iconst 1, 1) := by decide +kernel
theorem dL_actorCost_14 : decode cL_actorCost 14 = .ok (.ireturn, 1) := by decide +kernel
theorem dL_actorCost_15 : decode cL_actorCost 15 = .ok (.iconst 0, 1) := by decide +kernel
theorem dL_actorCost_16 : decode cL_actorCost 16 = .ok (.ireturn, 1) := by decide +kernel
theorem dL_reasonFor_0 : decode cL_reasonFor 0 = .ok (.aload_n 3, 1) := by decide +kernel
theorem dL_reasonFor_1 : decode cL_reasonFor 1 = .ok (.iconst 0, 1) := by decide +kernel
theorem dL_reasonFor_2 : decode cL_reasonFor 2 = .ok (.aload_n 0, 1) := by decide +kernel
theorem dL_reasonFor_3 : decode cL_reasonFor 3 = .ok (.iload_n 1, 1) := by decide +kernel
theorem dL_reasonFor_4 : decode cL_reasonFor 4 = .ok (.iload_n 2, 1) := by decide +kernel
theorem dL_reasonFor_5 : decode cL_reasonFor 5 = .ok (.invokevirtual 56, 3) := by decide +kernel
theorem dL_reasonFor_8 : decode cL_reasonFor 8 = .ok (.i2l, 1) := by decide +kernel
theorem dL_reasonFor_9 : decode cL_reasonFor 9 = .ok (.lastore, 1) := by decide +kernel
theorem dL_reasonFor_10 : decode cL_reasonFor 10 = .ok (.goto 7, 3) := by decide +kernel
theorem dL_reasonFor_13 : decode cL_reasonFor 13 = .ok (.astore 4, 2) := by decide +kernel
theorem dL_reasonFor_15 : decode cL_reasonFor 15 = .ok (.iconst 1, 1) := by decide +kernel
theorem dL_reasonFor_16 : decode cL_reasonFor 16 = .ok (.ireturn, 1) := by decide +kernel
theorem dL_reasonFor_17 : decode cL_reasonFor 17 = .ok (.iconst 0, 1) := by decide +kernel
theorem dL_reasonFor_18 : decode cL_reasonFor 18 = .ok (.ireturn, 1) := by decide +kernel
theorem dL_daysFor_0 : decode cL_daysFor 0 = .ok (.aload_n 2, 1) := by decide +kernel
theorem dL_daysFor_1 : decode cL_daysFor 1 = .ok (.iconst 0, 1) := by decide +kernel
theorem dL_daysFor_2 : decode cL_daysFor 2 = .ok (.aload_n 0, 1) := by decide +kernel
theorem dL_daysFor_3 : decode cL_daysFor 3 = .ok (.iload_n 1, 1) := by decide +kernel
theorem dL_daysFor_4 : decode cL_daysFor 4 = .ok (.invokevirtual 59, 3) := by decide +kernel
theorem dL_daysFor_7 : decode cL_daysFor 7 = .ok (.i2l, 1) := by decide +kernel
theorem dL_daysFor_8 : decode cL_daysFor 8 = .ok (.lastore, 1) := by decide +kernel
theorem dL_daysFor_9 : decode cL_daysFor 9 = .ok (.goto 6, 3) := by decide +kernel
theorem dL_daysFor_12 : decode cL_daysFor 12 = .ok (.astore_n 3, 1) := by decide +kernel
theorem dL_daysFor_13 : decode cL_daysFor 13 = .ok (.iconst 1, 1) := by decide +kernel
theorem dL_daysFor_14 : decode cL_daysFor 14 = .ok (.ireturn, 1) := by decide +kernel
theorem dL_daysFor_15 : decode cL_daysFor 15 = .ok (.iconst 0, 1) := by decide +kernel
theorem dL_daysFor_16 : decode cL_daysFor 16 = .ok (.ireturn, 1) := by decide +kernel
theorem dL_costWith_0 : decode cL_costWith 0 = .ok (.aload_n 3, 1) := by decide +kernel
theorem dL_costWith_1 : decode cL_costWith 1 = .ok (.iconst 0, 1) := by decide +kernel
theorem dL_costWith_2 : decode cL_costWith 2 = .ok (.aload_n 0, 1) := by decide +kernel
theorem dL_costWith_3 : decode cL_costWith 3 = .ok (.iload_n 1, 1) := by decide +kernel
theorem dL_costWith_4 : decode cL_costWith 4 = .ok (.iload_n 2, 1) := by decide +kernel
theorem dL_costWith_5 : decode cL_costWith 5 = .ok (.invokevirtual 62, 3) := by decide +kernel
theorem dL_costWith_8 : decode cL_costWith 8 = .ok (.i2l, 1) := by decide +kernel
theorem dL_costWith_9 : decode cL_costWith 9 = .ok (.lastore, 1) := by decide +kernel
theorem dL_costWith_10 : decode cL_costWith 10 = .ok (.goto 7, 3) := by decide +kernel
theorem dL_costWith_13 : decode cL_costWith 13 = .ok (.astore 4, 2) := by decide +kernel
theorem dL_costWith_15 : decode cL_costWith 15 = .ok (.iconst 1, 1) := by decide +kernel
theorem dL_costWith_16 : decode cL_costWith 16 = .ok (.ireturn, 1) := by decide +kernel
theorem dL_costWith_17 : decode cL_costWith 17 = .ok (.iconst 0, 1) := by decide +kernel
theorem dL_costWith_18 : decode cL_costWith 18 = .ok (.ireturn, 1) := by decide +kernel
theorem dL_bestDay_0 : decode cL_bestDay 0 = .ok (.aload_n 2, 1) := by decide +kernel
theorem dL_bestDay_1 : decode cL_bestDay 1 = .ok (.iconst 0, 1) := by decide +kernel
theorem dL_bestDay_2 : decode cL_bestDay 2 = .ok (.aload_n 0, 1) := by decide +kernel
theorem dL_bestDay_3 : decode cL_bestDay 3 = .ok (.iload_n 1, 1) := by decide +kernel
theorem dL_bestDay_4 : decode cL_bestDay 4 = .ok (.invokevirtual 65, 3) := by decide +kernel
theorem dL_bestDay_7 : decode cL_bestDay 7 = .ok (.i2l, 1) := by decide +kernel
theorem dL_bestDay_8 : decode cL_bestDay 8 = .ok (.lastore, 1) := by decide +kernel
theorem dL_bestDay_9 : decode cL_bestDay 9 = .ok (.goto 6, 3) := by decide +kernel
theorem dL_bestDay_12 : decode cL_bestDay 12 = .ok (.astore_n 3, 1) := by decide +kernel
theorem dL_bestDay_13 : decode cL_bestDay 13 = .ok (.iconst 1, 1) := by decide +kernel
theorem dL_bestDay_14 : decode cL_bestDay 14 = .ok (.ireturn, 1) := by decide +kernel
theorem dL_bestDay_15 : decode cL_bestDay 15 = .ok (.iconst 0, 1) := by decide +kernel
theorem dL_bestDay_16 : decode cL_bestDay 16 = .ok (.ireturn, 1) := by decide +kernel
theorem dL_waitingFor_0 : decode cL_waitingFor 0 = .ok (.aload_n 3, 1) := by decide +kernel
theorem dL_waitingFor_1 : decode cL_waitingFor 1 = .ok (.iconst 0, 1) := by decide +kernel
theorem dL_waitingFor_2 : decode cL_waitingFor 2 = .ok (.aload_n 0, 1) := by decide +kernel
theorem dL_waitingFor_3 : decode cL_waitingFor 3 = .ok (.iload_n 1, 1) := by decide +kernel
theorem dL_waitingFor_4 : decode cL_waitingFor 4 = .ok (.iload_n 2, 1) := by decide +kernel
theorem dL_waitingFor_5 : decode cL_waitingFor 5 = .ok (.invokevirtual 68, 3) := by decide +kernel
theorem dL_waitingFor_8 : decode cL_waitingFor 8 = .ok (.i2l, 1) := by decide +kernel
theorem dL_waitingFor_9 : decode cL_waitingFor 9 = .ok (.lastore, 1) := by decide +kernel
theorem dL_waitingFor_10 : decode cL_waitingFor 10 = .ok (.goto 7, 3) := by decide +kernel
theorem dL_waitingFor_13 : decode cL_waitingFor 13 = .ok (.astore 4, 2) := by decide +kernel
theorem dL_waitingFor_15 : decode cL_waitingFor 15 = .ok (.iconst 1, 1) := by decide +kernel
theorem dL_waitingFor_16 : decode cL_waitingFor 16 = .ok (.ireturn, 1) := by decide +kernel
theorem dL_waitingFor_17 : decode cL_waitingFor 17 = .ok (.iconst 0, 1) := by decide +kernel
theorem dL_waitingFor_18 : decode cL_waitingFor 18 = .ok (.ireturn, 1) := by decide +kernel
def m_L_locationProperty : fs_I := (yL_locationProperty, cL_locationProperty, 5, (some .int), 1, 6, 10)
def hh_L_locationProperty : fh_H := [(0, 10, 13, 13)]
theorem qh_L_locationProperty : Cond.codeWith yL_locationProperty cL_locationProperty 5 (some .int) hh_L_locationProperty ∈ fs_tb := fs_in 985 (by decide +kernel) rfl
theorem qs_L_locationProperty : Cond.static yL_locationProperty ∈ fs_tb := fs_in 984 (by decide +kernel) rfl
def m_L_feeOf : fs_I := (yL_feeOf, cL_feeOf, 4, (some .int), 1, 6, 10)
def hh_L_feeOf : fh_H := [(0, 9, 12, 13)]
theorem qh_L_feeOf : Cond.codeWith yL_feeOf cL_feeOf 4 (some .int) hh_L_feeOf ∈ fs_tb := fs_in 1061 (by decide +kernel) rfl
theorem qs_L_feeOf : Cond.static yL_feeOf ∈ fs_tb := fs_in 1060 (by decide +kernel) rfl
def m_L_sceneProperty : fs_I := (yL_sceneProperty, cL_sceneProperty, 5, (some .int), 1, 6, 10)
def hh_L_sceneProperty : fh_H := [(0, 10, 13, 13)]
theorem qh_L_sceneProperty : Cond.codeWith yL_sceneProperty cL_sceneProperty 5 (some .int) hh_L_sceneProperty ∈ fs_tb := fs_in 1068 (by decide +kernel) rfl
theorem qs_L_sceneProperty : Cond.static yL_sceneProperty ∈ fs_tb := fs_in 1067 (by decide +kernel) rfl
def m_L_dayOf : fs_I := (yL_dayOf, cL_dayOf, 4, (some .int), 1, 6, 10)
def hh_L_dayOf : fh_H := [(0, 9, 12, 13)]
theorem qh_L_dayOf : Cond.codeWith yL_dayOf cL_dayOf 4 (some .int) hh_L_dayOf ∈ fs_tb := fs_in 1075 (by decide +kernel) rfl
theorem qs_L_dayOf : Cond.static yL_dayOf ∈ fs_tb := fs_in 1074 (by decide +kernel) rfl
def m_L_scenesOn : fs_I := (yL_scenesOn, cL_scenesOn, 4, (some .int), 1, 6, 10)
def hh_L_scenesOn : fh_H := [(0, 9, 12, 13)]
theorem qh_L_scenesOn : Cond.codeWith yL_scenesOn cL_scenesOn 4 (some .int) hh_L_scenesOn ∈ fs_tb := fs_in 1082 (by decide +kernel) rfl
theorem qs_L_scenesOn : Cond.static yL_scenesOn ∈ fs_tb := fs_in 1081 (by decide +kernel) rfl
def m_L_locationOn : fs_I := (yL_locationOn, cL_locationOn, 4, (some .int), 1, 6, 10)
def hh_L_locationOn : fh_H := [(0, 9, 12, 13)]
theorem qh_L_locationOn : Cond.codeWith yL_locationOn cL_locationOn 4 (some .int) hh_L_locationOn ∈ fs_tb := fs_in 1089 (by decide +kernel) rfl
theorem qs_L_locationOn : Cond.static yL_locationOn ∈ fs_tb := fs_in 1088 (by decide +kernel) rfl
def m_L_isNight : fs_I := (yL_isNight, cL_isNight, 4, (some .int), 1, 6, 10)
def hh_L_isNight : fh_H := [(0, 16, 19, 13)]
theorem qh_L_isNight : Cond.codeWith yL_isNight cL_isNight 4 (some .int) hh_L_isNight ∈ fs_tb := fs_in 1096 (by decide +kernel) rfl
theorem qs_L_isNight : Cond.static yL_isNight ∈ fs_tb := fs_in 1095 (by decide +kernel) rfl
def m_L_lengthOn : fs_I := (yL_lengthOn, cL_lengthOn, 4, (some .int), 1, 6, 10)
def hh_L_lengthOn : fh_H := [(0, 9, 12, 13)]
theorem qh_L_lengthOn : Cond.codeWith yL_lengthOn cL_lengthOn 4 (some .int) hh_L_lengthOn ∈ fs_tb := fs_in 1103 (by decide +kernel) rfl
theorem qs_L_lengthOn : Cond.static yL_lengthOn ∈ fs_tb := fs_in 1102 (by decide +kernel) rfl
def m_L_castOn : fs_I := (yL_castOn, cL_castOn, 4, (some .int), 1, 6, 10)
def hh_L_castOn : fh_H := [(0, 9, 12, 13)]
theorem qh_L_castOn : Cond.codeWith yL_castOn cL_castOn 4 (some .int) hh_L_castOn ∈ fs_tb := fs_in 1110 (by decide +kernel) rfl
theorem qs_L_castOn : Cond.static yL_castOn ∈ fs_tb := fs_in 1109 (by decide +kernel) rfl
def m_L_statusOf : fs_I := (yL_statusOf, cL_statusOf, 5, (some .int), 1, 6, 10)
def hh_L_statusOf : fh_H := [(0, 10, 13, 13)]
theorem qh_L_statusOf : Cond.codeWith yL_statusOf cL_statusOf 5 (some .int) hh_L_statusOf ∈ fs_tb := fs_in 1117 (by decide +kernel) rfl
theorem qs_L_statusOf : Cond.static yL_statusOf ∈ fs_tb := fs_in 1116 (by decide +kernel) rfl
def m_L_firstDay : fs_I := (yL_firstDay, cL_firstDay, 4, (some .int), 1, 6, 10)
def hh_L_firstDay : fh_H := [(0, 9, 12, 13)]
theorem qh_L_firstDay : Cond.codeWith yL_firstDay cL_firstDay 4 (some .int) hh_L_firstDay ∈ fs_tb := fs_in 1128 (by decide +kernel) rfl
theorem qs_L_firstDay : Cond.static yL_firstDay ∈ fs_tb := fs_in 1127 (by decide +kernel) rfl
def m_L_lastDay : fs_I := (yL_lastDay, cL_lastDay, 4, (some .int), 1, 6, 10)
def hh_L_lastDay : fh_H := [(0, 9, 12, 13)]
theorem qh_L_lastDay : Cond.codeWith yL_lastDay cL_lastDay 4 (some .int) hh_L_lastDay ∈ fs_tb := fs_in 1136 (by decide +kernel) rfl
theorem qs_L_lastDay : Cond.static yL_lastDay ∈ fs_tb := fs_in 1135 (by decide +kernel) rfl
def m_L_daysWith : fs_I := (yL_daysWith, cL_daysWith, 5, (some .int), 1, 6, 10)
def hh_L_daysWith : fh_H := [(0, 10, 13, 13)]
theorem qh_L_daysWith : Cond.codeWith yL_daysWith cL_daysWith 5 (some .int) hh_L_daysWith ∈ fs_tb := fs_in 1146 (by decide +kernel) rfl
theorem qs_L_daysWith : Cond.static yL_daysWith ∈ fs_tb := fs_in 1145 (by decide +kernel) rfl
def m_L_actorCost : fs_I := (yL_actorCost, cL_actorCost, 4, (some .int), 1, 6, 10)
def hh_L_actorCost : fh_H := [(0, 9, 12, 13)]
theorem qh_L_actorCost : Cond.codeWith yL_actorCost cL_actorCost 4 (some .int) hh_L_actorCost ∈ fs_tb := fs_in 1155 (by decide +kernel) rfl
theorem qs_L_actorCost : Cond.static yL_actorCost ∈ fs_tb := fs_in 1154 (by decide +kernel) rfl
def m_L_reasonFor : fs_I := (yL_reasonFor, cL_reasonFor, 5, (some .int), 1, 6, 10)
def hh_L_reasonFor : fh_H := [(0, 10, 13, 13)]
theorem qh_L_reasonFor : Cond.codeWith yL_reasonFor cL_reasonFor 5 (some .int) hh_L_reasonFor ∈ fs_tb := fs_in 1163 (by decide +kernel) rfl
theorem qs_L_reasonFor : Cond.static yL_reasonFor ∈ fs_tb := fs_in 1162 (by decide +kernel) rfl
def m_L_daysFor : fs_I := (yL_daysFor, cL_daysFor, 4, (some .int), 1, 6, 10)
def hh_L_daysFor : fh_H := [(0, 9, 12, 13)]
theorem qh_L_daysFor : Cond.codeWith yL_daysFor cL_daysFor 4 (some .int) hh_L_daysFor ∈ fs_tb := fs_in 1170 (by decide +kernel) rfl
theorem qs_L_daysFor : Cond.static yL_daysFor ∈ fs_tb := fs_in 1169 (by decide +kernel) rfl
def m_L_costWith : fs_I := (yL_costWith, cL_costWith, 5, (some .int), 1, 6, 10)
def hh_L_costWith : fh_H := [(0, 10, 13, 13)]
theorem qh_L_costWith : Cond.codeWith yL_costWith cL_costWith 5 (some .int) hh_L_costWith ∈ fs_tb := fs_in 1177 (by decide +kernel) rfl
theorem qs_L_costWith : Cond.static yL_costWith ∈ fs_tb := fs_in 1176 (by decide +kernel) rfl
def m_L_bestDay : fs_I := (yL_bestDay, cL_bestDay, 4, (some .int), 1, 6, 10)
def hh_L_bestDay : fh_H := [(0, 9, 12, 13)]
theorem qh_L_bestDay : Cond.codeWith yL_bestDay cL_bestDay 4 (some .int) hh_L_bestDay ∈ fs_tb := fs_in 1184 (by decide +kernel) rfl
theorem qs_L_bestDay : Cond.static yL_bestDay ∈ fs_tb := fs_in 1183 (by decide +kernel) rfl
def m_L_waitingFor : fs_I := (yL_waitingFor, cL_waitingFor, 5, (some .int), 1, 6, 10)
def hh_L_waitingFor : fh_H := [(0, 10, 13, 13)]
theorem qh_L_waitingFor : Cond.codeWith yL_waitingFor cL_waitingFor 5 (some .int) hh_L_waitingFor ∈ fs_tb := fs_in 1191 (by decide +kernel) rfl
theorem qs_L_waitingFor : Cond.static yL_waitingFor ∈ fs_tb := fs_in 1190 (by decide +kernel) rfl
def T_L_locationProperty_0 (g : fs_G) (d : Nat) (Q : Option Value → fs_M → Prop) : fs_P :=
  (fi_aload 3 (fi_const (0) (fi_aload 0 (fi_iload 1 (fi_iload 2 (fi_v2 g 7 m_X8_locationProperty (fi_i2l (fi_last (fi_const (0) (fi_iret Q))))))))))
theorem S_L_locationProperty_0 {g : fs_G} {d : Nat} {Q : Option Value → fs_M → Prop} {ls st : List Value} {M : fs_M} (h : T_L_locationProperty_0 g d Q ls st M) : fs_R g m_L_locationProperty d (0, 0) 0 ls st M Q :=
  (show fs_E g m_L_locationProperty d (0, 0) Q 0 (T_L_locationProperty_0 g d Q) from (fo_aload_n dL_locationProperty_0 rfl (fo_iconst (v := (0)) dL_locationProperty_1 (by decide) (fo_aload_n dL_locationProperty_2 rfl (fo_iload_n dL_locationProperty_3 rfl (fo_iload_n dL_locationProperty_4 rfl (fo_v2 mv_X8_locationProperty q_987 (Nat.le_of_ble_eq_true rfl) ⟨Nat.le_of_ble_eq_true rfl, Nat.le_of_ble_eq_true rfl⟩ rfl dL_locationProperty_5 (fo_i2l dL_locationProperty_8 (fo_last dL_locationProperty_9 (fo_goto (tgt := 17) dL_locationProperty_10 (by decide) (fo_iconst (v := (0)) dL_locationProperty_17 (by decide) (fo_iret ⟨Nat.le_of_ble_eq_true rfl, Nat.le_of_ble_eq_true rfl⟩ rfl dL_locationProperty_18)))))))))))) ls st M h
def T_L_feeOf_0 (g : fs_G) (d : Nat) (Q : Option Value → fs_M → Prop) : fs_P :=
  (fi_aload 2 (fi_const (0) (fi_aload 0 (fi_iload 1 (fi_v1 g 7 m_X8_feeOf (fi_i2l (fi_last (fi_const (0) (fi_iret Q)))))))))
theorem S_L_feeOf_0 {g : fs_G} {d : Nat} {Q : Option Value → fs_M → Prop} {ls st : List Value} {M : fs_M} (h : T_L_feeOf_0 g d Q ls st M) : fs_R g m_L_feeOf d (0, 0) 0 ls st M Q :=
  (show fs_E g m_L_feeOf d (0, 0) Q 0 (T_L_feeOf_0 g d Q) from (fo_aload_n dL_feeOf_0 rfl (fo_iconst (v := (0)) dL_feeOf_1 (by decide) (fo_aload_n dL_feeOf_2 rfl (fo_iload_n dL_feeOf_3 rfl (fo_v1 mv_X8_feeOf q_1062 (Nat.le_of_ble_eq_true rfl) ⟨Nat.le_of_ble_eq_true rfl, Nat.le_of_ble_eq_true rfl⟩ rfl dL_feeOf_4 (fo_i2l dL_feeOf_7 (fo_last dL_feeOf_8 (fo_goto (tgt := 15) dL_feeOf_9 (by decide) (fo_iconst (v := (0)) dL_feeOf_15 (by decide) (fo_iret ⟨Nat.le_of_ble_eq_true rfl, Nat.le_of_ble_eq_true rfl⟩ rfl dL_feeOf_16))))))))))) ls st M h
def T_L_sceneProperty_0 (g : fs_G) (d : Nat) (Q : Option Value → fs_M → Prop) : fs_P :=
  (fi_aload 3 (fi_const (0) (fi_aload 0 (fi_iload 1 (fi_iload 2 (fi_v2 g 7 m_X8_sceneProperty (fi_i2l (fi_last (fi_const (0) (fi_iret Q))))))))))
theorem S_L_sceneProperty_0 {g : fs_G} {d : Nat} {Q : Option Value → fs_M → Prop} {ls st : List Value} {M : fs_M} (h : T_L_sceneProperty_0 g d Q ls st M) : fs_R g m_L_sceneProperty d (0, 0) 0 ls st M Q :=
  (show fs_E g m_L_sceneProperty d (0, 0) Q 0 (T_L_sceneProperty_0 g d Q) from (fo_aload_n dL_sceneProperty_0 rfl (fo_iconst (v := (0)) dL_sceneProperty_1 (by decide) (fo_aload_n dL_sceneProperty_2 rfl (fo_iload_n dL_sceneProperty_3 rfl (fo_iload_n dL_sceneProperty_4 rfl (fo_v2 mv_X8_sceneProperty q_1069 (Nat.le_of_ble_eq_true rfl) ⟨Nat.le_of_ble_eq_true rfl, Nat.le_of_ble_eq_true rfl⟩ rfl dL_sceneProperty_5 (fo_i2l dL_sceneProperty_8 (fo_last dL_sceneProperty_9 (fo_goto (tgt := 17) dL_sceneProperty_10 (by decide) (fo_iconst (v := (0)) dL_sceneProperty_17 (by decide) (fo_iret ⟨Nat.le_of_ble_eq_true rfl, Nat.le_of_ble_eq_true rfl⟩ rfl dL_sceneProperty_18)))))))))))) ls st M h
def T_L_dayOf_0 (g : fs_G) (d : Nat) (Q : Option Value → fs_M → Prop) : fs_P :=
  (fi_aload 2 (fi_const (0) (fi_aload 0 (fi_iload 1 (fi_v1 g 7 m_X8_dayOf (fi_i2l (fi_last (fi_const (0) (fi_iret Q)))))))))
theorem S_L_dayOf_0 {g : fs_G} {d : Nat} {Q : Option Value → fs_M → Prop} {ls st : List Value} {M : fs_M} (h : T_L_dayOf_0 g d Q ls st M) : fs_R g m_L_dayOf d (0, 0) 0 ls st M Q :=
  (show fs_E g m_L_dayOf d (0, 0) Q 0 (T_L_dayOf_0 g d Q) from (fo_aload_n dL_dayOf_0 rfl (fo_iconst (v := (0)) dL_dayOf_1 (by decide) (fo_aload_n dL_dayOf_2 rfl (fo_iload_n dL_dayOf_3 rfl (fo_v1 mv_X8_dayOf q_1076 (Nat.le_of_ble_eq_true rfl) ⟨Nat.le_of_ble_eq_true rfl, Nat.le_of_ble_eq_true rfl⟩ rfl dL_dayOf_4 (fo_i2l dL_dayOf_7 (fo_last dL_dayOf_8 (fo_goto (tgt := 15) dL_dayOf_9 (by decide) (fo_iconst (v := (0)) dL_dayOf_15 (by decide) (fo_iret ⟨Nat.le_of_ble_eq_true rfl, Nat.le_of_ble_eq_true rfl⟩ rfl dL_dayOf_16))))))))))) ls st M h
def T_L_scenesOn_0 (g : fs_G) (d : Nat) (Q : Option Value → fs_M → Prop) : fs_P :=
  (fi_aload 2 (fi_const (0) (fi_aload 0 (fi_iload 1 (fi_v1 g 7 m_X8_scenesOn (fi_i2l (fi_last (fi_const (0) (fi_iret Q)))))))))
theorem S_L_scenesOn_0 {g : fs_G} {d : Nat} {Q : Option Value → fs_M → Prop} {ls st : List Value} {M : fs_M} (h : T_L_scenesOn_0 g d Q ls st M) : fs_R g m_L_scenesOn d (0, 0) 0 ls st M Q :=
  (show fs_E g m_L_scenesOn d (0, 0) Q 0 (T_L_scenesOn_0 g d Q) from (fo_aload_n dL_scenesOn_0 rfl (fo_iconst (v := (0)) dL_scenesOn_1 (by decide) (fo_aload_n dL_scenesOn_2 rfl (fo_iload_n dL_scenesOn_3 rfl (fo_v1 mv_X8_scenesOn q_1083 (Nat.le_of_ble_eq_true rfl) ⟨Nat.le_of_ble_eq_true rfl, Nat.le_of_ble_eq_true rfl⟩ rfl dL_scenesOn_4 (fo_i2l dL_scenesOn_7 (fo_last dL_scenesOn_8 (fo_goto (tgt := 15) dL_scenesOn_9 (by decide) (fo_iconst (v := (0)) dL_scenesOn_15 (by decide) (fo_iret ⟨Nat.le_of_ble_eq_true rfl, Nat.le_of_ble_eq_true rfl⟩ rfl dL_scenesOn_16))))))))))) ls st M h
def T_L_locationOn_0 (g : fs_G) (d : Nat) (Q : Option Value → fs_M → Prop) : fs_P :=
  (fi_aload 2 (fi_const (0) (fi_aload 0 (fi_iload 1 (fi_v1 g 7 m_X8_locationOn (fi_i2l (fi_last (fi_const (0) (fi_iret Q)))))))))
theorem S_L_locationOn_0 {g : fs_G} {d : Nat} {Q : Option Value → fs_M → Prop} {ls st : List Value} {M : fs_M} (h : T_L_locationOn_0 g d Q ls st M) : fs_R g m_L_locationOn d (0, 0) 0 ls st M Q :=
  (show fs_E g m_L_locationOn d (0, 0) Q 0 (T_L_locationOn_0 g d Q) from (fo_aload_n dL_locationOn_0 rfl (fo_iconst (v := (0)) dL_locationOn_1 (by decide) (fo_aload_n dL_locationOn_2 rfl (fo_iload_n dL_locationOn_3 rfl (fo_v1 mv_X8_locationOn q_1090 (Nat.le_of_ble_eq_true rfl) ⟨Nat.le_of_ble_eq_true rfl, Nat.le_of_ble_eq_true rfl⟩ rfl dL_locationOn_4 (fo_i2l dL_locationOn_7 (fo_last dL_locationOn_8 (fo_goto (tgt := 15) dL_locationOn_9 (by decide) (fo_iconst (v := (0)) dL_locationOn_15 (by decide) (fo_iret ⟨Nat.le_of_ble_eq_true rfl, Nat.le_of_ble_eq_true rfl⟩ rfl dL_locationOn_16))))))))))) ls st M h
def T_L_isNight_0 (g : fs_G) (d : Nat) (Q : Option Value → fs_M → Prop) : fs_P :=
  (fi_aload 2 (fi_const (0) (fi_aload 0 (fi_iload 1 (fi_v1 g 7 m_X8_isNight (fi_if (fun x => x = 0) (fi_lconst 0 (fi_last (fi_const (0) (fi_iret Q)))) (fi_lconst 1 (fi_last (fi_const (0) (fi_iret Q))))))))))
theorem S_L_isNight_0 {g : fs_G} {d : Nat} {Q : Option Value → fs_M → Prop} {ls st : List Value} {M : fs_M} (h : T_L_isNight_0 g d Q ls st M) : fs_R g m_L_isNight d (0, 0) 0 ls st M Q :=
  (show fs_E g m_L_isNight d (0, 0) Q 0 (T_L_isNight_0 g d Q) from (fo_aload_n dL_isNight_0 rfl (fo_iconst (v := (0)) dL_isNight_1 (by decide) (fo_aload_n dL_isNight_2 rfl (fo_iload_n dL_isNight_3 rfl (fo_v1 mv_X8_isNight q_1097 (Nat.le_of_ble_eq_true rfl) ⟨Nat.le_of_ble_eq_true rfl, Nat.le_of_ble_eq_true rfl⟩ rfl dL_isNight_4 (fo_if_eq (tgt := 14) dL_isNight_7 (by decide) (fo_lconst (v := 0) dL_isNight_14 (by decide) (fo_last dL_isNight_15 (fo_goto (tgt := 22) dL_isNight_16 (by decide) (fo_iconst (v := (0)) dL_isNight_22 (by decide) (fo_iret ⟨Nat.le_of_ble_eq_true rfl, Nat.le_of_ble_eq_true rfl⟩ rfl dL_isNight_23))))) (fo_lconst (v := 1) dL_isNight_10 (by decide) (fo_goto (tgt := 15) dL_isNight_11 (by decide) (fo_last dL_isNight_15 (fo_goto (tgt := 22) dL_isNight_16 (by decide) (fo_iconst (v := (0)) dL_isNight_22 (by decide) (fo_iret ⟨Nat.le_of_ble_eq_true rfl, Nat.le_of_ble_eq_true rfl⟩ rfl dL_isNight_23))))))))))))) ls st M h
def T_L_lengthOn_0 (g : fs_G) (d : Nat) (Q : Option Value → fs_M → Prop) : fs_P :=
  (fi_aload 2 (fi_const (0) (fi_aload 0 (fi_iload 1 (fi_v1 g 7 m_X8_lengthOn (fi_i2l (fi_last (fi_const (0) (fi_iret Q)))))))))
theorem S_L_lengthOn_0 {g : fs_G} {d : Nat} {Q : Option Value → fs_M → Prop} {ls st : List Value} {M : fs_M} (h : T_L_lengthOn_0 g d Q ls st M) : fs_R g m_L_lengthOn d (0, 0) 0 ls st M Q :=
  (show fs_E g m_L_lengthOn d (0, 0) Q 0 (T_L_lengthOn_0 g d Q) from (fo_aload_n dL_lengthOn_0 rfl (fo_iconst (v := (0)) dL_lengthOn_1 (by decide) (fo_aload_n dL_lengthOn_2 rfl (fo_iload_n dL_lengthOn_3 rfl (fo_v1 mv_X8_lengthOn q_1104 (Nat.le_of_ble_eq_true rfl) ⟨Nat.le_of_ble_eq_true rfl, Nat.le_of_ble_eq_true rfl⟩ rfl dL_lengthOn_4 (fo_i2l dL_lengthOn_7 (fo_last dL_lengthOn_8 (fo_goto (tgt := 15) dL_lengthOn_9 (by decide) (fo_iconst (v := (0)) dL_lengthOn_15 (by decide) (fo_iret ⟨Nat.le_of_ble_eq_true rfl, Nat.le_of_ble_eq_true rfl⟩ rfl dL_lengthOn_16))))))))))) ls st M h
def T_L_castOn_0 (g : fs_G) (d : Nat) (Q : Option Value → fs_M → Prop) : fs_P :=
  (fi_aload 2 (fi_const (0) (fi_aload 0 (fi_iload 1 (fi_v1 g 7 m_X8_castOn (fi_i2l (fi_last (fi_const (0) (fi_iret Q)))))))))
theorem S_L_castOn_0 {g : fs_G} {d : Nat} {Q : Option Value → fs_M → Prop} {ls st : List Value} {M : fs_M} (h : T_L_castOn_0 g d Q ls st M) : fs_R g m_L_castOn d (0, 0) 0 ls st M Q :=
  (show fs_E g m_L_castOn d (0, 0) Q 0 (T_L_castOn_0 g d Q) from (fo_aload_n dL_castOn_0 rfl (fo_iconst (v := (0)) dL_castOn_1 (by decide) (fo_aload_n dL_castOn_2 rfl (fo_iload_n dL_castOn_3 rfl (fo_v1 mv_X8_castOn q_1111 (Nat.le_of_ble_eq_true rfl) ⟨Nat.le_of_ble_eq_true rfl, Nat.le_of_ble_eq_true rfl⟩ rfl dL_castOn_4 (fo_i2l dL_castOn_7 (fo_last dL_castOn_8 (fo_goto (tgt := 15) dL_castOn_9 (by decide) (fo_iconst (v := (0)) dL_castOn_15 (by decide) (fo_iret ⟨Nat.le_of_ble_eq_true rfl, Nat.le_of_ble_eq_true rfl⟩ rfl dL_castOn_16))))))))))) ls st M h
def T_L_statusOf_0 (g : fs_G) (d : Nat) (Q : Option Value → fs_M → Prop) : fs_P :=
  (fi_aload 3 (fi_const (0) (fi_aload 0 (fi_iload 1 (fi_iload 2 (fi_v2 g 7 m_X8_statusOf (fi_i2l (fi_last (fi_const (0) (fi_iret Q))))))))))
theorem S_L_statusOf_0 {g : fs_G} {d : Nat} {Q : Option Value → fs_M → Prop} {ls st : List Value} {M : fs_M} (h : T_L_statusOf_0 g d Q ls st M) : fs_R g m_L_statusOf d (0, 0) 0 ls st M Q :=
  (show fs_E g m_L_statusOf d (0, 0) Q 0 (T_L_statusOf_0 g d Q) from (fo_aload_n dL_statusOf_0 rfl (fo_iconst (v := (0)) dL_statusOf_1 (by decide) (fo_aload_n dL_statusOf_2 rfl (fo_iload_n dL_statusOf_3 rfl (fo_iload_n dL_statusOf_4 rfl (fo_v2 mv_X8_statusOf q_1118 (Nat.le_of_ble_eq_true rfl) ⟨Nat.le_of_ble_eq_true rfl, Nat.le_of_ble_eq_true rfl⟩ rfl dL_statusOf_5 (fo_i2l dL_statusOf_8 (fo_last dL_statusOf_9 (fo_goto (tgt := 17) dL_statusOf_10 (by decide) (fo_iconst (v := (0)) dL_statusOf_17 (by decide) (fo_iret ⟨Nat.le_of_ble_eq_true rfl, Nat.le_of_ble_eq_true rfl⟩ rfl dL_statusOf_18)))))))))))) ls st M h
def T_L_firstDay_0 (g : fs_G) (d : Nat) (Q : Option Value → fs_M → Prop) : fs_P :=
  (fi_aload 2 (fi_const (0) (fi_aload 0 (fi_iload 1 (fi_v1 g 7 m_X8_firstDay (fi_i2l (fi_last (fi_const (0) (fi_iret Q)))))))))
theorem S_L_firstDay_0 {g : fs_G} {d : Nat} {Q : Option Value → fs_M → Prop} {ls st : List Value} {M : fs_M} (h : T_L_firstDay_0 g d Q ls st M) : fs_R g m_L_firstDay d (0, 0) 0 ls st M Q :=
  (show fs_E g m_L_firstDay d (0, 0) Q 0 (T_L_firstDay_0 g d Q) from (fo_aload_n dL_firstDay_0 rfl (fo_iconst (v := (0)) dL_firstDay_1 (by decide) (fo_aload_n dL_firstDay_2 rfl (fo_iload_n dL_firstDay_3 rfl (fo_v1 mv_X8_firstDay q_1129 (Nat.le_of_ble_eq_true rfl) ⟨Nat.le_of_ble_eq_true rfl, Nat.le_of_ble_eq_true rfl⟩ rfl dL_firstDay_4 (fo_i2l dL_firstDay_7 (fo_last dL_firstDay_8 (fo_goto (tgt := 15) dL_firstDay_9 (by decide) (fo_iconst (v := (0)) dL_firstDay_15 (by decide) (fo_iret ⟨Nat.le_of_ble_eq_true rfl, Nat.le_of_ble_eq_true rfl⟩ rfl dL_firstDay_16))))))))))) ls st M h
def T_L_lastDay_0 (g : fs_G) (d : Nat) (Q : Option Value → fs_M → Prop) : fs_P :=
  (fi_aload 2 (fi_const (0) (fi_aload 0 (fi_iload 1 (fi_v1 g 7 m_X8_lastDay (fi_i2l (fi_last (fi_const (0) (fi_iret Q)))))))))
theorem S_L_lastDay_0 {g : fs_G} {d : Nat} {Q : Option Value → fs_M → Prop} {ls st : List Value} {M : fs_M} (h : T_L_lastDay_0 g d Q ls st M) : fs_R g m_L_lastDay d (0, 0) 0 ls st M Q :=
  (show fs_E g m_L_lastDay d (0, 0) Q 0 (T_L_lastDay_0 g d Q) from (fo_aload_n dL_lastDay_0 rfl (fo_iconst (v := (0)) dL_lastDay_1 (by decide) (fo_aload_n dL_lastDay_2 rfl (fo_iload_n dL_lastDay_3 rfl (fo_v1 mv_X8_lastDay q_1137 (Nat.le_of_ble_eq_true rfl) ⟨Nat.le_of_ble_eq_true rfl, Nat.le_of_ble_eq_true rfl⟩ rfl dL_lastDay_4 (fo_i2l dL_lastDay_7 (fo_last dL_lastDay_8 (fo_goto (tgt := 15) dL_lastDay_9 (by decide) (fo_iconst (v := (0)) dL_lastDay_15 (by decide) (fo_iret ⟨Nat.le_of_ble_eq_true rfl, Nat.le_of_ble_eq_true rfl⟩ rfl dL_lastDay_16))))))))))) ls st M h
def T_L_daysWith_0 (g : fs_G) (d : Nat) (Q : Option Value → fs_M → Prop) : fs_P :=
  (fi_aload 3 (fi_const (0) (fi_aload 0 (fi_iload 1 (fi_iload 2 (fi_v2 g 7 m_X8_daysWith (fi_i2l (fi_last (fi_const (0) (fi_iret Q))))))))))
theorem S_L_daysWith_0 {g : fs_G} {d : Nat} {Q : Option Value → fs_M → Prop} {ls st : List Value} {M : fs_M} (h : T_L_daysWith_0 g d Q ls st M) : fs_R g m_L_daysWith d (0, 0) 0 ls st M Q :=
  (show fs_E g m_L_daysWith d (0, 0) Q 0 (T_L_daysWith_0 g d Q) from (fo_aload_n dL_daysWith_0 rfl (fo_iconst (v := (0)) dL_daysWith_1 (by decide) (fo_aload_n dL_daysWith_2 rfl (fo_iload_n dL_daysWith_3 rfl (fo_iload_n dL_daysWith_4 rfl (fo_v2 mv_X8_daysWith q_1147 (Nat.le_of_ble_eq_true rfl) ⟨Nat.le_of_ble_eq_true rfl, Nat.le_of_ble_eq_true rfl⟩ rfl dL_daysWith_5 (fo_i2l dL_daysWith_8 (fo_last dL_daysWith_9 (fo_goto (tgt := 17) dL_daysWith_10 (by decide) (fo_iconst (v := (0)) dL_daysWith_17 (by decide) (fo_iret ⟨Nat.le_of_ble_eq_true rfl, Nat.le_of_ble_eq_true rfl⟩ rfl dL_daysWith_18)))))))))))) ls st M h
def T_L_actorCost_0 (g : fs_G) (d : Nat) (Q : Option Value → fs_M → Prop) : fs_P :=
  (fi_aload 2 (fi_const (0) (fi_aload 0 (fi_iload 1 (fi_v1 g 7 m_X8_actorCost (fi_i2l (fi_last (fi_const (0) (fi_iret Q)))))))))
theorem S_L_actorCost_0 {g : fs_G} {d : Nat} {Q : Option Value → fs_M → Prop} {ls st : List Value} {M : fs_M} (h : T_L_actorCost_0 g d Q ls st M) : fs_R g m_L_actorCost d (0, 0) 0 ls st M Q :=
  (show fs_E g m_L_actorCost d (0, 0) Q 0 (T_L_actorCost_0 g d Q) from (fo_aload_n dL_actorCost_0 rfl (fo_iconst (v := (0)) dL_actorCost_1 (by decide) (fo_aload_n dL_actorCost_2 rfl (fo_iload_n dL_actorCost_3 rfl (fo_v1 mv_X8_actorCost q_1156 (Nat.le_of_ble_eq_true rfl) ⟨Nat.le_of_ble_eq_true rfl, Nat.le_of_ble_eq_true rfl⟩ rfl dL_actorCost_4 (fo_i2l dL_actorCost_7 (fo_last dL_actorCost_8 (fo_goto (tgt := 15) dL_actorCost_9 (by decide) (fo_iconst (v := (0)) dL_actorCost_15 (by decide) (fo_iret ⟨Nat.le_of_ble_eq_true rfl, Nat.le_of_ble_eq_true rfl⟩ rfl dL_actorCost_16))))))))))) ls st M h
def T_L_reasonFor_0 (g : fs_G) (d : Nat) (Q : Option Value → fs_M → Prop) : fs_P :=
  (fi_aload 3 (fi_const (0) (fi_aload 0 (fi_iload 1 (fi_iload 2 (fi_v2 g 7 m_X8_reasonFor (fi_i2l (fi_last (fi_const (0) (fi_iret Q))))))))))
theorem S_L_reasonFor_0 {g : fs_G} {d : Nat} {Q : Option Value → fs_M → Prop} {ls st : List Value} {M : fs_M} (h : T_L_reasonFor_0 g d Q ls st M) : fs_R g m_L_reasonFor d (0, 0) 0 ls st M Q :=
  (show fs_E g m_L_reasonFor d (0, 0) Q 0 (T_L_reasonFor_0 g d Q) from (fo_aload_n dL_reasonFor_0 rfl (fo_iconst (v := (0)) dL_reasonFor_1 (by decide) (fo_aload_n dL_reasonFor_2 rfl (fo_iload_n dL_reasonFor_3 rfl (fo_iload_n dL_reasonFor_4 rfl (fo_v2 mv_X8_reasonFor q_1164 (Nat.le_of_ble_eq_true rfl) ⟨Nat.le_of_ble_eq_true rfl, Nat.le_of_ble_eq_true rfl⟩ rfl dL_reasonFor_5 (fo_i2l dL_reasonFor_8 (fo_last dL_reasonFor_9 (fo_goto (tgt := 17) dL_reasonFor_10 (by decide) (fo_iconst (v := (0)) dL_reasonFor_17 (by decide) (fo_iret ⟨Nat.le_of_ble_eq_true rfl, Nat.le_of_ble_eq_true rfl⟩ rfl dL_reasonFor_18)))))))))))) ls st M h
def T_L_daysFor_0 (g : fs_G) (d : Nat) (Q : Option Value → fs_M → Prop) : fs_P :=
  (fi_aload 2 (fi_const (0) (fi_aload 0 (fi_iload 1 (fi_v1 g 7 m_X8_daysFor (fi_i2l (fi_last (fi_const (0) (fi_iret Q)))))))))
theorem S_L_daysFor_0 {g : fs_G} {d : Nat} {Q : Option Value → fs_M → Prop} {ls st : List Value} {M : fs_M} (h : T_L_daysFor_0 g d Q ls st M) : fs_R g m_L_daysFor d (0, 0) 0 ls st M Q :=
  (show fs_E g m_L_daysFor d (0, 0) Q 0 (T_L_daysFor_0 g d Q) from (fo_aload_n dL_daysFor_0 rfl (fo_iconst (v := (0)) dL_daysFor_1 (by decide) (fo_aload_n dL_daysFor_2 rfl (fo_iload_n dL_daysFor_3 rfl (fo_v1 mv_X8_daysFor q_1171 (Nat.le_of_ble_eq_true rfl) ⟨Nat.le_of_ble_eq_true rfl, Nat.le_of_ble_eq_true rfl⟩ rfl dL_daysFor_4 (fo_i2l dL_daysFor_7 (fo_last dL_daysFor_8 (fo_goto (tgt := 15) dL_daysFor_9 (by decide) (fo_iconst (v := (0)) dL_daysFor_15 (by decide) (fo_iret ⟨Nat.le_of_ble_eq_true rfl, Nat.le_of_ble_eq_true rfl⟩ rfl dL_daysFor_16))))))))))) ls st M h
def T_L_costWith_0 (g : fs_G) (d : Nat) (Q : Option Value → fs_M → Prop) : fs_P :=
  (fi_aload 3 (fi_const (0) (fi_aload 0 (fi_iload 1 (fi_iload 2 (fi_v2 g 7 m_X8_costWith (fi_i2l (fi_last (fi_const (0) (fi_iret Q))))))))))
theorem S_L_costWith_0 {g : fs_G} {d : Nat} {Q : Option Value → fs_M → Prop} {ls st : List Value} {M : fs_M} (h : T_L_costWith_0 g d Q ls st M) : fs_R g m_L_costWith d (0, 0) 0 ls st M Q :=
  (show fs_E g m_L_costWith d (0, 0) Q 0 (T_L_costWith_0 g d Q) from (fo_aload_n dL_costWith_0 rfl (fo_iconst (v := (0)) dL_costWith_1 (by decide) (fo_aload_n dL_costWith_2 rfl (fo_iload_n dL_costWith_3 rfl (fo_iload_n dL_costWith_4 rfl (fo_v2 mv_X8_costWith q_1178 (Nat.le_of_ble_eq_true rfl) ⟨Nat.le_of_ble_eq_true rfl, Nat.le_of_ble_eq_true rfl⟩ rfl dL_costWith_5 (fo_i2l dL_costWith_8 (fo_last dL_costWith_9 (fo_goto (tgt := 17) dL_costWith_10 (by decide) (fo_iconst (v := (0)) dL_costWith_17 (by decide) (fo_iret ⟨Nat.le_of_ble_eq_true rfl, Nat.le_of_ble_eq_true rfl⟩ rfl dL_costWith_18)))))))))))) ls st M h
def T_L_bestDay_0 (g : fs_G) (d : Nat) (Q : Option Value → fs_M → Prop) : fs_P :=
  (fi_aload 2 (fi_const (0) (fi_aload 0 (fi_iload 1 (fi_v1 g 7 m_X8_bestDay (fi_i2l (fi_last (fi_const (0) (fi_iret Q)))))))))
theorem S_L_bestDay_0 {g : fs_G} {d : Nat} {Q : Option Value → fs_M → Prop} {ls st : List Value} {M : fs_M} (h : T_L_bestDay_0 g d Q ls st M) : fs_R g m_L_bestDay d (0, 0) 0 ls st M Q :=
  (show fs_E g m_L_bestDay d (0, 0) Q 0 (T_L_bestDay_0 g d Q) from (fo_aload_n dL_bestDay_0 rfl (fo_iconst (v := (0)) dL_bestDay_1 (by decide) (fo_aload_n dL_bestDay_2 rfl (fo_iload_n dL_bestDay_3 rfl (fo_v1 mv_X8_bestDay q_1185 (Nat.le_of_ble_eq_true rfl) ⟨Nat.le_of_ble_eq_true rfl, Nat.le_of_ble_eq_true rfl⟩ rfl dL_bestDay_4 (fo_i2l dL_bestDay_7 (fo_last dL_bestDay_8 (fo_goto (tgt := 15) dL_bestDay_9 (by decide) (fo_iconst (v := (0)) dL_bestDay_15 (by decide) (fo_iret ⟨Nat.le_of_ble_eq_true rfl, Nat.le_of_ble_eq_true rfl⟩ rfl dL_bestDay_16))))))))))) ls st M h
def T_L_waitingFor_0 (g : fs_G) (d : Nat) (Q : Option Value → fs_M → Prop) : fs_P :=
  (fi_aload 3 (fi_const (0) (fi_aload 0 (fi_iload 1 (fi_iload 2 (fi_v2 g 7 m_X8_waitingFor (fi_i2l (fi_last (fi_const (0) (fi_iret Q))))))))))
theorem S_L_waitingFor_0 {g : fs_G} {d : Nat} {Q : Option Value → fs_M → Prop} {ls st : List Value} {M : fs_M} (h : T_L_waitingFor_0 g d Q ls st M) : fs_R g m_L_waitingFor d (0, 0) 0 ls st M Q :=
  (show fs_E g m_L_waitingFor d (0, 0) Q 0 (T_L_waitingFor_0 g d Q) from (fo_aload_n dL_waitingFor_0 rfl (fo_iconst (v := (0)) dL_waitingFor_1 (by decide) (fo_aload_n dL_waitingFor_2 rfl (fo_iload_n dL_waitingFor_3 rfl (fo_iload_n dL_waitingFor_4 rfl (fo_v2 mv_X8_waitingFor q_1192 (Nat.le_of_ble_eq_true rfl) ⟨Nat.le_of_ble_eq_true rfl, Nat.le_of_ble_eq_true rfl⟩ rfl dL_waitingFor_5 (fo_i2l dL_waitingFor_8 (fo_last dL_waitingFor_9 (fo_goto (tgt := 17) dL_waitingFor_10 (by decide) (fo_iconst (v := (0)) dL_waitingFor_17 (by decide) (fo_iret ⟨Nat.le_of_ble_eq_true rfl, Nat.le_of_ble_eq_true rfl⟩ rfl dL_waitingFor_18)))))))))))) ls st M h
