/-! ===== the law: words, rows, trees ===== -/
theorem q_88 : Cond.initialized "FilmScheduleLaw" ∈ fs_tb := fs_in 88 (by decide +kernel) rfl
theorem q_111 : Cond.classLink "FilmScheduleLaw" 8 "FilmSchedule" ∈ fs_tb := fs_in 111 (by decide +kernel) rfl
theorem q_112 : Cond.instantiable "FilmSchedule" 10 ∈ fs_tb := fs_in 112 (by decide +kernel) rfl
theorem q_113 : Cond.methodLink "FilmScheduleLaw" 72 ⟨"FilmSchedule", "<init>", "()V"⟩ ∈ fs_tb := fs_in 113 (by decide +kernel) rfl
theorem q_448 : Cond.methodLink "FilmScheduleLaw" 76 ⟨"FilmSchedule", "feed", "(IIIII)I"⟩ ∈ fs_tb := fs_in 448 (by decide +kernel) rfl
theorem q_456 : Cond.methodLink "FilmScheduleLaw" 81 ⟨"FilmSchedule", "load", "(I)I"⟩ ∈ fs_tb := fs_in 456 (by decide +kernel) rfl
theorem q_696 : Cond.methodLink "FilmScheduleLaw" 85 ⟨"FilmSchedule", "errorPosition", "()I"⟩ ∈ fs_tb := fs_in 696 (by decide +kernel) rfl
theorem q_700 : Cond.methodLink "FilmScheduleLaw" 90 ⟨"FilmSchedule", "locationCount", "()I"⟩ ∈ fs_tb := fs_in 700 (by decide +kernel) rfl
theorem q_704 : Cond.methodLink "FilmScheduleLaw" 94 ⟨"FilmSchedule", "actorCount", "()I"⟩ ∈ fs_tb := fs_in 704 (by decide +kernel) rfl
theorem q_708 : Cond.methodLink "FilmScheduleLaw" 98 ⟨"FilmSchedule", "sceneCount", "()I"⟩ ∈ fs_tb := fs_in 708 (by decide +kernel) rfl
theorem q_712 : Cond.methodLink "FilmScheduleLaw" 102 ⟨"FilmSchedule", "undoCount", "()I"⟩ ∈ fs_tb := fs_in 712 (by decide +kernel) rfl
theorem q_716 : Cond.methodLink "FilmScheduleLaw" 106 ⟨"FilmSchedule", "locationNamed", "(I)I"⟩ ∈ fs_tb := fs_in 716 (by decide +kernel) rfl
theorem q_721 : Cond.methodLink "FilmScheduleLaw" 110 ⟨"FilmSchedule", "actorNamed", "(I)I"⟩ ∈ fs_tb := fs_in 721 (by decide +kernel) rfl
theorem q_726 : Cond.methodLink "FilmScheduleLaw" 114 ⟨"FilmSchedule", "getSetting", "(I)I"⟩ ∈ fs_tb := fs_in 726 (by decide +kernel) rfl
theorem q_731 : Cond.methodLink "FilmScheduleLaw" 152 ⟨"FilmSchedule", "span", "()I"⟩ ∈ fs_tb := fs_in 731 (by decide +kernel) rfl
theorem q_739 : Cond.methodLink "FilmScheduleLaw" 171 ⟨"FilmSchedule", "moves", "()I"⟩ ∈ fs_tb := fs_in 739 (by decide +kernel) rfl
theorem q_747 : Cond.methodLink "FilmScheduleLaw" 175 ⟨"FilmSchedule", "cost", "()I"⟩ ∈ fs_tb := fs_in 747 (by decide +kernel) rfl
theorem q_792 : Cond.methodLink "FilmScheduleLaw" 179 ⟨"FilmSchedule", "holdingCost", "()I"⟩ ∈ fs_tb := fs_in 792 (by decide +kernel) rfl
theorem q_797 : Cond.methodLink "FilmScheduleLaw" 195 ⟨"FilmSchedule", "fewestDays", "()I"⟩ ∈ fs_tb := fs_in 797 (by decide +kernel) rfl
theorem q_809 : Cond.methodLink "FilmScheduleLaw" 203 ⟨"FilmSchedule", "rainDays", "(I)I"⟩ ∈ fs_tb := fs_in 809 (by decide +kernel) rfl
theorem q_842 : Cond.methodLink "FilmScheduleLaw" 207 ⟨"FilmSchedule", "rainLost", "(I)I"⟩ ∈ fs_tb := fs_in 842 (by decide +kernel) rfl
theorem q_846 : Cond.methodLink "FilmScheduleLaw" 211 ⟨"FilmSchedule", "rainDay", "(II)I"⟩ ∈ fs_tb := fs_in 846 (by decide +kernel) rfl
theorem q_854 : Cond.methodLink "FilmScheduleLaw" 215 ⟨"FilmSchedule", "worstRain", "()I"⟩ ∈ fs_tb := fs_in 854 (by decide +kernel) rfl
theorem q_858 : Cond.methodLink "FilmScheduleLaw" 219 ⟨"FilmSchedule", "bestCost", "()I"⟩ ∈ fs_tb := fs_in 858 (by decide +kernel) rfl
theorem q_906 : Cond.methodLink "FilmScheduleLaw" 223 ⟨"FilmSchedule", "bestOrder", "(I)I"⟩ ∈ fs_tb := fs_in 906 (by decide +kernel) rfl
theorem q_910 : Cond.methodLink "FilmScheduleLaw" 227 ⟨"FilmSchedule", "put", "(II)I"⟩ ∈ fs_tb := fs_in 910 (by decide +kernel) rfl
theorem q_924 : Cond.methodLink "FilmScheduleLaw" 231 ⟨"FilmSchedule", "take", "(I)I"⟩ ∈ fs_tb := fs_in 924 (by decide +kernel) rfl
theorem q_928 : Cond.methodLink "FilmScheduleLaw" 235 ⟨"FilmSchedule", "exchange", "(II)I"⟩ ∈ fs_tb := fs_in 928 (by decide +kernel) rfl
theorem q_945 : Cond.methodLink "FilmScheduleLaw" 239 ⟨"FilmSchedule", "fill", "()I"⟩ ∈ fs_tb := fs_in 945 (by decide +kernel) rfl
theorem q_953 : Cond.methodLink "FilmScheduleLaw" 243 ⟨"FilmSchedule", "useBestOrder", "()I"⟩ ∈ fs_tb := fs_in 953 (by decide +kernel) rfl
theorem q_961 : Cond.methodLink "FilmScheduleLaw" 247 ⟨"FilmSchedule", "setSetting", "(II)I"⟩ ∈ fs_tb := fs_in 961 (by decide +kernel) rfl
theorem q_975 : Cond.methodLink "FilmScheduleLaw" 251 ⟨"FilmSchedule", "undo", "()I"⟩ ∈ fs_tb := fs_in 975 (by decide +kernel) rfl
theorem q_983 : Cond.methodLink "FilmScheduleLaw" 118 ⟨"FilmScheduleLaw", "locationProperty", "(LFilmSchedule;II[J)I"⟩ ∈ fs_tb := fs_in 983 (by decide +kernel) rfl
theorem q_1059 : Cond.methodLink "FilmScheduleLaw" 127 ⟨"FilmScheduleLaw", "feeOf", "(LFilmSchedule;I[J)I"⟩ ∈ fs_tb := fs_in 1059 (by decide +kernel) rfl
theorem q_1066 : Cond.methodLink "FilmScheduleLaw" 131 ⟨"FilmScheduleLaw", "sceneProperty", "(LFilmSchedule;II[J)I"⟩ ∈ fs_tb := fs_in 1066 (by decide +kernel) rfl
theorem q_1073 : Cond.methodLink "FilmScheduleLaw" 134 ⟨"FilmScheduleLaw", "dayOf", "(LFilmSchedule;I[J)I"⟩ ∈ fs_tb := fs_in 1073 (by decide +kernel) rfl
theorem q_1080 : Cond.methodLink "FilmScheduleLaw" 137 ⟨"FilmScheduleLaw", "scenesOn", "(LFilmSchedule;I[J)I"⟩ ∈ fs_tb := fs_in 1080 (by decide +kernel) rfl
theorem q_1087 : Cond.methodLink "FilmScheduleLaw" 140 ⟨"FilmScheduleLaw", "locationOn", "(LFilmSchedule;I[J)I"⟩ ∈ fs_tb := fs_in 1087 (by decide +kernel) rfl
theorem q_1094 : Cond.methodLink "FilmScheduleLaw" 143 ⟨"FilmScheduleLaw", "isNight", "(LFilmSchedule;I[J)I"⟩ ∈ fs_tb := fs_in 1094 (by decide +kernel) rfl
theorem q_1101 : Cond.methodLink "FilmScheduleLaw" 146 ⟨"FilmScheduleLaw", "lengthOn", "(LFilmSchedule;I[J)I"⟩ ∈ fs_tb := fs_in 1101 (by decide +kernel) rfl
theorem q_1108 : Cond.methodLink "FilmScheduleLaw" 149 ⟨"FilmScheduleLaw", "castOn", "(LFilmSchedule;I[J)I"⟩ ∈ fs_tb := fs_in 1108 (by decide +kernel) rfl
theorem q_1115 : Cond.methodLink "FilmScheduleLaw" 156 ⟨"FilmScheduleLaw", "statusOf", "(LFilmSchedule;II[J)I"⟩ ∈ fs_tb := fs_in 1115 (by decide +kernel) rfl
theorem q_1126 : Cond.methodLink "FilmScheduleLaw" 159 ⟨"FilmScheduleLaw", "firstDay", "(LFilmSchedule;I[J)I"⟩ ∈ fs_tb := fs_in 1126 (by decide +kernel) rfl
theorem q_1134 : Cond.methodLink "FilmScheduleLaw" 162 ⟨"FilmScheduleLaw", "lastDay", "(LFilmSchedule;I[J)I"⟩ ∈ fs_tb := fs_in 1134 (by decide +kernel) rfl
theorem q_1144 : Cond.methodLink "FilmScheduleLaw" 165 ⟨"FilmScheduleLaw", "daysWith", "(LFilmSchedule;II[J)I"⟩ ∈ fs_tb := fs_in 1144 (by decide +kernel) rfl
theorem q_1153 : Cond.methodLink "FilmScheduleLaw" 168 ⟨"FilmScheduleLaw", "actorCost", "(LFilmSchedule;I[J)I"⟩ ∈ fs_tb := fs_in 1153 (by decide +kernel) rfl
theorem q_1161 : Cond.methodLink "FilmScheduleLaw" 183 ⟨"FilmScheduleLaw", "reasonFor", "(LFilmSchedule;II[J)I"⟩ ∈ fs_tb := fs_in 1161 (by decide +kernel) rfl
theorem q_1168 : Cond.methodLink "FilmScheduleLaw" 186 ⟨"FilmScheduleLaw", "daysFor", "(LFilmSchedule;I[J)I"⟩ ∈ fs_tb := fs_in 1168 (by decide +kernel) rfl
theorem q_1175 : Cond.methodLink "FilmScheduleLaw" 189 ⟨"FilmScheduleLaw", "costWith", "(LFilmSchedule;II[J)I"⟩ ∈ fs_tb := fs_in 1175 (by decide +kernel) rfl
theorem q_1182 : Cond.methodLink "FilmScheduleLaw" 192 ⟨"FilmScheduleLaw", "bestDay", "(LFilmSchedule;I[J)I"⟩ ∈ fs_tb := fs_in 1182 (by decide +kernel) rfl
theorem q_1189 : Cond.methodLink "FilmScheduleLaw" 199 ⟨"FilmScheduleLaw", "waitingFor", "(LFilmSchedule;IZ[J)I"⟩ ∈ fs_tb := fs_in 1189 (by decide +kernel) rfl
theorem q_1196 : Cond.classLink "FilmScheduleLaw" 73 "FilmScheduleModel" ∈ fs_tb := fs_in 1196 (by decide +kernel) rfl
theorem q_1197 : Cond.instantiable "FilmScheduleModel" 33 ∈ fs_tb := fs_in 1197 (by decide +kernel) rfl
theorem q_1198 : Cond.methodLink "FilmScheduleLaw" 75 ⟨"FilmScheduleModel", "<init>", "()V"⟩ ∈ fs_tb := fs_in 1198 (by decide +kernel) rfl
theorem q_1306 : Cond.methodLink "FilmScheduleLaw" 124 ⟨"FilmScheduleModel", "thrown", "()I"⟩ ∈ fs_tb := fs_in 1306 (by decide +kernel) rfl
theorem q_1310 : Cond.methodLink "FilmScheduleLaw" 80 ⟨"FilmScheduleModel", "feed", "(IIIII)I"⟩ ∈ fs_tb := fs_in 1310 (by decide +kernel) rfl
theorem q_1314 : Cond.methodLink "FilmScheduleLaw" 84 ⟨"FilmScheduleModel", "load", "(I)I"⟩ ∈ fs_tb := fs_in 1314 (by decide +kernel) rfl
theorem q_1437 : Cond.methodLink "FilmScheduleLaw" 89 ⟨"FilmScheduleModel", "errorPosition", "()I"⟩ ∈ fs_tb := fs_in 1437 (by decide +kernel) rfl
theorem q_1441 : Cond.methodLink "FilmScheduleLaw" 93 ⟨"FilmScheduleModel", "locationCount", "()I"⟩ ∈ fs_tb := fs_in 1441 (by decide +kernel) rfl
theorem q_1445 : Cond.methodLink "FilmScheduleLaw" 97 ⟨"FilmScheduleModel", "actorCount", "()I"⟩ ∈ fs_tb := fs_in 1445 (by decide +kernel) rfl
theorem q_1449 : Cond.methodLink "FilmScheduleLaw" 101 ⟨"FilmScheduleModel", "sceneCount", "()I"⟩ ∈ fs_tb := fs_in 1449 (by decide +kernel) rfl
theorem q_1453 : Cond.methodLink "FilmScheduleLaw" 105 ⟨"FilmScheduleModel", "undoCount", "()I"⟩ ∈ fs_tb := fs_in 1453 (by decide +kernel) rfl
theorem q_1457 : Cond.methodLink "FilmScheduleLaw" 109 ⟨"FilmScheduleModel", "locationNamed", "(I)I"⟩ ∈ fs_tb := fs_in 1457 (by decide +kernel) rfl
theorem q_1461 : Cond.methodLink "FilmScheduleLaw" 113 ⟨"FilmScheduleModel", "actorNamed", "(I)I"⟩ ∈ fs_tb := fs_in 1461 (by decide +kernel) rfl
theorem q_1465 : Cond.methodLink "FilmScheduleLaw" 117 ⟨"FilmScheduleModel", "getSetting", "(I)I"⟩ ∈ fs_tb := fs_in 1465 (by decide +kernel) rfl
theorem q_1472 : Cond.methodLink "FilmScheduleLaw" 123 ⟨"FilmScheduleModel", "locationProperty", "(II)I"⟩ ∈ fs_tb := fs_in 1472 (by decide +kernel) rfl
theorem q_1480 : Cond.methodLink "FilmScheduleLaw" 130 ⟨"FilmScheduleModel", "feeOf", "(I)I"⟩ ∈ fs_tb := fs_in 1480 (by decide +kernel) rfl
theorem q_1488 : Cond.methodLink "FilmScheduleLaw" 133 ⟨"FilmScheduleModel", "sceneProperty", "(II)I"⟩ ∈ fs_tb := fs_in 1488 (by decide +kernel) rfl
theorem q_1496 : Cond.methodLink "FilmScheduleLaw" 136 ⟨"FilmScheduleModel", "dayOf", "(I)I"⟩ ∈ fs_tb := fs_in 1496 (by decide +kernel) rfl
theorem q_1500 : Cond.methodLink "FilmScheduleLaw" 139 ⟨"FilmScheduleModel", "scenesOn", "(I)I"⟩ ∈ fs_tb := fs_in 1500 (by decide +kernel) rfl
theorem q_1511 : Cond.methodLink "FilmScheduleLaw" 142 ⟨"FilmScheduleModel", "locationOn", "(I)I"⟩ ∈ fs_tb := fs_in 1511 (by decide +kernel) rfl
theorem q_1519 : Cond.methodLink "FilmScheduleLaw" 145 ⟨"FilmScheduleModel", "isNight", "(I)Z"⟩ ∈ fs_tb := fs_in 1519 (by decide +kernel) rfl
theorem q_1523 : Cond.methodLink "FilmScheduleLaw" 148 ⟨"FilmScheduleModel", "lengthOn", "(I)I"⟩ ∈ fs_tb := fs_in 1523 (by decide +kernel) rfl
theorem q_1527 : Cond.methodLink "FilmScheduleLaw" 151 ⟨"FilmScheduleModel", "castOn", "(I)I"⟩ ∈ fs_tb := fs_in 1527 (by decide +kernel) rfl
theorem q_1531 : Cond.methodLink "FilmScheduleLaw" 155 ⟨"FilmScheduleModel", "span", "()I"⟩ ∈ fs_tb := fs_in 1531 (by decide +kernel) rfl
theorem q_1539 : Cond.methodLink "FilmScheduleLaw" 158 ⟨"FilmScheduleModel", "statusOf", "(II)I"⟩ ∈ fs_tb := fs_in 1539 (by decide +kernel) rfl
theorem q_1567 : Cond.methodLink "FilmScheduleLaw" 161 ⟨"FilmScheduleModel", "firstDay", "(I)I"⟩ ∈ fs_tb := fs_in 1567 (by decide +kernel) rfl
theorem q_1571 : Cond.methodLink "FilmScheduleLaw" 164 ⟨"FilmScheduleModel", "lastDay", "(I)I"⟩ ∈ fs_tb := fs_in 1571 (by decide +kernel) rfl
theorem q_1575 : Cond.methodLink "FilmScheduleLaw" 167 ⟨"FilmScheduleModel", "daysWith", "(II)I"⟩ ∈ fs_tb := fs_in 1575 (by decide +kernel) rfl
theorem q_1583 : Cond.methodLink "FilmScheduleLaw" 170 ⟨"FilmScheduleModel", "actorCost", "(I)I"⟩ ∈ fs_tb := fs_in 1583 (by decide +kernel) rfl
theorem q_1595 : Cond.methodLink "FilmScheduleLaw" 174 ⟨"FilmScheduleModel", "moves", "()I"⟩ ∈ fs_tb := fs_in 1595 (by decide +kernel) rfl
theorem q_1603 : Cond.methodLink "FilmScheduleLaw" 178 ⟨"FilmScheduleModel", "cost", "()I"⟩ ∈ fs_tb := fs_in 1603 (by decide +kernel) rfl
theorem q_1611 : Cond.methodLink "FilmScheduleLaw" 182 ⟨"FilmScheduleModel", "holdingCost", "()I"⟩ ∈ fs_tb := fs_in 1611 (by decide +kernel) rfl
theorem q_1615 : Cond.methodLink "FilmScheduleLaw" 185 ⟨"FilmScheduleModel", "reasonFor", "(II)I"⟩ ∈ fs_tb := fs_in 1615 (by decide +kernel) rfl
theorem q_1619 : Cond.methodLink "FilmScheduleLaw" 188 ⟨"FilmScheduleModel", "daysFor", "(I)I"⟩ ∈ fs_tb := fs_in 1619 (by decide +kernel) rfl
theorem q_1623 : Cond.methodLink "FilmScheduleLaw" 191 ⟨"FilmScheduleModel", "costWith", "(II)I"⟩ ∈ fs_tb := fs_in 1623 (by decide +kernel) rfl
theorem q_1631 : Cond.methodLink "FilmScheduleLaw" 194 ⟨"FilmScheduleModel", "bestDay", "(I)I"⟩ ∈ fs_tb := fs_in 1631 (by decide +kernel) rfl
theorem q_1635 : Cond.methodLink "FilmScheduleLaw" 198 ⟨"FilmScheduleModel", "fewestDays", "()I"⟩ ∈ fs_tb := fs_in 1635 (by decide +kernel) rfl
theorem q_1639 : Cond.methodLink "FilmScheduleLaw" 202 ⟨"FilmScheduleModel", "waitingFor", "(IZ)I"⟩ ∈ fs_tb := fs_in 1639 (by decide +kernel) rfl
theorem q_1643 : Cond.methodLink "FilmScheduleLaw" 206 ⟨"FilmScheduleModel", "rainDays", "(I)I"⟩ ∈ fs_tb := fs_in 1643 (by decide +kernel) rfl
theorem q_1666 : Cond.methodLink "FilmScheduleLaw" 210 ⟨"FilmScheduleModel", "rainLost", "(I)I"⟩ ∈ fs_tb := fs_in 1666 (by decide +kernel) rfl
theorem q_1670 : Cond.methodLink "FilmScheduleLaw" 214 ⟨"FilmScheduleModel", "rainDay", "(II)I"⟩ ∈ fs_tb := fs_in 1670 (by decide +kernel) rfl
theorem q_1674 : Cond.methodLink "FilmScheduleLaw" 218 ⟨"FilmScheduleModel", "worstRain", "()I"⟩ ∈ fs_tb := fs_in 1674 (by decide +kernel) rfl
theorem q_1678 : Cond.methodLink "FilmScheduleLaw" 222 ⟨"FilmScheduleModel", "bestCost", "()I"⟩ ∈ fs_tb := fs_in 1678 (by decide +kernel) rfl
theorem q_1694 : Cond.methodLink "FilmScheduleLaw" 226 ⟨"FilmScheduleModel", "bestOrder", "(I)I"⟩ ∈ fs_tb := fs_in 1694 (by decide +kernel) rfl
theorem q_1698 : Cond.methodLink "FilmScheduleLaw" 254 ⟨"FilmScheduleModel", "undo", "()I"⟩ ∈ fs_tb := fs_in 1698 (by decide +kernel) rfl
theorem q_1702 : Cond.methodLink "FilmScheduleLaw" 230 ⟨"FilmScheduleModel", "put", "(II)I"⟩ ∈ fs_tb := fs_in 1702 (by decide +kernel) rfl
theorem q_1710 : Cond.methodLink "FilmScheduleLaw" 234 ⟨"FilmScheduleModel", "take", "(I)I"⟩ ∈ fs_tb := fs_in 1710 (by decide +kernel) rfl
theorem q_1714 : Cond.methodLink "FilmScheduleLaw" 238 ⟨"FilmScheduleModel", "exchange", "(II)I"⟩ ∈ fs_tb := fs_in 1714 (by decide +kernel) rfl
theorem q_1722 : Cond.methodLink "FilmScheduleLaw" 242 ⟨"FilmScheduleModel", "fill", "()I"⟩ ∈ fs_tb := fs_in 1722 (by decide +kernel) rfl
theorem q_1726 : Cond.methodLink "FilmScheduleLaw" 246 ⟨"FilmScheduleModel", "useBestOrder", "()I"⟩ ∈ fs_tb := fs_in 1726 (by decide +kernel) rfl
theorem q_1730 : Cond.methodLink "FilmScheduleLaw" 250 ⟨"FilmScheduleModel", "setSetting", "(II)I"⟩ ∈ fs_tb := fs_in 1730 (by decide +kernel) rfl
theorem q_1734 : Cond.arrayClass .long ∈ fs_tb := fs_in 1734 (by decide +kernel) rfl
theorem dL_law_0 : decode cL_law 0 = .ok (.new 8, 3) := by decide +kernel
theorem dL_law_3 : decode cL_law 3 = .ok (.dup, 1) := by decide +kernel
theorem dL_law_4 : decode cL_law 4 = .ok (.invokespecial 72, 3) := by decide +kernel
theorem dL_law_7 : decode cL_law 7 = .ok (.astore_n 1, 1) := by decide +kernel
theorem dL_law_8 : decode cL_law 8 = .ok (.new 73, 3) := by decide +kernel
theorem dL_law_11 : decode cL_law 11 = .ok (.dup, 1) := by decide +kernel
theorem dL_law_12 : decode cL_law 12 = .ok (.invokespecial 75, 3) := by decide +kernel
theorem dL_law_15 : decode cL_law 15 = .ok (.astore_n 2, 1) := by decide +kernel
theorem dL_law_16 : decode cL_law 16 = .ok (.iconst 1, 1) := by decide +kernel
theorem dL_law_17 : decode cL_law 17 = .ok (.newarray .long, 2) := by decide +kernel
theorem dL_law_19 : decode cL_law 19 = .ok (.astore_n 3, 1) := by decide +kernel
theorem dL_law_20 : decode cL_law 20 = .ok (.iconst 0, 1) := by decide +kernel
theorem dL_law_21 : decode cL_law 21 = .ok (.istore 4, 2) := by decide +kernel
theorem dL_law_23 : decode cL_law 23 = .ok (.iload 4, 2) := by decide +kernel
theorem dL_law_25 : decode cL_law 25 = .ok (.aload_n 0, 1) := by decide +kernel
theorem dL_law_26 : decode cL_law 26 = .ok (.arraylength, 1) := by decide +kernel
theorem dL_law_27 : decode cL_law 27 = .ok (.bipush 6, 2) := by decide +kernel
theorem dL_law_29 : decode cL_law 29 = .ok (.isub, 1) := by decide +kernel
theorem dL_law_30 : decode cL_law 30 = .ok (.if_icmp .gt 2007, 3) := by decide +kernel
theorem dL_law_33 : decode cL_law 33 = .ok (.aload_n 0, 1) := by decide +kernel
theorem dL_law_34 : decode cL_law 34 = .ok (.iload 4, 2) := by decide +kernel
theorem dL_law_36 : decode cL_law 36 = .ok (.iaload, 1) := by decide +kernel
theorem dL_law_37 : decode cL_law 37 = .ok (.bipush 63, 2) := by decide +kernel
theorem dL_law_39 : decode cL_law 39 = .ok (.iand, 1) := by decide +kernel
theorem dL_law_40 : decode cL_law 40 = .ok (.tableswitch 1991 0 46 #[204, 277, 302, 315, 328, 341, 354, 367, 392, 417, 442, 510, 566, 634, 690, 746, 802, 865, 921, 977, 990, 1058, 1114, 1170, 1238, 1294, 1307, 1320, 1333, 1401, 1457, 1525, 1581, 1594, 1678, 1703, 1728, 1765, 1778, 1791, 1816, 1853, 1878, 1915, 1928, 1941, 1978], 204) := by decide +kernel
theorem dL_law_244 : decode cL_law 244 = .ok (.aload_n 1, 1) := by decide +kernel
theorem dL_law_245 : decode cL_law 245 = .ok (.aload_n 0, 1) := by decide +kernel
theorem dL_law_246 : decode cL_law 246 = .ok (.iload 4, 2) := by decide +kernel
theorem dL_law_248 : decode cL_law 248 = .ok (.iconst 1, 1) := by decide +kernel
theorem dL_law_249 : decode cL_law 249 = .ok (.iadd, 1) := by decide +kernel
theorem dL_law_250 : decode cL_law 250 = .ok (.iaload, 1) := by decide +kernel
theorem dL_law_251 : decode cL_law 251 = .ok (.aload_n 0, 1) := by decide +kernel
theorem dL_law_252 : decode cL_law 252 = .ok (.iload 4, 2) := by decide +kernel
theorem dL_law_254 : decode cL_law 254 = .ok (.iconst 2, 1) := by decide +kernel
theorem dL_law_255 : decode cL_law 255 = .ok (.iadd, 1) := by decide +kernel
theorem dL_law_256 : decode cL_law 256 = .ok (.iaload, 1) := by decide +kernel
theorem dL_law_257 : decode cL_law 257 = .ok (.aload_n 0, 1) := by decide +kernel
theorem dL_law_258 : decode cL_law 258 = .ok (.iload 4, 2) := by decide +kernel
theorem dL_law_260 : decode cL_law 260 = .ok (.iconst 3, 1) := by decide +kernel
theorem dL_law_261 : decode cL_law 261 = .ok (.iadd, 1) := by decide +kernel
theorem dL_law_262 : decode cL_law 262 = .ok (.iaload, 1) := by decide +kernel
theorem dL_law_263 : decode cL_law 263 = .ok (.aload_n 0, 1) := by decide +kernel
theorem dL_law_264 : decode cL_law 264 = .ok (.iload 4, 2) := by decide +kernel
theorem dL_law_266 : decode cL_law 266 = .ok (.iconst 4, 1) := by decide +kernel
theorem dL_law_267 : decode cL_law 267 = .ok (.iadd, 1) := by decide +kernel
theorem dL_law_268 : decode cL_law 268 = .ok (.iaload, 1) := by decide +kernel
theorem dL_law_269 : decode cL_law 269 = .ok (.aload_n 0, 1) := by decide +kernel
theorem dL_law_270 : decode cL_law 270 = .ok (.iload 4, 2) := by decide +kernel
theorem dL_law_272 : decode cL_law 272 = .ok (.iconst 5, 1) := by decide +kernel
theorem dL_law_273 : decode cL_law 273 = .ok (.iadd, 1) := by decide +kernel
theorem dL_law_274 : decode cL_law 274 = .ok (.iaload, 1) := by decide +kernel
theorem dL_law_275 : decode cL_law 275 = .ok (.invokevirtual 76, 3) := by decide +kernel
theorem dL_law_278 : decode cL_law 278 = .ok (.aload_n 2, 1) := by decide +kernel
theorem dL_law_279 : decode cL_law 279 = .ok (.aload_n 0, 1) := by decide +kernel
theorem dL_law_280 : decode cL_law 280 = .ok (.iload 4, 2) := by decide +kernel
theorem dL_law_282 : decode cL_law 282 = .ok (.iconst 1, 1) := by decide +kernel
theorem dL_law_283 : decode cL_law 283 = .ok (.iadd, 1) := by decide +kernel
theorem dL_law_284 : decode cL_law 284 = .ok (.iaload, 1) := by decide +kernel
theorem dL_law_285 : decode cL_law 285 = .ok (.aload_n 0, 1) := by decide +kernel
theorem dL_law_286 : decode cL_law 286 = .ok (.iload 4, 2) := by decide +kernel
theorem dL_law_288 : decode cL_law 288 = .ok (.iconst 2, 1) := by decide +kernel
theorem dL_law_289 : decode cL_law 289 = .ok (.iadd, 1) := by decide +kernel
theorem dL_law_290 : decode cL_law 290 = .ok (.iaload, 1) := by decide +kernel
theorem dL_law_291 : decode cL_law 291 = .ok (.aload_n 0, 1) := by decide +kernel
theorem dL_law_292 : decode cL_law 292 = .ok (.iload 4, 2) := by decide +kernel
theorem dL_law_294 : decode cL_law 294 = .ok (.iconst 3, 1) := by decide +kernel
theorem dL_law_295 : decode cL_law 295 = .ok (.iadd, 1) := by decide +kernel
theorem dL_law_296 : decode cL_law 296 = .ok (.iaload, 1) := by decide +kernel
theorem dL_law_297 : decode cL_law 297 = .ok (.aload_n 0, 1) := by decide +kernel
theorem dL_law_298 : decode cL_law 298 = .ok (.iload 4, 2) := by decide +kernel
theorem dL_law_300 : decode cL_law 300 = .ok (.iconst 4, 1) := by decide +kernel
theorem dL_law_301 : decode cL_law 301 = .ok (.iadd, 1) := by decide +kernel
theorem dL_law_302 : decode cL_law 302 = .ok (.iaload, 1) := by decide +kernel
theorem dL_law_303 : decode cL_law 303 = .ok (.aload_n 0, 1) := by decide +kernel
theorem dL_law_304 : decode cL_law 304 = .ok (.iload 4, 2) := by decide +kernel
theorem dL_law_306 : decode cL_law 306 = .ok (.iconst 5, 1) := by decide +kernel
theorem dL_law_307 : decode cL_law 307 = .ok (.iadd, 1) := by decide +kernel
theorem dL_law_308 : decode cL_law 308 = .ok (.iaload, 1) := by decide +kernel
theorem dL_law_309 : decode cL_law 309 = .ok (.invokevirtual 80, 3) := by decide +kernel
theorem dL_law_312 : decode cL_law 312 = .ok (.if_icmp .eq 1719, 3) := by decide +kernel
theorem dL_law_315 : decode cL_law 315 = .ok (.iconst 0, 1) := by decide +kernel
theorem dL_law_316 : decode cL_law 316 = .ok (.ireturn, 1) := by decide +kernel
theorem dL_law_317 : decode cL_law 317 = .ok (.aload_n 1, 1) := by decide +kernel
theorem dL_law_318 : decode cL_law 318 = .ok (.aload_n 0, 1) := by decide +kernel
theorem dL_law_319 : decode cL_law 319 = .ok (.iload 4, 2) := by decide +kernel
theorem dL_law_321 : decode cL_law 321 = .ok (.iconst 1, 1) := by decide +kernel
theorem dL_law_322 : decode cL_law 322 = .ok (.iadd, 1) := by decide +kernel
theorem dL_law_323 : decode cL_law 323 = .ok (.iaload, 1) := by decide +kernel
theorem dL_law_324 : decode cL_law 324 = .ok (.invokevirtual 81, 3) := by decide +kernel
theorem dL_law_327 : decode cL_law 327 = .ok (.aload_n 2, 1) := by decide +kernel
theorem dL_law_328 : decode cL_law 328 = .ok (.aload_n 0, 1) := by decide +kernel
theorem dL_law_329 : decode cL_law 329 = .ok (.iload 4, 2) := by decide +kernel
theorem dL_law_331 : decode cL_law 331 = .ok (.iconst 1, 1) := by decide +kernel
theorem dL_law_332 : decode cL_law 332 = .ok (.iadd, 1) := by decide +kernel
theorem dL_law_333 : decode cL_law 333 = .ok (.iaload, 1) := by decide +kernel
theorem dL_law_334 : decode cL_law 334 = .ok (.invokevirtual 84, 3) := by decide +kernel
theorem dL_law_337 : decode cL_law 337 = .ok (.if_icmp .eq 1694, 3) := by decide +kernel
theorem dL_law_340 : decode cL_law 340 = .ok (.iconst 0, 1) := by decide +kernel
theorem dL_law_341 : decode cL_law 341 = .ok (.ireturn, 1) := by decide +kernel
theorem dL_law_342 : decode cL_law 342 = .ok (.aload_n 1, 1) := by decide +kernel
theorem dL_law_343 : decode cL_law 343 = .ok (.invokevirtual 85, 3) := by decide +kernel
theorem dL_law_346 : decode cL_law 346 = .ok (.aload_n 2, 1) := by decide +kernel
theorem dL_law_347 : decode cL_law 347 = .ok (.invokevirtual 89, 3) := by decide +kernel
theorem dL_law_350 : decode cL_law 350 = .ok (.if_icmp .eq 1681, 3) := by decide +kernel
theorem dL_law_353 : decode cL_law 353 = .ok (.iconst 0, 1) := by decide +kernel
theorem dL_law_354 : decode cL_law 354 = .ok (.ireturn, 1) := by decide +kernel
theorem dL_law_355 : decode cL_law 355 = .ok (.aload_n 1, 1) := by decide +kernel
theorem dL_law_356 : decode cL_law 356 = .ok (.invokevirtual 90, 3) := by decide +kernel
theorem dL_law_359 : decode cL_law 359 = .ok (.aload_n 2, 1) := by decide +kernel
theorem dL_law_360 : decode cL_law 360 = .ok (.invokevirtual 93, 3) := by decide +kernel
theorem dL_law_363 : decode cL_law 363 = .ok (.if_icmp .eq 1668, 3) := by decide +kernel
theorem dL_law_366 : decode cL_law 366 = .ok (.iconst 0, 1) := by decide +kernel
theorem dL_law_367 : decode cL_law 367 = .ok (.ireturn, 1) := by decide +kernel
theorem dL_law_368 : decode cL_law 368 = .ok (.aload_n 1, 1) := by decide +kernel
theorem dL_law_369 : decode cL_law 369 = .ok (.invokevirtual 94, 3) := by decide +kernel
theorem dL_law_372 : decode cL_law 372 = .ok (.aload_n 2, 1) := by decide +kernel
theorem dL_law_373 : decode cL_law 373 = .ok (.invokevirtual 97, 3) := by decide +kernel
theorem dL_law_376 : decode cL_law 376 = .ok (.if_icmp .eq 1655, 3) := by decide +kernel
theorem dL_law_379 : decode cL_law 379 = .ok (.iconst 0, 1) := by decide +kernel
theorem dL_law_380 : decode cL_law 380 = .ok (.ireturn, 1) := by decide +kernel
theorem dL_law_381 : decode cL_law 381 = .ok (.aload_n 1, 1) := by decide +kernel
theorem dL_law_382 : decode cL_law 382 = .ok (.invokevirtual 98, 3) := by decide +kernel
theorem dL_law_385 : decode cL_law 385 = .ok (.aload_n 2, 1) := by decide +kernel
theorem dL_law_386 : decode cL_law 386 = .ok (.invokevirtual 101, 3) := by decide +kernel
theorem dL_law_389 : decode cL_law 389 = .ok (.if_icmp .eq 1642, 3) := by decide +kernel
theorem dL_law_392 : decode cL_law 392 = .ok (.iconst 0, 1) := by decide +kernel
theorem dL_law_393 : decode cL_law 393 = .ok (.ireturn, 1) := by decide +kernel
theorem dL_law_394 : decode cL_law 394 = .ok (.aload_n 1, 1) := by decide +kernel
theorem dL_law_395 : decode cL_law 395 = .ok (.invokevirtual 102, 3) := by decide +kernel
theorem dL_law_398 : decode cL_law 398 = .ok (.aload_n 2, 1) := by decide +kernel
theorem dL_law_399 : decode cL_law 399 = .ok (.invokevirtual 105, 3) := by decide +kernel
theorem dL_law_402 : decode cL_law 402 = .ok (.if_icmp .eq 1629, 3) := by decide +kernel
theorem dL_law_405 : decode cL_law 405 = .ok (.iconst 0, 1) := by decide +kernel
theorem dL_law_406 : decode cL_law 406 = .ok (.ireturn, 1) := by decide +kernel
theorem dL_law_407 : decode cL_law 407 = .ok (.aload_n 1, 1) := by decide +kernel
theorem dL_law_408 : decode cL_law 408 = .ok (.aload_n 0, 1) := by decide +kernel
theorem dL_law_409 : decode cL_law 409 = .ok (.iload 4, 2) := by decide +kernel
theorem dL_law_411 : decode cL_law 411 = .ok (.iconst 1, 1) := by decide +kernel
theorem dL_law_412 : decode cL_law 412 = .ok (.iadd, 1) := by decide +kernel
theorem dL_law_413 : decode cL_law 413 = .ok (.iaload, 1) := by decide +kernel
theorem dL_law_414 : decode cL_law 414 = .ok (.invokevirtual 106, 3) := by decide +kernel
theorem dL_law_417 : decode cL_law 417 = .ok (.aload_n 2, 1) := by decide +kernel
theorem dL_law_418 : decode cL_law 418 = .ok (.aload_n 0, 1) := by decide +kernel
theorem dL_law_419 : decode cL_law 419 = .ok (.iload 4, 2) := by decide +kernel
theorem dL_law_421 : decode cL_law 421 = .ok (.iconst 1, 1) := by decide +kernel
theorem dL_law_422 : decode cL_law 422 = .ok (.iadd, 1) := by decide +kernel
theorem dL_law_423 : decode cL_law 423 = .ok (.iaload, 1) := by decide +kernel
theorem dL_law_424 : decode cL_law 424 = .ok (.invokevirtual 109, 3) := by decide +kernel
theorem dL_law_427 : decode cL_law 427 = .ok (.if_icmp .eq 1604, 3) := by decide +kernel
theorem dL_law_430 : decode cL_law 430 = .ok (.iconst 0, 1) := by decide +kernel
theorem dL_law_431 : decode cL_law 431 = .ok (.ireturn, 1) := by decide +kernel
theorem dL_law_432 : decode cL_law 432 = .ok (.aload_n 1, 1) := by decide +kernel
theorem dL_law_433 : decode cL_law 433 = .ok (.aload_n 0, 1) := by decide +kernel
theorem dL_law_434 : decode cL_law 434 = .ok (.iload 4, 2) := by decide +kernel
theorem dL_law_436 : decode cL_law 436 = .ok (.iconst 1, 1) := by decide +kernel
theorem dL_law_437 : decode cL_law 437 = .ok (.iadd, 1) := by decide +kernel
theorem dL_law_438 : decode cL_law 438 = .ok (.iaload, 1) := by decide +kernel
theorem dL_law_439 : decode cL_law 439 = .ok (.invokevirtual 110, 3) := by decide +kernel
theorem dL_law_442 : decode cL_law 442 = .ok (.aload_n 2, 1) := by decide +kernel
theorem dL_law_443 : decode cL_law 443 = .ok (.aload_n 0, 1) := by decide +kernel
theorem dL_law_444 : decode cL_law 444 = .ok (.iload 4, 2) := by decide +kernel
theorem dL_law_446 : decode cL_law 446 = .ok (.iconst 1, 1) := by decide +kernel
theorem dL_law_447 : decode cL_law 447 = .ok (.iadd, 1) := by decide +kernel
theorem dL_law_448 : decode cL_law 448 = .ok (.iaload, 1) := by decide +kernel
theorem dL_law_449 : decode cL_law 449 = .ok (.invokevirtual 113, 3) := by decide +kernel
theorem dL_law_452 : decode cL_law 452 = .ok (.if_icmp .eq 1579, 3) := by decide +kernel
theorem dL_law_455 : decode cL_law 455 = .ok (.iconst 0, 1) := by decide +kernel
theorem dL_law_456 : decode cL_law 456 = .ok (.ireturn, 1) := by decide +kernel
theorem dL_law_457 : decode cL_law 457 = .ok (.aload_n 1, 1) := by decide +kernel
theorem dL_law_458 : decode cL_law 458 = .ok (.aload_n 0, 1) := by decide +kernel
theorem dL_law_459 : decode cL_law 459 = .ok (.iload 4, 2) := by decide +kernel
theorem dL_law_461 : decode cL_law 461 = .ok (.iconst 1, 1) := by decide +kernel
theorem dL_law_462 : decode cL_law 462 = .ok (.iadd, 1) := by decide +kernel
theorem dL_law_463 : decode cL_law 463 = .ok (.iaload, 1) := by decide +kernel
theorem dL_law_464 : decode cL_law 464 = .ok (.invokevirtual 114, 3) := by decide +kernel
theorem dL_law_467 : decode cL_law 467 = .ok (.aload_n 2, 1) := by decide +kernel
theorem dL_law_468 : decode cL_law 468 = .ok (.aload_n 0, 1) := by decide +kernel
theorem dL_law_469 : decode cL_law 469 = .ok (.iload 4, 2) := by decide +kernel
theorem dL_law_471 : decode cL_law 471 = .ok (.iconst 1, 1) := by decide +kernel
theorem dL_law_472 : decode cL_law 472 = .ok (.iadd, 1) := by decide +kernel
theorem dL_law_473 : decode cL_law 473 = .ok (.iaload, 1) := by decide +kernel
theorem dL_law_474 : decode cL_law 474 = .ok (.invokevirtual 117, 3) := by decide +kernel
theorem dL_law_477 : decode cL_law 477 = .ok (.if_icmp .eq 1554, 3) := by decide +kernel
theorem dL_law_480 : decode cL_law 480 = .ok (.iconst 0, 1) := by decide +kernel
theorem dL_law_481 : decode cL_law 481 = .ok (.ireturn, 1) := by decide +kernel
theorem dL_law_482 : decode cL_law 482 = .ok (.aload_n 1, 1) := by decide +kernel
theorem dL_law_483 : decode cL_law 483 = .ok (.aload_n 0, 1) := by decide +kernel
theorem dL_law_484 : decode cL_law 484 = .ok (.iload 4, 2) := by decide +kernel
theorem dL_law_486 : decode cL_law 486 = .ok (.iconst 1, 1) := by decide +kernel
theorem dL_law_487 : decode cL_law 487 = .ok (.iadd, 1) := by decide +kernel
theorem dL_law_488 : decode cL_law 488 = .ok (.iaload, 1) := by decide +kernel
theorem dL_law_489 : decode cL_law 489 = .ok (.aload_n 0, 1) := by decide +kernel
theorem dL_law_490 : decode cL_law 490 = .ok (.iload 4, 2) := by decide +kernel
theorem dL_law_492 : decode cL_law 492 = .ok (.iconst 2, 1) := by decide +kernel
theorem dL_law_493 : decode cL_law 493 = .ok (.iadd, 1) := by decide +kernel
theorem dL_law_494 : decode cL_law 494 = .ok (.iaload, 1) := by decide +kernel
theorem dL_law_495 : decode cL_law 495 = .ok (.aload_n 3, 1) := by decide +kernel
theorem dL_law_496 : decode cL_law 496 = .ok (.invokestatic 118, 3) := by decide +kernel
theorem dL_law_499 : decode cL_law 499 = .ok (.istore 5, 2) := by decide +kernel
theorem dL_law_501 : decode cL_law 501 = .ok (.aload_n 2, 1) := by decide +kernel
theorem dL_law_502 : decode cL_law 502 = .ok (.aload_n 0, 1) := by decide +kernel
theorem dL_law_503 : decode cL_law 503 = .ok (.iload 4, 2) := by decide +kernel
theorem dL_law_505 : decode cL_law 505 = .ok (.iconst 1, 1) := by decide +kernel
theorem dL_law_506 : decode cL_law 506 = .ok (.iadd, 1) := by decide +kernel
theorem dL_law_507 : decode cL_law 507 = .ok (.iaload, 1) := by decide +kernel
theorem dL_law_508 : decode cL_law 508 = .ok (.aload_n 0, 1) := by decide +kernel
theorem dL_law_509 : decode cL_law 509 = .ok (.iload 4, 2) := by decide +kernel
theorem dL_law_511 : decode cL_law 511 = .ok (.iconst 2, 1) := by decide +kernel
theorem dL_law_512 : decode cL_law 512 = .ok (.iadd, 1) := by decide +kernel
theorem dL_law_513 : decode cL_law 513 = .ok (.iaload, 1) := by decide +kernel
theorem dL_law_514 : decode cL_law 514 = .ok (.invokevirtual 123, 3) := by decide +kernel
theorem dL_law_517 : decode cL_law 517 = .ok (.istore 6, 2) := by decide +kernel
theorem dL_law_519 : decode cL_law 519 = .ok (.aload_n 2, 1) := by decide +kernel
theorem dL_law_520 : decode cL_law 520 = .ok (.invokevirtual 124, 3) := by decide +kernel
theorem dL_law_523 : decode cL_law 523 = .ok (.iload 5, 2) := by decide +kernel
theorem dL_law_525 : decode cL_law 525 = .ok (.if_icmp .eq 5, 3) := by decide +kernel
theorem dL_law_528 : decode cL_law 528 = .ok (.iconst 0, 1) := by decide +kernel
theorem dL_law_529 : decode cL_law 529 = .ok (.ireturn, 1) := by decide +kernel
theorem dL_law_530 : decode cL_law 530 = .ok (.iload 5, 2) := by decide +kernel
theorem dL_law_532 : decode cL_law 532 = .ok (.ifCond .ne 15, 3) := by decide +kernel
theorem dL_law_535 : decode cL_law 535 = .ok (.aload_n 3, 1) := by decide +kernel
theorem dL_law_536 : decode cL_law 536 = .ok (.iconst 0, 1) := by decide +kernel
theorem dL_law_537 : decode cL_law 537 = .ok (.laload, 1) := by decide +kernel
theorem dL_law_538 : decode cL_law 538 = .ok (.iload 6, 2) := by decide +kernel
theorem dL_law_540 : decode cL_law 540 = .ok (.i2l, 1) := by decide +kernel
theorem dL_law_541 : decode cL_law 541 = .ok (.lcmp, 1) := by decide +kernel
theorem dL_law_542 : decode cL_law 542 = .ok (.ifCond .eq 5, 3) := by decide +kernel
theorem dL_law_545 : decode cL_law 545 = .ok (.iconst 0, 1) := by decide +kernel
theorem dL_law_546 : decode cL_law 546 = .ok (.ireturn, 1) := by decide +kernel
theorem dL_law_547 : decode cL_law 547 = .ok (.goto 1484, 3) := by decide +kernel
theorem dL_law_550 : decode cL_law 550 = .ok (.aload_n 1, 1) := by decide +kernel
theorem dL_law_551 : decode cL_law 551 = .ok (.aload_n 0, 1) := by decide +kernel
theorem dL_law_552 : decode cL_law 552 = .ok (.iload 4, 2) := by decide +kernel
theorem dL_law_554 : decode cL_law 554 = .ok (.iconst 1, 1) := by decide +kernel
theorem dL_law_555 : decode cL_law 555 = .ok (.iadd, 1) := by decide +kernel
theorem dL_law_556 : decode cL_law 556 = .ok (.iaload, 1) := by decide +kernel
theorem dL_law_557 : decode cL_law 557 = .ok (.aload_n 3, 1) := by decide +kernel
theorem dL_law_558 : decode cL_law 558 = .ok (.invokestatic 127, 3) := by decide +kernel
theorem dL_law_561 : decode cL_law 561 = .ok (.istore 5, 2) := by decide +kernel
theorem dL_law_563 : decode cL_law 563 = .ok (.aload_n 2, 1) := by decide +kernel
theorem dL_law_564 : decode cL_law 564 = .ok (.aload_n 0, 1) := by decide +kernel
theorem dL_law_565 : decode cL_law 565 = .ok (.iload 4, 2) := by decide +kernel
theorem dL_law_567 : decode cL_law 567 = .ok (.iconst 1, 1) := by decide +kernel
theorem dL_law_568 : decode cL_law 568 = .ok (.iadd, 1) := by decide +kernel
theorem dL_law_569 : decode cL_law 569 = .ok (.iaload, 1) := by decide +kernel
theorem dL_law_570 : decode cL_law 570 = .ok (.invokevirtual 130, 3) := by decide +kernel
theorem dL_law_573 : decode cL_law 573 = .ok (.istore 6, 2) := by decide +kernel
theorem dL_law_575 : decode cL_law 575 = .ok (.aload_n 2, 1) := by decide +kernel
theorem dL_law_576 : decode cL_law 576 = .ok (.invokevirtual 124, 3) := by decide +kernel
theorem dL_law_579 : decode cL_law 579 = .ok (.iload 5, 2) := by decide +kernel
theorem dL_law_581 : decode cL_law 581 = .ok (.if_icmp .eq 5, 3) := by decide +kernel
theorem dL_law_584 : decode cL_law 584 = .ok (.iconst 0, 1) := by decide +kernel
theorem dL_law_585 : decode cL_law 585 = .ok (.ireturn, 1) := by decide +kernel
theorem dL_law_586 : decode cL_law 586 = .ok (.iload 5, 2) := by decide +kernel
theorem dL_law_588 : decode cL_law 588 = .ok (.ifCond .ne 15, 3) := by decide +kernel
theorem dL_law_591 : decode cL_law 591 = .ok (.aload_n 3, 1) := by decide +kernel
theorem dL_law_592 : decode cL_law 592 = .ok (.iconst 0, 1) := by decide +kernel
theorem dL_law_593 : decode cL_law 593 = .ok (.laload, 1) := by decide +kernel
theorem dL_law_594 : decode cL_law 594 = .ok (.iload 6, 2) := by decide +kernel
theorem dL_law_596 : decode cL_law 596 = .ok (.i2l, 1) := by decide +kernel
theorem dL_law_597 : decode cL_law 597 = .ok (.lcmp, 1) := by decide +kernel
theorem dL_law_598 : decode cL_law 598 = .ok (.ifCond .eq 5, 3) := by decide +kernel
theorem dL_law_601 : decode cL_law 601 = .ok (.iconst 0, 1) := by decide +kernel
theorem dL_law_602 : decode cL_law 602 = .ok (.ireturn, 1) := by decide +kernel
theorem dL_law_603 : decode cL_law 603 = .ok (.goto 1428, 3) := by decide +kernel
theorem dL_law_606 : decode cL_law 606 = .ok (.aload_n 1, 1) := by decide +kernel
theorem dL_law_607 : decode cL_law 607 = .ok (.aload_n 0, 1) := by decide +kernel
theorem dL_law_608 : decode cL_law 608 = .ok (.iload 4, 2) := by decide +kernel
theorem dL_law_610 : decode cL_law 610 = .ok (.iconst 1, 1) := by decide +kernel
theorem dL_law_611 : decode cL_law 611 = .ok (.iadd, 1) := by decide +kernel
theorem dL_law_612 : decode cL_law 612 = .ok (.iaload, 1) := by decide +kernel
theorem dL_law_613 : decode cL_law 613 = .ok (.aload_n 0, 1) := by decide +kernel
theorem dL_law_614 : decode cL_law 614 = .ok (.iload 4, 2) := by decide +kernel
theorem dL_law_616 : decode cL_law 616 = .ok (.iconst 2, 1) := by decide +kernel
theorem dL_law_617 : decode cL_law 617 = .ok (.iadd, 1) := by decide +kernel
theorem dL_law_618 : decode cL_law 618 = .ok (.iaload, 1) := by decide +kernel
theorem dL_law_619 : decode cL_law 619 = .ok (.aload_n 3, 1) := by decide +kernel
theorem dL_law_620 : decode cL_law 620 = .ok (.invokestatic 131, 3) := by decide +kernel
theorem dL_law_623 : decode cL_law 623 = .ok (.istore 5, 2) := by decide +kernel
theorem dL_law_625 : decode cL_law 625 = .ok (.aload_n 2, 1) := by decide +kernel
theorem dL_law_626 : decode cL_law 626 = .ok (.aload_n 0, 1) := by decide +kernel
theorem dL_law_627 : decode cL_law 627 = .ok (.iload 4, 2) := by decide +kernel
theorem dL_law_629 : decode cL_law 629 = .ok (.iconst 1, 1) := by decide +kernel
theorem dL_law_630 : decode cL_law 630 = .ok (.iadd, 1) := by decide +kernel
theorem dL_law_631 : decode cL_law 631 = .ok (.iaload, 1) := by decide +kernel
theorem dL_law_632 : decode cL_law 632 = .ok (.aload_n 0, 1) := by decide +kernel
theorem dL_law_633 : decode cL_law 633 = .ok (.iload 4, 2) := by decide +kernel
theorem dL_law_635 : decode cL_law 635 = .ok (.iconst 2, 1) := by decide +kernel
theorem dL_law_636 : decode cL_law 636 = .ok (.iadd, 1) := by decide +kernel
theorem dL_law_637 : decode cL_law 637 = .ok (.iaload, 1) := by decide +kernel
theorem dL_law_638 : decode cL_law 638 = .ok (.invokevirtual 133, 3) := by decide +kernel
theorem dL_law_641 : decode cL_law 641 = .ok (.istore 6, 2) := by decide +kernel
theorem dL_law_643 : decode cL_law 643 = .ok (.aload_n 2, 1) := by decide +kernel
theorem dL_law_644 : decode cL_law 644 = .ok (.invokevirtual 124, 3) := by decide +kernel
theorem dL_law_647 : decode cL_law 647 = .ok (.iload 5, 2) := by decide +kernel
theorem dL_law_649 : decode cL_law 649 = .ok (.if_icmp .eq 5, 3) := by decide +kernel
theorem dL_law_652 : decode cL_law 652 = .ok (.iconst 0, 1) := by decide +kernel
theorem dL_law_653 : decode cL_law 653 = .ok (.ireturn, 1) := by decide +kernel
theorem dL_law_654 : decode cL_law 654 = .ok (.iload 5, 2) := by decide +kernel
theorem dL_law_656 : decode cL_law 656 = .ok (.ifCond .ne 15, 3) := by decide +kernel
theorem dL_law_659 : decode cL_law 659 = .ok (.aload_n 3, 1) := by decide +kernel
theorem dL_law_660 : decode cL_law 660 = .ok (.iconst 0, 1) := by decide +kernel
theorem dL_law_661 : decode cL_law 661 = .ok (.laload, 1) := by decide +kernel
theorem dL_law_662 : decode cL_law 662 = .ok (.iload 6, 2) := by decide +kernel
theorem dL_law_664 : decode cL_law 664 = .ok (.i2l, 1) := by decide +kernel
theorem dL_law_665 : decode cL_law 665 = .ok (.lcmp, 1) := by decide +kernel
theorem dL_law_666 : decode cL_law 666 = .ok (.ifCond .eq 5, 3) := by decide +kernel
theorem dL_law_669 : decode cL_law 669 = .ok (.iconst 0, 1) := by decide +kernel
theorem dL_law_670 : decode cL_law 670 = .ok (.ireturn, 1) := by decide +kernel
theorem dL_law_671 : decode cL_law 671 = .ok (.goto 1360, 3) := by decide +kernel
theorem dL_law_674 : decode cL_law 674 = .ok (.aload_n 1, 1) := by decide +kernel
theorem dL_law_675 : decode cL_law 675 = .ok (.aload_n 0, 1) := by decide +kernel
theorem dL_law_676 : decode cL_law 676 = .ok (.iload 4, 2) := by decide +kernel
theorem dL_law_678 : decode cL_law 678 = .ok (.iconst 1, 1) := by decide +kernel
theorem dL_law_679 : decode cL_law 679 = .ok (.iadd, 1) := by decide +kernel
theorem dL_law_680 : decode cL_law 680 = .ok (.iaload, 1) := by decide +kernel
theorem dL_law_681 : decode cL_law 681 = .ok (.aload_n 3, 1) := by decide +kernel
theorem dL_law_682 : decode cL_law 682 = .ok (.invokestatic 134, 3) := by decide +kernel
theorem dL_law_685 : decode cL_law 685 = .ok (.istore 5, 2) := by decide +kernel
theorem dL_law_687 : decode cL_law 687 = .ok (.aload_n 2, 1) := by decide +kernel
theorem dL_law_688 : decode cL_law 688 = .ok (.aload_n 0, 1) := by decide +kernel
theorem dL_law_689 : decode cL_law 689 = .ok (.iload 4, 2) := by decide +kernel
theorem dL_law_691 : decode cL_law 691 = .ok (.iconst 1, 1) := by decide +kernel
theorem dL_law_692 : decode cL_law 692 = .ok (.iadd, 1) := by decide +kernel
theorem dL_law_693 : decode cL_law 693 = .ok (.iaload, 1) := by decide +kernel
theorem dL_law_694 : decode cL_law 694 = .ok (.invokevirtual 136, 3) := by decide +kernel
theorem dL_law_697 : decode cL_law 697 = .ok (.istore 6, 2) := by decide +kernel
theorem dL_law_699 : decode cL_law 699 = .ok (.aload_n 2, 1) := by decide +kernel
theorem dL_law_700 : decode cL_law 700 = .ok (.invokevirtual 124, 3) := by decide +kernel
theorem dL_law_703 : decode cL_law 703 = .ok (.iload 5, 2) := by decide +kernel
theorem dL_law_705 : decode cL_law 705 = .ok (.if_icmp .eq 5, 3) := by decide +kernel
theorem dL_law_708 : decode cL_law 708 = .ok (.iconst 0, 1) := by decide +kernel
theorem dL_law_709 : decode cL_law 709 = .ok (.ireturn, 1) := by decide +kernel
theorem dL_law_710 : decode cL_law 710 = .ok (.iload 5, 2) := by decide +kernel
theorem dL_law_712 : decode cL_law 712 = .ok (.ifCond .ne 15, 3) := by decide +kernel
theorem dL_law_715 : decode cL_law 715 = .ok (.aload_n 3, 1) := by decide +kernel
theorem dL_law_716 : decode cL_law 716 = .ok (.iconst 0, 1) := by decide +kernel
theorem dL_law_717 : decode cL_law 717 = .ok (.laload, 1) := by decide +kernel
theorem dL_law_718 : decode cL_law 718 = .ok (.iload 6, 2) := by decide +kernel
theorem dL_law_720 : decode cL_law 720 = .ok (.i2l, 1) := by decide +kernel
theorem dL_law_721 : decode cL_law 721 = .ok (.lcmp, 1) := by decide +kernel
theorem dL_law_722 : decode cL_law 722 = .ok (.ifCond .eq 5, 3) := by decide +kernel
theorem dL_law_725 : decode cL_law 725 = .ok (.iconst 0, 1) := by decide +kernel
theorem dL_law_726 : decode cL_law 726 = .ok (.ireturn, 1) := by decide +kernel
theorem dL_law_727 : decode cL_law 727 = .ok (.goto 1304, 3) := by decide +kernel
theorem dL_law_730 : decode cL_law 730 = .ok (.aload_n 1, 1) := by decide +kernel
theorem dL_law_731 : decode cL_law 731 = .ok (.aload_n 0, 1) := by decide +kernel
theorem dL_law_732 : decode cL_law 732 = .ok (.iload 4, 2) := by decide +kernel
theorem dL_law_734 : decode cL_law 734 = .ok (.iconst 1, 1) := by decide +kernel
theorem dL_law_735 : decode cL_law 735 = .ok (.iadd, 1) := by decide +kernel
theorem dL_law_736 : decode cL_law 736 = .ok (.iaload, 1) := by decide +kernel
theorem dL_law_737 : decode cL_law 737 = .ok (.aload_n 3, 1) := by decide +kernel
theorem dL_law_738 : decode cL_law 738 = .ok (.invokestatic 137, 3) := by decide +kernel
theorem dL_law_741 : decode cL_law 741 = .ok (.istore 5, 2) := by decide +kernel
theorem dL_law_743 : decode cL_law 743 = .ok (.aload_n 2, 1) := by decide +kernel
theorem dL_law_744 : decode cL_law 744 = .ok (.aload_n 0, 1) := by decide +kernel
theorem dL_law_745 : decode cL_law 745 = .ok (.iload 4, 2) := by decide +kernel
theorem dL_law_747 : decode cL_law 747 = .ok (.iconst 1, 1) := by decide +kernel
theorem dL_law_748 : decode cL_law 748 = .ok (.iadd, 1) := by decide +kernel
theorem dL_law_749 : decode cL_law 749 = .ok (.iaload, 1) := by decide +kernel
theorem dL_law_750 : decode cL_law 750 = .ok (.invokevirtual 139, 3) := by decide +kernel
theorem dL_law_753 : decode cL_law 753 = .ok (.istore 6, 2) := by decide +kernel
theorem dL_law_755 : decode cL_law 755 = .ok (.aload_n 2, 1) := by decide +kernel
theorem dL_law_756 : decode cL_law 756 = .ok (.invokevirtual 124, 3) := by decide +kernel
theorem dL_law_759 : decode cL_law 759 = .ok (.iload 5, 2) := by decide +kernel
theorem dL_law_761 : decode cL_law 761 = .ok (.if_icmp .eq 5, 3) := by decide +kernel
theorem dL_law_764 : decode cL_law 764 = .ok (.iconst 0, 1) := by decide +kernel
theorem dL_law_765 : decode cL_law 765 = .ok (.ireturn, 1) := by decide +kernel
theorem dL_law_766 : decode cL_law 766 = .ok (.iload 5, 2) := by decide +kernel
theorem dL_law_768 : decode cL_law 768 = .ok (.ifCond .ne 15, 3) := by decide +kernel
theorem dL_law_771 : decode cL_law 771 = .ok (.aload_n 3, 1) := by decide +kernel
theorem dL_law_772 : decode cL_law 772 = .ok (.iconst 0, 1) := by decide +kernel
theorem dL_law_773 : decode cL_law 773 = .ok (.laload, 1) := by decide +kernel
theorem dL_law_774 : decode cL_law 774 = .ok (.iload 6, 2) := by decide +kernel
theorem dL_law_776 : decode cL_law 776 = .ok (.i2l, 1) := by decide +kernel
theorem dL_law_777 : decode cL_law 777 = .ok (.lcmp, 1) := by decide +kernel
theorem dL_law_778 : decode cL_law 778 = .ok (.ifCond .eq 5, 3) := by decide +kernel
theorem dL_law_781 : decode cL_law 781 = .ok (.iconst 0, 1) := by decide +kernel
theorem dL_law_782 : decode cL_law 782 = .ok (.ireturn, 1) := by decide +kernel
theorem dL_law_783 : decode cL_law 783 = .ok (.goto 1248, 3) := by decide +kernel
theorem dL_law_786 : decode cL_law 786 = .ok (.aload_n 1, 1) := by decide +kernel
theorem dL_law_787 : decode cL_law 787 = .ok (.aload_n 0, 1) := by decide +kernel
theorem dL_law_788 : decode cL_law 788 = .ok (.iload 4, 2) := by decide +kernel
theorem dL_law_790 : decode cL_law 790 = .ok (.iconst 1, 1) := by decide +kernel
theorem dL_law_791 : decode cL_law 791 = .ok (.iadd, 1) := by decide +kernel
theorem dL_law_792 : decode cL_law 792 = .ok (.iaload, 1) := by decide +kernel
theorem dL_law_793 : decode cL_law 793 = .ok (.aload_n 3, 1) := by decide +kernel
theorem dL_law_794 : decode cL_law 794 = .ok (.invokestatic 140, 3) := by decide +kernel
theorem dL_law_797 : decode cL_law 797 = .ok (.istore 5, 2) := by decide +kernel
theorem dL_law_799 : decode cL_law 799 = .ok (.aload_n 2, 1) := by decide +kernel
theorem dL_law_800 : decode cL_law 800 = .ok (.aload_n 0, 1) := by decide +kernel
theorem dL_law_801 : decode cL_law 801 = .ok (.iload 4, 2) := by decide +kernel
theorem dL_law_803 : decode cL_law 803 = .ok (.iconst 1, 1) := by decide +kernel
theorem dL_law_804 : decode cL_law 804 = .ok (.iadd, 1) := by decide +kernel
theorem dL_law_805 : decode cL_law 805 = .ok (.iaload, 1) := by decide +kernel
theorem dL_law_806 : decode cL_law 806 = .ok (.invokevirtual 142, 3) := by decide +kernel
theorem dL_law_809 : decode cL_law 809 = .ok (.istore 6, 2) := by decide +kernel
theorem dL_law_811 : decode cL_law 811 = .ok (.aload_n 2, 1) := by decide +kernel
theorem dL_law_812 : decode cL_law 812 = .ok (.invokevirtual 124, 3) := by decide +kernel
theorem dL_law_815 : decode cL_law 815 = .ok (.iload 5, 2) := by decide +kernel
theorem dL_law_817 : decode cL_law 817 = .ok (.if_icmp .eq 5, 3) := by decide +kernel
theorem dL_law_820 : decode cL_law 820 = .ok (.iconst 0, 1) := by decide +kernel
theorem dL_law_821 : decode cL_law 821 = .ok (.ireturn, 1) := by decide +kernel
theorem dL_law_822 : decode cL_law 822 = .ok (.iload 5, 2) := by decide +kernel
theorem dL_law_824 : decode cL_law 824 = .ok (.ifCond .ne 15, 3) := by decide +kernel
theorem dL_law_827 : decode cL_law 827 = .ok (.aload_n 3, 1) := by decide +kernel
theorem dL_law_828 : decode cL_law 828 = .ok (.iconst 0, 1) := by decide +kernel
theorem dL_law_829 : decode cL_law 829 = .ok (.laload, 1) := by decide +kernel
theorem dL_law_830 : decode cL_law 830 = .ok (.iload 6, 2) := by decide +kernel
theorem dL_law_832 : decode cL_law 832 = .ok (.i2l, 1) := by decide +kernel
theorem dL_law_833 : decode cL_law 833 = .ok (.lcmp, 1) := by decide +kernel
theorem dL_law_834 : decode cL_law 834 = .ok (.ifCond .eq 5, 3) := by decide +kernel
theorem dL_law_837 : decode cL_law 837 = .ok (.iconst 0, 1) := by decide +kernel
theorem dL_law_838 : decode cL_law 838 = .ok (.ireturn, 1) := by decide +kernel
theorem dL_law_839 : decode cL_law 839 = .ok (.goto 1192, 3) := by decide +kernel
theorem dL_law_842 : decode cL_law 842 = .ok (.aload_n 1, 1) := by decide +kernel
theorem dL_law_843 : decode cL_law 843 = .ok (.aload_n 0, 1) := by decide +kernel
theorem dL_law_844 : decode cL_law 844 = .ok (.iload 4, 2) := by decide +kernel
theorem dL_law_846 : decode cL_law 846 = .ok (.iconst 1, 1) := by decide +kernel
theorem dL_law_847 : decode cL_law 847 = .ok (.iadd, 1) := by decide +kernel
theorem dL_law_848 : decode cL_law 848 = .ok (.iaload, 1) := by decide +kernel
theorem dL_law_849 : decode cL_law 849 = .ok (.aload_n 3, 1) := by decide +kernel
theorem dL_law_850 : decode cL_law 850 = .ok (.invokestatic 143, 3) := by decide +kernel
theorem dL_law_853 : decode cL_law 853 = .ok (.istore 5, 2) := by decide +kernel
theorem dL_law_855 : decode cL_law 855 = .ok (.aload_n 2, 1) := by decide +kernel
theorem dL_law_856 : decode cL_law 856 = .ok (.aload_n 0, 1) := by decide +kernel
theorem dL_law_857 : decode cL_law 857 = .ok (.iload 4, 2) := by decide +kernel
theorem dL_law_859 : decode cL_law 859 = .ok (.iconst 1, 1) := by decide +kernel
theorem dL_law_860 : decode cL_law 860 = .ok (.iadd, 1) := by decide +kernel
theorem dL_law_861 : decode cL_law 861 = .ok (.iaload, 1) := by decide +kernel
theorem dL_law_862 : decode cL_law 862 = .ok (.invokevirtual 145, 3) := by decide +kernel
theorem dL_law_865 : decode cL_law 865 = .ok (.istore 6, 2) := by decide +kernel
theorem dL_law_867 : decode cL_law 867 = .ok (.aload_n 2, 1) := by decide +kernel
theorem dL_law_868 : decode cL_law 868 = .ok (.invokevirtual 124, 3) := by decide +kernel
theorem dL_law_871 : decode cL_law 871 = .ok (.iload 5, 2) := by decide +kernel
theorem dL_law_873 : decode cL_law 873 = .ok (.if_icmp .eq 5, 3) := by decide +kernel
theorem dL_law_876 : decode cL_law 876 = .ok (.iconst 0, 1) := by decide +kernel
theorem dL_law_877 : decode cL_law 877 = .ok (.ireturn, 1) := by decide +kernel
theorem dL_law_878 : decode cL_law 878 = .ok (.iload 5, 2) := by decide +kernel
theorem dL_law_880 : decode cL_law 880 = .ok (.ifCond .ne 22, 3) := by decide +kernel
theorem dL_law_883 : decode cL_law 883 = .ok (.aload_n 3, 1) := by decide +kernel
theorem dL_law_884 : decode cL_law 884 = .ok (.iconst 0, 1) := by decide +kernel
theorem dL_law_885 : decode cL_law 885 = .ok (.laload, 1) := by decide +kernel
theorem dL_law_886 : decode cL_law 886 = .ok (.iload 6, 2) := by decide +kernel
theorem dL_law_888 : decode cL_law 888 = .ok (.ifCond .eq 7, 3) := by decide +kernel
theorem dL_law_891 : decode cL_law 891 = .ok (.lconst 1, 1) := by decide +kernel
theorem dL_law_892 : decode cL_law 892 = .ok (.goto 4, 3) := by decide +kernel
theorem dL_law_895 : decode cL_law 895 = .ok (.lconst 0, 1) := by decide +kernel
theorem dL_law_896 : decode cL_law 896 = .ok (.lcmp, 1) := by decide +kernel
theorem dL_law_897 : decode cL_law 897 = .ok (.ifCond .eq 5, 3) := by decide +kernel
theorem dL_law_900 : decode cL_law 900 = .ok (.iconst 0, 1) := by decide +kernel
theorem dL_law_901 : decode cL_law 901 = .ok (.ireturn, 1) := by decide +kernel
theorem dL_law_902 : decode cL_law 902 = .ok (.goto 1129, 3) := by decide +kernel
theorem dL_law_905 : decode cL_law 905 = .ok (.aload_n 1, 1) := by decide +kernel
theorem dL_law_906 : decode cL_law 906 = .ok (.aload_n 0, 1) := by decide +kernel
theorem dL_law_907 : decode cL_law 907 = .ok (.iload 4, 2) := by decide +kernel
theorem dL_law_909 : decode cL_law 909 = .ok (.iconst 1, 1) := by decide +kernel
theorem dL_law_910 : decode cL_law 910 = .ok (.iadd, 1) := by decide +kernel
theorem dL_law_911 : decode cL_law 911 = .ok (.iaload, 1) := by decide +kernel
theorem dL_law_912 : decode cL_law 912 = .ok (.aload_n 3, 1) := by decide +kernel
theorem dL_law_913 : decode cL_law 913 = .ok (.invokestatic 146, 3) := by decide +kernel
theorem dL_law_916 : decode cL_law 916 = .ok (.istore 5, 2) := by decide +kernel
theorem dL_law_918 : decode cL_law 918 = .ok (.aload_n 2, 1) := by decide +kernel
theorem dL_law_919 : decode cL_law 919 = .ok (.aload_n 0, 1) := by decide +kernel
theorem dL_law_920 : decode cL_law 920 = .ok (.iload 4, 2) := by decide +kernel
theorem dL_law_922 : decode cL_law 922 = .ok (.iconst 1, 1) := by decide +kernel
theorem dL_law_923 : decode cL_law 923 = .ok (.iadd, 1) := by decide +kernel
theorem dL_law_924 : decode cL_law 924 = .ok (.iaload, 1) := by decide +kernel
theorem dL_law_925 : decode cL_law 925 = .ok (.invokevirtual 148, 3) := by decide +kernel
theorem dL_law_928 : decode cL_law 928 = .ok (.istore 6, 2) := by decide +kernel
theorem dL_law_930 : decode cL_law 930 = .ok (.aload_n 2, 1) := by decide +kernel
theorem dL_law_931 : decode cL_law 931 = .ok (.invokevirtual 124, 3) := by decide +kernel
theorem dL_law_934 : decode cL_law 934 = .ok (.iload 5, 2) := by decide +kernel
theorem dL_law_936 : decode cL_law 936 = .ok (.if_icmp .eq 5, 3) := by decide +kernel
theorem dL_law_939 : decode cL_law 939 = .ok (.iconst 0, 1) := by decide +kernel
theorem dL_law_940 : decode cL_law 940 = .ok (.ireturn, 1) := by decide +kernel
theorem dL_law_941 : decode cL_law 941 = .ok (.iload 5, 2) := by decide +kernel
theorem dL_law_943 : decode cL_law 943 = .ok (.ifCond .ne 15, 3) := by decide +kernel
theorem dL_law_946 : decode cL_law 946 = .ok (.aload_n 3, 1) := by decide +kernel
theorem dL_law_947 : decode cL_law 947 = .ok (.iconst 0, 1) := by decide +kernel
theorem dL_law_948 : decode cL_law 948 = .ok (.laload, 1) := by decide +kernel
theorem dL_law_949 : decode cL_law 949 = .ok (.iload 6, 2) := by decide +kernel
theorem dL_law_951 : decode cL_law 951 = .ok (.i2l, 1) := by decide +kernel
theorem dL_law_952 : decode cL_law 952 = .ok (.lcmp, 1) := by decide +kernel
theorem dL_law_953 : decode cL_law 953 = .ok (.ifCond .eq 5, 3) := by decide +kernel
theorem dL_law_956 : decode cL_law 956 = .ok (.iconst 0, 1) := by decide +kernel
theorem dL_law_957 : decode cL_law 957 = .ok (.ireturn, 1) := by decide +kernel
theorem dL_law_958 : decode cL_law 958 = .ok (.goto 1073, 3) := by decide +kernel
theorem dL_law_961 : decode cL_law 961 = .ok (.aload_n 1, 1) := by decide +kernel
theorem dL_law_962 : decode cL_law 962 = .ok (.aload_n 0, 1) := by decide +kernel
theorem dL_law_963 : decode cL_law 963 = .ok (.iload 4, 2) := by decide +kernel
theorem dL_law_965 : decode cL_law 965 = .ok (.iconst 1, 1) := by decide +kernel
theorem dL_law_966 : decode cL_law 966 = .ok (.iadd, 1) := by decide +kernel
theorem dL_law_967 : decode cL_law 967 = .ok (.iaload, 1) := by decide +kernel
theorem dL_law_968 : decode cL_law 968 = .ok (.aload_n 3, 1) := by decide +kernel
theorem dL_law_969 : decode cL_law 969 = .ok (.invokestatic 149, 3) := by decide +kernel
theorem dL_law_972 : decode cL_law 972 = .ok (.istore 5, 2) := by decide +kernel
theorem dL_law_974 : decode cL_law 974 = .ok (.aload_n 2, 1) := by decide +kernel
theorem dL_law_975 : decode cL_law 975 = .ok (.aload_n 0, 1) := by decide +kernel
theorem dL_law_976 : decode cL_law 976 = .ok (.iload 4, 2) := by decide +kernel
theorem dL_law_978 : decode cL_law 978 = .ok (.iconst 1, 1) := by decide +kernel
theorem dL_law_979 : decode cL_law 979 = .ok (.iadd, 1) := by decide +kernel
theorem dL_law_980 : decode cL_law 980 = .ok (.iaload, 1) := by decide +kernel
theorem dL_law_981 : decode cL_law 981 = .ok (.invokevirtual 151, 3) := by decide +kernel
theorem dL_law_984 : decode cL_law 984 = .ok (.istore 6, 2) := by decide +kernel
theorem dL_law_986 : decode cL_law 986 = .ok (.aload_n 2, 1) := by decide +kernel
theorem dL_law_987 : decode cL_law 987 = .ok (.invokevirtual 124, 3) := by decide +kernel
theorem dL_law_990 : decode cL_law 990 = .ok (.iload 5, 2) := by decide +kernel
theorem dL_law_992 : decode cL_law 992 = .ok (.if_icmp .eq 5, 3) := by decide +kernel
theorem dL_law_995 : decode cL_law 995 = .ok (.iconst 0, 1) := by decide +kernel
theorem dL_law_996 : decode cL_law 996 = .ok (.ireturn, 1) := by decide +kernel
theorem dL_law_997 : decode cL_law 997 = .ok (.iload 5, 2) := by decide +kernel
theorem dL_law_999 : decode cL_law 999 = .ok (.ifCond .ne 15, 3) := by decide +kernel
theorem dL_law_1002 : decode cL_law 1002 = .ok (.aload_n 3, 1) := by decide +kernel
theorem dL_law_1003 : decode cL_law 1003 = .ok (.iconst 0, 1) := by decide +kernel
theorem dL_law_1004 : decode cL_law 1004 = .ok (.laload, 1) := by decide +kernel
theorem dL_law_1005 : decode cL_law 1005 = .ok (.iload 6, 2) := by decide +kernel
theorem dL_law_1007 : decode cL_law 1007 = .ok (.i2l, 1) := by decide +kernel
theorem dL_law_1008 : decode cL_law 1008 = .ok (.lcmp, 1) := by decide +kernel
theorem dL_law_1009 : decode cL_law 1009 = .ok (.ifCond .eq 5, 3) := by decide +kernel
theorem dL_law_1012 : decode cL_law 1012 = .ok (.iconst 0, 1) := by decide +kernel
theorem dL_law_1013 : decode cL_law 1013 = .ok (.ireturn, 1) := by decide +kernel
theorem dL_law_1014 : decode cL_law 1014 = .ok (.goto 1017, 3) := by decide +kernel
theorem dL_law_1017 : decode cL_law 1017 = .ok (.aload_n 1, 1) := by decide +kernel
theorem dL_law_1018 : decode cL_law 1018 = .ok (.invokevirtual 152, 3) := by decide +kernel
theorem dL_law_1021 : decode cL_law 1021 = .ok (.aload_n 2, 1) := by decide +kernel
theorem dL_law_1022 : decode cL_law 1022 = .ok (.invokevirtual 155, 3) := by decide +kernel
theorem dL_law_1025 : decode cL_law 1025 = .ok (.if_icmp .eq 1006, 3) := by decide +kernel
theorem dL_law_1028 : decode cL_law 1028 = .ok (.iconst 0, 1) := by decide +kernel
theorem dL_law_1029 : decode cL_law 1029 = .ok (.ireturn, 1) := by decide +kernel
theorem dL_law_1030 : decode cL_law 1030 = .ok (.aload_n 1, 1) := by decide +kernel
theorem dL_law_1031 : decode cL_law 1031 = .ok (.aload_n 0, 1) := by decide +kernel
theorem dL_law_1032 : decode cL_law 1032 = .ok (.iload 4, 2) := by decide +kernel
theorem dL_law_1034 : decode cL_law 1034 = .ok (.iconst 1, 1) := by decide +kernel
theorem dL_law_1035 : decode cL_law 1035 = .ok (.iadd, 1) := by decide +kernel
theorem dL_law_1036 : decode cL_law 1036 = .ok (.iaload, 1) := by decide +kernel
theorem dL_law_1037 : decode cL_law 1037 = .ok (.aload_n 0, 1) := by decide +kernel
theorem dL_law_1038 : decode cL_law 1038 = .ok (.iload 4, 2) := by decide +kernel
theorem dL_law_1040 : decode cL_law 1040 = .ok (.iconst 2, 1) := by decide +kernel
theorem dL_law_1041 : decode cL_law 1041 = .ok (.iadd, 1) := by decide +kernel
theorem dL_law_1042 : decode cL_law 1042 = .ok (.iaload, 1) := by decide +kernel
theorem dL_law_1043 : decode cL_law 1043 = .ok (.aload_n 3, 1) := by decide +kernel
theorem dL_law_1044 : decode cL_law 1044 = .ok (.invokestatic 156, 3) := by decide +kernel
theorem dL_law_1047 : decode cL_law 1047 = .ok (.istore 5, 2) := by decide +kernel
theorem dL_law_1049 : decode cL_law 1049 = .ok (.aload_n 2, 1) := by decide +kernel
theorem dL_law_1050 : decode cL_law 1050 = .ok (.aload_n 0, 1) := by decide +kernel
theorem dL_law_1051 : decode cL_law 1051 = .ok (.iload 4, 2) := by decide +kernel
theorem dL_law_1053 : decode cL_law 1053 = .ok (.iconst 1, 1) := by decide +kernel
theorem dL_law_1054 : decode cL_law 1054 = .ok (.iadd, 1) := by decide +kernel
theorem dL_law_1055 : decode cL_law 1055 = .ok (.iaload, 1) := by decide +kernel
theorem dL_law_1056 : decode cL_law 1056 = .ok (.aload_n 0, 1) := by decide +kernel
theorem dL_law_1057 : decode cL_law 1057 = .ok (.iload 4, 2) := by decide +kernel
theorem dL_law_1059 : decode cL_law 1059 = .ok (.iconst 2, 1) := by decide +kernel
theorem dL_law_1060 : decode cL_law 1060 = .ok (.iadd, 1) := by decide +kernel
theorem dL_law_1061 : decode cL_law 1061 = .ok (.iaload, 1) := by decide +kernel
theorem dL_law_1062 : decode cL_law 1062 = .ok (.invokevirtual 158, 3) := by decide +kernel
theorem dL_law_1065 : decode cL_law 1065 = .ok (.istore 6, 2) := by decide +kernel
theorem dL_law_1067 : decode cL_law 1067 = .ok (.aload_n 2, 1) := by decide +kernel
theorem dL_law_1068 : decode cL_law 1068 = .ok (.invokevirtual 124, 3) := by decide +kernel
theorem dL_law_1071 : decode cL_law 1071 = .ok (.iload 5, 2) := by decide +kernel
theorem dL_law_1073 : decode cL_law 1073 = .ok (.if_icmp .eq 5, 3) := by decide +kernel
theorem dL_law_1076 : decode cL_law 1076 = .ok (.iconst 0, 1) := by decide +kernel
theorem dL_law_1077 : decode cL_law 1077 = .ok (.ireturn, 1) := by decide +kernel
theorem dL_law_1078 : decode cL_law 1078 = .ok (.iload 5, 2) := by decide +kernel
theorem dL_law_1080 : decode cL_law 1080 = .ok (.ifCond .ne 15, 3) := by decide +kernel
theorem dL_law_1083 : decode cL_law 1083 = .ok (.aload_n 3, 1) := by decide +kernel
theorem dL_law_1084 : decode cL_law 1084 = .ok (.iconst 0, 1) := by decide +kernel
theorem dL_law_1085 : decode cL_law 1085 = .ok (.laload, 1) := by decide +kernel
theorem dL_law_1086 : decode cL_law 1086 = .ok (.iload 6, 2) := by decide +kernel
theorem dL_law_1088 : decode cL_law 1088 = .ok (.i2l, 1) := by decide +kernel
theorem dL_law_1089 : decode cL_law 1089 = .ok (.lcmp, 1) := by decide +kernel
theorem dL_law_1090 : decode cL_law 1090 = .ok (.ifCond .eq 5, 3) := by decide +kernel
theorem dL_law_1093 : decode cL_law 1093 = .ok (.iconst 0, 1) := by decide +kernel
theorem dL_law_1094 : decode cL_law 1094 = .ok (.ireturn, 1) := by decide +kernel
theorem dL_law_1095 : decode cL_law 1095 = .ok (.goto 936, 3) := by decide +kernel
theorem dL_law_1098 : decode cL_law 1098 = .ok (.aload_n 1, 1) := by decide +kernel
theorem dL_law_1099 : decode cL_law 1099 = .ok (.aload_n 0, 1) := by decide +kernel
theorem dL_law_1100 : decode cL_law 1100 = .ok (.iload 4, 2) := by decide +kernel
theorem dL_law_1102 : decode cL_law 1102 = .ok (.iconst 1, 1) := by decide +kernel
theorem dL_law_1103 : decode cL_law 1103 = .ok (.iadd, 1) := by decide +kernel
theorem dL_law_1104 : decode cL_law 1104 = .ok (.iaload, 1) := by decide +kernel
theorem dL_law_1105 : decode cL_law 1105 = .ok (.aload_n 3, 1) := by decide +kernel
theorem dL_law_1106 : decode cL_law 1106 = .ok (.invokestatic 159, 3) := by decide +kernel
theorem dL_law_1109 : decode cL_law 1109 = .ok (.istore 5, 2) := by decide +kernel
theorem dL_law_1111 : decode cL_law 1111 = .ok (.aload_n 2, 1) := by decide +kernel
theorem dL_law_1112 : decode cL_law 1112 = .ok (.aload_n 0, 1) := by decide +kernel
theorem dL_law_1113 : decode cL_law 1113 = .ok (.iload 4, 2) := by decide +kernel
theorem dL_law_1115 : decode cL_law 1115 = .ok (.iconst 1, 1) := by decide +kernel
theorem dL_law_1116 : decode cL_law 1116 = .ok (.iadd, 1) := by decide +kernel
theorem dL_law_1117 : decode cL_law 1117 = .ok (.iaload, 1) := by decide +kernel
theorem dL_law_1118 : decode cL_law 1118 = .ok (.invokevirtual 161, 3) := by decide +kernel
theorem dL_law_1121 : decode cL_law 1121 = .ok (.istore 6, 2) := by decide +kernel
theorem dL_law_1123 : decode cL_law 1123 = .ok (.aload_n 2, 1) := by decide +kernel
theorem dL_law_1124 : decode cL_law 1124 = .ok (.invokevirtual 124, 3) := by decide +kernel
theorem dL_law_1127 : decode cL_law 1127 = .ok (.iload 5, 2) := by decide +kernel
theorem dL_law_1129 : decode cL_law 1129 = .ok (.if_icmp .eq 5, 3) := by decide +kernel
theorem dL_law_1132 : decode cL_law 1132 = .ok (.iconst 0, 1) := by decide +kernel
theorem dL_law_1133 : decode cL_law 1133 = .ok (.ireturn, 1) := by decide +kernel
theorem dL_law_1134 : decode cL_law 1134 = .ok (.iload 5, 2) := by decide +kernel
theorem dL_law_1136 : decode cL_law 1136 = .ok (.ifCond .ne 15, 3) := by decide +kernel
theorem dL_law_1139 : decode cL_law 1139 = .ok (.aload_n 3, 1) := by decide +kernel
theorem dL_law_1140 : decode cL_law 1140 = .ok (.iconst 0, 1) := by decide +kernel
theorem dL_law_1141 : decode cL_law 1141 = .ok (.laload, 1) := by decide +kernel
theorem dL_law_1142 : decode cL_law 1142 = .ok (.iload 6, 2) := by decide +kernel
theorem dL_law_1144 : decode cL_law 1144 = .ok (.i2l, 1) := by decide +kernel
theorem dL_law_1145 : decode cL_law 1145 = .ok (.lcmp, 1) := by decide +kernel
theorem dL_law_1146 : decode cL_law 1146 = .ok (.ifCond .eq 5, 3) := by decide +kernel
theorem dL_law_1149 : decode cL_law 1149 = .ok (.iconst 0, 1) := by decide +kernel
theorem dL_law_1150 : decode cL_law 1150 = .ok (.ireturn, 1) := by decide +kernel
theorem dL_law_1151 : decode cL_law 1151 = .ok (.goto 880, 3) := by decide +kernel
theorem dL_law_1154 : decode cL_law 1154 = .ok (.aload_n 1, 1) := by decide +kernel
theorem dL_law_1155 : decode cL_law 1155 = .ok (.aload_n 0, 1) := by decide +kernel
theorem dL_law_1156 : decode cL_law 1156 = .ok (.iload 4, 2) := by decide +kernel
theorem dL_law_1158 : decode cL_law 1158 = .ok (.iconst 1, 1) := by decide +kernel
theorem dL_law_1159 : decode cL_law 1159 = .ok (.iadd, 1) := by decide +kernel
theorem dL_law_1160 : decode cL_law 1160 = .ok (.iaload, 1) := by decide +kernel
theorem dL_law_1161 : decode cL_law 1161 = .ok (.aload_n 3, 1) := by decide +kernel
theorem dL_law_1162 : decode cL_law 1162 = .ok (.invokestatic 162, 3) := by decide +kernel
theorem dL_law_1165 : decode cL_law 1165 = .ok (.istore 5, 2) := by decide +kernel
theorem dL_law_1167 : decode cL_law 1167 = .ok (.aload_n 2, 1) := by decide +kernel
theorem dL_law_1168 : decode cL_law 1168 = .ok (.aload_n 0, 1) := by decide +kernel
theorem dL_law_1169 : decode cL_law 1169 = .ok (.iload 4, 2) := by decide +kernel
theorem dL_law_1171 : decode cL_law 1171 = .ok (.iconst 1, 1) := by decide +kernel
theorem dL_law_1172 : decode cL_law 1172 = .ok (.iadd, 1) := by decide +kernel
theorem dL_law_1173 : decode cL_law 1173 = .ok (.iaload, 1) := by decide +kernel
theorem dL_law_1174 : decode cL_law 1174 = .ok (.invokevirtual 164, 3) := by decide +kernel
theorem dL_law_1177 : decode cL_law 1177 = .ok (.istore 6, 2) := by decide +kernel
theorem dL_law_1179 : decode cL_law 1179 = .ok (.aload_n 2, 1) := by decide +kernel
theorem dL_law_1180 : decode cL_law 1180 = .ok (.invokevirtual 124, 3) := by decide +kernel
theorem dL_law_1183 : decode cL_law 1183 = .ok (.iload 5, 2) := by decide +kernel
theorem dL_law_1185 : decode cL_law 1185 = .ok (.if_icmp .eq 5, 3) := by decide +kernel
theorem dL_law_1188 : decode cL_law 1188 = .ok (.iconst 0, 1) := by decide +kernel
theorem dL_law_1189 : decode cL_law 1189 = .ok (.ireturn, 1) := by decide +kernel
theorem dL_law_1190 : decode cL_law 1190 = .ok (.iload 5, 2) := by decide +kernel
theorem dL_law_1192 : decode cL_law 1192 = .ok (.ifCond .ne 15, 3) := by decide +kernel
theorem dL_law_1195 : decode cL_law 1195 = .ok (.aload_n 3, 1) := by decide +kernel
theorem dL_law_1196 : decode cL_law 1196 = .ok (.iconst 0, 1) := by decide +kernel
theorem dL_law_1197 : decode cL_law 1197 = .ok (.laload, 1) := by decide +kernel
theorem dL_law_1198 : decode cL_law 1198 = .ok (.iload 6, 2) := by decide +kernel
theorem dL_law_1200 : decode cL_law 1200 = .ok (.i2l, 1) := by decide +kernel
theorem dL_law_1201 : decode cL_law 1201 = .ok (.lcmp, 1) := by decide +kernel
theorem dL_law_1202 : decode cL_law 1202 = .ok (.ifCond .eq 5, 3) := by decide +kernel
theorem dL_law_1205 : decode cL_law 1205 = .ok (.iconst 0, 1) := by decide +kernel
theorem dL_law_1206 : decode cL_law 1206 = .ok (.ireturn, 1) := by decide +kernel
theorem dL_law_1207 : decode cL_law 1207 = .ok (.goto 824, 3) := by decide +kernel
theorem dL_law_1210 : decode cL_law 1210 = .ok (.aload_n 1, 1) := by decide +kernel
theorem dL_law_1211 : decode cL_law 1211 = .ok (.aload_n 0, 1) := by decide +kernel
theorem dL_law_1212 : decode cL_law 1212 = .ok (.iload 4, 2) := by decide +kernel
theorem dL_law_1214 : decode cL_law 1214 = .ok (.iconst 1, 1) := by decide +kernel
theorem dL_law_1215 : decode cL_law 1215 = .ok (.iadd, 1) := by decide +kernel
theorem dL_law_1216 : decode cL_law 1216 = .ok (.iaload, 1) := by decide +kernel
theorem dL_law_1217 : decode cL_law 1217 = .ok (.aload_n 0, 1) := by decide +kernel
theorem dL_law_1218 : decode cL_law 1218 = .ok (.iload 4, 2) := by decide +kernel
theorem dL_law_1220 : decode cL_law 1220 = .ok (.iconst 2, 1) := by decide +kernel
theorem dL_law_1221 : decode cL_law 1221 = .ok (.iadd, 1) := by decide +kernel
theorem dL_law_1222 : decode cL_law 1222 = .ok (.iaload, 1) := by decide +kernel
theorem dL_law_1223 : decode cL_law 1223 = .ok (.aload_n 3, 1) := by decide +kernel
theorem dL_law_1224 : decode cL_law 1224 = .ok (.invokestatic 165, 3) := by decide +kernel
theorem dL_law_1227 : decode cL_law 1227 = .ok (.istore 5, 2) := by decide +kernel
theorem dL_law_1229 : decode cL_law 1229 = .ok (.aload_n 2, 1) := by decide +kernel
theorem dL_law_1230 : decode cL_law 1230 = .ok (.aload_n 0, 1) := by decide +kernel
theorem dL_law_1231 : decode cL_law 1231 = .ok (.iload 4, 2) := by decide +kernel
theorem dL_law_1233 : decode cL_law 1233 = .ok (.iconst 1, 1) := by decide +kernel
theorem dL_law_1234 : decode cL_law 1234 = .ok (.iadd, 1) := by decide +kernel
theorem dL_law_1235 : decode cL_law 1235 = .ok (.iaload, 1) := by decide +kernel
theorem dL_law_1236 : decode cL_law 1236 = .ok (.aload_n 0, 1) := by decide +kernel
theorem dL_law_1237 : decode cL_law 1237 = .ok (.iload 4, 2) := by decide +kernel
theorem dL_law_1239 : decode cL_law 1239 = .ok (.iconst 2, 1) := by decide +kernel
theorem dL_law_1240 : decode cL_law 1240 = .ok (.iadd, 1) := by decide +kernel
theorem dL_law_1241 : decode cL_law 1241 = .ok (.iaload, 1) := by decide +kernel
theorem dL_law_1242 : decode cL_law 1242 = .ok (.invokevirtual 167, 3) := by decide +kernel
theorem dL_law_1245 : decode cL_law 1245 = .ok (.istore 6, 2) := by decide +kernel
theorem dL_law_1247 : decode cL_law 1247 = .ok (.aload_n 2, 1) := by decide +kernel
theorem dL_law_1248 : decode cL_law 1248 = .ok (.invokevirtual 124, 3) := by decide +kernel
theorem dL_law_1251 : decode cL_law 1251 = .ok (.iload 5, 2) := by decide +kernel
theorem dL_law_1253 : decode cL_law 1253 = .ok (.if_icmp .eq 5, 3) := by decide +kernel
theorem dL_law_1256 : decode cL_law 1256 = .ok (.iconst 0, 1) := by decide +kernel
theorem dL_law_1257 : decode cL_law 1257 = .ok (.ireturn, 1) := by decide +kernel
theorem dL_law_1258 : decode cL_law 1258 = .ok (.iload 5, 2) := by decide +kernel
theorem dL_law_1260 : decode cL_law 1260 = .ok (.ifCond .ne 15, 3) := by decide +kernel
theorem dL_law_1263 : decode cL_law 1263 = .ok (.aload_n 3, 1) := by decide +kernel
theorem dL_law_1264 : decode cL_law 1264 = .ok (.iconst 0, 1) := by decide +kernel
theorem dL_law_1265 : decode cL_law 1265 = .ok (.laload, 1) := by decide +kernel
theorem dL_law_1266 : decode cL_law 1266 = .ok (.iload 6, 2) := by decide +kernel
theorem dL_law_1268 : decode cL_law 1268 = .ok (.i2l, 1) := by decide +kernel
theorem dL_law_1269 : decode cL_law 1269 = .ok (.lcmp, 1) := by decide +kernel
theorem dL_law_1270 : decode cL_law 1270 = .ok (.ifCond .eq 5, 3) := by decide +kernel
theorem dL_law_1273 : decode cL_law 1273 = .ok (.iconst 0, 1) := by decide +kernel
theorem dL_law_1274 : decode cL_law 1274 = .ok (.ireturn, 1) := by decide +kernel
theorem dL_law_1275 : decode cL_law 1275 = .ok (.goto 756, 3) := by decide +kernel
theorem dL_law_1278 : decode cL_law 1278 = .ok (.aload_n 1, 1) := by decide +kernel
theorem dL_law_1279 : decode cL_law 1279 = .ok (.aload_n 0, 1) := by decide +kernel
theorem dL_law_1280 : decode cL_law 1280 = .ok (.iload 4, 2) := by decide +kernel
theorem dL_law_1282 : decode cL_law 1282 = .ok (.iconst 1, 1) := by decide +kernel
theorem dL_law_1283 : decode cL_law 1283 = .ok (.iadd, 1) := by decide +kernel
theorem dL_law_1284 : decode cL_law 1284 = .ok (.iaload, 1) := by decide +kernel
theorem dL_law_1285 : decode cL_law 1285 = .ok (.aload_n 3, 1) := by decide +kernel
theorem dL_law_1286 : decode cL_law 1286 = .ok (.invokestatic 168, 3) := by decide +kernel
theorem dL_law_1289 : decode cL_law 1289 = .ok (.istore 5, 2) := by decide +kernel
theorem dL_law_1291 : decode cL_law 1291 = .ok (.aload_n 2, 1) := by decide +kernel
theorem dL_law_1292 : decode cL_law 1292 = .ok (.aload_n 0, 1) := by decide +kernel
theorem dL_law_1293 : decode cL_law 1293 = .ok (.iload 4, 2) := by decide +kernel
theorem dL_law_1295 : decode cL_law 1295 = .ok (.iconst 1, 1) := by decide +kernel
theorem dL_law_1296 : decode cL_law 1296 = .ok (.iadd, 1) := by decide +kernel
theorem dL_law_1297 : decode cL_law 1297 = .ok (.iaload, 1) := by decide +kernel
theorem dL_law_1298 : decode cL_law 1298 = .ok (.invokevirtual 170, 3) := by decide +kernel
theorem dL_law_1301 : decode cL_law 1301 = .ok (.istore 6, 2) := by decide +kernel
theorem dL_law_1303 : decode cL_law 1303 = .ok (.aload_n 2, 1) := by decide +kernel
theorem dL_law_1304 : decode cL_law 1304 = .ok (.invokevirtual 124, 3) := by decide +kernel
theorem dL_law_1307 : decode cL_law 1307 = .ok (.iload 5, 2) := by decide +kernel
theorem dL_law_1309 : decode cL_law 1309 = .ok (.if_icmp .eq 5, 3) := by decide +kernel
theorem dL_law_1312 : decode cL_law 1312 = .ok (.iconst 0, 1) := by decide +kernel
theorem dL_law_1313 : decode cL_law 1313 = .ok (.ireturn, 1) := by decide +kernel
theorem dL_law_1314 : decode cL_law 1314 = .ok (.iload 5, 2) := by decide +kernel
theorem dL_law_1316 : decode cL_law 1316 = .ok (.ifCond .ne 15, 3) := by decide +kernel
theorem dL_law_1319 : decode cL_law 1319 = .ok (.aload_n 3, 1) := by decide +kernel
theorem dL_law_1320 : decode cL_law 1320 = .ok (.iconst 0, 1) := by decide +kernel
theorem dL_law_1321 : decode cL_law 1321 = .ok (.laload, 1) := by decide +kernel
theorem dL_law_1322 : decode cL_law 1322 = .ok (.iload 6, 2) := by decide +kernel
theorem dL_law_1324 : decode cL_law 1324 = .ok (.i2l, 1) := by decide +kernel
theorem dL_law_1325 : decode cL_law 1325 = .ok (.lcmp, 1) := by decide +kernel
theorem dL_law_1326 : decode cL_law 1326 = .ok (.ifCond .eq 5, 3) := by decide +kernel
theorem dL_law_1329 : decode cL_law 1329 = .ok (.iconst 0, 1) := by decide +kernel
theorem dL_law_1330 : decode cL_law 1330 = .ok (.ireturn, 1) := by decide +kernel
theorem dL_law_1331 : decode cL_law 1331 = .ok (.goto 700, 3) := by decide +kernel
theorem dL_law_1334 : decode cL_law 1334 = .ok (.aload_n 1, 1) := by decide +kernel
theorem dL_law_1335 : decode cL_law 1335 = .ok (.invokevirtual 171, 3) := by decide +kernel
theorem dL_law_1338 : decode cL_law 1338 = .ok (.aload_n 2, 1) := by decide +kernel
theorem dL_law_1339 : decode cL_law 1339 = .ok (.invokevirtual 174, 3) := by decide +kernel
theorem dL_law_1342 : decode cL_law 1342 = .ok (.if_icmp .eq 689, 3) := by decide +kernel
theorem dL_law_1345 : decode cL_law 1345 = .ok (.iconst 0, 1) := by decide +kernel
theorem dL_law_1346 : decode cL_law 1346 = .ok (.ireturn, 1) := by decide +kernel
theorem dL_law_1347 : decode cL_law 1347 = .ok (.aload_n 1, 1) := by decide +kernel
theorem dL_law_1348 : decode cL_law 1348 = .ok (.invokevirtual 175, 3) := by decide +kernel
theorem dL_law_1351 : decode cL_law 1351 = .ok (.aload_n 2, 1) := by decide +kernel
theorem dL_law_1352 : decode cL_law 1352 = .ok (.invokevirtual 178, 3) := by decide +kernel
theorem dL_law_1355 : decode cL_law 1355 = .ok (.if_icmp .eq 676, 3) := by decide +kernel
theorem dL_law_1358 : decode cL_law 1358 = .ok (.iconst 0, 1) := by decide +kernel
theorem dL_law_1359 : decode cL_law 1359 = .ok (.ireturn, 1) := by decide +kernel
theorem dL_law_1360 : decode cL_law 1360 = .ok (.aload_n 1, 1) := by decide +kernel
theorem dL_law_1361 : decode cL_law 1361 = .ok (.invokevirtual 179, 3) := by decide +kernel
theorem dL_law_1364 : decode cL_law 1364 = .ok (.aload_n 2, 1) := by decide +kernel
theorem dL_law_1365 : decode cL_law 1365 = .ok (.invokevirtual 182, 3) := by decide +kernel
theorem dL_law_1368 : decode cL_law 1368 = .ok (.if_icmp .eq 663, 3) := by decide +kernel
theorem dL_law_1371 : decode cL_law 1371 = .ok (.iconst 0, 1) := by decide +kernel
theorem dL_law_1372 : decode cL_law 1372 = .ok (.ireturn, 1) := by decide +kernel
theorem dL_law_1373 : decode cL_law 1373 = .ok (.aload_n 1, 1) := by decide +kernel
theorem dL_law_1374 : decode cL_law 1374 = .ok (.aload_n 0, 1) := by decide +kernel
theorem dL_law_1375 : decode cL_law 1375 = .ok (.iload 4, 2) := by decide +kernel
theorem dL_law_1377 : decode cL_law 1377 = .ok (.iconst 1, 1) := by decide +kernel
theorem dL_law_1378 : decode cL_law 1378 = .ok (.iadd, 1) := by decide +kernel
theorem dL_law_1379 : decode cL_law 1379 = .ok (.iaload, 1) := by decide +kernel
theorem dL_law_1380 : decode cL_law 1380 = .ok (.aload_n 0, 1) := by decide +kernel
theorem dL_law_1381 : decode cL_law 1381 = .ok (.iload 4, 2) := by decide +kernel
theorem dL_law_1383 : decode cL_law 1383 = .ok (.iconst 2, 1) := by decide +kernel
theorem dL_law_1384 : decode cL_law 1384 = .ok (.iadd, 1) := by decide +kernel
theorem dL_law_1385 : decode cL_law 1385 = .ok (.iaload, 1) := by decide +kernel
theorem dL_law_1386 : decode cL_law 1386 = .ok (.aload_n 3, 1) := by decide +kernel
theorem dL_law_1387 : decode cL_law 1387 = .ok (.invokestatic 183, 3) := by decide +kernel
theorem dL_law_1390 : decode cL_law 1390 = .ok (.istore 5, 2) := by decide +kernel
theorem dL_law_1392 : decode cL_law 1392 = .ok (.aload_n 2, 1) := by decide +kernel
theorem dL_law_1393 : decode cL_law 1393 = .ok (.aload_n 0, 1) := by decide +kernel
theorem dL_law_1394 : decode cL_law 1394 = .ok (.iload 4, 2) := by decide +kernel
theorem dL_law_1396 : decode cL_law 1396 = .ok (.iconst 1, 1) := by decide +kernel
theorem dL_law_1397 : decode cL_law 1397 = .ok (.iadd, 1) := by decide +kernel
theorem dL_law_1398 : decode cL_law 1398 = .ok (.iaload, 1) := by decide +kernel
theorem dL_law_1399 : decode cL_law 1399 = .ok (.aload_n 0, 1) := by decide +kernel
theorem dL_law_1400 : decode cL_law 1400 = .ok (.iload 4, 2) := by decide +kernel
theorem dL_law_1402 : decode cL_law 1402 = .ok (.iconst 2, 1) := by decide +kernel
theorem dL_law_1403 : decode cL_law 1403 = .ok (.iadd, 1) := by decide +kernel
theorem dL_law_1404 : decode cL_law 1404 = .ok (.iaload, 1) := by decide +kernel
theorem dL_law_1405 : decode cL_law 1405 = .ok (.invokevirtual 185, 3) := by decide +kernel
theorem dL_law_1408 : decode cL_law 1408 = .ok (.istore 6, 2) := by decide +kernel
theorem dL_law_1410 : decode cL_law 1410 = .ok (.aload_n 2, 1) := by decide +kernel
theorem dL_law_1411 : decode cL_law 1411 = .ok (.invokevirtual 124, 3) := by decide +kernel
theorem dL_law_1414 : decode cL_law 1414 = .ok (.iload 5, 2) := by decide +kernel
theorem dL_law_1416 : decode cL_law 1416 = .ok (.if_icmp .eq 5, 3) := by decide +kernel
theorem dL_law_1419 : decode cL_law 1419 = .ok (.iconst 0, 1) := by decide +kernel
theorem dL_law_1420 : decode cL_law 1420 = .ok (.ireturn, 1) := by decide +kernel
theorem dL_law_1421 : decode cL_law 1421 = .ok (.iload 5, 2) := by decide +kernel
theorem dL_law_1423 : decode cL_law 1423 = .ok (.ifCond .ne 15, 3) := by decide +kernel
theorem dL_law_1426 : decode cL_law 1426 = .ok (.aload_n 3, 1) := by decide +kernel
theorem dL_law_1427 : decode cL_law 1427 = .ok (.iconst 0, 1) := by decide +kernel
theorem dL_law_1428 : decode cL_law 1428 = .ok (.laload, 1) := by decide +kernel
theorem dL_law_1429 : decode cL_law 1429 = .ok (.iload 6, 2) := by decide +kernel
theorem dL_law_1431 : decode cL_law 1431 = .ok (.i2l, 1) := by decide +kernel
theorem dL_law_1432 : decode cL_law 1432 = .ok (.lcmp, 1) := by decide +kernel
theorem dL_law_1433 : decode cL_law 1433 = .ok (.ifCond .eq 5, 3) := by decide +kernel
theorem dL_law_1436 : decode cL_law 1436 = .ok (.iconst 0, 1) := by decide +kernel
theorem dL_law_1437 : decode cL_law 1437 = .ok (.ireturn, 1) := by decide +kernel
theorem dL_law_1438 : decode cL_law 1438 = .ok (.goto 593, 3) := by decide +kernel
theorem dL_law_1441 : decode cL_law 1441 = .ok (.aload_n 1, 1) := by decide +kernel
theorem dL_law_1442 : decode cL_law 1442 = .ok (.aload_n 0, 1) := by decide +kernel
theorem dL_law_1443 : decode cL_law 1443 = .ok (.iload 4, 2) := by decide +kernel
theorem dL_law_1445 : decode cL_law 1445 = .ok (.iconst 1, 1) := by decide +kernel
theorem dL_law_1446 : decode cL_law 1446 = .ok (.iadd, 1) := by decide +kernel
theorem dL_law_1447 : decode cL_law 1447 = .ok (.iaload, 1) := by decide +kernel
theorem dL_law_1448 : decode cL_law 1448 = .ok (.aload_n 3, 1) := by decide +kernel
theorem dL_law_1449 : decode cL_law 1449 = .ok (.invokestatic 186, 3) := by decide +kernel
theorem dL_law_1452 : decode cL_law 1452 = .ok (.istore 5, 2) := by decide +kernel
theorem dL_law_1454 : decode cL_law 1454 = .ok (.aload_n 2, 1) := by decide +kernel
theorem dL_law_1455 : decode cL_law 1455 = .ok (.aload_n 0, 1) := by decide +kernel
theorem dL_law_1456 : decode cL_law 1456 = .ok (.iload 4, 2) := by decide +kernel
theorem dL_law_1458 : decode cL_law 1458 = .ok (.iconst 1, 1) := by decide +kernel
theorem dL_law_1459 : decode cL_law 1459 = .ok (.iadd, 1) := by decide +kernel
theorem dL_law_1460 : decode cL_law 1460 = .ok (.iaload, 1) := by decide +kernel
theorem dL_law_1461 : decode cL_law 1461 = .ok (.invokevirtual 188, 3) := by decide +kernel
theorem dL_law_1464 : decode cL_law 1464 = .ok (.istore 6, 2) := by decide +kernel
theorem dL_law_1466 : decode cL_law 1466 = .ok (.aload_n 2, 1) := by decide +kernel
theorem dL_law_1467 : decode cL_law 1467 = .ok (.invokevirtual 124, 3) := by decide +kernel
theorem dL_law_1470 : decode cL_law 1470 = .ok (.iload 5, 2) := by decide +kernel
theorem dL_law_1472 : decode cL_law 1472 = .ok (.if_icmp .eq 5, 3) := by decide +kernel
theorem dL_law_1475 : decode cL_law 1475 = .ok (.iconst 0, 1) := by decide +kernel
theorem dL_law_1476 : decode cL_law 1476 = .ok (.ireturn, 1) := by decide +kernel
theorem dL_law_1477 : decode cL_law 1477 = .ok (.iload 5, 2) := by decide +kernel
theorem dL_law_1479 : decode cL_law 1479 = .ok (.ifCond .ne 15, 3) := by decide +kernel
theorem dL_law_1482 : decode cL_law 1482 = .ok (.aload_n 3, 1) := by decide +kernel
theorem dL_law_1483 : decode cL_law 1483 = .ok (.iconst 0, 1) := by decide +kernel
theorem dL_law_1484 : decode cL_law 1484 = .ok (.laload, 1) := by decide +kernel
theorem dL_law_1485 : decode cL_law 1485 = .ok (.iload 6, 2) := by decide +kernel
theorem dL_law_1487 : decode cL_law 1487 = .ok (.i2l, 1) := by decide +kernel
theorem dL_law_1488 : decode cL_law 1488 = .ok (.lcmp, 1) := by decide +kernel
theorem dL_law_1489 : decode cL_law 1489 = .ok (.ifCond .eq 5, 3) := by decide +kernel
theorem dL_law_1492 : decode cL_law 1492 = .ok (.iconst 0, 1) := by decide +kernel
theorem dL_law_1493 : decode cL_law 1493 = .ok (.ireturn, 1) := by decide +kernel
theorem dL_law_1494 : decode cL_law 1494 = .ok (.goto 537, 3) := by decide +kernel
theorem dL_law_1497 : decode cL_law 1497 = .ok (.aload_n 1, 1) := by decide +kernel
theorem dL_law_1498 : decode cL_law 1498 = .ok (.aload_n 0, 1) := by decide +kernel
theorem dL_law_1499 : decode cL_law 1499 = .ok (.iload 4, 2) := by decide +kernel
theorem dL_law_1501 : decode cL_law 1501 = .ok (.iconst 1, 1) := by decide +kernel
theorem dL_law_1502 : decode cL_law 1502 = .ok (.iadd, 1) := by decide +kernel
theorem dL_law_1503 : decode cL_law 1503 = .ok (.iaload, 1) := by decide +kernel
theorem dL_law_1504 : decode cL_law 1504 = .ok (.aload_n 0, 1) := by decide +kernel
theorem dL_law_1505 : decode cL_law 1505 = .ok (.iload 4, 2) := by decide +kernel
theorem dL_law_1507 : decode cL_law 1507 = .ok (.iconst 2, 1) := by decide +kernel
theorem dL_law_1508 : decode cL_law 1508 = .ok (.iadd, 1) := by decide +kernel
theorem dL_law_1509 : decode cL_law 1509 = .ok (.iaload, 1) := by decide +kernel
theorem dL_law_1510 : decode cL_law 1510 = .ok (.aload_n 3, 1) := by decide +kernel
theorem dL_law_1511 : decode cL_law 1511 = .ok (.invokestatic 189, 3) := by decide +kernel
theorem dL_law_1514 : decode cL_law 1514 = .ok (.istore 5, 2) := by decide +kernel
theorem dL_law_1516 : decode cL_law 1516 = .ok (.aload_n 2, 1) := by decide +kernel
theorem dL_law_1517 : decode cL_law 1517 = .ok (.aload_n 0, 1) := by decide +kernel
theorem dL_law_1518 : decode cL_law 1518 = .ok (.iload 4, 2) := by decide +kernel
theorem dL_law_1520 : decode cL_law 1520 = .ok (.iconst 1, 1) := by decide +kernel
theorem dL_law_1521 : decode cL_law 1521 = .ok (.iadd, 1) := by decide +kernel
theorem dL_law_1522 : decode cL_law 1522 = .ok (.iaload, 1) := by decide +kernel
theorem dL_law_1523 : decode cL_law 1523 = .ok (.aload_n 0, 1) := by decide +kernel
theorem dL_law_1524 : decode cL_law 1524 = .ok (.iload 4, 2) := by decide +kernel
theorem dL_law_1526 : decode cL_law 1526 = .ok (.iconst 2, 1) := by decide +kernel
theorem dL_law_1527 : decode cL_law 1527 = .ok (.iadd, 1) := by decide +kernel
theorem dL_law_1528 : decode cL_law 1528 = .ok (.iaload, 1) := by decide +kernel
theorem dL_law_1529 : decode cL_law 1529 = .ok (.invokevirtual 191, 3) := by decide +kernel
theorem dL_law_1532 : decode cL_law 1532 = .ok (.istore 6, 2) := by decide +kernel
theorem dL_law_1534 : decode cL_law 1534 = .ok (.aload_n 2, 1) := by decide +kernel
theorem dL_law_1535 : decode cL_law 1535 = .ok (.invokevirtual 124, 3) := by decide +kernel
theorem dL_law_1538 : decode cL_law 1538 = .ok (.iload 5, 2) := by decide +kernel
theorem dL_law_1540 : decode cL_law 1540 = .ok (.if_icmp .eq 5, 3) := by decide +kernel
theorem dL_law_1543 : decode cL_law 1543 = .ok (.iconst 0, 1) := by decide +kernel
theorem dL_law_1544 : decode cL_law 1544 = .ok (.ireturn, 1) := by decide +kernel
theorem dL_law_1545 : decode cL_law 1545 = .ok (.iload 5, 2) := by decide +kernel
theorem dL_law_1547 : decode cL_law 1547 = .ok (.ifCond .ne 15, 3) := by decide +kernel
theorem dL_law_1550 : decode cL_law 1550 = .ok (.aload_n 3, 1) := by decide +kernel
theorem dL_law_1551 : decode cL_law 1551 = .ok (.iconst 0, 1) := by decide +kernel
theorem dL_law_1552 : decode cL_law 1552 = .ok (.laload, 1) := by decide +kernel
theorem dL_law_1553 : decode cL_law 1553 = .ok (.iload 6, 2) := by decide +kernel
theorem dL_law_1555 : decode cL_law 1555 = .ok (.i2l, 1) := by decide +kernel
theorem dL_law_1556 : decode cL_law 1556 = .ok (.lcmp, 1) := by decide +kernel
theorem dL_law_1557 : decode cL_law 1557 = .ok (.ifCond .eq 5, 3) := by decide +kernel
theorem dL_law_1560 : decode cL_law 1560 = .ok (.iconst 0, 1) := by decide +kernel
theorem dL_law_1561 : decode cL_law 1561 = .ok (.ireturn, 1) := by decide +kernel
theorem dL_law_1562 : decode cL_law 1562 = .ok (.goto 469, 3) := by decide +kernel
theorem dL_law_1565 : decode cL_law 1565 = .ok (.aload_n 1, 1) := by decide +kernel
theorem dL_law_1566 : decode cL_law 1566 = .ok (.aload_n 0, 1) := by decide +kernel
theorem dL_law_1567 : decode cL_law 1567 = .ok (.iload 4, 2) := by decide +kernel
theorem dL_law_1569 : decode cL_law 1569 = .ok (.iconst 1, 1) := by decide +kernel
theorem dL_law_1570 : decode cL_law 1570 = .ok (.iadd, 1) := by decide +kernel
theorem dL_law_1571 : decode cL_law 1571 = .ok (.iaload, 1) := by decide +kernel
theorem dL_law_1572 : decode cL_law 1572 = .ok (.aload_n 3, 1) := by decide +kernel
theorem dL_law_1573 : decode cL_law 1573 = .ok (.invokestatic 192, 3) := by decide +kernel
theorem dL_law_1576 : decode cL_law 1576 = .ok (.istore 5, 2) := by decide +kernel
theorem dL_law_1578 : decode cL_law 1578 = .ok (.aload_n 2, 1) := by decide +kernel
theorem dL_law_1579 : decode cL_law 1579 = .ok (.aload_n 0, 1) := by decide +kernel
theorem dL_law_1580 : decode cL_law 1580 = .ok (.iload 4, 2) := by decide +kernel
theorem dL_law_1582 : decode cL_law 1582 = .ok (.iconst 1, 1) := by decide +kernel
theorem dL_law_1583 : decode cL_law 1583 = .ok (.iadd, 1) := by decide +kernel
theorem dL_law_1584 : decode cL_law 1584 = .ok (.iaload, 1) := by decide +kernel
theorem dL_law_1585 : decode cL_law 1585 = .ok (.invokevirtual 194, 3) := by decide +kernel
theorem dL_law_1588 : decode cL_law 1588 = .ok (.istore 6, 2) := by decide +kernel
theorem dL_law_1590 : decode cL_law 1590 = .ok (.aload_n 2, 1) := by decide +kernel
theorem dL_law_1591 : decode cL_law 1591 = .ok (.invokevirtual 124, 3) := by decide +kernel
theorem dL_law_1594 : decode cL_law 1594 = .ok (.iload 5, 2) := by decide +kernel
theorem dL_law_1596 : decode cL_law 1596 = .ok (.if_icmp .eq 5, 3) := by decide +kernel
theorem dL_law_1599 : decode cL_law 1599 = .ok (.iconst 0, 1) := by decide +kernel
theorem dL_law_1600 : decode cL_law 1600 = .ok (.ireturn, 1) := by decide +kernel
theorem dL_law_1601 : decode cL_law 1601 = .ok (.iload 5, 2) := by decide +kernel
theorem dL_law_1603 : decode cL_law 1603 = .ok (.ifCond .ne 15, 3) := by decide +kernel
theorem dL_law_1606 : decode cL_law 1606 = .ok (.aload_n 3, 1) := by decide +kernel
theorem dL_law_1607 : decode cL_law 1607 = .ok (.iconst 0, 1) := by decide +kernel
theorem dL_law_1608 : decode cL_law 1608 = .ok (.laload, 1) := by decide +kernel
theorem dL_law_1609 : decode cL_law 1609 = .ok (.iload 6, 2) := by decide +kernel
theorem dL_law_1611 : decode cL_law 1611 = .ok (.i2l, 1) := by decide +kernel
theorem dL_law_1612 : decode cL_law 1612 = .ok (.lcmp, 1) := by decide +kernel
theorem dL_law_1613 : decode cL_law 1613 = .ok (.ifCond .eq 5, 3) := by decide +kernel
theorem dL_law_1616 : decode cL_law 1616 = .ok (.iconst 0, 1) := by decide +kernel
theorem dL_law_1617 : decode cL_law 1617 = .ok (.ireturn, 1) := by decide +kernel
theorem dL_law_1618 : decode cL_law 1618 = .ok (.goto 413, 3) := by decide +kernel
theorem dL_law_1621 : decode cL_law 1621 = .ok (.aload_n 1, 1) := by decide +kernel
theorem dL_law_1622 : decode cL_law 1622 = .ok (.invokevirtual 195, 3) := by decide +kernel
theorem dL_law_1625 : decode cL_law 1625 = .ok (.aload_n 2, 1) := by decide +kernel
theorem dL_law_1626 : decode cL_law 1626 = .ok (.invokevirtual 198, 3) := by decide +kernel
theorem dL_law_1629 : decode cL_law 1629 = .ok (.if_icmp .eq 402, 3) := by decide +kernel
theorem dL_law_1632 : decode cL_law 1632 = .ok (.iconst 0, 1) := by decide +kernel
theorem dL_law_1633 : decode cL_law 1633 = .ok (.ireturn, 1) := by decide +kernel
theorem dL_law_1634 : decode cL_law 1634 = .ok (.aload_n 1, 1) := by decide +kernel
theorem dL_law_1635 : decode cL_law 1635 = .ok (.aload_n 0, 1) := by decide +kernel
theorem dL_law_1636 : decode cL_law 1636 = .ok (.iload 4, 2) := by decide +kernel
theorem dL_law_1638 : decode cL_law 1638 = .ok (.iconst 1, 1) := by decide +kernel
theorem dL_law_1639 : decode cL_law 1639 = .ok (.iadd, 1) := by decide +kernel
theorem dL_law_1640 : decode cL_law 1640 = .ok (.iaload, 1) := by decide +kernel
theorem dL_law_1641 : decode cL_law 1641 = .ok (.aload_n 0, 1) := by decide +kernel
theorem dL_law_1642 : decode cL_law 1642 = .ok (.iload 4, 2) := by decide +kernel
theorem dL_law_1644 : decode cL_law 1644 = .ok (.iconst 2, 1) := by decide +kernel
theorem dL_law_1645 : decode cL_law 1645 = .ok (.iadd, 1) := by decide +kernel
theorem dL_law_1646 : decode cL_law 1646 = .ok (.iaload, 1) := by decide +kernel
theorem dL_law_1647 : decode cL_law 1647 = .ok (.ifCond .eq 7, 3) := by decide +kernel
theorem dL_law_1650 : decode cL_law 1650 = .ok (.iconst 1, 1) := by decide +kernel
theorem dL_law_1651 : decode cL_law 1651 = .ok (.goto 4, 3) := by decide +kernel
theorem dL_law_1654 : decode cL_law 1654 = .ok (.iconst 0, 1) := by decide +kernel
theorem dL_law_1655 : decode cL_law 1655 = .ok (.aload_n 3, 1) := by decide +kernel
theorem dL_law_1656 : decode cL_law 1656 = .ok (.invokestatic 199, 3) := by decide +kernel
theorem dL_law_1659 : decode cL_law 1659 = .ok (.istore 5, 2) := by decide +kernel
theorem dL_law_1661 : decode cL_law 1661 = .ok (.aload_n 2, 1) := by decide +kernel
theorem dL_law_1662 : decode cL_law 1662 = .ok (.aload_n 0, 1) := by decide +kernel
theorem dL_law_1663 : decode cL_law 1663 = .ok (.iload 4, 2) := by decide +kernel
theorem dL_law_1665 : decode cL_law 1665 = .ok (.iconst 1, 1) := by decide +kernel
theorem dL_law_1666 : decode cL_law 1666 = .ok (.iadd, 1) := by decide +kernel
theorem dL_law_1667 : decode cL_law 1667 = .ok (.iaload, 1) := by decide +kernel
theorem dL_law_1668 : decode cL_law 1668 = .ok (.aload_n 0, 1) := by decide +kernel
theorem dL_law_1669 : decode cL_law 1669 = .ok (.iload 4, 2) := by decide +kernel
theorem dL_law_1671 : decode cL_law 1671 = .ok (.iconst 2, 1) := by decide +kernel
theorem dL_law_1672 : decode cL_law 1672 = .ok (.iadd, 1) := by decide +kernel
theorem dL_law_1673 : decode cL_law 1673 = .ok (.iaload, 1) := by decide +kernel
theorem dL_law_1674 : decode cL_law 1674 = .ok (.ifCond .eq 7, 3) := by decide +kernel
theorem dL_law_1677 : decode cL_law 1677 = .ok (.iconst 1, 1) := by decide +kernel
theorem dL_law_1678 : decode cL_law 1678 = .ok (.goto 4, 3) := by decide +kernel
theorem dL_law_1681 : decode cL_law 1681 = .ok (.iconst 0, 1) := by decide +kernel
theorem dL_law_1682 : decode cL_law 1682 = .ok (.invokevirtual 202, 3) := by decide +kernel
theorem dL_law_1685 : decode cL_law 1685 = .ok (.istore 6, 2) := by decide +kernel
theorem dL_law_1687 : decode cL_law 1687 = .ok (.aload_n 2, 1) := by decide +kernel
theorem dL_law_1688 : decode cL_law 1688 = .ok (.invokevirtual 124, 3) := by decide +kernel
theorem dL_law_1691 : decode cL_law 1691 = .ok (.iload 5, 2) := by decide +kernel
theorem dL_law_1693 : decode cL_law 1693 = .ok (.if_icmp .eq 5, 3) := by decide +kernel
theorem dL_law_1696 : decode cL_law 1696 = .ok (.iconst 0, 1) := by decide +kernel
theorem dL_law_1697 : decode cL_law 1697 = .ok (.ireturn, 1) := by decide +kernel
theorem dL_law_1698 : decode cL_law 1698 = .ok (.iload 5, 2) := by decide +kernel
theorem dL_law_1700 : decode cL_law 1700 = .ok (.ifCond .ne 15, 3) := by decide +kernel
theorem dL_law_1703 : decode cL_law 1703 = .ok (.aload_n 3, 1) := by decide +kernel
theorem dL_law_1704 : decode cL_law 1704 = .ok (.iconst 0, 1) := by decide +kernel
theorem dL_law_1705 : decode cL_law 1705 = .ok (.laload, 1) := by decide +kernel
theorem dL_law_1706 : decode cL_law 1706 = .ok (.iload 6, 2) := by decide +kernel
theorem dL_law_1708 : decode cL_law 1708 = .ok (.i2l, 1) := by decide +kernel
theorem dL_law_1709 : decode cL_law 1709 = .ok (.lcmp, 1) := by decide +kernel
theorem dL_law_1710 : decode cL_law 1710 = .ok (.ifCond .eq 5, 3) := by decide +kernel
theorem dL_law_1713 : decode cL_law 1713 = .ok (.iconst 0, 1) := by decide +kernel
theorem dL_law_1714 : decode cL_law 1714 = .ok (.ireturn, 1) := by decide +kernel
theorem dL_law_1715 : decode cL_law 1715 = .ok (.goto 316, 3) := by decide +kernel
theorem dL_law_1718 : decode cL_law 1718 = .ok (.aload_n 1, 1) := by decide +kernel
theorem dL_law_1719 : decode cL_law 1719 = .ok (.aload_n 0, 1) := by decide +kernel
theorem dL_law_1720 : decode cL_law 1720 = .ok (.iload 4, 2) := by decide +kernel
theorem dL_law_1722 : decode cL_law 1722 = .ok (.iconst 1, 1) := by decide +kernel
theorem dL_law_1723 : decode cL_law 1723 = .ok (.iadd, 1) := by decide +kernel
theorem dL_law_1724 : decode cL_law 1724 = .ok (.iaload, 1) := by decide +kernel
theorem dL_law_1725 : decode cL_law 1725 = .ok (.invokevirtual 203, 3) := by decide +kernel
theorem dL_law_1728 : decode cL_law 1728 = .ok (.aload_n 2, 1) := by decide +kernel
theorem dL_law_1729 : decode cL_law 1729 = .ok (.aload_n 0, 1) := by decide +kernel
theorem dL_law_1730 : decode cL_law 1730 = .ok (.iload 4, 2) := by decide +kernel
theorem dL_law_1732 : decode cL_law 1732 = .ok (.iconst 1, 1) := by decide +kernel
theorem dL_law_1733 : decode cL_law 1733 = .ok (.iadd, 1) := by decide +kernel
theorem dL_law_1734 : decode cL_law 1734 = .ok (.iaload, 1) := by decide +kernel
theorem dL_law_1735 : decode cL_law 1735 = .ok (.invokevirtual 206, 3) := by decide +kernel
theorem dL_law_1738 : decode cL_law 1738 = .ok (.if_icmp .eq 293, 3) := by decide +kernel
theorem dL_law_1741 : decode cL_law 1741 = .ok (.iconst 0, 1) := by decide +kernel
theorem dL_law_1742 : decode cL_law 1742 = .ok (.ireturn, 1) := by decide +kernel
theorem dL_law_1743 : decode cL_law 1743 = .ok (.aload_n 1, 1) := by decide +kernel
theorem dL_law_1744 : decode cL_law 1744 = .ok (.aload_n 0, 1) := by decide +kernel
theorem dL_law_1745 : decode cL_law 1745 = .ok (.iload 4, 2) := by decide +kernel
theorem dL_law_1747 : decode cL_law 1747 = .ok (.iconst 1, 1) := by decide +kernel
theorem dL_law_1748 : decode cL_law 1748 = .ok (.iadd, 1) := by decide +kernel
theorem dL_law_1749 : decode cL_law 1749 = .ok (.iaload, 1) := by decide +kernel
theorem dL_law_1750 : decode cL_law 1750 = .ok (.invokevirtual 207, 3) := by decide +kernel
theorem dL_law_1753 : decode cL_law 1753 = .ok (.aload_n 2, 1) := by decide +kernel
theorem dL_law_1754 : decode cL_law 1754 = .ok (.aload_n 0, 1) := by decide +kernel
theorem dL_law_1755 : decode cL_law 1755 = .ok (.iload 4, 2) := by decide +kernel
theorem dL_law_1757 : decode cL_law 1757 = .ok (.iconst 1, 1) := by decide +kernel
theorem dL_law_1758 : decode cL_law 1758 = .ok (.iadd, 1) := by decide +kernel
theorem dL_law_1759 : decode cL_law 1759 = .ok (.iaload, 1) := by decide +kernel
theorem dL_law_1760 : decode cL_law 1760 = .ok (.invokevirtual 210, 3) := by decide +kernel
theorem dL_law_1763 : decode cL_law 1763 = .ok (.if_icmp .eq 268, 3) := by decide +kernel
theorem dL_law_1766 : decode cL_law 1766 = .ok (.iconst 0, 1) := by decide +kernel
theorem dL_law_1767 : decode cL_law 1767 = .ok (.ireturn, 1) := by decide +kernel
theorem dL_law_1768 : decode cL_law 1768 = .ok (.aload_n 1, 1) := by decide +kernel
theorem dL_law_1769 : decode cL_law 1769 = .ok (.aload_n 0, 1) := by decide +kernel
theorem dL_law_1770 : decode cL_law 1770 = .ok (.iload 4, 2) := by decide +kernel
theorem dL_law_1772 : decode cL_law 1772 = .ok (.iconst 1, 1) := by decide +kernel
theorem dL_law_1773 : decode cL_law 1773 = .ok (.iadd, 1) := by decide +kernel
theorem dL_law_1774 : decode cL_law 1774 = .ok (.iaload, 1) := by decide +kernel
theorem dL_law_1775 : decode cL_law 1775 = .ok (.aload_n 0, 1) := by decide +kernel
theorem dL_law_1776 : decode cL_law 1776 = .ok (.iload 4, 2) := by decide +kernel
theorem dL_law_1778 : decode cL_law 1778 = .ok (.iconst 2, 1) := by decide +kernel
theorem dL_law_1779 : decode cL_law 1779 = .ok (.iadd, 1) := by decide +kernel
theorem dL_law_1780 : decode cL_law 1780 = .ok (.iaload, 1) := by decide +kernel
theorem dL_law_1781 : decode cL_law 1781 = .ok (.invokevirtual 211, 3) := by decide +kernel
theorem dL_law_1784 : decode cL_law 1784 = .ok (.aload_n 2, 1) := by decide +kernel
theorem dL_law_1785 : decode cL_law 1785 = .ok (.aload_n 0, 1) := by decide +kernel
theorem dL_law_1786 : decode cL_law 1786 = .ok (.iload 4, 2) := by decide +kernel
theorem dL_law_1788 : decode cL_law 1788 = .ok (.iconst 1, 1) := by decide +kernel
theorem dL_law_1789 : decode cL_law 1789 = .ok (.iadd, 1) := by decide +kernel
theorem dL_law_1790 : decode cL_law 1790 = .ok (.iaload, 1) := by decide +kernel
theorem dL_law_1791 : decode cL_law 1791 = .ok (.aload_n 0, 1) := by decide +kernel
theorem dL_law_1792 : decode cL_law 1792 = .ok (.iload 4, 2) := by decide +kernel
theorem dL_law_1794 : decode cL_law 1794 = .ok (.iconst 2, 1) := by decide +kernel
theorem dL_law_1795 : decode cL_law 1795 = .ok (.iadd, 1) := by decide +kernel
theorem dL_law_1796 : decode cL_law 1796 = .ok (.iaload, 1) := by decide +kernel
theorem dL_law_1797 : decode cL_law 1797 = .ok (.invokevirtual 214, 3) := by decide +kernel
theorem dL_law_1800 : decode cL_law 1800 = .ok (.if_icmp .eq 231, 3) := by decide +kernel
theorem dL_law_1803 : decode cL_law 1803 = .ok (.iconst 0, 1) := by decide +kernel
theorem dL_law_1804 : decode cL_law 1804 = .ok (.ireturn, 1) := by decide +kernel
theorem dL_law_1805 : decode cL_law 1805 = .ok (.aload_n 1, 1) := by decide +kernel
theorem dL_law_1806 : decode cL_law 1806 = .ok (.invokevirtual 215, 3) := by decide +kernel
theorem dL_law_1809 : decode cL_law 1809 = .ok (.aload_n 2, 1) := by decide +kernel
theorem dL_law_1810 : decode cL_law 1810 = .ok (.invokevirtual 218, 3) := by decide +kernel
theorem dL_law_1813 : decode cL_law 1813 = .ok (.if_icmp .eq 218, 3) := by decide +kernel
theorem dL_law_1816 : decode cL_law 1816 = .ok (.iconst 0, 1) := by decide +kernel
theorem dL_law_1817 : decode cL_law 1817 = .ok (.ireturn, 1) := by decide +kernel
theorem dL_law_1818 : decode cL_law 1818 = .ok (.aload_n 1, 1) := by decide +kernel
theorem dL_law_1819 : decode cL_law 1819 = .ok (.invokevirtual 219, 3) := by decide +kernel
theorem dL_law_1822 : decode cL_law 1822 = .ok (.aload_n 2, 1) := by decide +kernel
theorem dL_law_1823 : decode cL_law 1823 = .ok (.invokevirtual 222, 3) := by decide +kernel
theorem dL_law_1826 : decode cL_law 1826 = .ok (.if_icmp .eq 205, 3) := by decide +kernel
theorem dL_law_1829 : decode cL_law 1829 = .ok (.iconst 0, 1) := by decide +kernel
theorem dL_law_1830 : decode cL_law 1830 = .ok (.ireturn, 1) := by decide +kernel
theorem dL_law_1831 : decode cL_law 1831 = .ok (.aload_n 1, 1) := by decide +kernel
theorem dL_law_1832 : decode cL_law 1832 = .ok (.aload_n 0, 1) := by decide +kernel
theorem dL_law_1833 : decode cL_law 1833 = .ok (.iload 4, 2) := by decide +kernel
theorem dL_law_1835 : decode cL_law 1835 = .ok (.iconst 1, 1) := by decide +kernel
theorem dL_law_1836 : decode cL_law 1836 = .ok (.iadd, 1) := by decide +kernel
theorem dL_law_1837 : decode cL_law 1837 = .ok (.iaload, 1) := by decide +kernel
theorem dL_law_1838 : decode cL_law 1838 = .ok (.invokevirtual 223, 3) := by decide +kernel
theorem dL_law_1841 : decode cL_law 1841 = .ok (.aload_n 2, 1) := by decide +kernel
theorem dL_law_1842 : decode cL_law 1842 = .ok (.aload_n 0, 1) := by decide +kernel
theorem dL_law_1843 : decode cL_law 1843 = .ok (.iload 4, 2) := by decide +kernel
theorem dL_law_1845 : decode cL_law 1845 = .ok (.iconst 1, 1) := by decide +kernel
theorem dL_law_1846 : decode cL_law 1846 = .ok (.iadd, 1) := by decide +kernel
theorem dL_law_1847 : decode cL_law 1847 = .ok (.iaload, 1) := by decide +kernel
theorem dL_law_1848 : decode cL_law 1848 = .ok (.invokevirtual 226, 3) := by decide +kernel
theorem dL_law_1851 : decode cL_law 1851 = .ok (.if_icmp .eq 180, 3) := by decide +kernel
theorem dL_law_1854 : decode cL_law 1854 = .ok (.iconst 0, 1) := by decide +kernel
theorem dL_law_1855 : decode cL_law 1855 = .ok (.ireturn, 1) := by decide +kernel
theorem dL_law_1856 : decode cL_law 1856 = .ok (.aload_n 1, 1) := by decide +kernel
theorem dL_law_1857 : decode cL_law 1857 = .ok (.aload_n 0, 1) := by decide +kernel
theorem dL_law_1858 : decode cL_law 1858 = .ok (.iload 4, 2) := by decide +kernel
theorem dL_law_1860 : decode cL_law 1860 = .ok (.iconst 1, 1) := by decide +kernel
theorem dL_law_1861 : decode cL_law 1861 = .ok (.iadd, 1) := by decide +kernel
theorem dL_law_1862 : decode cL_law 1862 = .ok (.iaload, 1) := by decide +kernel
theorem dL_law_1863 : decode cL_law 1863 = .ok (.aload_n 0, 1) := by decide +kernel
theorem dL_law_1864 : decode cL_law 1864 = .ok (.iload 4, 2) := by decide +kernel
theorem dL_law_1866 : decode cL_law 1866 = .ok (.iconst 2, 1) := by decide +kernel
theorem dL_law_1867 : decode cL_law 1867 = .ok (.iadd, 1) := by decide +kernel
theorem dL_law_1868 : decode cL_law 1868 = .ok (.iaload, 1) := by decide +kernel
theorem dL_law_1869 : decode cL_law 1869 = .ok (.invokevirtual 227, 3) := by decide +kernel
theorem dL_law_1872 : decode cL_law 1872 = .ok (.aload_n 2, 1) := by decide +kernel
theorem dL_law_1873 : decode cL_law 1873 = .ok (.aload_n 0, 1) := by decide +kernel
theorem dL_law_1874 : decode cL_law 1874 = .ok (.iload 4, 2) := by decide +kernel
theorem dL_law_1876 : decode cL_law 1876 = .ok (.iconst 1, 1) := by decide +kernel
theorem dL_law_1877 : decode cL_law 1877 = .ok (.iadd, 1) := by decide +kernel
theorem dL_law_1878 : decode cL_law 1878 = .ok (.iaload, 1) := by decide +kernel
theorem dL_law_1879 : decode cL_law 1879 = .ok (.aload_n 0, 1) := by decide +kernel
theorem dL_law_1880 : decode cL_law 1880 = .ok (.iload 4, 2) := by decide +kernel
theorem dL_law_1882 : decode cL_law 1882 = .ok (.iconst 2, 1) := by decide +kernel
theorem dL_law_1883 : decode cL_law 1883 = .ok (.iadd, 1) := by decide +kernel
theorem dL_law_1884 : decode cL_law 1884 = .ok (.iaload, 1) := by decide +kernel
theorem dL_law_1885 : decode cL_law 1885 = .ok (.invokevirtual 230, 3) := by decide +kernel
theorem dL_law_1888 : decode cL_law 1888 = .ok (.if_icmp .eq 143, 3) := by decide +kernel
theorem dL_law_1891 : decode cL_law 1891 = .ok (.iconst 0, 1) := by decide +kernel
theorem dL_law_1892 : decode cL_law 1892 = .ok (.ireturn, 1) := by decide +kernel
theorem dL_law_1893 : decode cL_law 1893 = .ok (.aload_n 1, 1) := by decide +kernel
theorem dL_law_1894 : decode cL_law 1894 = .ok (.aload_n 0, 1) := by decide +kernel
theorem dL_law_1895 : decode cL_law 1895 = .ok (.iload 4, 2) := by decide +kernel
theorem dL_law_1897 : decode cL_law 1897 = .ok (.iconst 1, 1) := by decide +kernel
theorem dL_law_1898 : decode cL_law 1898 = .ok (.iadd, 1) := by decide +kernel
theorem dL_law_1899 : decode cL_law 1899 = .ok (.iaload, 1) := by decide +kernel
theorem dL_law_1900 : decode cL_law 1900 = .ok (.invokevirtual 231, 3) := by decide +kernel
theorem dL_law_1903 : decode cL_law 1903 = .ok (.aload_n 2, 1) := by decide +kernel
theorem dL_law_1904 : decode cL_law 1904 = .ok (.aload_n 0, 1) := by decide +kernel
theorem dL_law_1905 : decode cL_law 1905 = .ok (.iload 4, 2) := by decide +kernel
theorem dL_law_1907 : decode cL_law 1907 = .ok (.iconst 1, 1) := by decide +kernel
theorem dL_law_1908 : decode cL_law 1908 = .ok (.iadd, 1) := by decide +kernel
theorem dL_law_1909 : decode cL_law 1909 = .ok (.iaload, 1) := by decide +kernel
theorem dL_law_1910 : decode cL_law 1910 = .ok (.invokevirtual 234, 3) := by decide +kernel
theorem dL_law_1913 : decode cL_law 1913 = .ok (.if_icmp .eq 118, 3) := by decide +kernel
theorem dL_law_1916 : decode cL_law 1916 = .ok (.iconst 0, 1) := by decide +kernel
theorem dL_law_1917 : decode cL_law 1917 = .ok (.ireturn, 1) := by decide +kernel
theorem dL_law_1918 : decode cL_law 1918 = .ok (.aload_n 1, 1) := by decide +kernel
theorem dL_law_1919 : decode cL_law 1919 = .ok (.aload_n 0, 1) := by decide +kernel
theorem dL_law_1920 : decode cL_law 1920 = .ok (.iload 4, 2) := by decide +kernel
theorem dL_law_1922 : decode cL_law 1922 = .ok (.iconst 1, 1) := by decide +kernel
theorem dL_law_1923 : decode cL_law 1923 = .ok (.iadd, 1) := by decide +kernel
theorem dL_law_1924 : decode cL_law 1924 = .ok (.iaload, 1) := by decide +kernel
theorem dL_law_1925 : decode cL_law 1925 = .ok (.aload_n 0, 1) := by decide +kernel
theorem dL_law_1926 : decode cL_law 1926 = .ok (.iload 4, 2) := by decide +kernel
theorem dL_law_1928 : decode cL_law 1928 = .ok (.iconst 2, 1) := by decide +kernel
theorem dL_law_1929 : decode cL_law 1929 = .ok (.iadd, 1) := by decide +kernel
theorem dL_law_1930 : decode cL_law 1930 = .ok (.iaload, 1) := by decide +kernel
theorem dL_law_1931 : decode cL_law 1931 = .ok (.invokevirtual 235, 3) := by decide +kernel
theorem dL_law_1934 : decode cL_law 1934 = .ok (.aload_n 2, 1) := by decide +kernel
theorem dL_law_1935 : decode cL_law 1935 = .ok (.aload_n 0, 1) := by decide +kernel
theorem dL_law_1936 : decode cL_law 1936 = .ok (.iload 4, 2) := by decide +kernel
theorem dL_law_1938 : decode cL_law 1938 = .ok (.iconst 1, 1) := by decide +kernel
theorem dL_law_1939 : decode cL_law 1939 = .ok (.iadd, 1) := by decide +kernel
theorem dL_law_1940 : decode cL_law 1940 = .ok (.iaload, 1) := by decide +kernel
theorem dL_law_1941 : decode cL_law 1941 = .ok (.aload_n 0, 1) := by decide +kernel
theorem dL_law_1942 : decode cL_law 1942 = .ok (.iload 4, 2) := by decide +kernel
theorem dL_law_1944 : decode cL_law 1944 = .ok (.iconst 2, 1) := by decide +kernel
theorem dL_law_1945 : decode cL_law 1945 = .ok (.iadd, 1) := by decide +kernel
theorem dL_law_1946 : decode cL_law 1946 = .ok (.iaload, 1) := by decide +kernel
theorem dL_law_1947 : decode cL_law 1947 = .ok (.invokevirtual 238, 3) := by decide +kernel
theorem dL_law_1950 : decode cL_law 1950 = .ok (.if_icmp .eq 81, 3) := by decide +kernel
theorem dL_law_1953 : decode cL_law 1953 = .ok (.iconst 0, 1) := by decide +kernel
theorem dL_law_1954 : decode cL_law 1954 = .ok (.ireturn, 1) := by decide +kernel
theorem dL_law_1955 : decode cL_law 1955 = .ok (.aload_n 1, 1) := by decide +kernel
theorem dL_law_1956 : decode cL_law 1956 = .ok (.invokevirtual 239, 3) := by decide +kernel
theorem dL_law_1959 : decode cL_law 1959 = .ok (.aload_n 2, 1) := by decide +kernel
theorem dL_law_1960 : decode cL_law 1960 = .ok (.invokevirtual 242, 3) := by decide +kernel
theorem dL_law_1963 : decode cL_law 1963 = .ok (.if_icmp .eq 68, 3) := by decide +kernel
theorem dL_law_1966 : decode cL_law 1966 = .ok (.iconst 0, 1) := by decide +kernel
theorem dL_law_1967 : decode cL_law 1967 = .ok (.ireturn, 1) := by decide +kernel
theorem dL_law_1968 : decode cL_law 1968 = .ok (.aload_n 1, 1) := by decide +kernel
theorem dL_law_1969 : decode cL_law 1969 = .ok (.invokevirtual 243, 3) := by decide +kernel
theorem dL_law_1972 : decode cL_law 1972 = .ok (.aload_n 2, 1) := by decide +kernel
theorem dL_law_1973 : decode cL_law 1973 = .ok (.invokevirtual 246, 3) := by decide +kernel
theorem dL_law_1976 : decode cL_law 1976 = .ok (.if_icmp .eq 55, 3) := by decide +kernel
theorem dL_law_1979 : decode cL_law 1979 = .ok (.iconst 0, 1) := by decide +kernel
theorem dL_law_1980 : decode cL_law 1980 = .ok (.ireturn, 1) := by decide +kernel
theorem dL_law_1981 : decode cL_law 1981 = .ok (.aload_n 1, 1) := by decide +kernel
theorem dL_law_1982 : decode cL_law 1982 = .ok (.aload_n 0, 1) := by decide +kernel
theorem dL_law_1983 : decode cL_law 1983 = .ok (.iload 4, 2) := by decide +kernel
theorem dL_law_1985 : decode cL_law 1985 = .ok (.iconst 1, 1) := by decide +kernel
theorem dL_law_1986 : decode cL_law 1986 = .ok (.iadd, 1) := by decide +kernel
theorem dL_law_1987 : decode cL_law 1987 = .ok (.iaload, 1) := by decide +kernel
theorem dL_law_1988 : decode cL_law 1988 = .ok (.aload_n 0, 1) := by decide +kernel
theorem dL_law_1989 : decode cL_law 1989 = .ok (.iload 4, 2) := by decide +kernel
theorem dL_law_1991 : decode cL_law 1991 = .ok (.iconst 2, 1) := by decide +kernel
theorem dL_law_1992 : decode cL_law 1992 = .ok (.iadd, 1) := by decide +kernel
theorem dL_law_1993 : decode cL_law 1993 = .ok (.iaload, 1) := by decide +kernel
theorem dL_law_1994 : decode cL_law 1994 = .ok (.invokevirtual 247, 3) := by decide +kernel
theorem dL_law_1997 : decode cL_law 1997 = .ok (.aload_n 2, 1) := by decide +kernel
theorem dL_law_1998 : decode cL_law 1998 = .ok (.aload_n 0, 1) := by decide +kernel
theorem dL_law_1999 : decode cL_law 1999 = .ok (.iload 4, 2) := by decide +kernel
theorem dL_law_2001 : decode cL_law 2001 = .ok (.iconst 1, 1) := by decide +kernel
theorem dL_law_2002 : decode cL_law 2002 = .ok (.iadd, 1) := by decide +kernel
theorem dL_law_2003 : decode cL_law 2003 = .ok (.iaload, 1) := by decide +kernel
theorem dL_law_2004 : decode cL_law 2004 = .ok (.aload_n 0, 1) := by decide +kernel
theorem dL_law_2005 : decode cL_law 2005 = .ok (.iload 4, 2) := by decide +kernel
theorem dL_law_2007 : decode cL_law 2007 = .ok (.iconst 2, 1) := by decide +kernel
theorem dL_law_2008 : decode cL_law 2008 = .ok (.iadd, 1) := by decide +kernel
theorem dL_law_2009 : decode cL_law 2009 = .ok (.iaload, 1) := by decide +kernel
theorem dL_law_2010 : decode cL_law 2010 = .ok (.invokevirtual 250, 3) := by decide +kernel
theorem dL_law_2013 : decode cL_law 2013 = .ok (.if_icmp .eq 18, 3) := by decide +kernel
theorem dL_law_2016 : decode cL_law 2016 = .ok (.iconst 0, 1) := by decide +kernel
theorem dL_law_2017 : decode cL_law 2017 = .ok (.ireturn, 1) := by decide +kernel
theorem dL_law_2018 : decode cL_law 2018 = .ok (.aload_n 1, 1) := by decide +kernel
theorem dL_law_2019 : decode cL_law 2019 = .ok (.invokevirtual 251, 3) := by decide +kernel
theorem dL_law_2022 : decode cL_law 2022 = .ok (.aload_n 2, 1) := by decide +kernel
theorem dL_law_2023 : decode cL_law 2023 = .ok (.invokevirtual 254, 3) := by decide +kernel
theorem dL_law_2026 : decode cL_law 2026 = .ok (.if_icmp .eq 5, 3) := by decide +kernel
theorem dL_law_2029 : decode cL_law 2029 = .ok (.iconst 0, 1) := by decide +kernel
theorem dL_law_2030 : decode cL_law 2030 = .ok (.ireturn, 1) := by decide +kernel
theorem dL_law_2031 : decode cL_law 2031 = .ok (.iinc 4 6, 3) := by decide +kernel
theorem dL_law_2034 : decode cL_law 2034 = .ok (.goto (-2011), 3) := by decide +kernel
theorem dL_law_2037 : decode cL_law 2037 = .ok (.iconst 1, 1) := by decide +kernel
theorem dL_law_2038 : decode cL_law 2038 = .ok (.ireturn, 1) := by decide +kernel
def m_L_law (N : Nat) : fs_I := (yL_law, cL_law, 7, (some .boolean), 70 + N, 3237 + 6 * N, 27)
theorem mh_L_locationProperty : fh_mS m_L_locationProperty hh_L_locationProperty 4 := ⟨qh_L_locationProperty, q_88, ⟨by decide +kernel, by decide +kernel, by decide +kernel⟩, Nat.le_of_ble_eq_true rfl, qs_L_locationProperty⟩
theorem mh_L_feeOf : fh_mS m_L_feeOf hh_L_feeOf 3 := ⟨qh_L_feeOf, q_88, ⟨by decide +kernel, by decide +kernel, by decide +kernel⟩, Nat.le_of_ble_eq_true rfl, qs_L_feeOf⟩
theorem mh_L_sceneProperty : fh_mS m_L_sceneProperty hh_L_sceneProperty 4 := ⟨qh_L_sceneProperty, q_88, ⟨by decide +kernel, by decide +kernel, by decide +kernel⟩, Nat.le_of_ble_eq_true rfl, qs_L_sceneProperty⟩
theorem mh_L_dayOf : fh_mS m_L_dayOf hh_L_dayOf 3 := ⟨qh_L_dayOf, q_88, ⟨by decide +kernel, by decide +kernel, by decide +kernel⟩, Nat.le_of_ble_eq_true rfl, qs_L_dayOf⟩
theorem mh_L_scenesOn : fh_mS m_L_scenesOn hh_L_scenesOn 3 := ⟨qh_L_scenesOn, q_88, ⟨by decide +kernel, by decide +kernel, by decide +kernel⟩, Nat.le_of_ble_eq_true rfl, qs_L_scenesOn⟩
theorem mh_L_locationOn : fh_mS m_L_locationOn hh_L_locationOn 3 := ⟨qh_L_locationOn, q_88, ⟨by decide +kernel, by decide +kernel, by decide +kernel⟩, Nat.le_of_ble_eq_true rfl, qs_L_locationOn⟩
theorem mh_L_isNight : fh_mS m_L_isNight hh_L_isNight 3 := ⟨qh_L_isNight, q_88, ⟨by decide +kernel, by decide +kernel, by decide +kernel⟩, Nat.le_of_ble_eq_true rfl, qs_L_isNight⟩
theorem mh_L_lengthOn : fh_mS m_L_lengthOn hh_L_lengthOn 3 := ⟨qh_L_lengthOn, q_88, ⟨by decide +kernel, by decide +kernel, by decide +kernel⟩, Nat.le_of_ble_eq_true rfl, qs_L_lengthOn⟩
theorem mh_L_castOn : fh_mS m_L_castOn hh_L_castOn 3 := ⟨qh_L_castOn, q_88, ⟨by decide +kernel, by decide +kernel, by decide +kernel⟩, Nat.le_of_ble_eq_true rfl, qs_L_castOn⟩
theorem mh_L_statusOf : fh_mS m_L_statusOf hh_L_statusOf 4 := ⟨qh_L_statusOf, q_88, ⟨by decide +kernel, by decide +kernel, by decide +kernel⟩, Nat.le_of_ble_eq_true rfl, qs_L_statusOf⟩
theorem mh_L_firstDay : fh_mS m_L_firstDay hh_L_firstDay 3 := ⟨qh_L_firstDay, q_88, ⟨by decide +kernel, by decide +kernel, by decide +kernel⟩, Nat.le_of_ble_eq_true rfl, qs_L_firstDay⟩
theorem mh_L_lastDay : fh_mS m_L_lastDay hh_L_lastDay 3 := ⟨qh_L_lastDay, q_88, ⟨by decide +kernel, by decide +kernel, by decide +kernel⟩, Nat.le_of_ble_eq_true rfl, qs_L_lastDay⟩
theorem mh_L_daysWith : fh_mS m_L_daysWith hh_L_daysWith 4 := ⟨qh_L_daysWith, q_88, ⟨by decide +kernel, by decide +kernel, by decide +kernel⟩, Nat.le_of_ble_eq_true rfl, qs_L_daysWith⟩
theorem mh_L_actorCost : fh_mS m_L_actorCost hh_L_actorCost 3 := ⟨qh_L_actorCost, q_88, ⟨by decide +kernel, by decide +kernel, by decide +kernel⟩, Nat.le_of_ble_eq_true rfl, qs_L_actorCost⟩
theorem mh_L_reasonFor : fh_mS m_L_reasonFor hh_L_reasonFor 4 := ⟨qh_L_reasonFor, q_88, ⟨by decide +kernel, by decide +kernel, by decide +kernel⟩, Nat.le_of_ble_eq_true rfl, qs_L_reasonFor⟩
theorem mh_L_daysFor : fh_mS m_L_daysFor hh_L_daysFor 3 := ⟨qh_L_daysFor, q_88, ⟨by decide +kernel, by decide +kernel, by decide +kernel⟩, Nat.le_of_ble_eq_true rfl, qs_L_daysFor⟩
theorem mh_L_costWith : fh_mS m_L_costWith hh_L_costWith 4 := ⟨qh_L_costWith, q_88, ⟨by decide +kernel, by decide +kernel, by decide +kernel⟩, Nat.le_of_ble_eq_true rfl, qs_L_costWith⟩
theorem mh_L_bestDay : fh_mS m_L_bestDay hh_L_bestDay 3 := ⟨qh_L_bestDay, q_88, ⟨by decide +kernel, by decide +kernel, by decide +kernel⟩, Nat.le_of_ble_eq_true rfl, qs_L_bestDay⟩
theorem mh_L_waitingFor : fh_mS m_L_waitingFor hh_L_waitingFor 4 := ⟨qh_L_waitingFor, q_88, ⟨by decide +kernel, by decide +kernel, by decide +kernel⟩, Nat.le_of_ble_eq_true rfl, qs_L_waitingFor⟩
def T_L_law_0 (g : fs_G) (N d : Nat) (Q : Option Value → fs_M → Prop) : fs_P :=
  (fi_new 7 rs_X8 (fi_dup (fi_n0 g m_X8_init (fi_astore 1 (fi_new 8 rs_X9 (fi_dup (fi_n0 g m_X9_init (fi_astore 2 (fi_const (1) (fi_newa .long 1 (fi_astore 3 (fi_const (0) (fi_istore 4 (fi_cut g (m_L_law N) d (70, 3237) 23 Q))))))))))))))
theorem S_L_law_0 {g : fs_G} {N d : Nat} {Q : Option Value → fs_M → Prop} {ls st : List Value} {M : fs_M} (h : T_L_law_0 g N d Q ls st M) : fs_R g (m_L_law N) d (0, 0) 0 ls st M Q :=
  (show fs_E g (m_L_law N) d (0, 0) Q 0 (T_L_law_0 g N d Q) from (fo_new cl_X8 rfl tyq_X8 q_111 q_112 q_89 ⟨(show 0 + 1 ≤ 70 + N by omega), (show 0 + 10 ≤ 3237 + 6 * N by omega)⟩ rfl dL_law_0 (fo_dup dL_law_3 (fo_n0 mi_X8_init q_113 (Nat.le_of_ble_eq_true rfl) ⟨(show 1 + 55 ≤ 70 + N by omega), (show 10 + 1760 ≤ 3237 + 6 * N by omega)⟩ rfl dL_law_4 (fo_astore_n dL_law_7 rfl (Nat.le_of_ble_eq_true rfl) (fo_new cl_X9 rfl tyq_X9 q_1196 q_1197 q_99 ⟨(show 56 + 1 ≤ 70 + N by omega), (show 1770 + 33 ≤ 3237 + 6 * N by omega)⟩ rfl dL_law_8 (fo_dup dL_law_11 (fo_n0 mi_X9_init q_1198 (Nat.le_of_ble_eq_true rfl) ⟨(show 57 + 12 ≤ 70 + N by omega), (show 1803 + 1433 ≤ 3237 + 6 * N by omega)⟩ rfl dL_law_12 (fo_astore_n dL_law_15 rfl (Nat.le_of_ble_eq_true rfl) (fo_iconst (v := (1)) dL_law_16 (by decide) (fo_newa (ty := .long) (N := 1) rfl (by decide) (Nat.le_of_ble_eq_true rfl) q_1734 ⟨(show 69 + 1 ≤ 70 + N by omega), (show 3236 + 1 ≤ 3237 + 6 * N by omega)⟩ rfl dL_law_17 (fo_astore_n dL_law_19 rfl (Nat.le_of_ble_eq_true rfl) (fo_iconst (v := (0)) dL_law_20 (by decide) (fo_istore dL_law_21 (Nat.le_of_ble_eq_true rfl) fo_cut)))))))))))))) ls st M h
def T_L_law_23 (g : fs_G) (N d : Nat) (u : Nat × Nat) (Q : Option Value → fs_M → Prop) : fs_P :=
  (fi_iload 4 (fi_aload 0 (fi_sln g (fi_const (6) (fi_bin (fun x y => x - y) (fi_cmp (fun x y => y < x) (fi_const (1) (fi_zret Q)) (fi_aload 0 (fi_iload 4 (fi_scr g (fi_const (63) (fi_bin (fun x y => x &&& y) (fi_tsw 47 (fun j => match j with | 0 => (fi_cut g (m_L_law N) d u 244 Q) | 1 => (fi_cut g (m_L_law N) d u 317 Q) | 2 => (fi_cut g (m_L_law N) d u 342 Q) | 3 => (fi_cut g (m_L_law N) d u 355 Q) | 4 => (fi_cut g (m_L_law N) d u 368 Q) | 5 => (fi_cut g (m_L_law N) d u 381 Q) | 6 => (fi_cut g (m_L_law N) d u 394 Q) | 7 => (fi_cut g (m_L_law N) d u 407 Q) | 8 => (fi_cut g (m_L_law N) d u 432 Q) | 9 => (fi_cut g (m_L_law N) d u 457 Q) | 10 => (fi_cut g (m_L_law N) d u 482 Q) | 11 => (fi_cut g (m_L_law N) d u 550 Q) | 12 => (fi_cut g (m_L_law N) d u 606 Q) | 13 => (fi_cut g (m_L_law N) d u 674 Q) | 14 => (fi_cut g (m_L_law N) d u 730 Q) | 15 => (fi_cut g (m_L_law N) d u 786 Q) | 16 => (fi_cut g (m_L_law N) d u 842 Q) | 17 => (fi_cut g (m_L_law N) d u 905 Q) | 18 => (fi_cut g (m_L_law N) d u 961 Q) | 19 => (fi_cut g (m_L_law N) d u 1017 Q) | 20 => (fi_cut g (m_L_law N) d u 1030 Q) | 21 => (fi_cut g (m_L_law N) d u 1098 Q) | 22 => (fi_cut g (m_L_law N) d u 1154 Q) | 23 => (fi_cut g (m_L_law N) d u 1210 Q) | 24 => (fi_cut g (m_L_law N) d u 1278 Q) | 25 => (fi_cut g (m_L_law N) d u 1334 Q) | 26 => (fi_cut g (m_L_law N) d u 1347 Q) | 27 => (fi_cut g (m_L_law N) d u 1360 Q) | 28 => (fi_cut g (m_L_law N) d u 1373 Q) | 29 => (fi_cut g (m_L_law N) d u 1441 Q) | 30 => (fi_cut g (m_L_law N) d u 1497 Q) | 31 => (fi_cut g (m_L_law N) d u 1565 Q) | 32 => (fi_cut g (m_L_law N) d u 1621 Q) | 33 => (fi_cut g (m_L_law N) d u 1634 Q) | 34 => (fi_cut g (m_L_law N) d u 1718 Q) | 35 => (fi_cut g (m_L_law N) d u 1743 Q) | 36 => (fi_cut g (m_L_law N) d u 1768 Q) | 37 => (fi_cut g (m_L_law N) d u 1805 Q) | 38 => (fi_cut g (m_L_law N) d u 1818 Q) | 39 => (fi_cut g (m_L_law N) d u 1831 Q) | 40 => (fi_cut g (m_L_law N) d u 1856 Q) | 41 => (fi_cut g (m_L_law N) d u 1893 Q) | 42 => (fi_cut g (m_L_law N) d u 1918 Q) | 43 => (fi_cut g (m_L_law N) d u 1955 Q) | 44 => (fi_cut g (m_L_law N) d u 1968 Q) | 45 => (fi_cut g (m_L_law N) d u 1981 Q) | _ => (fi_cut g (m_L_law N) d u 2018 Q)) (fi_cut g (m_L_law N) d u 2031 Q)))))))))))))
theorem S_L_law_23 {g : fs_G} {N d : Nat} {u : Nat × Nat} (hB : u.1 + 1 ≤ 70 + N ∧ u.2 + 6 ≤ 3237 + 6 * N) {Q : Option Value → fs_M → Prop} {ls st : List Value} {M : fs_M} (h : T_L_law_23 g N d u Q ls st M) : fs_R g (m_L_law N) d u 23 ls st M Q :=
  (show fs_E g (m_L_law N) d u Q 23 (T_L_law_23 g N d u Q) from (fo_iload dL_law_23 (fo_aload_n dL_law_25 rfl (fo_sln dL_law_26 (fo_bipush (v := (6)) dL_law_27 (by decide) (fo_isub dL_law_29 (fo_icmp_gt (tgt := 2037) dL_law_30 (by decide) (fo_iconst (v := (1)) dL_law_2037 (by decide) (fo_zret ⟨Nat.le_trans (Nat.le_add_right u.1 1) hB.1, Nat.le_trans (Nat.le_add_right u.2 6) hB.2⟩ rfl dL_law_2038)) (fo_aload_n dL_law_33 rfl (fo_iload dL_law_34 (fo_scr dL_law_36 (fo_bipush (v := (63)) dL_law_37 (by decide) (fo_iand dL_law_39 (fo_tsw (n := 47) (tg := (fun j => match j with | 0 => 244 | 1 => 317 | 2 => 342 | 3 => 355 | 4 => 368 | 5 => 381 | 6 => 394 | 7 => 407 | 8 => 432 | 9 => 457 | 10 => 482 | 11 => 550 | 12 => 606 | 13 => 674 | 14 => 730 | 15 => 786 | 16 => 842 | 17 => 905 | 18 => 961 | 19 => 1017 | 20 => 1030 | 21 => 1098 | 22 => 1154 | 23 => 1210 | 24 => 1278 | 25 => 1334 | 26 => 1347 | 27 => 1360 | 28 => 1373 | 29 => 1441 | 30 => 1497 | 31 => 1565 | 32 => 1621 | 33 => 1634 | 34 => 1718 | 35 => 1743 | 36 => 1768 | 37 => 1805 | 38 => 1818 | 39 => 1831 | 40 => 1856 | 41 => 1893 | 42 => 1918 | 43 => 1955 | 44 => 1968 | 45 => 1981 | _ => 2018)) (td := 2031) (Nat.le_of_ble_eq_true rfl) (by decide) dL_law_40 (fun j hj => match j, hj with | 0, _ => ⟨_, rfl, by decide⟩ | 1, _ => ⟨_, rfl, by decide⟩ | 2, _ => ⟨_, rfl, by decide⟩ | 3, _ => ⟨_, rfl, by decide⟩ | 4, _ => ⟨_, rfl, by decide⟩ | 5, _ => ⟨_, rfl, by decide⟩ | 6, _ => ⟨_, rfl, by decide⟩ | 7, _ => ⟨_, rfl, by decide⟩ | 8, _ => ⟨_, rfl, by decide⟩ | 9, _ => ⟨_, rfl, by decide⟩ | 10, _ => ⟨_, rfl, by decide⟩ | 11, _ => ⟨_, rfl, by decide⟩ | 12, _ => ⟨_, rfl, by decide⟩ | 13, _ => ⟨_, rfl, by decide⟩ | 14, _ => ⟨_, rfl, by decide⟩ | 15, _ => ⟨_, rfl, by decide⟩ | 16, _ => ⟨_, rfl, by decide⟩ | 17, _ => ⟨_, rfl, by decide⟩ | 18, _ => ⟨_, rfl, by decide⟩ | 19, _ => ⟨_, rfl, by decide⟩ | 20, _ => ⟨_, rfl, by decide⟩ | 21, _ => ⟨_, rfl, by decide⟩ | 22, _ => ⟨_, rfl, by decide⟩ | 23, _ => ⟨_, rfl, by decide⟩ | 24, _ => ⟨_, rfl, by decide⟩ | 25, _ => ⟨_, rfl, by decide⟩ | 26, _ => ⟨_, rfl, by decide⟩ | 27, _ => ⟨_, rfl, by decide⟩ | 28, _ => ⟨_, rfl, by decide⟩ | 29, _ => ⟨_, rfl, by decide⟩ | 30, _ => ⟨_, rfl, by decide⟩ | 31, _ => ⟨_, rfl, by decide⟩ | 32, _ => ⟨_, rfl, by decide⟩ | 33, _ => ⟨_, rfl, by decide⟩ | 34, _ => ⟨_, rfl, by decide⟩ | 35, _ => ⟨_, rfl, by decide⟩ | 36, _ => ⟨_, rfl, by decide⟩ | 37, _ => ⟨_, rfl, by decide⟩ | 38, _ => ⟨_, rfl, by decide⟩ | 39, _ => ⟨_, rfl, by decide⟩ | 40, _ => ⟨_, rfl, by decide⟩ | 41, _ => ⟨_, rfl, by decide⟩ | 42, _ => ⟨_, rfl, by decide⟩ | 43, _ => ⟨_, rfl, by decide⟩ | 44, _ => ⟨_, rfl, by decide⟩ | 45, _ => ⟨_, rfl, by decide⟩ | 46, _ => ⟨_, rfl, by decide⟩ | _ + 47, h => absurd h (by omega)) (by decide) (fun j hj => match j, hj with | 0, _ => fo_cut | 1, _ => fo_cut | 2, _ => fo_cut | 3, _ => fo_cut | 4, _ => fo_cut | 5, _ => fo_cut | 6, _ => fo_cut | 7, _ => fo_cut | 8, _ => fo_cut | 9, _ => fo_cut | 10, _ => fo_cut | 11, _ => fo_cut | 12, _ => fo_cut | 13, _ => fo_cut | 14, _ => fo_cut | 15, _ => fo_cut | 16, _ => fo_cut | 17, _ => fo_cut | 18, _ => fo_cut | 19, _ => fo_cut | 20, _ => fo_cut | 21, _ => fo_cut | 22, _ => fo_cut | 23, _ => fo_cut | 24, _ => fo_cut | 25, _ => fo_cut | 26, _ => fo_cut | 27, _ => fo_cut | 28, _ => fo_cut | 29, _ => fo_cut | 30, _ => fo_cut | 31, _ => fo_cut | 32, _ => fo_cut | 33, _ => fo_cut | 34, _ => fo_cut | 35, _ => fo_cut | 36, _ => fo_cut | 37, _ => fo_cut | 38, _ => fo_cut | 39, _ => fo_cut | 40, _ => fo_cut | 41, _ => fo_cut | 42, _ => fo_cut | 43, _ => fo_cut | 44, _ => fo_cut | 45, _ => fo_cut | 46, _ => fo_cut | _ + 47, h => absurd h (by omega)) fo_cut))))))))))))) ls st M h
def T_L_law_244 (g : fs_G) (N d : Nat) (u : Nat × Nat) (Q : Option Value → fs_M → Prop) : fs_P :=
  (fi_aload 1 (fi_aload 0 (fi_iload 4 (fi_const (1) (fi_bin (fun x y => x + y) (fi_scr g (fi_aload 0 (fi_iload 4 (fi_const (2) (fi_bin (fun x y => x + y) (fi_scr g (fi_aload 0 (fi_iload 4 (fi_const (3) (fi_bin (fun x y => x + y) (fi_scr g (fi_aload 0 (fi_iload 4 (fi_const (4) (fi_bin (fun x y => x + y) (fi_scr g (fi_aload 0 (fi_iload 4 (fi_const (5) (fi_bin (fun x y => x + y) (fi_scr g (fi_v5 g 7 m_X8_feed (fi_aload 2 (fi_aload 0 (fi_iload 4 (fi_const (1) (fi_bin (fun x y => x + y) (fi_scr g (fi_aload 0 (fi_iload 4 (fi_const (2) (fi_bin (fun x y => x + y) (fi_scr g (fi_aload 0 (fi_iload 4 (fi_const (3) (fi_bin (fun x y => x + y) (fi_scr g (fi_aload 0 (fi_iload 4 (fi_const (4) (fi_bin (fun x y => x + y) (fi_scr g (fi_aload 0 (fi_iload 4 (fi_const (5) (fi_bin (fun x y => x + y) (fi_scr g (fi_v5 g 8 m_X9_feed (fi_cmp (fun x y => x = y) (fi_cut g (m_L_law N) d u 2031 Q) (fi_const (0) (fi_zret Q)))))))))))))))))))))))))))))))))))))))))))))))))))))))))
theorem S_L_law_244 {g : fs_G} {N d : Nat} {u : Nat × Nat} (hB : u.1 + 1 ≤ 70 + N ∧ u.2 + 6 ≤ 3237 + 6 * N) {Q : Option Value → fs_M → Prop} {ls st : List Value} {M : fs_M} (h : T_L_law_244 g N d u Q ls st M) : fs_R g (m_L_law N) d u 244 ls st M Q :=
  (show fs_E g (m_L_law N) d u Q 244 (T_L_law_244 g N d u Q) from (fo_aload_n dL_law_244 rfl (fo_aload_n dL_law_245 rfl (fo_iload dL_law_246 (fo_iconst (v := (1)) dL_law_248 (by decide) (fo_iadd dL_law_249 (fo_scr dL_law_250 (fo_aload_n dL_law_251 rfl (fo_iload dL_law_252 (fo_iconst (v := (2)) dL_law_254 (by decide) (fo_iadd dL_law_255 (fo_scr dL_law_256 (fo_aload_n dL_law_257 rfl (fo_iload dL_law_258 (fo_iconst (v := (3)) dL_law_260 (by decide) (fo_iadd dL_law_261 (fo_scr dL_law_262 (fo_aload_n dL_law_263 rfl (fo_iload dL_law_264 (fo_iconst (v := (4)) dL_law_266 (by decide) (fo_iadd dL_law_267 (fo_scr dL_law_268 (fo_aload_n dL_law_269 rfl (fo_iload dL_law_270 (fo_iconst (v := (5)) dL_law_272 (by decide) (fo_iadd dL_law_273 (fo_scr dL_law_274 (fo_v5 mv_X8_feed q_448 (Nat.le_of_ble_eq_true rfl) ⟨Nat.le_trans (Nat.le_add_right u.1 1) hB.1, Nat.le_trans (Nat.le_add_right u.2 6) hB.2⟩ rfl dL_law_275 (fo_aload_n dL_law_278 rfl (fo_aload_n dL_law_279 rfl (fo_iload dL_law_280 (fo_iconst (v := (1)) dL_law_282 (by decide) (fo_iadd dL_law_283 (fo_scr dL_law_284 (fo_aload_n dL_law_285 rfl (fo_iload dL_law_286 (fo_iconst (v := (2)) dL_law_288 (by decide) (fo_iadd dL_law_289 (fo_scr dL_law_290 (fo_aload_n dL_law_291 rfl (fo_iload dL_law_292 (fo_iconst (v := (3)) dL_law_294 (by decide) (fo_iadd dL_law_295 (fo_scr dL_law_296 (fo_aload_n dL_law_297 rfl (fo_iload dL_law_298 (fo_iconst (v := (4)) dL_law_300 (by decide) (fo_iadd dL_law_301 (fo_scr dL_law_302 (fo_aload_n dL_law_303 rfl (fo_iload dL_law_304 (fo_iconst (v := (5)) dL_law_306 (by decide) (fo_iadd dL_law_307 (fo_scr dL_law_308 (fo_v5 mv_X9_feed q_1310 (Nat.le_of_ble_eq_true rfl) ⟨Nat.le_trans (Nat.le_add_right u.1 1) hB.1, Nat.le_trans (Nat.le_add_right u.2 6) hB.2⟩ rfl dL_law_309 (fo_icmp_eq (tgt := 2031) dL_law_312 (by decide) fo_cut (fo_iconst (v := (0)) dL_law_315 (by decide) (fo_zret ⟨Nat.le_trans (Nat.le_add_right u.1 1) hB.1, Nat.le_trans (Nat.le_add_right u.2 6) hB.2⟩ rfl dL_law_316)))))))))))))))))))))))))))))))))))))))))))))))))))))))))) ls st M h
def T_L_law_317 (g : fs_G) (N d : Nat) (u : Nat × Nat) (Q : Option Value → fs_M → Prop) : fs_P :=
  (fi_aload 1 (fi_aload 0 (fi_iload 4 (fi_const (1) (fi_bin (fun x y => x + y) (fi_scr g (fi_v1 g 7 m_X8_load (fi_aload 2 (fi_aload 0 (fi_iload 4 (fi_const (1) (fi_bin (fun x y => x + y) (fi_scr g (fi_v1 g 8 m_X9_load (fi_cmp (fun x y => x = y) (fi_cut g (m_L_law N) d u 2031 Q) (fi_const (0) (fi_zret Q)))))))))))))))))
theorem S_L_law_317 {g : fs_G} {N d : Nat} {u : Nat × Nat} (hB : u.1 + 1 ≤ 70 + N ∧ u.2 + 6 ≤ 3237 + 6 * N) {Q : Option Value → fs_M → Prop} {ls st : List Value} {M : fs_M} (h : T_L_law_317 g N d u Q ls st M) : fs_R g (m_L_law N) d u 317 ls st M Q :=
  (show fs_E g (m_L_law N) d u Q 317 (T_L_law_317 g N d u Q) from (fo_aload_n dL_law_317 rfl (fo_aload_n dL_law_318 rfl (fo_iload dL_law_319 (fo_iconst (v := (1)) dL_law_321 (by decide) (fo_iadd dL_law_322 (fo_scr dL_law_323 (fo_v1 mv_X8_load q_456 (Nat.le_of_ble_eq_true rfl) ⟨Nat.le_trans (Nat.le_add_right u.1 1) hB.1, Nat.le_trans (Nat.le_add_right u.2 6) hB.2⟩ rfl dL_law_324 (fo_aload_n dL_law_327 rfl (fo_aload_n dL_law_328 rfl (fo_iload dL_law_329 (fo_iconst (v := (1)) dL_law_331 (by decide) (fo_iadd dL_law_332 (fo_scr dL_law_333 (fo_v1 mv_X9_load q_1314 (Nat.le_of_ble_eq_true rfl) ⟨Nat.le_trans (Nat.le_add_right u.1 1) hB.1, Nat.le_trans (Nat.le_add_right u.2 6) hB.2⟩ rfl dL_law_334 (fo_icmp_eq (tgt := 2031) dL_law_337 (by decide) fo_cut (fo_iconst (v := (0)) dL_law_340 (by decide) (fo_zret ⟨Nat.le_trans (Nat.le_add_right u.1 1) hB.1, Nat.le_trans (Nat.le_add_right u.2 6) hB.2⟩ rfl dL_law_341)))))))))))))))))) ls st M h
def T_L_law_342 (g : fs_G) (N d : Nat) (u : Nat × Nat) (Q : Option Value → fs_M → Prop) : fs_P :=
  (fi_aload 1 (fi_v0 g 7 m_X8_errorPosition (fi_aload 2 (fi_v0 g 8 m_X9_errorPosition (fi_cmp (fun x y => x = y) (fi_cut g (m_L_law N) d u 2031 Q) (fi_const (0) (fi_zret Q)))))))
theorem S_L_law_342 {g : fs_G} {N d : Nat} {u : Nat × Nat} (hB : u.1 + 1 ≤ 70 + N ∧ u.2 + 6 ≤ 3237 + 6 * N) {Q : Option Value → fs_M → Prop} {ls st : List Value} {M : fs_M} (h : T_L_law_342 g N d u Q ls st M) : fs_R g (m_L_law N) d u 342 ls st M Q :=
  (show fs_E g (m_L_law N) d u Q 342 (T_L_law_342 g N d u Q) from (fo_aload_n dL_law_342 rfl (fo_v0 mv_X8_errorPosition q_696 (Nat.le_of_ble_eq_true rfl) ⟨Nat.le_trans (Nat.le_add_right u.1 1) hB.1, Nat.le_trans (Nat.le_add_right u.2 6) hB.2⟩ rfl dL_law_343 (fo_aload_n dL_law_346 rfl (fo_v0 mv_X9_errorPosition q_1437 (Nat.le_of_ble_eq_true rfl) ⟨Nat.le_trans (Nat.le_add_right u.1 1) hB.1, Nat.le_trans (Nat.le_add_right u.2 6) hB.2⟩ rfl dL_law_347 (fo_icmp_eq (tgt := 2031) dL_law_350 (by decide) fo_cut (fo_iconst (v := (0)) dL_law_353 (by decide) (fo_zret ⟨Nat.le_trans (Nat.le_add_right u.1 1) hB.1, Nat.le_trans (Nat.le_add_right u.2 6) hB.2⟩ rfl dL_law_354)))))))) ls st M h
def T_L_law_355 (g : fs_G) (N d : Nat) (u : Nat × Nat) (Q : Option Value → fs_M → Prop) : fs_P :=
  (fi_aload 1 (fi_v0 g 7 m_X8_locationCount (fi_aload 2 (fi_v0 g 8 m_X9_locationCount (fi_cmp (fun x y => x = y) (fi_cut g (m_L_law N) d u 2031 Q) (fi_const (0) (fi_zret Q)))))))
theorem S_L_law_355 {g : fs_G} {N d : Nat} {u : Nat × Nat} (hB : u.1 + 1 ≤ 70 + N ∧ u.2 + 6 ≤ 3237 + 6 * N) {Q : Option Value → fs_M → Prop} {ls st : List Value} {M : fs_M} (h : T_L_law_355 g N d u Q ls st M) : fs_R g (m_L_law N) d u 355 ls st M Q :=
  (show fs_E g (m_L_law N) d u Q 355 (T_L_law_355 g N d u Q) from (fo_aload_n dL_law_355 rfl (fo_v0 mv_X8_locationCount q_700 (Nat.le_of_ble_eq_true rfl) ⟨Nat.le_trans (Nat.le_add_right u.1 1) hB.1, Nat.le_trans (Nat.le_add_right u.2 6) hB.2⟩ rfl dL_law_356 (fo_aload_n dL_law_359 rfl (fo_v0 mv_X9_locationCount q_1441 (Nat.le_of_ble_eq_true rfl) ⟨Nat.le_trans (Nat.le_add_right u.1 1) hB.1, Nat.le_trans (Nat.le_add_right u.2 6) hB.2⟩ rfl dL_law_360 (fo_icmp_eq (tgt := 2031) dL_law_363 (by decide) fo_cut (fo_iconst (v := (0)) dL_law_366 (by decide) (fo_zret ⟨Nat.le_trans (Nat.le_add_right u.1 1) hB.1, Nat.le_trans (Nat.le_add_right u.2 6) hB.2⟩ rfl dL_law_367)))))))) ls st M h
def T_L_law_368 (g : fs_G) (N d : Nat) (u : Nat × Nat) (Q : Option Value → fs_M → Prop) : fs_P :=
  (fi_aload 1 (fi_v0 g 7 m_X8_actorCount (fi_aload 2 (fi_v0 g 8 m_X9_actorCount (fi_cmp (fun x y => x = y) (fi_cut g (m_L_law N) d u 2031 Q) (fi_const (0) (fi_zret Q)))))))
theorem S_L_law_368 {g : fs_G} {N d : Nat} {u : Nat × Nat} (hB : u.1 + 1 ≤ 70 + N ∧ u.2 + 6 ≤ 3237 + 6 * N) {Q : Option Value → fs_M → Prop} {ls st : List Value} {M : fs_M} (h : T_L_law_368 g N d u Q ls st M) : fs_R g (m_L_law N) d u 368 ls st M Q :=
  (show fs_E g (m_L_law N) d u Q 368 (T_L_law_368 g N d u Q) from (fo_aload_n dL_law_368 rfl (fo_v0 mv_X8_actorCount q_704 (Nat.le_of_ble_eq_true rfl) ⟨Nat.le_trans (Nat.le_add_right u.1 1) hB.1, Nat.le_trans (Nat.le_add_right u.2 6) hB.2⟩ rfl dL_law_369 (fo_aload_n dL_law_372 rfl (fo_v0 mv_X9_actorCount q_1445 (Nat.le_of_ble_eq_true rfl) ⟨Nat.le_trans (Nat.le_add_right u.1 1) hB.1, Nat.le_trans (Nat.le_add_right u.2 6) hB.2⟩ rfl dL_law_373 (fo_icmp_eq (tgt := 2031) dL_law_376 (by decide) fo_cut (fo_iconst (v := (0)) dL_law_379 (by decide) (fo_zret ⟨Nat.le_trans (Nat.le_add_right u.1 1) hB.1, Nat.le_trans (Nat.le_add_right u.2 6) hB.2⟩ rfl dL_law_380)))))))) ls st M h
def T_L_law_381 (g : fs_G) (N d : Nat) (u : Nat × Nat) (Q : Option Value → fs_M → Prop) : fs_P :=
  (fi_aload 1 (fi_v0 g 7 m_X8_sceneCount (fi_aload 2 (fi_v0 g 8 m_X9_sceneCount (fi_cmp (fun x y => x = y) (fi_cut g (m_L_law N) d u 2031 Q) (fi_const (0) (fi_zret Q)))))))
theorem S_L_law_381 {g : fs_G} {N d : Nat} {u : Nat × Nat} (hB : u.1 + 1 ≤ 70 + N ∧ u.2 + 6 ≤ 3237 + 6 * N) {Q : Option Value → fs_M → Prop} {ls st : List Value} {M : fs_M} (h : T_L_law_381 g N d u Q ls st M) : fs_R g (m_L_law N) d u 381 ls st M Q :=
  (show fs_E g (m_L_law N) d u Q 381 (T_L_law_381 g N d u Q) from (fo_aload_n dL_law_381 rfl (fo_v0 mv_X8_sceneCount q_708 (Nat.le_of_ble_eq_true rfl) ⟨Nat.le_trans (Nat.le_add_right u.1 1) hB.1, Nat.le_trans (Nat.le_add_right u.2 6) hB.2⟩ rfl dL_law_382 (fo_aload_n dL_law_385 rfl (fo_v0 mv_X9_sceneCount q_1449 (Nat.le_of_ble_eq_true rfl) ⟨Nat.le_trans (Nat.le_add_right u.1 1) hB.1, Nat.le_trans (Nat.le_add_right u.2 6) hB.2⟩ rfl dL_law_386 (fo_icmp_eq (tgt := 2031) dL_law_389 (by decide) fo_cut (fo_iconst (v := (0)) dL_law_392 (by decide) (fo_zret ⟨Nat.le_trans (Nat.le_add_right u.1 1) hB.1, Nat.le_trans (Nat.le_add_right u.2 6) hB.2⟩ rfl dL_law_393)))))))) ls st M h
def T_L_law_394 (g : fs_G) (N d : Nat) (u : Nat × Nat) (Q : Option Value → fs_M → Prop) : fs_P :=
  (fi_aload 1 (fi_v0 g 7 m_X8_undoCount (fi_aload 2 (fi_v0 g 8 m_X9_undoCount (fi_cmp (fun x y => x = y) (fi_cut g (m_L_law N) d u 2031 Q) (fi_const (0) (fi_zret Q)))))))
theorem S_L_law_394 {g : fs_G} {N d : Nat} {u : Nat × Nat} (hB : u.1 + 1 ≤ 70 + N ∧ u.2 + 6 ≤ 3237 + 6 * N) {Q : Option Value → fs_M → Prop} {ls st : List Value} {M : fs_M} (h : T_L_law_394 g N d u Q ls st M) : fs_R g (m_L_law N) d u 394 ls st M Q :=
  (show fs_E g (m_L_law N) d u Q 394 (T_L_law_394 g N d u Q) from (fo_aload_n dL_law_394 rfl (fo_v0 mv_X8_undoCount q_712 (Nat.le_of_ble_eq_true rfl) ⟨Nat.le_trans (Nat.le_add_right u.1 1) hB.1, Nat.le_trans (Nat.le_add_right u.2 6) hB.2⟩ rfl dL_law_395 (fo_aload_n dL_law_398 rfl (fo_v0 mv_X9_undoCount q_1453 (Nat.le_of_ble_eq_true rfl) ⟨Nat.le_trans (Nat.le_add_right u.1 1) hB.1, Nat.le_trans (Nat.le_add_right u.2 6) hB.2⟩ rfl dL_law_399 (fo_icmp_eq (tgt := 2031) dL_law_402 (by decide) fo_cut (fo_iconst (v := (0)) dL_law_405 (by decide) (fo_zret ⟨Nat.le_trans (Nat.le_add_right u.1 1) hB.1, Nat.le_trans (Nat.le_add_right u.2 6) hB.2⟩ rfl dL_law_406)))))))) ls st M h
def T_L_law_407 (g : fs_G) (N d : Nat) (u : Nat × Nat) (Q : Option Value → fs_M → Prop) : fs_P :=
  (fi_aload 1 (fi_aload 0 (fi_iload 4 (fi_const (1) (fi_bin (fun x y => x + y) (fi_scr g (fi_v1 g 7 m_X8_locationNamed (fi_aload 2 (fi_aload 0 (fi_iload 4 (fi_const (1) (fi_bin (fun x y => x + y) (fi_scr g (fi_v1 g 8 m_X9_locationNamed (fi_cmp (fun x y => x = y) (fi_cut g (m_L_law N) d u 2031 Q) (fi_const (0) (fi_zret Q)))))))))))))))))
theorem S_L_law_407 {g : fs_G} {N d : Nat} {u : Nat × Nat} (hB : u.1 + 1 ≤ 70 + N ∧ u.2 + 6 ≤ 3237 + 6 * N) {Q : Option Value → fs_M → Prop} {ls st : List Value} {M : fs_M} (h : T_L_law_407 g N d u Q ls st M) : fs_R g (m_L_law N) d u 407 ls st M Q :=
  (show fs_E g (m_L_law N) d u Q 407 (T_L_law_407 g N d u Q) from (fo_aload_n dL_law_407 rfl (fo_aload_n dL_law_408 rfl (fo_iload dL_law_409 (fo_iconst (v := (1)) dL_law_411 (by decide) (fo_iadd dL_law_412 (fo_scr dL_law_413 (fo_v1 mv_X8_locationNamed q_716 (Nat.le_of_ble_eq_true rfl) ⟨Nat.le_trans (Nat.le_add_right u.1 1) hB.1, Nat.le_trans (Nat.le_add_right u.2 6) hB.2⟩ rfl dL_law_414 (fo_aload_n dL_law_417 rfl (fo_aload_n dL_law_418 rfl (fo_iload dL_law_419 (fo_iconst (v := (1)) dL_law_421 (by decide) (fo_iadd dL_law_422 (fo_scr dL_law_423 (fo_v1 mv_X9_locationNamed q_1457 (Nat.le_of_ble_eq_true rfl) ⟨Nat.le_trans (Nat.le_add_right u.1 1) hB.1, Nat.le_trans (Nat.le_add_right u.2 6) hB.2⟩ rfl dL_law_424 (fo_icmp_eq (tgt := 2031) dL_law_427 (by decide) fo_cut (fo_iconst (v := (0)) dL_law_430 (by decide) (fo_zret ⟨Nat.le_trans (Nat.le_add_right u.1 1) hB.1, Nat.le_trans (Nat.le_add_right u.2 6) hB.2⟩ rfl dL_law_431)))))))))))))))))) ls st M h
def T_L_law_432 (g : fs_G) (N d : Nat) (u : Nat × Nat) (Q : Option Value → fs_M → Prop) : fs_P :=
  (fi_aload 1 (fi_aload 0 (fi_iload 4 (fi_const (1) (fi_bin (fun x y => x + y) (fi_scr g (fi_v1 g 7 m_X8_actorNamed (fi_aload 2 (fi_aload 0 (fi_iload 4 (fi_const (1) (fi_bin (fun x y => x + y) (fi_scr g (fi_v1 g 8 m_X9_actorNamed (fi_cmp (fun x y => x = y) (fi_cut g (m_L_law N) d u 2031 Q) (fi_const (0) (fi_zret Q)))))))))))))))))
theorem S_L_law_432 {g : fs_G} {N d : Nat} {u : Nat × Nat} (hB : u.1 + 1 ≤ 70 + N ∧ u.2 + 6 ≤ 3237 + 6 * N) {Q : Option Value → fs_M → Prop} {ls st : List Value} {M : fs_M} (h : T_L_law_432 g N d u Q ls st M) : fs_R g (m_L_law N) d u 432 ls st M Q :=
  (show fs_E g (m_L_law N) d u Q 432 (T_L_law_432 g N d u Q) from (fo_aload_n dL_law_432 rfl (fo_aload_n dL_law_433 rfl (fo_iload dL_law_434 (fo_iconst (v := (1)) dL_law_436 (by decide) (fo_iadd dL_law_437 (fo_scr dL_law_438 (fo_v1 mv_X8_actorNamed q_721 (Nat.le_of_ble_eq_true rfl) ⟨Nat.le_trans (Nat.le_add_right u.1 1) hB.1, Nat.le_trans (Nat.le_add_right u.2 6) hB.2⟩ rfl dL_law_439 (fo_aload_n dL_law_442 rfl (fo_aload_n dL_law_443 rfl (fo_iload dL_law_444 (fo_iconst (v := (1)) dL_law_446 (by decide) (fo_iadd dL_law_447 (fo_scr dL_law_448 (fo_v1 mv_X9_actorNamed q_1461 (Nat.le_of_ble_eq_true rfl) ⟨Nat.le_trans (Nat.le_add_right u.1 1) hB.1, Nat.le_trans (Nat.le_add_right u.2 6) hB.2⟩ rfl dL_law_449 (fo_icmp_eq (tgt := 2031) dL_law_452 (by decide) fo_cut (fo_iconst (v := (0)) dL_law_455 (by decide) (fo_zret ⟨Nat.le_trans (Nat.le_add_right u.1 1) hB.1, Nat.le_trans (Nat.le_add_right u.2 6) hB.2⟩ rfl dL_law_456)))))))))))))))))) ls st M h
def T_L_law_457 (g : fs_G) (N d : Nat) (u : Nat × Nat) (Q : Option Value → fs_M → Prop) : fs_P :=
  (fi_aload 1 (fi_aload 0 (fi_iload 4 (fi_const (1) (fi_bin (fun x y => x + y) (fi_scr g (fi_v1 g 7 m_X8_getSetting (fi_aload 2 (fi_aload 0 (fi_iload 4 (fi_const (1) (fi_bin (fun x y => x + y) (fi_scr g (fi_v1 g 8 m_X9_getSetting (fi_cmp (fun x y => x = y) (fi_cut g (m_L_law N) d u 2031 Q) (fi_const (0) (fi_zret Q)))))))))))))))))
theorem S_L_law_457 {g : fs_G} {N d : Nat} {u : Nat × Nat} (hB : u.1 + 1 ≤ 70 + N ∧ u.2 + 6 ≤ 3237 + 6 * N) {Q : Option Value → fs_M → Prop} {ls st : List Value} {M : fs_M} (h : T_L_law_457 g N d u Q ls st M) : fs_R g (m_L_law N) d u 457 ls st M Q :=
  (show fs_E g (m_L_law N) d u Q 457 (T_L_law_457 g N d u Q) from (fo_aload_n dL_law_457 rfl (fo_aload_n dL_law_458 rfl (fo_iload dL_law_459 (fo_iconst (v := (1)) dL_law_461 (by decide) (fo_iadd dL_law_462 (fo_scr dL_law_463 (fo_v1 mv_X8_getSetting q_726 (Nat.le_of_ble_eq_true rfl) ⟨Nat.le_trans (Nat.le_add_right u.1 1) hB.1, Nat.le_trans (Nat.le_add_right u.2 6) hB.2⟩ rfl dL_law_464 (fo_aload_n dL_law_467 rfl (fo_aload_n dL_law_468 rfl (fo_iload dL_law_469 (fo_iconst (v := (1)) dL_law_471 (by decide) (fo_iadd dL_law_472 (fo_scr dL_law_473 (fo_v1 mv_X9_getSetting q_1465 (Nat.le_of_ble_eq_true rfl) ⟨Nat.le_trans (Nat.le_add_right u.1 1) hB.1, Nat.le_trans (Nat.le_add_right u.2 6) hB.2⟩ rfl dL_law_474 (fo_icmp_eq (tgt := 2031) dL_law_477 (by decide) fo_cut (fo_iconst (v := (0)) dL_law_480 (by decide) (fo_zret ⟨Nat.le_trans (Nat.le_add_right u.1 1) hB.1, Nat.le_trans (Nat.le_add_right u.2 6) hB.2⟩ rfl dL_law_481)))))))))))))))))) ls st M h
def T_L_law_482 (g : fs_G) (N d : Nat) (u : Nat × Nat) (Q : Option Value → fs_M → Prop) : fs_P :=
  (fi_aload 1 (fi_aload 0 (fi_iload 4 (fi_const (1) (fi_bin (fun x y => x + y) (fi_scr g (fi_aload 0 (fi_iload 4 (fi_const (2) (fi_bin (fun x y => x + y) (fi_scr g (fi_aload 3 (fi_h4 g m_L_locationProperty hh_L_locationProperty (fi_istore 5 (fi_aload 2 (fi_aload 0 (fi_iload 4 (fi_const (1) (fi_bin (fun x y => x + y) (fi_scr g (fi_aload 0 (fi_iload 4 (fi_const (2) (fi_bin (fun x y => x + y) (fi_scr g (fi_v2 g 8 m_X9_locationProperty (fi_istore 6 (fi_aload 2 (fi_v0 g 8 m_X9_thrown (fi_iload 5 (fi_cmp (fun x y => x = y) (fi_iload 5 (fi_if (fun x => x = 0) (fi_aload 3 (fi_const (0) (fi_lald (fi_iload 6 (fi_i2l (fi_lcmp (fi_if (fun x => x = 0) (fi_cut g (m_L_law N) d (u.1 + 1, u.2 + 6) 2031 Q) (fi_const (0) (fi_zret Q))))))))) (fi_cut g (m_L_law N) d (u.1 + 1, u.2 + 6) 2031 Q))) (fi_const (0) (fi_zret Q)))))))))))))))))))))))))))))))))
theorem S_L_law_482 {g : fs_G} {N d : Nat} {u : Nat × Nat} (hB : u.1 + 1 ≤ 70 + N ∧ u.2 + 6 ≤ 3237 + 6 * N) {Q : Option Value → fs_M → Prop} {ls st : List Value} {M : fs_M} (h : T_L_law_482 g N d u Q ls st M) : fs_R g (m_L_law N) d u 482 ls st M Q :=
  (show fs_E g (m_L_law N) d u Q 482 (T_L_law_482 g N d u Q) from (fo_aload_n dL_law_482 rfl (fo_aload_n dL_law_483 rfl (fo_iload dL_law_484 (fo_iconst (v := (1)) dL_law_486 (by decide) (fo_iadd dL_law_487 (fo_scr dL_law_488 (fo_aload_n dL_law_489 rfl (fo_iload dL_law_490 (fo_iconst (v := (2)) dL_law_492 (by decide) (fo_iadd dL_law_493 (fo_scr dL_law_494 (fo_aload_n dL_law_495 rfl (fo_h4 mh_L_locationProperty q_983 (Nat.le_of_ble_eq_true rfl) ⟨hB.1, hB.2⟩ rfl dL_law_496 (fo_istore dL_law_499 (Nat.le_of_ble_eq_true rfl) (fo_aload_n dL_law_501 rfl (fo_aload_n dL_law_502 rfl (fo_iload dL_law_503 (fo_iconst (v := (1)) dL_law_505 (by decide) (fo_iadd dL_law_506 (fo_scr dL_law_507 (fo_aload_n dL_law_508 rfl (fo_iload dL_law_509 (fo_iconst (v := (2)) dL_law_511 (by decide) (fo_iadd dL_law_512 (fo_scr dL_law_513 (fo_v2 mv_X9_locationProperty q_1472 (Nat.le_of_ble_eq_true rfl) ⟨hB.1, hB.2⟩ rfl dL_law_514 (fo_istore dL_law_517 (Nat.le_of_ble_eq_true rfl) (fo_aload_n dL_law_519 rfl (fo_v0 mv_X9_thrown q_1306 (Nat.le_of_ble_eq_true rfl) ⟨hB.1, hB.2⟩ rfl dL_law_520 (fo_iload dL_law_523 (fo_icmp_eq (tgt := 530) dL_law_525 (by decide) (fo_iload dL_law_530 (fo_if_ne (tgt := 547) dL_law_532 (by decide) (fo_goto (tgt := 2031) dL_law_547 (by decide) fo_cut) (fo_aload_n dL_law_535 rfl (fo_iconst (v := (0)) dL_law_536 (by decide) (fo_lald dL_law_537 (fo_iload dL_law_538 (fo_i2l dL_law_540 (fo_lcmp dL_law_541 (fo_if_eq (tgt := 547) dL_law_542 (by decide) (fo_goto (tgt := 2031) dL_law_547 (by decide) fo_cut) (fo_iconst (v := (0)) dL_law_545 (by decide) (fo_zret ⟨hB.1, hB.2⟩ rfl dL_law_546))))))))))) (fo_iconst (v := (0)) dL_law_528 (by decide) (fo_zret ⟨hB.1, hB.2⟩ rfl dL_law_529)))))))))))))))))))))))))))))))))) ls st M h
def T_L_law_550 (g : fs_G) (N d : Nat) (u : Nat × Nat) (Q : Option Value → fs_M → Prop) : fs_P :=
  (fi_aload 1 (fi_aload 0 (fi_iload 4 (fi_const (1) (fi_bin (fun x y => x + y) (fi_scr g (fi_aload 3 (fi_h3 g m_L_feeOf hh_L_feeOf (fi_istore 5 (fi_aload 2 (fi_aload 0 (fi_iload 4 (fi_const (1) (fi_bin (fun x y => x + y) (fi_scr g (fi_v1 g 8 m_X9_feeOf (fi_istore 6 (fi_aload 2 (fi_v0 g 8 m_X9_thrown (fi_iload 5 (fi_cmp (fun x y => x = y) (fi_iload 5 (fi_if (fun x => x = 0) (fi_aload 3 (fi_const (0) (fi_lald (fi_iload 6 (fi_i2l (fi_lcmp (fi_if (fun x => x = 0) (fi_cut g (m_L_law N) d (u.1 + 1, u.2 + 6) 2031 Q) (fi_const (0) (fi_zret Q))))))))) (fi_cut g (m_L_law N) d (u.1 + 1, u.2 + 6) 2031 Q))) (fi_const (0) (fi_zret Q)))))))))))))))))))))))
theorem S_L_law_550 {g : fs_G} {N d : Nat} {u : Nat × Nat} (hB : u.1 + 1 ≤ 70 + N ∧ u.2 + 6 ≤ 3237 + 6 * N) {Q : Option Value → fs_M → Prop} {ls st : List Value} {M : fs_M} (h : T_L_law_550 g N d u Q ls st M) : fs_R g (m_L_law N) d u 550 ls st M Q :=
  (show fs_E g (m_L_law N) d u Q 550 (T_L_law_550 g N d u Q) from (fo_aload_n dL_law_550 rfl (fo_aload_n dL_law_551 rfl (fo_iload dL_law_552 (fo_iconst (v := (1)) dL_law_554 (by decide) (fo_iadd dL_law_555 (fo_scr dL_law_556 (fo_aload_n dL_law_557 rfl (fo_h3 mh_L_feeOf q_1059 (Nat.le_of_ble_eq_true rfl) ⟨hB.1, hB.2⟩ rfl dL_law_558 (fo_istore dL_law_561 (Nat.le_of_ble_eq_true rfl) (fo_aload_n dL_law_563 rfl (fo_aload_n dL_law_564 rfl (fo_iload dL_law_565 (fo_iconst (v := (1)) dL_law_567 (by decide) (fo_iadd dL_law_568 (fo_scr dL_law_569 (fo_v1 mv_X9_feeOf q_1480 (Nat.le_of_ble_eq_true rfl) ⟨hB.1, hB.2⟩ rfl dL_law_570 (fo_istore dL_law_573 (Nat.le_of_ble_eq_true rfl) (fo_aload_n dL_law_575 rfl (fo_v0 mv_X9_thrown q_1306 (Nat.le_of_ble_eq_true rfl) ⟨hB.1, hB.2⟩ rfl dL_law_576 (fo_iload dL_law_579 (fo_icmp_eq (tgt := 586) dL_law_581 (by decide) (fo_iload dL_law_586 (fo_if_ne (tgt := 603) dL_law_588 (by decide) (fo_goto (tgt := 2031) dL_law_603 (by decide) fo_cut) (fo_aload_n dL_law_591 rfl (fo_iconst (v := (0)) dL_law_592 (by decide) (fo_lald dL_law_593 (fo_iload dL_law_594 (fo_i2l dL_law_596 (fo_lcmp dL_law_597 (fo_if_eq (tgt := 603) dL_law_598 (by decide) (fo_goto (tgt := 2031) dL_law_603 (by decide) fo_cut) (fo_iconst (v := (0)) dL_law_601 (by decide) (fo_zret ⟨hB.1, hB.2⟩ rfl dL_law_602))))))))))) (fo_iconst (v := (0)) dL_law_584 (by decide) (fo_zret ⟨hB.1, hB.2⟩ rfl dL_law_585)))))))))))))))))))))))) ls st M h
def T_L_law_606 (g : fs_G) (N d : Nat) (u : Nat × Nat) (Q : Option Value → fs_M → Prop) : fs_P :=
  (fi_aload 1 (fi_aload 0 (fi_iload 4 (fi_const (1) (fi_bin (fun x y => x + y) (fi_scr g (fi_aload 0 (fi_iload 4 (fi_const (2) (fi_bin (fun x y => x + y) (fi_scr g (fi_aload 3 (fi_h4 g m_L_sceneProperty hh_L_sceneProperty (fi_istore 5 (fi_aload 2 (fi_aload 0 (fi_iload 4 (fi_const (1) (fi_bin (fun x y => x + y) (fi_scr g (fi_aload 0 (fi_iload 4 (fi_const (2) (fi_bin (fun x y => x + y) (fi_scr g (fi_v2 g 8 m_X9_sceneProperty (fi_istore 6 (fi_aload 2 (fi_v0 g 8 m_X9_thrown (fi_iload 5 (fi_cmp (fun x y => x = y) (fi_iload 5 (fi_if (fun x => x = 0) (fi_aload 3 (fi_const (0) (fi_lald (fi_iload 6 (fi_i2l (fi_lcmp (fi_if (fun x => x = 0) (fi_cut g (m_L_law N) d (u.1 + 1, u.2 + 6) 2031 Q) (fi_const (0) (fi_zret Q))))))))) (fi_cut g (m_L_law N) d (u.1 + 1, u.2 + 6) 2031 Q))) (fi_const (0) (fi_zret Q)))))))))))))))))))))))))))))))))
theorem S_L_law_606 {g : fs_G} {N d : Nat} {u : Nat × Nat} (hB : u.1 + 1 ≤ 70 + N ∧ u.2 + 6 ≤ 3237 + 6 * N) {Q : Option Value → fs_M → Prop} {ls st : List Value} {M : fs_M} (h : T_L_law_606 g N d u Q ls st M) : fs_R g (m_L_law N) d u 606 ls st M Q :=
  (show fs_E g (m_L_law N) d u Q 606 (T_L_law_606 g N d u Q) from (fo_aload_n dL_law_606 rfl (fo_aload_n dL_law_607 rfl (fo_iload dL_law_608 (fo_iconst (v := (1)) dL_law_610 (by decide) (fo_iadd dL_law_611 (fo_scr dL_law_612 (fo_aload_n dL_law_613 rfl (fo_iload dL_law_614 (fo_iconst (v := (2)) dL_law_616 (by decide) (fo_iadd dL_law_617 (fo_scr dL_law_618 (fo_aload_n dL_law_619 rfl (fo_h4 mh_L_sceneProperty q_1066 (Nat.le_of_ble_eq_true rfl) ⟨hB.1, hB.2⟩ rfl dL_law_620 (fo_istore dL_law_623 (Nat.le_of_ble_eq_true rfl) (fo_aload_n dL_law_625 rfl (fo_aload_n dL_law_626 rfl (fo_iload dL_law_627 (fo_iconst (v := (1)) dL_law_629 (by decide) (fo_iadd dL_law_630 (fo_scr dL_law_631 (fo_aload_n dL_law_632 rfl (fo_iload dL_law_633 (fo_iconst (v := (2)) dL_law_635 (by decide) (fo_iadd dL_law_636 (fo_scr dL_law_637 (fo_v2 mv_X9_sceneProperty q_1488 (Nat.le_of_ble_eq_true rfl) ⟨hB.1, hB.2⟩ rfl dL_law_638 (fo_istore dL_law_641 (Nat.le_of_ble_eq_true rfl) (fo_aload_n dL_law_643 rfl (fo_v0 mv_X9_thrown q_1306 (Nat.le_of_ble_eq_true rfl) ⟨hB.1, hB.2⟩ rfl dL_law_644 (fo_iload dL_law_647 (fo_icmp_eq (tgt := 654) dL_law_649 (by decide) (fo_iload dL_law_654 (fo_if_ne (tgt := 671) dL_law_656 (by decide) (fo_goto (tgt := 2031) dL_law_671 (by decide) fo_cut) (fo_aload_n dL_law_659 rfl (fo_iconst (v := (0)) dL_law_660 (by decide) (fo_lald dL_law_661 (fo_iload dL_law_662 (fo_i2l dL_law_664 (fo_lcmp dL_law_665 (fo_if_eq (tgt := 671) dL_law_666 (by decide) (fo_goto (tgt := 2031) dL_law_671 (by decide) fo_cut) (fo_iconst (v := (0)) dL_law_669 (by decide) (fo_zret ⟨hB.1, hB.2⟩ rfl dL_law_670))))))))))) (fo_iconst (v := (0)) dL_law_652 (by decide) (fo_zret ⟨hB.1, hB.2⟩ rfl dL_law_653)))))))))))))))))))))))))))))))))) ls st M h
def T_L_law_674 (g : fs_G) (N d : Nat) (u : Nat × Nat) (Q : Option Value → fs_M → Prop) : fs_P :=
  (fi_aload 1 (fi_aload 0 (fi_iload 4 (fi_const (1) (fi_bin (fun x y => x + y) (fi_scr g (fi_aload 3 (fi_h3 g m_L_dayOf hh_L_dayOf (fi_istore 5 (fi_aload 2 (fi_aload 0 (fi_iload 4 (fi_const (1) (fi_bin (fun x y => x + y) (fi_scr g (fi_v1 g 8 m_X9_dayOf (fi_istore 6 (fi_aload 2 (fi_v0 g 8 m_X9_thrown (fi_iload 5 (fi_cmp (fun x y => x = y) (fi_iload 5 (fi_if (fun x => x = 0) (fi_aload 3 (fi_const (0) (fi_lald (fi_iload 6 (fi_i2l (fi_lcmp (fi_if (fun x => x = 0) (fi_cut g (m_L_law N) d (u.1 + 1, u.2 + 6) 2031 Q) (fi_const (0) (fi_zret Q))))))))) (fi_cut g (m_L_law N) d (u.1 + 1, u.2 + 6) 2031 Q))) (fi_const (0) (fi_zret Q)))))))))))))))))))))))
theorem S_L_law_674 {g : fs_G} {N d : Nat} {u : Nat × Nat} (hB : u.1 + 1 ≤ 70 + N ∧ u.2 + 6 ≤ 3237 + 6 * N) {Q : Option Value → fs_M → Prop} {ls st : List Value} {M : fs_M} (h : T_L_law_674 g N d u Q ls st M) : fs_R g (m_L_law N) d u 674 ls st M Q :=
  (show fs_E g (m_L_law N) d u Q 674 (T_L_law_674 g N d u Q) from (fo_aload_n dL_law_674 rfl (fo_aload_n dL_law_675 rfl (fo_iload dL_law_676 (fo_iconst (v := (1)) dL_law_678 (by decide) (fo_iadd dL_law_679 (fo_scr dL_law_680 (fo_aload_n dL_law_681 rfl (fo_h3 mh_L_dayOf q_1073 (Nat.le_of_ble_eq_true rfl) ⟨hB.1, hB.2⟩ rfl dL_law_682 (fo_istore dL_law_685 (Nat.le_of_ble_eq_true rfl) (fo_aload_n dL_law_687 rfl (fo_aload_n dL_law_688 rfl (fo_iload dL_law_689 (fo_iconst (v := (1)) dL_law_691 (by decide) (fo_iadd dL_law_692 (fo_scr dL_law_693 (fo_v1 mv_X9_dayOf q_1496 (Nat.le_of_ble_eq_true rfl) ⟨hB.1, hB.2⟩ rfl dL_law_694 (fo_istore dL_law_697 (Nat.le_of_ble_eq_true rfl) (fo_aload_n dL_law_699 rfl (fo_v0 mv_X9_thrown q_1306 (Nat.le_of_ble_eq_true rfl) ⟨hB.1, hB.2⟩ rfl dL_law_700 (fo_iload dL_law_703 (fo_icmp_eq (tgt := 710) dL_law_705 (by decide) (fo_iload dL_law_710 (fo_if_ne (tgt := 727) dL_law_712 (by decide) (fo_goto (tgt := 2031) dL_law_727 (by decide) fo_cut) (fo_aload_n dL_law_715 rfl (fo_iconst (v := (0)) dL_law_716 (by decide) (fo_lald dL_law_717 (fo_iload dL_law_718 (fo_i2l dL_law_720 (fo_lcmp dL_law_721 (fo_if_eq (tgt := 727) dL_law_722 (by decide) (fo_goto (tgt := 2031) dL_law_727 (by decide) fo_cut) (fo_iconst (v := (0)) dL_law_725 (by decide) (fo_zret ⟨hB.1, hB.2⟩ rfl dL_law_726))))))))))) (fo_iconst (v := (0)) dL_law_708 (by decide) (fo_zret ⟨hB.1, hB.2⟩ rfl dL_law_709)))))))))))))))))))))))) ls st M h
def T_L_law_730 (g : fs_G) (N d : Nat) (u : Nat × Nat) (Q : Option Value → fs_M → Prop) : fs_P :=
  (fi_aload 1 (fi_aload 0 (fi_iload 4 (fi_const (1) (fi_bin (fun x y => x + y) (fi_scr g (fi_aload 3 (fi_h3 g m_L_scenesOn hh_L_scenesOn (fi_istore 5 (fi_aload 2 (fi_aload 0 (fi_iload 4 (fi_const (1) (fi_bin (fun x y => x + y) (fi_scr g (fi_v1 g 8 m_X9_scenesOn (fi_istore 6 (fi_aload 2 (fi_v0 g 8 m_X9_thrown (fi_iload 5 (fi_cmp (fun x y => x = y) (fi_iload 5 (fi_if (fun x => x = 0) (fi_aload 3 (fi_const (0) (fi_lald (fi_iload 6 (fi_i2l (fi_lcmp (fi_if (fun x => x = 0) (fi_cut g (m_L_law N) d (u.1 + 1, u.2 + 6) 2031 Q) (fi_const (0) (fi_zret Q))))))))) (fi_cut g (m_L_law N) d (u.1 + 1, u.2 + 6) 2031 Q))) (fi_const (0) (fi_zret Q)))))))))))))))))))))))
theorem S_L_law_730 {g : fs_G} {N d : Nat} {u : Nat × Nat} (hB : u.1 + 1 ≤ 70 + N ∧ u.2 + 6 ≤ 3237 + 6 * N) {Q : Option Value → fs_M → Prop} {ls st : List Value} {M : fs_M} (h : T_L_law_730 g N d u Q ls st M) : fs_R g (m_L_law N) d u 730 ls st M Q :=
  (show fs_E g (m_L_law N) d u Q 730 (T_L_law_730 g N d u Q) from (fo_aload_n dL_law_730 rfl (fo_aload_n dL_law_731 rfl (fo_iload dL_law_732 (fo_iconst (v := (1)) dL_law_734 (by decide) (fo_iadd dL_law_735 (fo_scr dL_law_736 (fo_aload_n dL_law_737 rfl (fo_h3 mh_L_scenesOn q_1080 (Nat.le_of_ble_eq_true rfl) ⟨hB.1, hB.2⟩ rfl dL_law_738 (fo_istore dL_law_741 (Nat.le_of_ble_eq_true rfl) (fo_aload_n dL_law_743 rfl (fo_aload_n dL_law_744 rfl (fo_iload dL_law_745 (fo_iconst (v := (1)) dL_law_747 (by decide) (fo_iadd dL_law_748 (fo_scr dL_law_749 (fo_v1 mv_X9_scenesOn q_1500 (Nat.le_of_ble_eq_true rfl) ⟨hB.1, hB.2⟩ rfl dL_law_750 (fo_istore dL_law_753 (Nat.le_of_ble_eq_true rfl) (fo_aload_n dL_law_755 rfl (fo_v0 mv_X9_thrown q_1306 (Nat.le_of_ble_eq_true rfl) ⟨hB.1, hB.2⟩ rfl dL_law_756 (fo_iload dL_law_759 (fo_icmp_eq (tgt := 766) dL_law_761 (by decide) (fo_iload dL_law_766 (fo_if_ne (tgt := 783) dL_law_768 (by decide) (fo_goto (tgt := 2031) dL_law_783 (by decide) fo_cut) (fo_aload_n dL_law_771 rfl (fo_iconst (v := (0)) dL_law_772 (by decide) (fo_lald dL_law_773 (fo_iload dL_law_774 (fo_i2l dL_law_776 (fo_lcmp dL_law_777 (fo_if_eq (tgt := 783) dL_law_778 (by decide) (fo_goto (tgt := 2031) dL_law_783 (by decide) fo_cut) (fo_iconst (v := (0)) dL_law_781 (by decide) (fo_zret ⟨hB.1, hB.2⟩ rfl dL_law_782))))))))))) (fo_iconst (v := (0)) dL_law_764 (by decide) (fo_zret ⟨hB.1, hB.2⟩ rfl dL_law_765)))))))))))))))))))))))) ls st M h
def T_L_law_786 (g : fs_G) (N d : Nat) (u : Nat × Nat) (Q : Option Value → fs_M → Prop) : fs_P :=
  (fi_aload 1 (fi_aload 0 (fi_iload 4 (fi_const (1) (fi_bin (fun x y => x + y) (fi_scr g (fi_aload 3 (fi_h3 g m_L_locationOn hh_L_locationOn (fi_istore 5 (fi_aload 2 (fi_aload 0 (fi_iload 4 (fi_const (1) (fi_bin (fun x y => x + y) (fi_scr g (fi_v1 g 8 m_X9_locationOn (fi_istore 6 (fi_aload 2 (fi_v0 g 8 m_X9_thrown (fi_iload 5 (fi_cmp (fun x y => x = y) (fi_iload 5 (fi_if (fun x => x = 0) (fi_aload 3 (fi_const (0) (fi_lald (fi_iload 6 (fi_i2l (fi_lcmp (fi_if (fun x => x = 0) (fi_cut g (m_L_law N) d (u.1 + 1, u.2 + 6) 2031 Q) (fi_const (0) (fi_zret Q))))))))) (fi_cut g (m_L_law N) d (u.1 + 1, u.2 + 6) 2031 Q))) (fi_const (0) (fi_zret Q)))))))))))))))))))))))
theorem S_L_law_786 {g : fs_G} {N d : Nat} {u : Nat × Nat} (hB : u.1 + 1 ≤ 70 + N ∧ u.2 + 6 ≤ 3237 + 6 * N) {Q : Option Value → fs_M → Prop} {ls st : List Value} {M : fs_M} (h : T_L_law_786 g N d u Q ls st M) : fs_R g (m_L_law N) d u 786 ls st M Q :=
  (show fs_E g (m_L_law N) d u Q 786 (T_L_law_786 g N d u Q) from (fo_aload_n dL_law_786 rfl (fo_aload_n dL_law_787 rfl (fo_iload dL_law_788 (fo_iconst (v := (1)) dL_law_790 (by decide) (fo_iadd dL_law_791 (fo_scr dL_law_792 (fo_aload_n dL_law_793 rfl (fo_h3 mh_L_locationOn q_1087 (Nat.le_of_ble_eq_true rfl) ⟨hB.1, hB.2⟩ rfl dL_law_794 (fo_istore dL_law_797 (Nat.le_of_ble_eq_true rfl) (fo_aload_n dL_law_799 rfl (fo_aload_n dL_law_800 rfl (fo_iload dL_law_801 (fo_iconst (v := (1)) dL_law_803 (by decide) (fo_iadd dL_law_804 (fo_scr dL_law_805 (fo_v1 mv_X9_locationOn q_1511 (Nat.le_of_ble_eq_true rfl) ⟨hB.1, hB.2⟩ rfl dL_law_806 (fo_istore dL_law_809 (Nat.le_of_ble_eq_true rfl) (fo_aload_n dL_law_811 rfl (fo_v0 mv_X9_thrown q_1306 (Nat.le_of_ble_eq_true rfl) ⟨hB.1, hB.2⟩ rfl dL_law_812 (fo_iload dL_law_815 (fo_icmp_eq (tgt := 822) dL_law_817 (by decide) (fo_iload dL_law_822 (fo_if_ne (tgt := 839) dL_law_824 (by decide) (fo_goto (tgt := 2031) dL_law_839 (by decide) fo_cut) (fo_aload_n dL_law_827 rfl (fo_iconst (v := (0)) dL_law_828 (by decide) (fo_lald dL_law_829 (fo_iload dL_law_830 (fo_i2l dL_law_832 (fo_lcmp dL_law_833 (fo_if_eq (tgt := 839) dL_law_834 (by decide) (fo_goto (tgt := 2031) dL_law_839 (by decide) fo_cut) (fo_iconst (v := (0)) dL_law_837 (by decide) (fo_zret ⟨hB.1, hB.2⟩ rfl dL_law_838))))))))))) (fo_iconst (v := (0)) dL_law_820 (by decide) (fo_zret ⟨hB.1, hB.2⟩ rfl dL_law_821)))))))))))))))))))))))) ls st M h
def T_L_law_842 (g : fs_G) (N d : Nat) (u : Nat × Nat) (Q : Option Value → fs_M → Prop) : fs_P :=
  (fi_aload 1 (fi_aload 0 (fi_iload 4 (fi_const (1) (fi_bin (fun x y => x + y) (fi_scr g (fi_aload 3 (fi_h3 g m_L_isNight hh_L_isNight (fi_istore 5 (fi_aload 2 (fi_aload 0 (fi_iload 4 (fi_const (1) (fi_bin (fun x y => x + y) (fi_scr g (fi_v1 g 8 m_X9_isNight (fi_istore 6 (fi_aload 2 (fi_v0 g 8 m_X9_thrown (fi_iload 5 (fi_cmp (fun x y => x = y) (fi_iload 5 (fi_if (fun x => x = 0) (fi_aload 3 (fi_const (0) (fi_lald (fi_iload 6 (fi_if (fun x => x = 0) (fi_lconst 0 (fi_lcmp (fi_if (fun x => x = 0) (fi_cut g (m_L_law N) d (u.1 + 1, u.2 + 6) 2031 Q) (fi_const (0) (fi_zret Q))))) (fi_lconst 1 (fi_lcmp (fi_if (fun x => x = 0) (fi_cut g (m_L_law N) d (u.1 + 1, u.2 + 6) 2031 Q) (fi_const (0) (fi_zret Q)))))))))) (fi_cut g (m_L_law N) d (u.1 + 1, u.2 + 6) 2031 Q))) (fi_const (0) (fi_zret Q)))))))))))))))))))))))
theorem S_L_law_842 {g : fs_G} {N d : Nat} {u : Nat × Nat} (hB : u.1 + 1 ≤ 70 + N ∧ u.2 + 6 ≤ 3237 + 6 * N) {Q : Option Value → fs_M → Prop} {ls st : List Value} {M : fs_M} (h : T_L_law_842 g N d u Q ls st M) : fs_R g (m_L_law N) d u 842 ls st M Q :=
  (show fs_E g (m_L_law N) d u Q 842 (T_L_law_842 g N d u Q) from (fo_aload_n dL_law_842 rfl (fo_aload_n dL_law_843 rfl (fo_iload dL_law_844 (fo_iconst (v := (1)) dL_law_846 (by decide) (fo_iadd dL_law_847 (fo_scr dL_law_848 (fo_aload_n dL_law_849 rfl (fo_h3 mh_L_isNight q_1094 (Nat.le_of_ble_eq_true rfl) ⟨hB.1, hB.2⟩ rfl dL_law_850 (fo_istore dL_law_853 (Nat.le_of_ble_eq_true rfl) (fo_aload_n dL_law_855 rfl (fo_aload_n dL_law_856 rfl (fo_iload dL_law_857 (fo_iconst (v := (1)) dL_law_859 (by decide) (fo_iadd dL_law_860 (fo_scr dL_law_861 (fo_v1 mv_X9_isNight q_1519 (Nat.le_of_ble_eq_true rfl) ⟨hB.1, hB.2⟩ rfl dL_law_862 (fo_istore dL_law_865 (Nat.le_of_ble_eq_true rfl) (fo_aload_n dL_law_867 rfl (fo_v0 mv_X9_thrown q_1306 (Nat.le_of_ble_eq_true rfl) ⟨hB.1, hB.2⟩ rfl dL_law_868 (fo_iload dL_law_871 (fo_icmp_eq (tgt := 878) dL_law_873 (by decide) (fo_iload dL_law_878 (fo_if_ne (tgt := 902) dL_law_880 (by decide) (fo_goto (tgt := 2031) dL_law_902 (by decide) fo_cut) (fo_aload_n dL_law_883 rfl (fo_iconst (v := (0)) dL_law_884 (by decide) (fo_lald dL_law_885 (fo_iload dL_law_886 (fo_if_eq (tgt := 895) dL_law_888 (by decide) (fo_lconst (v := 0) dL_law_895 (by decide) (fo_lcmp dL_law_896 (fo_if_eq (tgt := 902) dL_law_897 (by decide) (fo_goto (tgt := 2031) dL_law_902 (by decide) fo_cut) (fo_iconst (v := (0)) dL_law_900 (by decide) (fo_zret ⟨hB.1, hB.2⟩ rfl dL_law_901))))) (fo_lconst (v := 1) dL_law_891 (by decide) (fo_goto (tgt := 896) dL_law_892 (by decide) (fo_lcmp dL_law_896 (fo_if_eq (tgt := 902) dL_law_897 (by decide) (fo_goto (tgt := 2031) dL_law_902 (by decide) fo_cut) (fo_iconst (v := (0)) dL_law_900 (by decide) (fo_zret ⟨hB.1, hB.2⟩ rfl dL_law_901))))))))))))) (fo_iconst (v := (0)) dL_law_876 (by decide) (fo_zret ⟨hB.1, hB.2⟩ rfl dL_law_877)))))))))))))))))))))))) ls st M h
def T_L_law_905 (g : fs_G) (N d : Nat) (u : Nat × Nat) (Q : Option Value → fs_M → Prop) : fs_P :=
  (fi_aload 1 (fi_aload 0 (fi_iload 4 (fi_const (1) (fi_bin (fun x y => x + y) (fi_scr g (fi_aload 3 (fi_h3 g m_L_lengthOn hh_L_lengthOn (fi_istore 5 (fi_aload 2 (fi_aload 0 (fi_iload 4 (fi_const (1) (fi_bin (fun x y => x + y) (fi_scr g (fi_v1 g 8 m_X9_lengthOn (fi_istore 6 (fi_aload 2 (fi_v0 g 8 m_X9_thrown (fi_iload 5 (fi_cmp (fun x y => x = y) (fi_iload 5 (fi_if (fun x => x = 0) (fi_aload 3 (fi_const (0) (fi_lald (fi_iload 6 (fi_i2l (fi_lcmp (fi_if (fun x => x = 0) (fi_cut g (m_L_law N) d (u.1 + 1, u.2 + 6) 2031 Q) (fi_const (0) (fi_zret Q))))))))) (fi_cut g (m_L_law N) d (u.1 + 1, u.2 + 6) 2031 Q))) (fi_const (0) (fi_zret Q)))))))))))))))))))))))
theorem S_L_law_905 {g : fs_G} {N d : Nat} {u : Nat × Nat} (hB : u.1 + 1 ≤ 70 + N ∧ u.2 + 6 ≤ 3237 + 6 * N) {Q : Option Value → fs_M → Prop} {ls st : List Value} {M : fs_M} (h : T_L_law_905 g N d u Q ls st M) : fs_R g (m_L_law N) d u 905 ls st M Q :=
  (show fs_E g (m_L_law N) d u Q 905 (T_L_law_905 g N d u Q) from (fo_aload_n dL_law_905 rfl (fo_aload_n dL_law_906 rfl (fo_iload dL_law_907 (fo_iconst (v := (1)) dL_law_909 (by decide) (fo_iadd dL_law_910 (fo_scr dL_law_911 (fo_aload_n dL_law_912 rfl (fo_h3 mh_L_lengthOn q_1101 (Nat.le_of_ble_eq_true rfl) ⟨hB.1, hB.2⟩ rfl dL_law_913 (fo_istore dL_law_916 (Nat.le_of_ble_eq_true rfl) (fo_aload_n dL_law_918 rfl (fo_aload_n dL_law_919 rfl (fo_iload dL_law_920 (fo_iconst (v := (1)) dL_law_922 (by decide) (fo_iadd dL_law_923 (fo_scr dL_law_924 (fo_v1 mv_X9_lengthOn q_1523 (Nat.le_of_ble_eq_true rfl) ⟨hB.1, hB.2⟩ rfl dL_law_925 (fo_istore dL_law_928 (Nat.le_of_ble_eq_true rfl) (fo_aload_n dL_law_930 rfl (fo_v0 mv_X9_thrown q_1306 (Nat.le_of_ble_eq_true rfl) ⟨hB.1, hB.2⟩ rfl dL_law_931 (fo_iload dL_law_934 (fo_icmp_eq (tgt := 941) dL_law_936 (by decide) (fo_iload dL_law_941 (fo_if_ne (tgt := 958) dL_law_943 (by decide) (fo_goto (tgt := 2031) dL_law_958 (by decide) fo_cut) (fo_aload_n dL_law_946 rfl (fo_iconst (v := (0)) dL_law_947 (by decide) (fo_lald dL_law_948 (fo_iload dL_law_949 (fo_i2l dL_law_951 (fo_lcmp dL_law_952 (fo_if_eq (tgt := 958) dL_law_953 (by decide) (fo_goto (tgt := 2031) dL_law_958 (by decide) fo_cut) (fo_iconst (v := (0)) dL_law_956 (by decide) (fo_zret ⟨hB.1, hB.2⟩ rfl dL_law_957))))))))))) (fo_iconst (v := (0)) dL_law_939 (by decide) (fo_zret ⟨hB.1, hB.2⟩ rfl dL_law_940)))))))))))))))))))))))) ls st M h
def T_L_law_961 (g : fs_G) (N d : Nat) (u : Nat × Nat) (Q : Option Value → fs_M → Prop) : fs_P :=
  (fi_aload 1 (fi_aload 0 (fi_iload 4 (fi_const (1) (fi_bin (fun x y => x + y) (fi_scr g (fi_aload 3 (fi_h3 g m_L_castOn hh_L_castOn (fi_istore 5 (fi_aload 2 (fi_aload 0 (fi_iload 4 (fi_const (1) (fi_bin (fun x y => x + y) (fi_scr g (fi_v1 g 8 m_X9_castOn (fi_istore 6 (fi_aload 2 (fi_v0 g 8 m_X9_thrown (fi_iload 5 (fi_cmp (fun x y => x = y) (fi_iload 5 (fi_if (fun x => x = 0) (fi_aload 3 (fi_const (0) (fi_lald (fi_iload 6 (fi_i2l (fi_lcmp (fi_if (fun x => x = 0) (fi_cut g (m_L_law N) d (u.1 + 1, u.2 + 6) 2031 Q) (fi_const (0) (fi_zret Q))))))))) (fi_cut g (m_L_law N) d (u.1 + 1, u.2 + 6) 2031 Q))) (fi_const (0) (fi_zret Q)))))))))))))))))))))))
theorem S_L_law_961 {g : fs_G} {N d : Nat} {u : Nat × Nat} (hB : u.1 + 1 ≤ 70 + N ∧ u.2 + 6 ≤ 3237 + 6 * N) {Q : Option Value → fs_M → Prop} {ls st : List Value} {M : fs_M} (h : T_L_law_961 g N d u Q ls st M) : fs_R g (m_L_law N) d u 961 ls st M Q :=
  (show fs_E g (m_L_law N) d u Q 961 (T_L_law_961 g N d u Q) from (fo_aload_n dL_law_961 rfl (fo_aload_n dL_law_962 rfl (fo_iload dL_law_963 (fo_iconst (v := (1)) dL_law_965 (by decide) (fo_iadd dL_law_966 (fo_scr dL_law_967 (fo_aload_n dL_law_968 rfl (fo_h3 mh_L_castOn q_1108 (Nat.le_of_ble_eq_true rfl) ⟨hB.1, hB.2⟩ rfl dL_law_969 (fo_istore dL_law_972 (Nat.le_of_ble_eq_true rfl) (fo_aload_n dL_law_974 rfl (fo_aload_n dL_law_975 rfl (fo_iload dL_law_976 (fo_iconst (v := (1)) dL_law_978 (by decide) (fo_iadd dL_law_979 (fo_scr dL_law_980 (fo_v1 mv_X9_castOn q_1527 (Nat.le_of_ble_eq_true rfl) ⟨hB.1, hB.2⟩ rfl dL_law_981 (fo_istore dL_law_984 (Nat.le_of_ble_eq_true rfl) (fo_aload_n dL_law_986 rfl (fo_v0 mv_X9_thrown q_1306 (Nat.le_of_ble_eq_true rfl) ⟨hB.1, hB.2⟩ rfl dL_law_987 (fo_iload dL_law_990 (fo_icmp_eq (tgt := 997) dL_law_992 (by decide) (fo_iload dL_law_997 (fo_if_ne (tgt := 1014) dL_law_999 (by decide) (fo_goto (tgt := 2031) dL_law_1014 (by decide) fo_cut) (fo_aload_n dL_law_1002 rfl (fo_iconst (v := (0)) dL_law_1003 (by decide) (fo_lald dL_law_1004 (fo_iload dL_law_1005 (fo_i2l dL_law_1007 (fo_lcmp dL_law_1008 (fo_if_eq (tgt := 1014) dL_law_1009 (by decide) (fo_goto (tgt := 2031) dL_law_1014 (by decide) fo_cut) (fo_iconst (v := (0)) dL_law_1012 (by decide) (fo_zret ⟨hB.1, hB.2⟩ rfl dL_law_1013))))))))))) (fo_iconst (v := (0)) dL_law_995 (by decide) (fo_zret ⟨hB.1, hB.2⟩ rfl dL_law_996)))))))))))))))))))))))) ls st M h
def T_L_law_1017 (g : fs_G) (N d : Nat) (u : Nat × Nat) (Q : Option Value → fs_M → Prop) : fs_P :=
  (fi_aload 1 (fi_v0 g 7 m_X8_span (fi_aload 2 (fi_v0 g 8 m_X9_span (fi_cmp (fun x y => x = y) (fi_cut g (m_L_law N) d u 2031 Q) (fi_const (0) (fi_zret Q)))))))
theorem S_L_law_1017 {g : fs_G} {N d : Nat} {u : Nat × Nat} (hB : u.1 + 1 ≤ 70 + N ∧ u.2 + 6 ≤ 3237 + 6 * N) {Q : Option Value → fs_M → Prop} {ls st : List Value} {M : fs_M} (h : T_L_law_1017 g N d u Q ls st M) : fs_R g (m_L_law N) d u 1017 ls st M Q :=
  (show fs_E g (m_L_law N) d u Q 1017 (T_L_law_1017 g N d u Q) from (fo_aload_n dL_law_1017 rfl (fo_v0 mv_X8_span q_731 (Nat.le_of_ble_eq_true rfl) ⟨Nat.le_trans (Nat.le_add_right u.1 1) hB.1, Nat.le_trans (Nat.le_add_right u.2 6) hB.2⟩ rfl dL_law_1018 (fo_aload_n dL_law_1021 rfl (fo_v0 mv_X9_span q_1531 (Nat.le_of_ble_eq_true rfl) ⟨Nat.le_trans (Nat.le_add_right u.1 1) hB.1, Nat.le_trans (Nat.le_add_right u.2 6) hB.2⟩ rfl dL_law_1022 (fo_icmp_eq (tgt := 2031) dL_law_1025 (by decide) fo_cut (fo_iconst (v := (0)) dL_law_1028 (by decide) (fo_zret ⟨Nat.le_trans (Nat.le_add_right u.1 1) hB.1, Nat.le_trans (Nat.le_add_right u.2 6) hB.2⟩ rfl dL_law_1029)))))))) ls st M h
def T_L_law_1030 (g : fs_G) (N d : Nat) (u : Nat × Nat) (Q : Option Value → fs_M → Prop) : fs_P :=
  (fi_aload 1 (fi_aload 0 (fi_iload 4 (fi_const (1) (fi_bin (fun x y => x + y) (fi_scr g (fi_aload 0 (fi_iload 4 (fi_const (2) (fi_bin (fun x y => x + y) (fi_scr g (fi_aload 3 (fi_h4 g m_L_statusOf hh_L_statusOf (fi_istore 5 (fi_aload 2 (fi_aload 0 (fi_iload 4 (fi_const (1) (fi_bin (fun x y => x + y) (fi_scr g (fi_aload 0 (fi_iload 4 (fi_const (2) (fi_bin (fun x y => x + y) (fi_scr g (fi_v2 g 8 m_X9_statusOf (fi_istore 6 (fi_aload 2 (fi_v0 g 8 m_X9_thrown (fi_iload 5 (fi_cmp (fun x y => x = y) (fi_iload 5 (fi_if (fun x => x = 0) (fi_aload 3 (fi_const (0) (fi_lald (fi_iload 6 (fi_i2l (fi_lcmp (fi_if (fun x => x = 0) (fi_cut g (m_L_law N) d (u.1 + 1, u.2 + 6) 2031 Q) (fi_const (0) (fi_zret Q))))))))) (fi_cut g (m_L_law N) d (u.1 + 1, u.2 + 6) 2031 Q))) (fi_const (0) (fi_zret Q)))))))))))))))))))))))))))))))))
theorem S_L_law_1030 {g : fs_G} {N d : Nat} {u : Nat × Nat} (hB : u.1 + 1 ≤ 70 + N ∧ u.2 + 6 ≤ 3237 + 6 * N) {Q : Option Value → fs_M → Prop} {ls st : List Value} {M : fs_M} (h : T_L_law_1030 g N d u Q ls st M) : fs_R g (m_L_law N) d u 1030 ls st M Q :=
  (show fs_E g (m_L_law N) d u Q 1030 (T_L_law_1030 g N d u Q) from (fo_aload_n dL_law_1030 rfl (fo_aload_n dL_law_1031 rfl (fo_iload dL_law_1032 (fo_iconst (v := (1)) dL_law_1034 (by decide) (fo_iadd dL_law_1035 (fo_scr dL_law_1036 (fo_aload_n dL_law_1037 rfl (fo_iload dL_law_1038 (fo_iconst (v := (2)) dL_law_1040 (by decide) (fo_iadd dL_law_1041 (fo_scr dL_law_1042 (fo_aload_n dL_law_1043 rfl (fo_h4 mh_L_statusOf q_1115 (Nat.le_of_ble_eq_true rfl) ⟨hB.1, hB.2⟩ rfl dL_law_1044 (fo_istore dL_law_1047 (Nat.le_of_ble_eq_true rfl) (fo_aload_n dL_law_1049 rfl (fo_aload_n dL_law_1050 rfl (fo_iload dL_law_1051 (fo_iconst (v := (1)) dL_law_1053 (by decide) (fo_iadd dL_law_1054 (fo_scr dL_law_1055 (fo_aload_n dL_law_1056 rfl (fo_iload dL_law_1057 (fo_iconst (v := (2)) dL_law_1059 (by decide) (fo_iadd dL_law_1060 (fo_scr dL_law_1061 (fo_v2 mv_X9_statusOf q_1539 (Nat.le_of_ble_eq_true rfl) ⟨hB.1, hB.2⟩ rfl dL_law_1062 (fo_istore dL_law_1065 (Nat.le_of_ble_eq_true rfl) (fo_aload_n dL_law_1067 rfl (fo_v0 mv_X9_thrown q_1306 (Nat.le_of_ble_eq_true rfl) ⟨hB.1, hB.2⟩ rfl dL_law_1068 (fo_iload dL_law_1071 (fo_icmp_eq (tgt := 1078) dL_law_1073 (by decide) (fo_iload dL_law_1078 (fo_if_ne (tgt := 1095) dL_law_1080 (by decide) (fo_goto (tgt := 2031) dL_law_1095 (by decide) fo_cut) (fo_aload_n dL_law_1083 rfl (fo_iconst (v := (0)) dL_law_1084 (by decide) (fo_lald dL_law_1085 (fo_iload dL_law_1086 (fo_i2l dL_law_1088 (fo_lcmp dL_law_1089 (fo_if_eq (tgt := 1095) dL_law_1090 (by decide) (fo_goto (tgt := 2031) dL_law_1095 (by decide) fo_cut) (fo_iconst (v := (0)) dL_law_1093 (by decide) (fo_zret ⟨hB.1, hB.2⟩ rfl dL_law_1094))))))))))) (fo_iconst (v := (0)) dL_law_1076 (by decide) (fo_zret ⟨hB.1, hB.2⟩ rfl dL_law_1077)))))))))))))))))))))))))))))))))) ls st M h
def T_L_law_1098 (g : fs_G) (N d : Nat) (u : Nat × Nat) (Q : Option Value → fs_M → Prop) : fs_P :=
  (fi_aload 1 (fi_aload 0 (fi_iload 4 (fi_const (1) (fi_bin (fun x y => x + y) (fi_scr g (fi_aload 3 (fi_h3 g m_L_firstDay hh_L_firstDay (fi_istore 5 (fi_aload 2 (fi_aload 0 (fi_iload 4 (fi_const (1) (fi_bin (fun x y => x + y) (fi_scr g (fi_v1 g 8 m_X9_firstDay (fi_istore 6 (fi_aload 2 (fi_v0 g 8 m_X9_thrown (fi_iload 5 (fi_cmp (fun x y => x = y) (fi_iload 5 (fi_if (fun x => x = 0) (fi_aload 3 (fi_const (0) (fi_lald (fi_iload 6 (fi_i2l (fi_lcmp (fi_if (fun x => x = 0) (fi_cut g (m_L_law N) d (u.1 + 1, u.2 + 6) 2031 Q) (fi_const (0) (fi_zret Q))))))))) (fi_cut g (m_L_law N) d (u.1 + 1, u.2 + 6) 2031 Q))) (fi_const (0) (fi_zret Q)))))))))))))))))))))))
theorem S_L_law_1098 {g : fs_G} {N d : Nat} {u : Nat × Nat} (hB : u.1 + 1 ≤ 70 + N ∧ u.2 + 6 ≤ 3237 + 6 * N) {Q : Option Value → fs_M → Prop} {ls st : List Value} {M : fs_M} (h : T_L_law_1098 g N d u Q ls st M) : fs_R g (m_L_law N) d u 1098 ls st M Q :=
  (show fs_E g (m_L_law N) d u Q 1098 (T_L_law_1098 g N d u Q) from (fo_aload_n dL_law_1098 rfl (fo_aload_n dL_law_1099 rfl (fo_iload dL_law_1100 (fo_iconst (v := (1)) dL_law_1102 (by decide) (fo_iadd dL_law_1103 (fo_scr dL_law_1104 (fo_aload_n dL_law_1105 rfl (fo_h3 mh_L_firstDay q_1126 (Nat.le_of_ble_eq_true rfl) ⟨hB.1, hB.2⟩ rfl dL_law_1106 (fo_istore dL_law_1109 (Nat.le_of_ble_eq_true rfl) (fo_aload_n dL_law_1111 rfl (fo_aload_n dL_law_1112 rfl (fo_iload dL_law_1113 (fo_iconst (v := (1)) dL_law_1115 (by decide) (fo_iadd dL_law_1116 (fo_scr dL_law_1117 (fo_v1 mv_X9_firstDay q_1567 (Nat.le_of_ble_eq_true rfl) ⟨hB.1, hB.2⟩ rfl dL_law_1118 (fo_istore dL_law_1121 (Nat.le_of_ble_eq_true rfl) (fo_aload_n dL_law_1123 rfl (fo_v0 mv_X9_thrown q_1306 (Nat.le_of_ble_eq_true rfl) ⟨hB.1, hB.2⟩ rfl dL_law_1124 (fo_iload dL_law_1127 (fo_icmp_eq (tgt := 1134) dL_law_1129 (by decide) (fo_iload dL_law_1134 (fo_if_ne (tgt := 1151) dL_law_1136 (by decide) (fo_goto (tgt := 2031) dL_law_1151 (by decide) fo_cut) (fo_aload_n dL_law_1139 rfl (fo_iconst (v := (0)) dL_law_1140 (by decide) (fo_lald dL_law_1141 (fo_iload dL_law_1142 (fo_i2l dL_law_1144 (fo_lcmp dL_law_1145 (fo_if_eq (tgt := 1151) dL_law_1146 (by decide) (fo_goto (tgt := 2031) dL_law_1151 (by decide) fo_cut) (fo_iconst (v := (0)) dL_law_1149 (by decide) (fo_zret ⟨hB.1, hB.2⟩ rfl dL_law_1150))))))))))) (fo_iconst (v := (0)) dL_law_1132 (by decide) (fo_zret ⟨hB.1, hB.2⟩ rfl dL_law_1133)))))))))))))))))))))))) ls st M h
def T_L_law_1154 (g : fs_G) (N d : Nat) (u : Nat × Nat) (Q : Option Value → fs_M → Prop) : fs_P :=
  (fi_aload 1 (fi_aload 0 (fi_iload 4 (fi_const (1) (fi_bin (fun x y => x + y) (fi_scr g (fi_aload 3 (fi_h3 g m_L_lastDay hh_L_lastDay (fi_istore 5 (fi_aload 2 (fi_aload 0 (fi_iload 4 (fi_const (1) (fi_bin (fun x y => x + y) (fi_scr g (fi_v1 g 8 m_X9_lastDay (fi_istore 6 (fi_aload 2 (fi_v0 g 8 m_X9_thrown (fi_iload 5 (fi_cmp (fun x y => x = y) (fi_iload 5 (fi_if (fun x => x = 0) (fi_aload 3 (fi_const (0) (fi_lald (fi_iload 6 (fi_i2l (fi_lcmp (fi_if (fun x => x = 0) (fi_cut g (m_L_law N) d (u.1 + 1, u.2 + 6) 2031 Q) (fi_const (0) (fi_zret Q))))))))) (fi_cut g (m_L_law N) d (u.1 + 1, u.2 + 6) 2031 Q))) (fi_const (0) (fi_zret Q)))))))))))))))))))))))
theorem S_L_law_1154 {g : fs_G} {N d : Nat} {u : Nat × Nat} (hB : u.1 + 1 ≤ 70 + N ∧ u.2 + 6 ≤ 3237 + 6 * N) {Q : Option Value → fs_M → Prop} {ls st : List Value} {M : fs_M} (h : T_L_law_1154 g N d u Q ls st M) : fs_R g (m_L_law N) d u 1154 ls st M Q :=
  (show fs_E g (m_L_law N) d u Q 1154 (T_L_law_1154 g N d u Q) from (fo_aload_n dL_law_1154 rfl (fo_aload_n dL_law_1155 rfl (fo_iload dL_law_1156 (fo_iconst (v := (1)) dL_law_1158 (by decide) (fo_iadd dL_law_1159 (fo_scr dL_law_1160 (fo_aload_n dL_law_1161 rfl (fo_h3 mh_L_lastDay q_1134 (Nat.le_of_ble_eq_true rfl) ⟨hB.1, hB.2⟩ rfl dL_law_1162 (fo_istore dL_law_1165 (Nat.le_of_ble_eq_true rfl) (fo_aload_n dL_law_1167 rfl (fo_aload_n dL_law_1168 rfl (fo_iload dL_law_1169 (fo_iconst (v := (1)) dL_law_1171 (by decide) (fo_iadd dL_law_1172 (fo_scr dL_law_1173 (fo_v1 mv_X9_lastDay q_1571 (Nat.le_of_ble_eq_true rfl) ⟨hB.1, hB.2⟩ rfl dL_law_1174 (fo_istore dL_law_1177 (Nat.le_of_ble_eq_true rfl) (fo_aload_n dL_law_1179 rfl (fo_v0 mv_X9_thrown q_1306 (Nat.le_of_ble_eq_true rfl) ⟨hB.1, hB.2⟩ rfl dL_law_1180 (fo_iload dL_law_1183 (fo_icmp_eq (tgt := 1190) dL_law_1185 (by decide) (fo_iload dL_law_1190 (fo_if_ne (tgt := 1207) dL_law_1192 (by decide) (fo_goto (tgt := 2031) dL_law_1207 (by decide) fo_cut) (fo_aload_n dL_law_1195 rfl (fo_iconst (v := (0)) dL_law_1196 (by decide) (fo_lald dL_law_1197 (fo_iload dL_law_1198 (fo_i2l dL_law_1200 (fo_lcmp dL_law_1201 (fo_if_eq (tgt := 1207) dL_law_1202 (by decide) (fo_goto (tgt := 2031) dL_law_1207 (by decide) fo_cut) (fo_iconst (v := (0)) dL_law_1205 (by decide) (fo_zret ⟨hB.1, hB.2⟩ rfl dL_law_1206))))))))))) (fo_iconst (v := (0)) dL_law_1188 (by decide) (fo_zret ⟨hB.1, hB.2⟩ rfl dL_law_1189)))))))))))))))))))))))) ls st M h
def T_L_law_1210 (g : fs_G) (N d : Nat) (u : Nat × Nat) (Q : Option Value → fs_M → Prop) : fs_P :=
  (fi_aload 1 (fi_aload 0 (fi_iload 4 (fi_const (1) (fi_bin (fun x y => x + y) (fi_scr g (fi_aload 0 (fi_iload 4 (fi_const (2) (fi_bin (fun x y => x + y) (fi_scr g (fi_aload 3 (fi_h4 g m_L_daysWith hh_L_daysWith (fi_istore 5 (fi_aload 2 (fi_aload 0 (fi_iload 4 (fi_const (1) (fi_bin (fun x y => x + y) (fi_scr g (fi_aload 0 (fi_iload 4 (fi_const (2) (fi_bin (fun x y => x + y) (fi_scr g (fi_v2 g 8 m_X9_daysWith (fi_istore 6 (fi_aload 2 (fi_v0 g 8 m_X9_thrown (fi_iload 5 (fi_cmp (fun x y => x = y) (fi_iload 5 (fi_if (fun x => x = 0) (fi_aload 3 (fi_const (0) (fi_lald (fi_iload 6 (fi_i2l (fi_lcmp (fi_if (fun x => x = 0) (fi_cut g (m_L_law N) d (u.1 + 1, u.2 + 6) 2031 Q) (fi_const (0) (fi_zret Q))))))))) (fi_cut g (m_L_law N) d (u.1 + 1, u.2 + 6) 2031 Q))) (fi_const (0) (fi_zret Q)))))))))))))))))))))))))))))))))
theorem S_L_law_1210 {g : fs_G} {N d : Nat} {u : Nat × Nat} (hB : u.1 + 1 ≤ 70 + N ∧ u.2 + 6 ≤ 3237 + 6 * N) {Q : Option Value → fs_M → Prop} {ls st : List Value} {M : fs_M} (h : T_L_law_1210 g N d u Q ls st M) : fs_R g (m_L_law N) d u 1210 ls st M Q :=
  (show fs_E g (m_L_law N) d u Q 1210 (T_L_law_1210 g N d u Q) from (fo_aload_n dL_law_1210 rfl (fo_aload_n dL_law_1211 rfl (fo_iload dL_law_1212 (fo_iconst (v := (1)) dL_law_1214 (by decide) (fo_iadd dL_law_1215 (fo_scr dL_law_1216 (fo_aload_n dL_law_1217 rfl (fo_iload dL_law_1218 (fo_iconst (v := (2)) dL_law_1220 (by decide) (fo_iadd dL_law_1221 (fo_scr dL_law_1222 (fo_aload_n dL_law_1223 rfl (fo_h4 mh_L_daysWith q_1144 (Nat.le_of_ble_eq_true rfl) ⟨hB.1, hB.2⟩ rfl dL_law_1224 (fo_istore dL_law_1227 (Nat.le_of_ble_eq_true rfl) (fo_aload_n dL_law_1229 rfl (fo_aload_n dL_law_1230 rfl (fo_iload dL_law_1231 (fo_iconst (v := (1)) dL_law_1233 (by decide) (fo_iadd dL_law_1234 (fo_scr dL_law_1235 (fo_aload_n dL_law_1236 rfl (fo_iload dL_law_1237 (fo_iconst (v := (2)) dL_law_1239 (by decide) (fo_iadd dL_law_1240 (fo_scr dL_law_1241 (fo_v2 mv_X9_daysWith q_1575 (Nat.le_of_ble_eq_true rfl) ⟨hB.1, hB.2⟩ rfl dL_law_1242 (fo_istore dL_law_1245 (Nat.le_of_ble_eq_true rfl) (fo_aload_n dL_law_1247 rfl (fo_v0 mv_X9_thrown q_1306 (Nat.le_of_ble_eq_true rfl) ⟨hB.1, hB.2⟩ rfl dL_law_1248 (fo_iload dL_law_1251 (fo_icmp_eq (tgt := 1258) dL_law_1253 (by decide) (fo_iload dL_law_1258 (fo_if_ne (tgt := 1275) dL_law_1260 (by decide) (fo_goto (tgt := 2031) dL_law_1275 (by decide) fo_cut) (fo_aload_n dL_law_1263 rfl (fo_iconst (v := (0)) dL_law_1264 (by decide) (fo_lald dL_law_1265 (fo_iload dL_law_1266 (fo_i2l dL_law_1268 (fo_lcmp dL_law_1269 (fo_if_eq (tgt := 1275) dL_law_1270 (by decide) (fo_goto (tgt := 2031) dL_law_1275 (by decide) fo_cut) (fo_iconst (v := (0)) dL_law_1273 (by decide) (fo_zret ⟨hB.1, hB.2⟩ rfl dL_law_1274))))))))))) (fo_iconst (v := (0)) dL_law_1256 (by decide) (fo_zret ⟨hB.1, hB.2⟩ rfl dL_law_1257)))))))))))))))))))))))))))))))))) ls st M h
def T_L_law_1278 (g : fs_G) (N d : Nat) (u : Nat × Nat) (Q : Option Value → fs_M → Prop) : fs_P :=
  (fi_aload 1 (fi_aload 0 (fi_iload 4 (fi_const (1) (fi_bin (fun x y => x + y) (fi_scr g (fi_aload 3 (fi_h3 g m_L_actorCost hh_L_actorCost (fi_istore 5 (fi_aload 2 (fi_aload 0 (fi_iload 4 (fi_const (1) (fi_bin (fun x y => x + y) (fi_scr g (fi_v1 g 8 m_X9_actorCost (fi_istore 6 (fi_aload 2 (fi_v0 g 8 m_X9_thrown (fi_iload 5 (fi_cmp (fun x y => x = y) (fi_iload 5 (fi_if (fun x => x = 0) (fi_aload 3 (fi_const (0) (fi_lald (fi_iload 6 (fi_i2l (fi_lcmp (fi_if (fun x => x = 0) (fi_cut g (m_L_law N) d (u.1 + 1, u.2 + 6) 2031 Q) (fi_const (0) (fi_zret Q))))))))) (fi_cut g (m_L_law N) d (u.1 + 1, u.2 + 6) 2031 Q))) (fi_const (0) (fi_zret Q)))))))))))))))))))))))
theorem S_L_law_1278 {g : fs_G} {N d : Nat} {u : Nat × Nat} (hB : u.1 + 1 ≤ 70 + N ∧ u.2 + 6 ≤ 3237 + 6 * N) {Q : Option Value → fs_M → Prop} {ls st : List Value} {M : fs_M} (h : T_L_law_1278 g N d u Q ls st M) : fs_R g (m_L_law N) d u 1278 ls st M Q :=
  (show fs_E g (m_L_law N) d u Q 1278 (T_L_law_1278 g N d u Q) from (fo_aload_n dL_law_1278 rfl (fo_aload_n dL_law_1279 rfl (fo_iload dL_law_1280 (fo_iconst (v := (1)) dL_law_1282 (by decide) (fo_iadd dL_law_1283 (fo_scr dL_law_1284 (fo_aload_n dL_law_1285 rfl (fo_h3 mh_L_actorCost q_1153 (Nat.le_of_ble_eq_true rfl) ⟨hB.1, hB.2⟩ rfl dL_law_1286 (fo_istore dL_law_1289 (Nat.le_of_ble_eq_true rfl) (fo_aload_n dL_law_1291 rfl (fo_aload_n dL_law_1292 rfl (fo_iload dL_law_1293 (fo_iconst (v := (1)) dL_law_1295 (by decide) (fo_iadd dL_law_1296 (fo_scr dL_law_1297 (fo_v1 mv_X9_actorCost q_1583 (Nat.le_of_ble_eq_true rfl) ⟨hB.1, hB.2⟩ rfl dL_law_1298 (fo_istore dL_law_1301 (Nat.le_of_ble_eq_true rfl) (fo_aload_n dL_law_1303 rfl (fo_v0 mv_X9_thrown q_1306 (Nat.le_of_ble_eq_true rfl) ⟨hB.1, hB.2⟩ rfl dL_law_1304 (fo_iload dL_law_1307 (fo_icmp_eq (tgt := 1314) dL_law_1309 (by decide) (fo_iload dL_law_1314 (fo_if_ne (tgt := 1331) dL_law_1316 (by decide) (fo_goto (tgt := 2031) dL_law_1331 (by decide) fo_cut) (fo_aload_n dL_law_1319 rfl (fo_iconst (v := (0)) dL_law_1320 (by decide) (fo_lald dL_law_1321 (fo_iload dL_law_1322 (fo_i2l dL_law_1324 (fo_lcmp dL_law_1325 (fo_if_eq (tgt := 1331) dL_law_1326 (by decide) (fo_goto (tgt := 2031) dL_law_1331 (by decide) fo_cut) (fo_iconst (v := (0)) dL_law_1329 (by decide) (fo_zret ⟨hB.1, hB.2⟩ rfl dL_law_1330))))))))))) (fo_iconst (v := (0)) dL_law_1312 (by decide) (fo_zret ⟨hB.1, hB.2⟩ rfl dL_law_1313)))))))))))))))))))))))) ls st M h
def T_L_law_1334 (g : fs_G) (N d : Nat) (u : Nat × Nat) (Q : Option Value → fs_M → Prop) : fs_P :=
  (fi_aload 1 (fi_v0 g 7 m_X8_moves (fi_aload 2 (fi_v0 g 8 m_X9_moves (fi_cmp (fun x y => x = y) (fi_cut g (m_L_law N) d u 2031 Q) (fi_const (0) (fi_zret Q)))))))
theorem S_L_law_1334 {g : fs_G} {N d : Nat} {u : Nat × Nat} (hB : u.1 + 1 ≤ 70 + N ∧ u.2 + 6 ≤ 3237 + 6 * N) {Q : Option Value → fs_M → Prop} {ls st : List Value} {M : fs_M} (h : T_L_law_1334 g N d u Q ls st M) : fs_R g (m_L_law N) d u 1334 ls st M Q :=
  (show fs_E g (m_L_law N) d u Q 1334 (T_L_law_1334 g N d u Q) from (fo_aload_n dL_law_1334 rfl (fo_v0 mv_X8_moves q_739 (Nat.le_of_ble_eq_true rfl) ⟨Nat.le_trans (Nat.le_add_right u.1 1) hB.1, Nat.le_trans (Nat.le_add_right u.2 6) hB.2⟩ rfl dL_law_1335 (fo_aload_n dL_law_1338 rfl (fo_v0 mv_X9_moves q_1595 (Nat.le_of_ble_eq_true rfl) ⟨Nat.le_trans (Nat.le_add_right u.1 1) hB.1, Nat.le_trans (Nat.le_add_right u.2 6) hB.2⟩ rfl dL_law_1339 (fo_icmp_eq (tgt := 2031) dL_law_1342 (by decide) fo_cut (fo_iconst (v := (0)) dL_law_1345 (by decide) (fo_zret ⟨Nat.le_trans (Nat.le_add_right u.1 1) hB.1, Nat.le_trans (Nat.le_add_right u.2 6) hB.2⟩ rfl dL_law_1346)))))))) ls st M h
def T_L_law_1347 (g : fs_G) (N d : Nat) (u : Nat × Nat) (Q : Option Value → fs_M → Prop) : fs_P :=
  (fi_aload 1 (fi_v0 g 7 m_X8_cost (fi_aload 2 (fi_v0 g 8 m_X9_cost (fi_cmp (fun x y => x = y) (fi_cut g (m_L_law N) d u 2031 Q) (fi_const (0) (fi_zret Q)))))))
theorem S_L_law_1347 {g : fs_G} {N d : Nat} {u : Nat × Nat} (hB : u.1 + 1 ≤ 70 + N ∧ u.2 + 6 ≤ 3237 + 6 * N) {Q : Option Value → fs_M → Prop} {ls st : List Value} {M : fs_M} (h : T_L_law_1347 g N d u Q ls st M) : fs_R g (m_L_law N) d u 1347 ls st M Q :=
  (show fs_E g (m_L_law N) d u Q 1347 (T_L_law_1347 g N d u Q) from (fo_aload_n dL_law_1347 rfl (fo_v0 mv_X8_cost q_747 (Nat.le_of_ble_eq_true rfl) ⟨Nat.le_trans (Nat.le_add_right u.1 1) hB.1, Nat.le_trans (Nat.le_add_right u.2 6) hB.2⟩ rfl dL_law_1348 (fo_aload_n dL_law_1351 rfl (fo_v0 mv_X9_cost q_1603 (Nat.le_of_ble_eq_true rfl) ⟨Nat.le_trans (Nat.le_add_right u.1 1) hB.1, Nat.le_trans (Nat.le_add_right u.2 6) hB.2⟩ rfl dL_law_1352 (fo_icmp_eq (tgt := 2031) dL_law_1355 (by decide) fo_cut (fo_iconst (v := (0)) dL_law_1358 (by decide) (fo_zret ⟨Nat.le_trans (Nat.le_add_right u.1 1) hB.1, Nat.le_trans (Nat.le_add_right u.2 6) hB.2⟩ rfl dL_law_1359)))))))) ls st M h
def T_L_law_1360 (g : fs_G) (N d : Nat) (u : Nat × Nat) (Q : Option Value → fs_M → Prop) : fs_P :=
  (fi_aload 1 (fi_v0 g 7 m_X8_holdingCost (fi_aload 2 (fi_v0 g 8 m_X9_holdingCost (fi_cmp (fun x y => x = y) (fi_cut g (m_L_law N) d u 2031 Q) (fi_const (0) (fi_zret Q)))))))
theorem S_L_law_1360 {g : fs_G} {N d : Nat} {u : Nat × Nat} (hB : u.1 + 1 ≤ 70 + N ∧ u.2 + 6 ≤ 3237 + 6 * N) {Q : Option Value → fs_M → Prop} {ls st : List Value} {M : fs_M} (h : T_L_law_1360 g N d u Q ls st M) : fs_R g (m_L_law N) d u 1360 ls st M Q :=
  (show fs_E g (m_L_law N) d u Q 1360 (T_L_law_1360 g N d u Q) from (fo_aload_n dL_law_1360 rfl (fo_v0 mv_X8_holdingCost q_792 (Nat.le_of_ble_eq_true rfl) ⟨Nat.le_trans (Nat.le_add_right u.1 1) hB.1, Nat.le_trans (Nat.le_add_right u.2 6) hB.2⟩ rfl dL_law_1361 (fo_aload_n dL_law_1364 rfl (fo_v0 mv_X9_holdingCost q_1611 (Nat.le_of_ble_eq_true rfl) ⟨Nat.le_trans (Nat.le_add_right u.1 1) hB.1, Nat.le_trans (Nat.le_add_right u.2 6) hB.2⟩ rfl dL_law_1365 (fo_icmp_eq (tgt := 2031) dL_law_1368 (by decide) fo_cut (fo_iconst (v := (0)) dL_law_1371 (by decide) (fo_zret ⟨Nat.le_trans (Nat.le_add_right u.1 1) hB.1, Nat.le_trans (Nat.le_add_right u.2 6) hB.2⟩ rfl dL_law_1372)))))))) ls st M h
def T_L_law_1373 (g : fs_G) (N d : Nat) (u : Nat × Nat) (Q : Option Value → fs_M → Prop) : fs_P :=
  (fi_aload 1 (fi_aload 0 (fi_iload 4 (fi_const (1) (fi_bin (fun x y => x + y) (fi_scr g (fi_aload 0 (fi_iload 4 (fi_const (2) (fi_bin (fun x y => x + y) (fi_scr g (fi_aload 3 (fi_h4 g m_L_reasonFor hh_L_reasonFor (fi_istore 5 (fi_aload 2 (fi_aload 0 (fi_iload 4 (fi_const (1) (fi_bin (fun x y => x + y) (fi_scr g (fi_aload 0 (fi_iload 4 (fi_const (2) (fi_bin (fun x y => x + y) (fi_scr g (fi_v2 g 8 m_X9_reasonFor (fi_istore 6 (fi_aload 2 (fi_v0 g 8 m_X9_thrown (fi_iload 5 (fi_cmp (fun x y => x = y) (fi_iload 5 (fi_if (fun x => x = 0) (fi_aload 3 (fi_const (0) (fi_lald (fi_iload 6 (fi_i2l (fi_lcmp (fi_if (fun x => x = 0) (fi_cut g (m_L_law N) d (u.1 + 1, u.2 + 6) 2031 Q) (fi_const (0) (fi_zret Q))))))))) (fi_cut g (m_L_law N) d (u.1 + 1, u.2 + 6) 2031 Q))) (fi_const (0) (fi_zret Q)))))))))))))))))))))))))))))))))
theorem S_L_law_1373 {g : fs_G} {N d : Nat} {u : Nat × Nat} (hB : u.1 + 1 ≤ 70 + N ∧ u.2 + 6 ≤ 3237 + 6 * N) {Q : Option Value → fs_M → Prop} {ls st : List Value} {M : fs_M} (h : T_L_law_1373 g N d u Q ls st M) : fs_R g (m_L_law N) d u 1373 ls st M Q :=
  (show fs_E g (m_L_law N) d u Q 1373 (T_L_law_1373 g N d u Q) from (fo_aload_n dL_law_1373 rfl (fo_aload_n dL_law_1374 rfl (fo_iload dL_law_1375 (fo_iconst (v := (1)) dL_law_1377 (by decide) (fo_iadd dL_law_1378 (fo_scr dL_law_1379 (fo_aload_n dL_law_1380 rfl (fo_iload dL_law_1381 (fo_iconst (v := (2)) dL_law_1383 (by decide) (fo_iadd dL_law_1384 (fo_scr dL_law_1385 (fo_aload_n dL_law_1386 rfl (fo_h4 mh_L_reasonFor q_1161 (Nat.le_of_ble_eq_true rfl) ⟨hB.1, hB.2⟩ rfl dL_law_1387 (fo_istore dL_law_1390 (Nat.le_of_ble_eq_true rfl) (fo_aload_n dL_law_1392 rfl (fo_aload_n dL_law_1393 rfl (fo_iload dL_law_1394 (fo_iconst (v := (1)) dL_law_1396 (by decide) (fo_iadd dL_law_1397 (fo_scr dL_law_1398 (fo_aload_n dL_law_1399 rfl (fo_iload dL_law_1400 (fo_iconst (v := (2)) dL_law_1402 (by decide) (fo_iadd dL_law_1403 (fo_scr dL_law_1404 (fo_v2 mv_X9_reasonFor q_1615 (Nat.le_of_ble_eq_true rfl) ⟨hB.1, hB.2⟩ rfl dL_law_1405 (fo_istore dL_law_1408 (Nat.le_of_ble_eq_true rfl) (fo_aload_n dL_law_1410 rfl (fo_v0 mv_X9_thrown q_1306 (Nat.le_of_ble_eq_true rfl) ⟨hB.1, hB.2⟩ rfl dL_law_1411 (fo_iload dL_law_1414 (fo_icmp_eq (tgt := 1421) dL_law_1416 (by decide) (fo_iload dL_law_1421 (fo_if_ne (tgt := 1438) dL_law_1423 (by decide) (fo_goto (tgt := 2031) dL_law_1438 (by decide) fo_cut) (fo_aload_n dL_law_1426 rfl (fo_iconst (v := (0)) dL_law_1427 (by decide) (fo_lald dL_law_1428 (fo_iload dL_law_1429 (fo_i2l dL_law_1431 (fo_lcmp dL_law_1432 (fo_if_eq (tgt := 1438) dL_law_1433 (by decide) (fo_goto (tgt := 2031) dL_law_1438 (by decide) fo_cut) (fo_iconst (v := (0)) dL_law_1436 (by decide) (fo_zret ⟨hB.1, hB.2⟩ rfl dL_law_1437))))))))))) (fo_iconst (v := (0)) dL_law_1419 (by decide) (fo_zret ⟨hB.1, hB.2⟩ rfl dL_law_1420)))))))))))))))))))))))))))))))))) ls st M h
def T_L_law_1441 (g : fs_G) (N d : Nat) (u : Nat × Nat) (Q : Option Value → fs_M → Prop) : fs_P :=
  (fi_aload 1 (fi_aload 0 (fi_iload 4 (fi_const (1) (fi_bin (fun x y => x + y) (fi_scr g (fi_aload 3 (fi_h3 g m_L_daysFor hh_L_daysFor (fi_istore 5 (fi_aload 2 (fi_aload 0 (fi_iload 4 (fi_const (1) (fi_bin (fun x y => x + y) (fi_scr g (fi_v1 g 8 m_X9_daysFor (fi_istore 6 (fi_aload 2 (fi_v0 g 8 m_X9_thrown (fi_iload 5 (fi_cmp (fun x y => x = y) (fi_iload 5 (fi_if (fun x => x = 0) (fi_aload 3 (fi_const (0) (fi_lald (fi_iload 6 (fi_i2l (fi_lcmp (fi_if (fun x => x = 0) (fi_cut g (m_L_law N) d (u.1 + 1, u.2 + 6) 2031 Q) (fi_const (0) (fi_zret Q))))))))) (fi_cut g (m_L_law N) d (u.1 + 1, u.2 + 6) 2031 Q))) (fi_const (0) (fi_zret Q)))))))))))))))))))))))
theorem S_L_law_1441 {g : fs_G} {N d : Nat} {u : Nat × Nat} (hB : u.1 + 1 ≤ 70 + N ∧ u.2 + 6 ≤ 3237 + 6 * N) {Q : Option Value → fs_M → Prop} {ls st : List Value} {M : fs_M} (h : T_L_law_1441 g N d u Q ls st M) : fs_R g (m_L_law N) d u 1441 ls st M Q :=
  (show fs_E g (m_L_law N) d u Q 1441 (T_L_law_1441 g N d u Q) from (fo_aload_n dL_law_1441 rfl (fo_aload_n dL_law_1442 rfl (fo_iload dL_law_1443 (fo_iconst (v := (1)) dL_law_1445 (by decide) (fo_iadd dL_law_1446 (fo_scr dL_law_1447 (fo_aload_n dL_law_1448 rfl (fo_h3 mh_L_daysFor q_1168 (Nat.le_of_ble_eq_true rfl) ⟨hB.1, hB.2⟩ rfl dL_law_1449 (fo_istore dL_law_1452 (Nat.le_of_ble_eq_true rfl) (fo_aload_n dL_law_1454 rfl (fo_aload_n dL_law_1455 rfl (fo_iload dL_law_1456 (fo_iconst (v := (1)) dL_law_1458 (by decide) (fo_iadd dL_law_1459 (fo_scr dL_law_1460 (fo_v1 mv_X9_daysFor q_1619 (Nat.le_of_ble_eq_true rfl) ⟨hB.1, hB.2⟩ rfl dL_law_1461 (fo_istore dL_law_1464 (Nat.le_of_ble_eq_true rfl) (fo_aload_n dL_law_1466 rfl (fo_v0 mv_X9_thrown q_1306 (Nat.le_of_ble_eq_true rfl) ⟨hB.1, hB.2⟩ rfl dL_law_1467 (fo_iload dL_law_1470 (fo_icmp_eq (tgt := 1477) dL_law_1472 (by decide) (fo_iload dL_law_1477 (fo_if_ne (tgt := 1494) dL_law_1479 (by decide) (fo_goto (tgt := 2031) dL_law_1494 (by decide) fo_cut) (fo_aload_n dL_law_1482 rfl (fo_iconst (v := (0)) dL_law_1483 (by decide) (fo_lald dL_law_1484 (fo_iload dL_law_1485 (fo_i2l dL_law_1487 (fo_lcmp dL_law_1488 (fo_if_eq (tgt := 1494) dL_law_1489 (by decide) (fo_goto (tgt := 2031) dL_law_1494 (by decide) fo_cut) (fo_iconst (v := (0)) dL_law_1492 (by decide) (fo_zret ⟨hB.1, hB.2⟩ rfl dL_law_1493))))))))))) (fo_iconst (v := (0)) dL_law_1475 (by decide) (fo_zret ⟨hB.1, hB.2⟩ rfl dL_law_1476)))))))))))))))))))))))) ls st M h
def T_L_law_1497 (g : fs_G) (N d : Nat) (u : Nat × Nat) (Q : Option Value → fs_M → Prop) : fs_P :=
  (fi_aload 1 (fi_aload 0 (fi_iload 4 (fi_const (1) (fi_bin (fun x y => x + y) (fi_scr g (fi_aload 0 (fi_iload 4 (fi_const (2) (fi_bin (fun x y => x + y) (fi_scr g (fi_aload 3 (fi_h4 g m_L_costWith hh_L_costWith (fi_istore 5 (fi_aload 2 (fi_aload 0 (fi_iload 4 (fi_const (1) (fi_bin (fun x y => x + y) (fi_scr g (fi_aload 0 (fi_iload 4 (fi_const (2) (fi_bin (fun x y => x + y) (fi_scr g (fi_v2 g 8 m_X9_costWith (fi_istore 6 (fi_aload 2 (fi_v0 g 8 m_X9_thrown (fi_iload 5 (fi_cmp (fun x y => x = y) (fi_iload 5 (fi_if (fun x => x = 0) (fi_aload 3 (fi_const (0) (fi_lald (fi_iload 6 (fi_i2l (fi_lcmp (fi_if (fun x => x = 0) (fi_cut g (m_L_law N) d (u.1 + 1, u.2 + 6) 2031 Q) (fi_const (0) (fi_zret Q))))))))) (fi_cut g (m_L_law N) d (u.1 + 1, u.2 + 6) 2031 Q))) (fi_const (0) (fi_zret Q)))))))))))))))))))))))))))))))))
theorem S_L_law_1497 {g : fs_G} {N d : Nat} {u : Nat × Nat} (hB : u.1 + 1 ≤ 70 + N ∧ u.2 + 6 ≤ 3237 + 6 * N) {Q : Option Value → fs_M → Prop} {ls st : List Value} {M : fs_M} (h : T_L_law_1497 g N d u Q ls st M) : fs_R g (m_L_law N) d u 1497 ls st M Q :=
  (show fs_E g (m_L_law N) d u Q 1497 (T_L_law_1497 g N d u Q) from (fo_aload_n dL_law_1497 rfl (fo_aload_n dL_law_1498 rfl (fo_iload dL_law_1499 (fo_iconst (v := (1)) dL_law_1501 (by decide) (fo_iadd dL_law_1502 (fo_scr dL_law_1503 (fo_aload_n dL_law_1504 rfl (fo_iload dL_law_1505 (fo_iconst (v := (2)) dL_law_1507 (by decide) (fo_iadd dL_law_1508 (fo_scr dL_law_1509 (fo_aload_n dL_law_1510 rfl (fo_h4 mh_L_costWith q_1175 (Nat.le_of_ble_eq_true rfl) ⟨hB.1, hB.2⟩ rfl dL_law_1511 (fo_istore dL_law_1514 (Nat.le_of_ble_eq_true rfl) (fo_aload_n dL_law_1516 rfl (fo_aload_n dL_law_1517 rfl (fo_iload dL_law_1518 (fo_iconst (v := (1)) dL_law_1520 (by decide) (fo_iadd dL_law_1521 (fo_scr dL_law_1522 (fo_aload_n dL_law_1523 rfl (fo_iload dL_law_1524 (fo_iconst (v := (2)) dL_law_1526 (by decide) (fo_iadd dL_law_1527 (fo_scr dL_law_1528 (fo_v2 mv_X9_costWith q_1623 (Nat.le_of_ble_eq_true rfl) ⟨hB.1, hB.2⟩ rfl dL_law_1529 (fo_istore dL_law_1532 (Nat.le_of_ble_eq_true rfl) (fo_aload_n dL_law_1534 rfl (fo_v0 mv_X9_thrown q_1306 (Nat.le_of_ble_eq_true rfl) ⟨hB.1, hB.2⟩ rfl dL_law_1535 (fo_iload dL_law_1538 (fo_icmp_eq (tgt := 1545) dL_law_1540 (by decide) (fo_iload dL_law_1545 (fo_if_ne (tgt := 1562) dL_law_1547 (by decide) (fo_goto (tgt := 2031) dL_law_1562 (by decide) fo_cut) (fo_aload_n dL_law_1550 rfl (fo_iconst (v := (0)) dL_law_1551 (by decide) (fo_lald dL_law_1552 (fo_iload dL_law_1553 (fo_i2l dL_law_1555 (fo_lcmp dL_law_1556 (fo_if_eq (tgt := 1562) dL_law_1557 (by decide) (fo_goto (tgt := 2031) dL_law_1562 (by decide) fo_cut) (fo_iconst (v := (0)) dL_law_1560 (by decide) (fo_zret ⟨hB.1, hB.2⟩ rfl dL_law_1561))))))))))) (fo_iconst (v := (0)) dL_law_1543 (by decide) (fo_zret ⟨hB.1, hB.2⟩ rfl dL_law_1544)))))))))))))))))))))))))))))))))) ls st M h
def T_L_law_1565 (g : fs_G) (N d : Nat) (u : Nat × Nat) (Q : Option Value → fs_M → Prop) : fs_P :=
  (fi_aload 1 (fi_aload 0 (fi_iload 4 (fi_const (1) (fi_bin (fun x y => x + y) (fi_scr g (fi_aload 3 (fi_h3 g m_L_bestDay hh_L_bestDay (fi_istore 5 (fi_aload 2 (fi_aload 0 (fi_iload 4 (fi_const (1) (fi_bin (fun x y => x + y) (fi_scr g (fi_v1 g 8 m_X9_bestDay (fi_istore 6 (fi_aload 2 (fi_v0 g 8 m_X9_thrown (fi_iload 5 (fi_cmp (fun x y => x = y) (fi_iload 5 (fi_if (fun x => x = 0) (fi_aload 3 (fi_const (0) (fi_lald (fi_iload 6 (fi_i2l (fi_lcmp (fi_if (fun x => x = 0) (fi_cut g (m_L_law N) d (u.1 + 1, u.2 + 6) 2031 Q) (fi_const (0) (fi_zret Q))))))))) (fi_cut g (m_L_law N) d (u.1 + 1, u.2 + 6) 2031 Q))) (fi_const (0) (fi_zret Q)))))))))))))))))))))))
theorem S_L_law_1565 {g : fs_G} {N d : Nat} {u : Nat × Nat} (hB : u.1 + 1 ≤ 70 + N ∧ u.2 + 6 ≤ 3237 + 6 * N) {Q : Option Value → fs_M → Prop} {ls st : List Value} {M : fs_M} (h : T_L_law_1565 g N d u Q ls st M) : fs_R g (m_L_law N) d u 1565 ls st M Q :=
  (show fs_E g (m_L_law N) d u Q 1565 (T_L_law_1565 g N d u Q) from (fo_aload_n dL_law_1565 rfl (fo_aload_n dL_law_1566 rfl (fo_iload dL_law_1567 (fo_iconst (v := (1)) dL_law_1569 (by decide) (fo_iadd dL_law_1570 (fo_scr dL_law_1571 (fo_aload_n dL_law_1572 rfl (fo_h3 mh_L_bestDay q_1182 (Nat.le_of_ble_eq_true rfl) ⟨hB.1, hB.2⟩ rfl dL_law_1573 (fo_istore dL_law_1576 (Nat.le_of_ble_eq_true rfl) (fo_aload_n dL_law_1578 rfl (fo_aload_n dL_law_1579 rfl (fo_iload dL_law_1580 (fo_iconst (v := (1)) dL_law_1582 (by decide) (fo_iadd dL_law_1583 (fo_scr dL_law_1584 (fo_v1 mv_X9_bestDay q_1631 (Nat.le_of_ble_eq_true rfl) ⟨hB.1, hB.2⟩ rfl dL_law_1585 (fo_istore dL_law_1588 (Nat.le_of_ble_eq_true rfl) (fo_aload_n dL_law_1590 rfl (fo_v0 mv_X9_thrown q_1306 (Nat.le_of_ble_eq_true rfl) ⟨hB.1, hB.2⟩ rfl dL_law_1591 (fo_iload dL_law_1594 (fo_icmp_eq (tgt := 1601) dL_law_1596 (by decide) (fo_iload dL_law_1601 (fo_if_ne (tgt := 1618) dL_law_1603 (by decide) (fo_goto (tgt := 2031) dL_law_1618 (by decide) fo_cut) (fo_aload_n dL_law_1606 rfl (fo_iconst (v := (0)) dL_law_1607 (by decide) (fo_lald dL_law_1608 (fo_iload dL_law_1609 (fo_i2l dL_law_1611 (fo_lcmp dL_law_1612 (fo_if_eq (tgt := 1618) dL_law_1613 (by decide) (fo_goto (tgt := 2031) dL_law_1618 (by decide) fo_cut) (fo_iconst (v := (0)) dL_law_1616 (by decide) (fo_zret ⟨hB.1, hB.2⟩ rfl dL_law_1617))))))))))) (fo_iconst (v := (0)) dL_law_1599 (by decide) (fo_zret ⟨hB.1, hB.2⟩ rfl dL_law_1600)))))))))))))))))))))))) ls st M h
def T_L_law_1621 (g : fs_G) (N d : Nat) (u : Nat × Nat) (Q : Option Value → fs_M → Prop) : fs_P :=
  (fi_aload 1 (fi_v0 g 7 m_X8_fewestDays (fi_aload 2 (fi_v0 g 8 m_X9_fewestDays (fi_cmp (fun x y => x = y) (fi_cut g (m_L_law N) d u 2031 Q) (fi_const (0) (fi_zret Q)))))))
theorem S_L_law_1621 {g : fs_G} {N d : Nat} {u : Nat × Nat} (hB : u.1 + 1 ≤ 70 + N ∧ u.2 + 6 ≤ 3237 + 6 * N) {Q : Option Value → fs_M → Prop} {ls st : List Value} {M : fs_M} (h : T_L_law_1621 g N d u Q ls st M) : fs_R g (m_L_law N) d u 1621 ls st M Q :=
  (show fs_E g (m_L_law N) d u Q 1621 (T_L_law_1621 g N d u Q) from (fo_aload_n dL_law_1621 rfl (fo_v0 mv_X8_fewestDays q_797 (Nat.le_of_ble_eq_true rfl) ⟨Nat.le_trans (Nat.le_add_right u.1 1) hB.1, Nat.le_trans (Nat.le_add_right u.2 6) hB.2⟩ rfl dL_law_1622 (fo_aload_n dL_law_1625 rfl (fo_v0 mv_X9_fewestDays q_1635 (Nat.le_of_ble_eq_true rfl) ⟨Nat.le_trans (Nat.le_add_right u.1 1) hB.1, Nat.le_trans (Nat.le_add_right u.2 6) hB.2⟩ rfl dL_law_1626 (fo_icmp_eq (tgt := 2031) dL_law_1629 (by decide) fo_cut (fo_iconst (v := (0)) dL_law_1632 (by decide) (fo_zret ⟨Nat.le_trans (Nat.le_add_right u.1 1) hB.1, Nat.le_trans (Nat.le_add_right u.2 6) hB.2⟩ rfl dL_law_1633)))))))) ls st M h
def T_L_law_1634 (g : fs_G) (N d : Nat) (u : Nat × Nat) (Q : Option Value → fs_M → Prop) : fs_P :=
  (fi_aload 1 (fi_aload 0 (fi_iload 4 (fi_const (1) (fi_bin (fun x y => x + y) (fi_scr g (fi_aload 0 (fi_iload 4 (fi_const (2) (fi_bin (fun x y => x + y) (fi_scr g (fi_if (fun x => x = 0) (fi_const (0) (fi_aload 3 (fi_h4 g m_L_waitingFor hh_L_waitingFor (fi_istore 5 (fi_aload 2 (fi_aload 0 (fi_iload 4 (fi_const (1) (fi_bin (fun x y => x + y) (fi_scr g (fi_aload 0 (fi_iload 4 (fi_const (2) (fi_bin (fun x y => x + y) (fi_scr g (fi_if (fun x => x = 0) (fi_const (0) (fi_v2 g 8 m_X9_waitingFor (fi_istore 6 (fi_aload 2 (fi_v0 g 8 m_X9_thrown (fi_iload 5 (fi_cmp (fun x y => x = y) (fi_iload 5 (fi_if (fun x => x = 0) (fi_aload 3 (fi_const (0) (fi_lald (fi_iload 6 (fi_i2l (fi_lcmp (fi_if (fun x => x = 0) (fi_cut g (m_L_law N) d (u.1 + 1, u.2 + 6) 2031 Q) (fi_const (0) (fi_zret Q))))))))) (fi_cut g (m_L_law N) d (u.1 + 1, u.2 + 6) 2031 Q))) (fi_const (0) (fi_zret Q))))))))) (fi_const (1) (fi_v2 g 8 m_X9_waitingFor (fi_istore 6 (fi_aload 2 (fi_v0 g 8 m_X9_thrown (fi_iload 5 (fi_cmp (fun x y => x = y) (fi_iload 5 (fi_if (fun x => x = 0) (fi_aload 3 (fi_const (0) (fi_lald (fi_iload 6 (fi_i2l (fi_lcmp (fi_if (fun x => x = 0) (fi_cut g (m_L_law N) d (u.1 + 1, u.2 + 6) 2031 Q) (fi_const (0) (fi_zret Q))))))))) (fi_cut g (m_L_law N) d (u.1 + 1, u.2 + 6) 2031 Q))) (fi_const (0) (fi_zret Q))))))))))))))))))))))))) (fi_const (1) (fi_aload 3 (fi_h4 g m_L_waitingFor hh_L_waitingFor (fi_istore 5 (fi_aload 2 (fi_aload 0 (fi_iload 4 (fi_const (1) (fi_bin (fun x y => x + y) (fi_scr g (fi_aload 0 (fi_iload 4 (fi_const (2) (fi_bin (fun x y => x + y) (fi_scr g (fi_if (fun x => x = 0) (fi_const (0) (fi_v2 g 8 m_X9_waitingFor (fi_istore 6 (fi_aload 2 (fi_v0 g 8 m_X9_thrown (fi_iload 5 (fi_cmp (fun x y => x = y) (fi_iload 5 (fi_if (fun x => x = 0) (fi_aload 3 (fi_const (0) (fi_lald (fi_iload 6 (fi_i2l (fi_lcmp (fi_if (fun x => x = 0) (fi_cut g (m_L_law N) d (u.1 + 1, u.2 + 6) 2031 Q) (fi_const (0) (fi_zret Q))))))))) (fi_cut g (m_L_law N) d (u.1 + 1, u.2 + 6) 2031 Q))) (fi_const (0) (fi_zret Q))))))))) (fi_const (1) (fi_v2 g 8 m_X9_waitingFor (fi_istore 6 (fi_aload 2 (fi_v0 g 8 m_X9_thrown (fi_iload 5 (fi_cmp (fun x y => x = y) (fi_iload 5 (fi_if (fun x => x = 0) (fi_aload 3 (fi_const (0) (fi_lald (fi_iload 6 (fi_i2l (fi_lcmp (fi_if (fun x => x = 0) (fi_cut g (m_L_law N) d (u.1 + 1, u.2 + 6) 2031 Q) (fi_const (0) (fi_zret Q))))))))) (fi_cut g (m_L_law N) d (u.1 + 1, u.2 + 6) 2031 Q))) (fi_const (0) (fi_zret Q)))))))))))))))))))))))))))))))))))))
theorem S_L_law_1634 {g : fs_G} {N d : Nat} {u : Nat × Nat} (hB : u.1 + 1 ≤ 70 + N ∧ u.2 + 6 ≤ 3237 + 6 * N) {Q : Option Value → fs_M → Prop} {ls st : List Value} {M : fs_M} (h : T_L_law_1634 g N d u Q ls st M) : fs_R g (m_L_law N) d u 1634 ls st M Q :=
  (show fs_E g (m_L_law N) d u Q 1634 (T_L_law_1634 g N d u Q) from (fo_aload_n dL_law_1634 rfl (fo_aload_n dL_law_1635 rfl (fo_iload dL_law_1636 (fo_iconst (v := (1)) dL_law_1638 (by decide) (fo_iadd dL_law_1639 (fo_scr dL_law_1640 (fo_aload_n dL_law_1641 rfl (fo_iload dL_law_1642 (fo_iconst (v := (2)) dL_law_1644 (by decide) (fo_iadd dL_law_1645 (fo_scr dL_law_1646 (fo_if_eq (tgt := 1654) dL_law_1647 (by decide) (fo_iconst (v := (0)) dL_law_1654 (by decide) (fo_aload_n dL_law_1655 rfl (fo_h4 mh_L_waitingFor q_1189 (Nat.le_of_ble_eq_true rfl) ⟨hB.1, hB.2⟩ rfl dL_law_1656 (fo_istore dL_law_1659 (Nat.le_of_ble_eq_true rfl) (fo_aload_n dL_law_1661 rfl (fo_aload_n dL_law_1662 rfl (fo_iload dL_law_1663 (fo_iconst (v := (1)) dL_law_1665 (by decide) (fo_iadd dL_law_1666 (fo_scr dL_law_1667 (fo_aload_n dL_law_1668 rfl (fo_iload dL_law_1669 (fo_iconst (v := (2)) dL_law_1671 (by decide) (fo_iadd dL_law_1672 (fo_scr dL_law_1673 (fo_if_eq (tgt := 1681) dL_law_1674 (by decide) (fo_iconst (v := (0)) dL_law_1681 (by decide) (fo_v2 mv_X9_waitingFor q_1639 (Nat.le_of_ble_eq_true rfl) ⟨hB.1, hB.2⟩ rfl dL_law_1682 (fo_istore dL_law_1685 (Nat.le_of_ble_eq_true rfl) (fo_aload_n dL_law_1687 rfl (fo_v0 mv_X9_thrown q_1306 (Nat.le_of_ble_eq_true rfl) ⟨hB.1, hB.2⟩ rfl dL_law_1688 (fo_iload dL_law_1691 (fo_icmp_eq (tgt := 1698) dL_law_1693 (by decide) (fo_iload dL_law_1698 (fo_if_ne (tgt := 1715) dL_law_1700 (by decide) (fo_goto (tgt := 2031) dL_law_1715 (by decide) fo_cut) (fo_aload_n dL_law_1703 rfl (fo_iconst (v := (0)) dL_law_1704 (by decide) (fo_lald dL_law_1705 (fo_iload dL_law_1706 (fo_i2l dL_law_1708 (fo_lcmp dL_law_1709 (fo_if_eq (tgt := 1715) dL_law_1710 (by decide) (fo_goto (tgt := 2031) dL_law_1715 (by decide) fo_cut) (fo_iconst (v := (0)) dL_law_1713 (by decide) (fo_zret ⟨hB.1, hB.2⟩ rfl dL_law_1714))))))))))) (fo_iconst (v := (0)) dL_law_1696 (by decide) (fo_zret ⟨hB.1, hB.2⟩ rfl dL_law_1697))))))))) (fo_iconst (v := (1)) dL_law_1677 (by decide) (fo_goto (tgt := 1682) dL_law_1678 (by decide) (fo_v2 mv_X9_waitingFor q_1639 (Nat.le_of_ble_eq_true rfl) ⟨hB.1, hB.2⟩ rfl dL_law_1682 (fo_istore dL_law_1685 (Nat.le_of_ble_eq_true rfl) (fo_aload_n dL_law_1687 rfl (fo_v0 mv_X9_thrown q_1306 (Nat.le_of_ble_eq_true rfl) ⟨hB.1, hB.2⟩ rfl dL_law_1688 (fo_iload dL_law_1691 (fo_icmp_eq (tgt := 1698) dL_law_1693 (by decide) (fo_iload dL_law_1698 (fo_if_ne (tgt := 1715) dL_law_1700 (by decide) (fo_goto (tgt := 2031) dL_law_1715 (by decide) fo_cut) (fo_aload_n dL_law_1703 rfl (fo_iconst (v := (0)) dL_law_1704 (by decide) (fo_lald dL_law_1705 (fo_iload dL_law_1706 (fo_i2l dL_law_1708 (fo_lcmp dL_law_1709 (fo_if_eq (tgt := 1715) dL_law_1710 (by decide) (fo_goto (tgt := 2031) dL_law_1715 (by decide) fo_cut) (fo_iconst (v := (0)) dL_law_1713 (by decide) (fo_zret ⟨hB.1, hB.2⟩ rfl dL_law_1714))))))))))) (fo_iconst (v := (0)) dL_law_1696 (by decide) (fo_zret ⟨hB.1, hB.2⟩ rfl dL_law_1697)))))))))))))))))))))))))) (fo_iconst (v := (1)) dL_law_1650 (by decide) (fo_goto (tgt := 1655) dL_law_1651 (by decide) (fo_aload_n dL_law_1655 rfl (fo_h4 mh_L_waitingFor q_1189 (Nat.le_of_ble_eq_true rfl) ⟨hB.1, hB.2⟩ rfl dL_law_1656 (fo_istore dL_law_1659 (Nat.le_of_ble_eq_true rfl) (fo_aload_n dL_law_1661 rfl (fo_aload_n dL_law_1662 rfl (fo_iload dL_law_1663 (fo_iconst (v := (1)) dL_law_1665 (by decide) (fo_iadd dL_law_1666 (fo_scr dL_law_1667 (fo_aload_n dL_law_1668 rfl (fo_iload dL_law_1669 (fo_iconst (v := (2)) dL_law_1671 (by decide) (fo_iadd dL_law_1672 (fo_scr dL_law_1673 (fo_if_eq (tgt := 1681) dL_law_1674 (by decide) (fo_iconst (v := (0)) dL_law_1681 (by decide) (fo_v2 mv_X9_waitingFor q_1639 (Nat.le_of_ble_eq_true rfl) ⟨hB.1, hB.2⟩ rfl dL_law_1682 (fo_istore dL_law_1685 (Nat.le_of_ble_eq_true rfl) (fo_aload_n dL_law_1687 rfl (fo_v0 mv_X9_thrown q_1306 (Nat.le_of_ble_eq_true rfl) ⟨hB.1, hB.2⟩ rfl dL_law_1688 (fo_iload dL_law_1691 (fo_icmp_eq (tgt := 1698) dL_law_1693 (by decide) (fo_iload dL_law_1698 (fo_if_ne (tgt := 1715) dL_law_1700 (by decide) (fo_goto (tgt := 2031) dL_law_1715 (by decide) fo_cut) (fo_aload_n dL_law_1703 rfl (fo_iconst (v := (0)) dL_law_1704 (by decide) (fo_lald dL_law_1705 (fo_iload dL_law_1706 (fo_i2l dL_law_1708 (fo_lcmp dL_law_1709 (fo_if_eq (tgt := 1715) dL_law_1710 (by decide) (fo_goto (tgt := 2031) dL_law_1715 (by decide) fo_cut) (fo_iconst (v := (0)) dL_law_1713 (by decide) (fo_zret ⟨hB.1, hB.2⟩ rfl dL_law_1714))))))))))) (fo_iconst (v := (0)) dL_law_1696 (by decide) (fo_zret ⟨hB.1, hB.2⟩ rfl dL_law_1697))))))))) (fo_iconst (v := (1)) dL_law_1677 (by decide) (fo_goto (tgt := 1682) dL_law_1678 (by decide) (fo_v2 mv_X9_waitingFor q_1639 (Nat.le_of_ble_eq_true rfl) ⟨hB.1, hB.2⟩ rfl dL_law_1682 (fo_istore dL_law_1685 (Nat.le_of_ble_eq_true rfl) (fo_aload_n dL_law_1687 rfl (fo_v0 mv_X9_thrown q_1306 (Nat.le_of_ble_eq_true rfl) ⟨hB.1, hB.2⟩ rfl dL_law_1688 (fo_iload dL_law_1691 (fo_icmp_eq (tgt := 1698) dL_law_1693 (by decide) (fo_iload dL_law_1698 (fo_if_ne (tgt := 1715) dL_law_1700 (by decide) (fo_goto (tgt := 2031) dL_law_1715 (by decide) fo_cut) (fo_aload_n dL_law_1703 rfl (fo_iconst (v := (0)) dL_law_1704 (by decide) (fo_lald dL_law_1705 (fo_iload dL_law_1706 (fo_i2l dL_law_1708 (fo_lcmp dL_law_1709 (fo_if_eq (tgt := 1715) dL_law_1710 (by decide) (fo_goto (tgt := 2031) dL_law_1715 (by decide) fo_cut) (fo_iconst (v := (0)) dL_law_1713 (by decide) (fo_zret ⟨hB.1, hB.2⟩ rfl dL_law_1714))))))))))) (fo_iconst (v := (0)) dL_law_1696 (by decide) (fo_zret ⟨hB.1, hB.2⟩ rfl dL_law_1697)))))))))))))))))))))))))))))))))))))))) ls st M h
def T_L_law_1718 (g : fs_G) (N d : Nat) (u : Nat × Nat) (Q : Option Value → fs_M → Prop) : fs_P :=
  (fi_aload 1 (fi_aload 0 (fi_iload 4 (fi_const (1) (fi_bin (fun x y => x + y) (fi_scr g (fi_v1 g 7 m_X8_rainDays (fi_aload 2 (fi_aload 0 (fi_iload 4 (fi_const (1) (fi_bin (fun x y => x + y) (fi_scr g (fi_v1 g 8 m_X9_rainDays (fi_cmp (fun x y => x = y) (fi_cut g (m_L_law N) d u 2031 Q) (fi_const (0) (fi_zret Q)))))))))))))))))
theorem S_L_law_1718 {g : fs_G} {N d : Nat} {u : Nat × Nat} (hB : u.1 + 1 ≤ 70 + N ∧ u.2 + 6 ≤ 3237 + 6 * N) {Q : Option Value → fs_M → Prop} {ls st : List Value} {M : fs_M} (h : T_L_law_1718 g N d u Q ls st M) : fs_R g (m_L_law N) d u 1718 ls st M Q :=
  (show fs_E g (m_L_law N) d u Q 1718 (T_L_law_1718 g N d u Q) from (fo_aload_n dL_law_1718 rfl (fo_aload_n dL_law_1719 rfl (fo_iload dL_law_1720 (fo_iconst (v := (1)) dL_law_1722 (by decide) (fo_iadd dL_law_1723 (fo_scr dL_law_1724 (fo_v1 mv_X8_rainDays q_809 (Nat.le_of_ble_eq_true rfl) ⟨Nat.le_trans (Nat.le_add_right u.1 1) hB.1, Nat.le_trans (Nat.le_add_right u.2 6) hB.2⟩ rfl dL_law_1725 (fo_aload_n dL_law_1728 rfl (fo_aload_n dL_law_1729 rfl (fo_iload dL_law_1730 (fo_iconst (v := (1)) dL_law_1732 (by decide) (fo_iadd dL_law_1733 (fo_scr dL_law_1734 (fo_v1 mv_X9_rainDays q_1643 (Nat.le_of_ble_eq_true rfl) ⟨Nat.le_trans (Nat.le_add_right u.1 1) hB.1, Nat.le_trans (Nat.le_add_right u.2 6) hB.2⟩ rfl dL_law_1735 (fo_icmp_eq (tgt := 2031) dL_law_1738 (by decide) fo_cut (fo_iconst (v := (0)) dL_law_1741 (by decide) (fo_zret ⟨Nat.le_trans (Nat.le_add_right u.1 1) hB.1, Nat.le_trans (Nat.le_add_right u.2 6) hB.2⟩ rfl dL_law_1742)))))))))))))))))) ls st M h
def T_L_law_1743 (g : fs_G) (N d : Nat) (u : Nat × Nat) (Q : Option Value → fs_M → Prop) : fs_P :=
  (fi_aload 1 (fi_aload 0 (fi_iload 4 (fi_const (1) (fi_bin (fun x y => x + y) (fi_scr g (fi_v1 g 7 m_X8_rainLost (fi_aload 2 (fi_aload 0 (fi_iload 4 (fi_const (1) (fi_bin (fun x y => x + y) (fi_scr g (fi_v1 g 8 m_X9_rainLost (fi_cmp (fun x y => x = y) (fi_cut g (m_L_law N) d u 2031 Q) (fi_const (0) (fi_zret Q)))))))))))))))))
theorem S_L_law_1743 {g : fs_G} {N d : Nat} {u : Nat × Nat} (hB : u.1 + 1 ≤ 70 + N ∧ u.2 + 6 ≤ 3237 + 6 * N) {Q : Option Value → fs_M → Prop} {ls st : List Value} {M : fs_M} (h : T_L_law_1743 g N d u Q ls st M) : fs_R g (m_L_law N) d u 1743 ls st M Q :=
  (show fs_E g (m_L_law N) d u Q 1743 (T_L_law_1743 g N d u Q) from (fo_aload_n dL_law_1743 rfl (fo_aload_n dL_law_1744 rfl (fo_iload dL_law_1745 (fo_iconst (v := (1)) dL_law_1747 (by decide) (fo_iadd dL_law_1748 (fo_scr dL_law_1749 (fo_v1 mv_X8_rainLost q_842 (Nat.le_of_ble_eq_true rfl) ⟨Nat.le_trans (Nat.le_add_right u.1 1) hB.1, Nat.le_trans (Nat.le_add_right u.2 6) hB.2⟩ rfl dL_law_1750 (fo_aload_n dL_law_1753 rfl (fo_aload_n dL_law_1754 rfl (fo_iload dL_law_1755 (fo_iconst (v := (1)) dL_law_1757 (by decide) (fo_iadd dL_law_1758 (fo_scr dL_law_1759 (fo_v1 mv_X9_rainLost q_1666 (Nat.le_of_ble_eq_true rfl) ⟨Nat.le_trans (Nat.le_add_right u.1 1) hB.1, Nat.le_trans (Nat.le_add_right u.2 6) hB.2⟩ rfl dL_law_1760 (fo_icmp_eq (tgt := 2031) dL_law_1763 (by decide) fo_cut (fo_iconst (v := (0)) dL_law_1766 (by decide) (fo_zret ⟨Nat.le_trans (Nat.le_add_right u.1 1) hB.1, Nat.le_trans (Nat.le_add_right u.2 6) hB.2⟩ rfl dL_law_1767)))))))))))))))))) ls st M h
def T_L_law_1768 (g : fs_G) (N d : Nat) (u : Nat × Nat) (Q : Option Value → fs_M → Prop) : fs_P :=
  (fi_aload 1 (fi_aload 0 (fi_iload 4 (fi_const (1) (fi_bin (fun x y => x + y) (fi_scr g (fi_aload 0 (fi_iload 4 (fi_const (2) (fi_bin (fun x y => x + y) (fi_scr g (fi_v2 g 7 m_X8_rainDay (fi_aload 2 (fi_aload 0 (fi_iload 4 (fi_const (1) (fi_bin (fun x y => x + y) (fi_scr g (fi_aload 0 (fi_iload 4 (fi_const (2) (fi_bin (fun x y => x + y) (fi_scr g (fi_v2 g 8 m_X9_rainDay (fi_cmp (fun x y => x = y) (fi_cut g (m_L_law N) d u 2031 Q) (fi_const (0) (fi_zret Q)))))))))))))))))))))))))))
theorem S_L_law_1768 {g : fs_G} {N d : Nat} {u : Nat × Nat} (hB : u.1 + 1 ≤ 70 + N ∧ u.2 + 6 ≤ 3237 + 6 * N) {Q : Option Value → fs_M → Prop} {ls st : List Value} {M : fs_M} (h : T_L_law_1768 g N d u Q ls st M) : fs_R g (m_L_law N) d u 1768 ls st M Q :=
  (show fs_E g (m_L_law N) d u Q 1768 (T_L_law_1768 g N d u Q) from (fo_aload_n dL_law_1768 rfl (fo_aload_n dL_law_1769 rfl (fo_iload dL_law_1770 (fo_iconst (v := (1)) dL_law_1772 (by decide) (fo_iadd dL_law_1773 (fo_scr dL_law_1774 (fo_aload_n dL_law_1775 rfl (fo_iload dL_law_1776 (fo_iconst (v := (2)) dL_law_1778 (by decide) (fo_iadd dL_law_1779 (fo_scr dL_law_1780 (fo_v2 mv_X8_rainDay q_846 (Nat.le_of_ble_eq_true rfl) ⟨Nat.le_trans (Nat.le_add_right u.1 1) hB.1, Nat.le_trans (Nat.le_add_right u.2 6) hB.2⟩ rfl dL_law_1781 (fo_aload_n dL_law_1784 rfl (fo_aload_n dL_law_1785 rfl (fo_iload dL_law_1786 (fo_iconst (v := (1)) dL_law_1788 (by decide) (fo_iadd dL_law_1789 (fo_scr dL_law_1790 (fo_aload_n dL_law_1791 rfl (fo_iload dL_law_1792 (fo_iconst (v := (2)) dL_law_1794 (by decide) (fo_iadd dL_law_1795 (fo_scr dL_law_1796 (fo_v2 mv_X9_rainDay q_1670 (Nat.le_of_ble_eq_true rfl) ⟨Nat.le_trans (Nat.le_add_right u.1 1) hB.1, Nat.le_trans (Nat.le_add_right u.2 6) hB.2⟩ rfl dL_law_1797 (fo_icmp_eq (tgt := 2031) dL_law_1800 (by decide) fo_cut (fo_iconst (v := (0)) dL_law_1803 (by decide) (fo_zret ⟨Nat.le_trans (Nat.le_add_right u.1 1) hB.1, Nat.le_trans (Nat.le_add_right u.2 6) hB.2⟩ rfl dL_law_1804)))))))))))))))))))))))))))) ls st M h
def T_L_law_1805 (g : fs_G) (N d : Nat) (u : Nat × Nat) (Q : Option Value → fs_M → Prop) : fs_P :=
  (fi_aload 1 (fi_v0 g 7 m_X8_worstRain (fi_aload 2 (fi_v0 g 8 m_X9_worstRain (fi_cmp (fun x y => x = y) (fi_cut g (m_L_law N) d u 2031 Q) (fi_const (0) (fi_zret Q)))))))
theorem S_L_law_1805 {g : fs_G} {N d : Nat} {u : Nat × Nat} (hB : u.1 + 1 ≤ 70 + N ∧ u.2 + 6 ≤ 3237 + 6 * N) {Q : Option Value → fs_M → Prop} {ls st : List Value} {M : fs_M} (h : T_L_law_1805 g N d u Q ls st M) : fs_R g (m_L_law N) d u 1805 ls st M Q :=
  (show fs_E g (m_L_law N) d u Q 1805 (T_L_law_1805 g N d u Q) from (fo_aload_n dL_law_1805 rfl (fo_v0 mv_X8_worstRain q_854 (Nat.le_of_ble_eq_true rfl) ⟨Nat.le_trans (Nat.le_add_right u.1 1) hB.1, Nat.le_trans (Nat.le_add_right u.2 6) hB.2⟩ rfl dL_law_1806 (fo_aload_n dL_law_1809 rfl (fo_v0 mv_X9_worstRain q_1674 (Nat.le_of_ble_eq_true rfl) ⟨Nat.le_trans (Nat.le_add_right u.1 1) hB.1, Nat.le_trans (Nat.le_add_right u.2 6) hB.2⟩ rfl dL_law_1810 (fo_icmp_eq (tgt := 2031) dL_law_1813 (by decide) fo_cut (fo_iconst (v := (0)) dL_law_1816 (by decide) (fo_zret ⟨Nat.le_trans (Nat.le_add_right u.1 1) hB.1, Nat.le_trans (Nat.le_add_right u.2 6) hB.2⟩ rfl dL_law_1817)))))))) ls st M h
def T_L_law_1818 (g : fs_G) (N d : Nat) (u : Nat × Nat) (Q : Option Value → fs_M → Prop) : fs_P :=
  (fi_aload 1 (fi_v0 g 7 m_X8_bestCost (fi_aload 2 (fi_v0 g 8 m_X9_bestCost (fi_cmp (fun x y => x = y) (fi_cut g (m_L_law N) d u 2031 Q) (fi_const (0) (fi_zret Q)))))))
theorem S_L_law_1818 {g : fs_G} {N d : Nat} {u : Nat × Nat} (hB : u.1 + 1 ≤ 70 + N ∧ u.2 + 6 ≤ 3237 + 6 * N) {Q : Option Value → fs_M → Prop} {ls st : List Value} {M : fs_M} (h : T_L_law_1818 g N d u Q ls st M) : fs_R g (m_L_law N) d u 1818 ls st M Q :=
  (show fs_E g (m_L_law N) d u Q 1818 (T_L_law_1818 g N d u Q) from (fo_aload_n dL_law_1818 rfl (fo_v0 mv_X8_bestCost q_858 (Nat.le_of_ble_eq_true rfl) ⟨Nat.le_trans (Nat.le_add_right u.1 1) hB.1, Nat.le_trans (Nat.le_add_right u.2 6) hB.2⟩ rfl dL_law_1819 (fo_aload_n dL_law_1822 rfl (fo_v0 mv_X9_bestCost q_1678 (Nat.le_of_ble_eq_true rfl) ⟨Nat.le_trans (Nat.le_add_right u.1 1) hB.1, Nat.le_trans (Nat.le_add_right u.2 6) hB.2⟩ rfl dL_law_1823 (fo_icmp_eq (tgt := 2031) dL_law_1826 (by decide) fo_cut (fo_iconst (v := (0)) dL_law_1829 (by decide) (fo_zret ⟨Nat.le_trans (Nat.le_add_right u.1 1) hB.1, Nat.le_trans (Nat.le_add_right u.2 6) hB.2⟩ rfl dL_law_1830)))))))) ls st M h
def T_L_law_1831 (g : fs_G) (N d : Nat) (u : Nat × Nat) (Q : Option Value → fs_M → Prop) : fs_P :=
  (fi_aload 1 (fi_aload 0 (fi_iload 4 (fi_const (1) (fi_bin (fun x y => x + y) (fi_scr g (fi_v1 g 7 m_X8_bestOrder (fi_aload 2 (fi_aload 0 (fi_iload 4 (fi_const (1) (fi_bin (fun x y => x + y) (fi_scr g (fi_v1 g 8 m_X9_bestOrder (fi_cmp (fun x y => x = y) (fi_cut g (m_L_law N) d u 2031 Q) (fi_const (0) (fi_zret Q)))))))))))))))))
theorem S_L_law_1831 {g : fs_G} {N d : Nat} {u : Nat × Nat} (hB : u.1 + 1 ≤ 70 + N ∧ u.2 + 6 ≤ 3237 + 6 * N) {Q : Option Value → fs_M → Prop} {ls st : List Value} {M : fs_M} (h : T_L_law_1831 g N d u Q ls st M) : fs_R g (m_L_law N) d u 1831 ls st M Q :=
  (show fs_E g (m_L_law N) d u Q 1831 (T_L_law_1831 g N d u Q) from (fo_aload_n dL_law_1831 rfl (fo_aload_n dL_law_1832 rfl (fo_iload dL_law_1833 (fo_iconst (v := (1)) dL_law_1835 (by decide) (fo_iadd dL_law_1836 (fo_scr dL_law_1837 (fo_v1 mv_X8_bestOrder q_906 (Nat.le_of_ble_eq_true rfl) ⟨Nat.le_trans (Nat.le_add_right u.1 1) hB.1, Nat.le_trans (Nat.le_add_right u.2 6) hB.2⟩ rfl dL_law_1838 (fo_aload_n dL_law_1841 rfl (fo_aload_n dL_law_1842 rfl (fo_iload dL_law_1843 (fo_iconst (v := (1)) dL_law_1845 (by decide) (fo_iadd dL_law_1846 (fo_scr dL_law_1847 (fo_v1 mv_X9_bestOrder q_1694 (Nat.le_of_ble_eq_true rfl) ⟨Nat.le_trans (Nat.le_add_right u.1 1) hB.1, Nat.le_trans (Nat.le_add_right u.2 6) hB.2⟩ rfl dL_law_1848 (fo_icmp_eq (tgt := 2031) dL_law_1851 (by decide) fo_cut (fo_iconst (v := (0)) dL_law_1854 (by decide) (fo_zret ⟨Nat.le_trans (Nat.le_add_right u.1 1) hB.1, Nat.le_trans (Nat.le_add_right u.2 6) hB.2⟩ rfl dL_law_1855)))))))))))))))))) ls st M h
def T_L_law_1856 (g : fs_G) (N d : Nat) (u : Nat × Nat) (Q : Option Value → fs_M → Prop) : fs_P :=
  (fi_aload 1 (fi_aload 0 (fi_iload 4 (fi_const (1) (fi_bin (fun x y => x + y) (fi_scr g (fi_aload 0 (fi_iload 4 (fi_const (2) (fi_bin (fun x y => x + y) (fi_scr g (fi_v2 g 7 m_X8_put (fi_aload 2 (fi_aload 0 (fi_iload 4 (fi_const (1) (fi_bin (fun x y => x + y) (fi_scr g (fi_aload 0 (fi_iload 4 (fi_const (2) (fi_bin (fun x y => x + y) (fi_scr g (fi_v2 g 8 m_X9_put (fi_cmp (fun x y => x = y) (fi_cut g (m_L_law N) d u 2031 Q) (fi_const (0) (fi_zret Q)))))))))))))))))))))))))))
theorem S_L_law_1856 {g : fs_G} {N d : Nat} {u : Nat × Nat} (hB : u.1 + 1 ≤ 70 + N ∧ u.2 + 6 ≤ 3237 + 6 * N) {Q : Option Value → fs_M → Prop} {ls st : List Value} {M : fs_M} (h : T_L_law_1856 g N d u Q ls st M) : fs_R g (m_L_law N) d u 1856 ls st M Q :=
  (show fs_E g (m_L_law N) d u Q 1856 (T_L_law_1856 g N d u Q) from (fo_aload_n dL_law_1856 rfl (fo_aload_n dL_law_1857 rfl (fo_iload dL_law_1858 (fo_iconst (v := (1)) dL_law_1860 (by decide) (fo_iadd dL_law_1861 (fo_scr dL_law_1862 (fo_aload_n dL_law_1863 rfl (fo_iload dL_law_1864 (fo_iconst (v := (2)) dL_law_1866 (by decide) (fo_iadd dL_law_1867 (fo_scr dL_law_1868 (fo_v2 mv_X8_put q_910 (Nat.le_of_ble_eq_true rfl) ⟨Nat.le_trans (Nat.le_add_right u.1 1) hB.1, Nat.le_trans (Nat.le_add_right u.2 6) hB.2⟩ rfl dL_law_1869 (fo_aload_n dL_law_1872 rfl (fo_aload_n dL_law_1873 rfl (fo_iload dL_law_1874 (fo_iconst (v := (1)) dL_law_1876 (by decide) (fo_iadd dL_law_1877 (fo_scr dL_law_1878 (fo_aload_n dL_law_1879 rfl (fo_iload dL_law_1880 (fo_iconst (v := (2)) dL_law_1882 (by decide) (fo_iadd dL_law_1883 (fo_scr dL_law_1884 (fo_v2 mv_X9_put q_1702 (Nat.le_of_ble_eq_true rfl) ⟨Nat.le_trans (Nat.le_add_right u.1 1) hB.1, Nat.le_trans (Nat.le_add_right u.2 6) hB.2⟩ rfl dL_law_1885 (fo_icmp_eq (tgt := 2031) dL_law_1888 (by decide) fo_cut (fo_iconst (v := (0)) dL_law_1891 (by decide) (fo_zret ⟨Nat.le_trans (Nat.le_add_right u.1 1) hB.1, Nat.le_trans (Nat.le_add_right u.2 6) hB.2⟩ rfl dL_law_1892)))))))))))))))))))))))))))) ls st M h
def T_L_law_1893 (g : fs_G) (N d : Nat) (u : Nat × Nat) (Q : Option Value → fs_M → Prop) : fs_P :=
  (fi_aload 1 (fi_aload 0 (fi_iload 4 (fi_const (1) (fi_bin (fun x y => x + y) (fi_scr g (fi_v1 g 7 m_X8_take (fi_aload 2 (fi_aload 0 (fi_iload 4 (fi_const (1) (fi_bin (fun x y => x + y) (fi_scr g (fi_v1 g 8 m_X9_take (fi_cmp (fun x y => x = y) (fi_cut g (m_L_law N) d u 2031 Q) (fi_const (0) (fi_zret Q)))))))))))))))))
theorem S_L_law_1893 {g : fs_G} {N d : Nat} {u : Nat × Nat} (hB : u.1 + 1 ≤ 70 + N ∧ u.2 + 6 ≤ 3237 + 6 * N) {Q : Option Value → fs_M → Prop} {ls st : List Value} {M : fs_M} (h : T_L_law_1893 g N d u Q ls st M) : fs_R g (m_L_law N) d u 1893 ls st M Q :=
  (show fs_E g (m_L_law N) d u Q 1893 (T_L_law_1893 g N d u Q) from (fo_aload_n dL_law_1893 rfl (fo_aload_n dL_law_1894 rfl (fo_iload dL_law_1895 (fo_iconst (v := (1)) dL_law_1897 (by decide) (fo_iadd dL_law_1898 (fo_scr dL_law_1899 (fo_v1 mv_X8_take q_924 (Nat.le_of_ble_eq_true rfl) ⟨Nat.le_trans (Nat.le_add_right u.1 1) hB.1, Nat.le_trans (Nat.le_add_right u.2 6) hB.2⟩ rfl dL_law_1900 (fo_aload_n dL_law_1903 rfl (fo_aload_n dL_law_1904 rfl (fo_iload dL_law_1905 (fo_iconst (v := (1)) dL_law_1907 (by decide) (fo_iadd dL_law_1908 (fo_scr dL_law_1909 (fo_v1 mv_X9_take q_1710 (Nat.le_of_ble_eq_true rfl) ⟨Nat.le_trans (Nat.le_add_right u.1 1) hB.1, Nat.le_trans (Nat.le_add_right u.2 6) hB.2⟩ rfl dL_law_1910 (fo_icmp_eq (tgt := 2031) dL_law_1913 (by decide) fo_cut (fo_iconst (v := (0)) dL_law_1916 (by decide) (fo_zret ⟨Nat.le_trans (Nat.le_add_right u.1 1) hB.1, Nat.le_trans (Nat.le_add_right u.2 6) hB.2⟩ rfl dL_law_1917)))))))))))))))))) ls st M h
def T_L_law_1918 (g : fs_G) (N d : Nat) (u : Nat × Nat) (Q : Option Value → fs_M → Prop) : fs_P :=
  (fi_aload 1 (fi_aload 0 (fi_iload 4 (fi_const (1) (fi_bin (fun x y => x + y) (fi_scr g (fi_aload 0 (fi_iload 4 (fi_const (2) (fi_bin (fun x y => x + y) (fi_scr g (fi_v2 g 7 m_X8_exchange (fi_aload 2 (fi_aload 0 (fi_iload 4 (fi_const (1) (fi_bin (fun x y => x + y) (fi_scr g (fi_aload 0 (fi_iload 4 (fi_const (2) (fi_bin (fun x y => x + y) (fi_scr g (fi_v2 g 8 m_X9_exchange (fi_cmp (fun x y => x = y) (fi_cut g (m_L_law N) d u 2031 Q) (fi_const (0) (fi_zret Q)))))))))))))))))))))))))))
theorem S_L_law_1918 {g : fs_G} {N d : Nat} {u : Nat × Nat} (hB : u.1 + 1 ≤ 70 + N ∧ u.2 + 6 ≤ 3237 + 6 * N) {Q : Option Value → fs_M → Prop} {ls st : List Value} {M : fs_M} (h : T_L_law_1918 g N d u Q ls st M) : fs_R g (m_L_law N) d u 1918 ls st M Q :=
  (show fs_E g (m_L_law N) d u Q 1918 (T_L_law_1918 g N d u Q) from (fo_aload_n dL_law_1918 rfl (fo_aload_n dL_law_1919 rfl (fo_iload dL_law_1920 (fo_iconst (v := (1)) dL_law_1922 (by decide) (fo_iadd dL_law_1923 (fo_scr dL_law_1924 (fo_aload_n dL_law_1925 rfl (fo_iload dL_law_1926 (fo_iconst (v := (2)) dL_law_1928 (by decide) (fo_iadd dL_law_1929 (fo_scr dL_law_1930 (fo_v2 mv_X8_exchange q_928 (Nat.le_of_ble_eq_true rfl) ⟨Nat.le_trans (Nat.le_add_right u.1 1) hB.1, Nat.le_trans (Nat.le_add_right u.2 6) hB.2⟩ rfl dL_law_1931 (fo_aload_n dL_law_1934 rfl (fo_aload_n dL_law_1935 rfl (fo_iload dL_law_1936 (fo_iconst (v := (1)) dL_law_1938 (by decide) (fo_iadd dL_law_1939 (fo_scr dL_law_1940 (fo_aload_n dL_law_1941 rfl (fo_iload dL_law_1942 (fo_iconst (v := (2)) dL_law_1944 (by decide) (fo_iadd dL_law_1945 (fo_scr dL_law_1946 (fo_v2 mv_X9_exchange q_1714 (Nat.le_of_ble_eq_true rfl) ⟨Nat.le_trans (Nat.le_add_right u.1 1) hB.1, Nat.le_trans (Nat.le_add_right u.2 6) hB.2⟩ rfl dL_law_1947 (fo_icmp_eq (tgt := 2031) dL_law_1950 (by decide) fo_cut (fo_iconst (v := (0)) dL_law_1953 (by decide) (fo_zret ⟨Nat.le_trans (Nat.le_add_right u.1 1) hB.1, Nat.le_trans (Nat.le_add_right u.2 6) hB.2⟩ rfl dL_law_1954)))))))))))))))))))))))))))) ls st M h
def T_L_law_1955 (g : fs_G) (N d : Nat) (u : Nat × Nat) (Q : Option Value → fs_M → Prop) : fs_P :=
  (fi_aload 1 (fi_v0 g 7 m_X8_fill (fi_aload 2 (fi_v0 g 8 m_X9_fill (fi_cmp (fun x y => x = y) (fi_cut g (m_L_law N) d u 2031 Q) (fi_const (0) (fi_zret Q)))))))
theorem S_L_law_1955 {g : fs_G} {N d : Nat} {u : Nat × Nat} (hB : u.1 + 1 ≤ 70 + N ∧ u.2 + 6 ≤ 3237 + 6 * N) {Q : Option Value → fs_M → Prop} {ls st : List Value} {M : fs_M} (h : T_L_law_1955 g N d u Q ls st M) : fs_R g (m_L_law N) d u 1955 ls st M Q :=
  (show fs_E g (m_L_law N) d u Q 1955 (T_L_law_1955 g N d u Q) from (fo_aload_n dL_law_1955 rfl (fo_v0 mv_X8_fill q_945 (Nat.le_of_ble_eq_true rfl) ⟨Nat.le_trans (Nat.le_add_right u.1 1) hB.1, Nat.le_trans (Nat.le_add_right u.2 6) hB.2⟩ rfl dL_law_1956 (fo_aload_n dL_law_1959 rfl (fo_v0 mv_X9_fill q_1722 (Nat.le_of_ble_eq_true rfl) ⟨Nat.le_trans (Nat.le_add_right u.1 1) hB.1, Nat.le_trans (Nat.le_add_right u.2 6) hB.2⟩ rfl dL_law_1960 (fo_icmp_eq (tgt := 2031) dL_law_1963 (by decide) fo_cut (fo_iconst (v := (0)) dL_law_1966 (by decide) (fo_zret ⟨Nat.le_trans (Nat.le_add_right u.1 1) hB.1, Nat.le_trans (Nat.le_add_right u.2 6) hB.2⟩ rfl dL_law_1967)))))))) ls st M h
def T_L_law_1968 (g : fs_G) (N d : Nat) (u : Nat × Nat) (Q : Option Value → fs_M → Prop) : fs_P :=
  (fi_aload 1 (fi_v0 g 7 m_X8_useBestOrder (fi_aload 2 (fi_v0 g 8 m_X9_useBestOrder (fi_cmp (fun x y => x = y) (fi_cut g (m_L_law N) d u 2031 Q) (fi_const (0) (fi_zret Q)))))))
theorem S_L_law_1968 {g : fs_G} {N d : Nat} {u : Nat × Nat} (hB : u.1 + 1 ≤ 70 + N ∧ u.2 + 6 ≤ 3237 + 6 * N) {Q : Option Value → fs_M → Prop} {ls st : List Value} {M : fs_M} (h : T_L_law_1968 g N d u Q ls st M) : fs_R g (m_L_law N) d u 1968 ls st M Q :=
  (show fs_E g (m_L_law N) d u Q 1968 (T_L_law_1968 g N d u Q) from (fo_aload_n dL_law_1968 rfl (fo_v0 mv_X8_useBestOrder q_953 (Nat.le_of_ble_eq_true rfl) ⟨Nat.le_trans (Nat.le_add_right u.1 1) hB.1, Nat.le_trans (Nat.le_add_right u.2 6) hB.2⟩ rfl dL_law_1969 (fo_aload_n dL_law_1972 rfl (fo_v0 mv_X9_useBestOrder q_1726 (Nat.le_of_ble_eq_true rfl) ⟨Nat.le_trans (Nat.le_add_right u.1 1) hB.1, Nat.le_trans (Nat.le_add_right u.2 6) hB.2⟩ rfl dL_law_1973 (fo_icmp_eq (tgt := 2031) dL_law_1976 (by decide) fo_cut (fo_iconst (v := (0)) dL_law_1979 (by decide) (fo_zret ⟨Nat.le_trans (Nat.le_add_right u.1 1) hB.1, Nat.le_trans (Nat.le_add_right u.2 6) hB.2⟩ rfl dL_law_1980)))))))) ls st M h
def T_L_law_1981 (g : fs_G) (N d : Nat) (u : Nat × Nat) (Q : Option Value → fs_M → Prop) : fs_P :=
  (fi_aload 1 (fi_aload 0 (fi_iload 4 (fi_const (1) (fi_bin (fun x y => x + y) (fi_scr g (fi_aload 0 (fi_iload 4 (fi_const (2) (fi_bin (fun x y => x + y) (fi_scr g (fi_v2 g 7 m_X8_setSetting (fi_aload 2 (fi_aload 0 (fi_iload 4 (fi_const (1) (fi_bin (fun x y => x + y) (fi_scr g (fi_aload 0 (fi_iload 4 (fi_const (2) (fi_bin (fun x y => x + y) (fi_scr g (fi_v2 g 8 m_X9_setSetting (fi_cmp (fun x y => x = y) (fi_cut g (m_L_law N) d u 2031 Q) (fi_const (0) (fi_zret Q)))))))))))))))))))))))))))
theorem S_L_law_1981 {g : fs_G} {N d : Nat} {u : Nat × Nat} (hB : u.1 + 1 ≤ 70 + N ∧ u.2 + 6 ≤ 3237 + 6 * N) {Q : Option Value → fs_M → Prop} {ls st : List Value} {M : fs_M} (h : T_L_law_1981 g N d u Q ls st M) : fs_R g (m_L_law N) d u 1981 ls st M Q :=
  (show fs_E g (m_L_law N) d u Q 1981 (T_L_law_1981 g N d u Q) from (fo_aload_n dL_law_1981 rfl (fo_aload_n dL_law_1982 rfl (fo_iload dL_law_1983 (fo_iconst (v := (1)) dL_law_1985 (by decide) (fo_iadd dL_law_1986 (fo_scr dL_law_1987 (fo_aload_n dL_law_1988 rfl (fo_iload dL_law_1989 (fo_iconst (v := (2)) dL_law_1991 (by decide) (fo_iadd dL_law_1992 (fo_scr dL_law_1993 (fo_v2 mv_X8_setSetting q_961 (Nat.le_of_ble_eq_true rfl) ⟨Nat.le_trans (Nat.le_add_right u.1 1) hB.1, Nat.le_trans (Nat.le_add_right u.2 6) hB.2⟩ rfl dL_law_1994 (fo_aload_n dL_law_1997 rfl (fo_aload_n dL_law_1998 rfl (fo_iload dL_law_1999 (fo_iconst (v := (1)) dL_law_2001 (by decide) (fo_iadd dL_law_2002 (fo_scr dL_law_2003 (fo_aload_n dL_law_2004 rfl (fo_iload dL_law_2005 (fo_iconst (v := (2)) dL_law_2007 (by decide) (fo_iadd dL_law_2008 (fo_scr dL_law_2009 (fo_v2 mv_X9_setSetting q_1730 (Nat.le_of_ble_eq_true rfl) ⟨Nat.le_trans (Nat.le_add_right u.1 1) hB.1, Nat.le_trans (Nat.le_add_right u.2 6) hB.2⟩ rfl dL_law_2010 (fo_icmp_eq (tgt := 2031) dL_law_2013 (by decide) fo_cut (fo_iconst (v := (0)) dL_law_2016 (by decide) (fo_zret ⟨Nat.le_trans (Nat.le_add_right u.1 1) hB.1, Nat.le_trans (Nat.le_add_right u.2 6) hB.2⟩ rfl dL_law_2017)))))))))))))))))))))))))))) ls st M h
def T_L_law_2018 (g : fs_G) (N d : Nat) (u : Nat × Nat) (Q : Option Value → fs_M → Prop) : fs_P :=
  (fi_aload 1 (fi_v0 g 7 m_X8_undo (fi_aload 2 (fi_v0 g 8 m_X9_undo (fi_cmp (fun x y => x = y) (fi_cut g (m_L_law N) d u 2031 Q) (fi_const (0) (fi_zret Q)))))))
theorem S_L_law_2018 {g : fs_G} {N d : Nat} {u : Nat × Nat} (hB : u.1 + 1 ≤ 70 + N ∧ u.2 + 6 ≤ 3237 + 6 * N) {Q : Option Value → fs_M → Prop} {ls st : List Value} {M : fs_M} (h : T_L_law_2018 g N d u Q ls st M) : fs_R g (m_L_law N) d u 2018 ls st M Q :=
  (show fs_E g (m_L_law N) d u Q 2018 (T_L_law_2018 g N d u Q) from (fo_aload_n dL_law_2018 rfl (fo_v0 mv_X8_undo q_975 (Nat.le_of_ble_eq_true rfl) ⟨Nat.le_trans (Nat.le_add_right u.1 1) hB.1, Nat.le_trans (Nat.le_add_right u.2 6) hB.2⟩ rfl dL_law_2019 (fo_aload_n dL_law_2022 rfl (fo_v0 mv_X9_undo q_1698 (Nat.le_of_ble_eq_true rfl) ⟨Nat.le_trans (Nat.le_add_right u.1 1) hB.1, Nat.le_trans (Nat.le_add_right u.2 6) hB.2⟩ rfl dL_law_2023 (fo_icmp_eq (tgt := 2031) dL_law_2026 (by decide) fo_cut (fo_iconst (v := (0)) dL_law_2029 (by decide) (fo_zret ⟨Nat.le_trans (Nat.le_add_right u.1 1) hB.1, Nat.le_trans (Nat.le_add_right u.2 6) hB.2⟩ rfl dL_law_2030)))))))) ls st M h
def T_L_law_2031 (g : fs_G) (N d : Nat) (u : Nat × Nat) (Q : Option Value → fs_M → Prop) : fs_P :=
  (fi_iinc 4 (6) (fi_cut g (m_L_law N) d u 23 Q))
theorem S_L_law_2031 {g : fs_G} {N d : Nat} {u : Nat × Nat} (hB : u.1 + 1 ≤ 70 + N ∧ u.2 + 6 ≤ 3237 + 6 * N) {Q : Option Value → fs_M → Prop} {ls st : List Value} {M : fs_M} (h : T_L_law_2031 g N d u Q ls st M) : fs_R g (m_L_law N) d u 2031 ls st M Q :=
  (show fs_E g (m_L_law N) d u Q 2031 (T_L_law_2031 g N d u Q) from (fo_iinc (v := (6)) dL_law_2031 (by decide) (Nat.le_of_ble_eq_true rfl) (fo_goto (tgt := 23) dL_law_2034 (by decide) fo_cut))) ls st M h
