theorem kb_6 : (Int8.ofInt (6)).toInt32 = (6 : Int32) := by decide +kernel
theorem ki_m1 : Int32.ofInt (-1) = (-1 : Int32) := by decide +kernel
theorem kb_60 : (Int8.ofInt (60)).toInt32 = (60 : Int32) := by decide +kernel
theorem ki_1 : Int32.ofInt (1) = (1 : Int32) := by decide +kernel
theorem kb_20 : (Int8.ofInt (20)).toInt32 = (20 : Int32) := by decide +kernel
theorem ki_0 : Int32.ofInt (0) = (0 : Int32) := by decide +kernel
theorem ki_5 : Int32.ofInt (5) = (5 : Int32) := by decide +kernel
theorem kt_60 : (60 : Int32).toInt = 60 := by decide +kernel
theorem kt_62 : (62 : Int32).toInt = 62 := by decide +kernel
theorem ki_3 : Int32.ofInt (3) = (3 : Int32) := by decide +kernel
theorem ki_4 : Int32.ofInt (4) = (4 : Int32) := by decide +kernel
theorem kb_24 : (Int8.ofInt (24)).toInt32 = (24 : Int32) := by decide +kernel
theorem kb_7 : (Int8.ofInt (7)).toInt32 = (7 : Int32) := by decide +kernel
theorem kb_12 : (Int8.ofInt (12)).toInt32 = (12 : Int32) := by decide +kernel
theorem kb_10 : (Int8.ofInt (10)).toInt32 = (10 : Int32) := by decide +kernel
theorem kt_10 : (10 : Int32).toInt = 10 := by decide +kernel
theorem kt_18 : (18 : Int32).toInt = 18 := by decide +kernel
theorem ki_2 : Int32.ofInt (2) = (2 : Int32) := by decide +kernel
theorem ks_9999 : (Int16.ofInt (9999)).toInt32 = (9999 : Int32) := by decide +kernel
theorem ks_10711 : (Int16.ofInt (10711)).toInt32 = (10711 : Int32) := by decide +kernel
theorem ks_2971 : (Int16.ofInt (2971)).toInt32 = (2971 : Int32) := by decide +kernel
theorem kb_8 : (Int8.ofInt (8)).toInt32 = (8 : Int32) := by decide +kernel
theorem kt_12 : (12 : Int32).toInt = 12 := by decide +kernel
theorem kt_13 : (13 : Int32).toInt = 13 := by decide +kernel
theorem kt_14 : (14 : Int32).toInt = 14 := by decide +kernel
theorem kt_15 : (15 : Int32).toInt = 15 := by decide +kernel
theorem kt_16 : (16 : Int32).toInt = 16 := by decide +kernel
theorem kt_17 : (17 : Int32).toInt = 17 := by decide +kernel
theorem kt_19 : (19 : Int32).toInt = 19 := by decide +kernel
theorem kt_20 : (20 : Int32).toInt = 20 := by decide +kernel
theorem kt_21 : (21 : Int32).toInt = 21 := by decide +kernel
theorem kt_22 : (22 : Int32).toInt = 22 := by decide +kernel
theorem ks_300 : (Int16.ofInt (300)).toInt32 = (300 : Int32) := by decide +kernel
theorem kb_21 : (Int8.ofInt (21)).toInt32 = (21 : Int32) := by decide +kernel
theorem kb_49 : (Int8.ofInt (49)).toInt32 = (49 : Int32) := by decide +kernel
theorem kb_100 : (Int8.ofInt (100)).toInt32 = (100 : Int32) := by decide +kernel
theorem kb_97 : (Int8.ofInt (97)).toInt32 = (97 : Int32) := by decide +kernel
theorem kb_32 : (Int8.ofInt (32)).toInt32 = (32 : Int32) := by decide +kernel
theorem kb_122 : (Int8.ofInt (122)).toInt32 = (122 : Int32) := by decide +kernel
theorem kb_57 : (Int8.ofInt (57)).toInt32 = (57 : Int32) := by decide +kernel
theorem kb_48 : (Int8.ofInt (48)).toInt32 = (48 : Int32) := by decide +kernel
theorem kb_23 : (Int8.ofInt (23)).toInt32 = (23 : Int32) := by decide +kernel
theorem kb_61 : (Int8.ofInt (61)).toInt32 = (61 : Int32) := by decide +kernel
theorem kb_62 : (Int8.ofInt (62)).toInt32 = (62 : Int32) := by decide +kernel
theorem kb_59 : (Int8.ofInt (59)).toInt32 = (59 : Int32) := by decide +kernel
theorem kb_22 : (Int8.ofInt (22)).toInt32 = (22 : Int32) := by decide +kernel
theorem kb_17 : (Int8.ofInt (17)).toInt32 = (17 : Int32) := by decide +kernel
theorem kb_99 : (Int8.ofInt (99)).toInt32 = (99 : Int32) := by decide +kernel
theorem kb_18 : (Int8.ofInt (18)).toInt32 = (18 : Int32) := by decide +kernel
theorem kb_19 : (Int8.ofInt (19)).toInt32 = (19 : Int32) := by decide +kernel
theorem kb_30 : (Int8.ofInt (30)).toInt32 = (30 : Int32) := by decide +kernel
theorem kt_0 : (0 : Int32).toInt = 0 := by decide +kernel
theorem kt_1 : (1 : Int32).toInt = 1 := by decide +kernel
theorem kt_2 : (2 : Int32).toInt = 2 := by decide +kernel
theorem ks_900 : (Int16.ofInt (900)).toInt32 = (900 : Int32) := by decide +kernel
theorem kb_11 : (Int8.ofInt (11)).toInt32 = (11 : Int32) := by decide +kernel
theorem kb_9 : (Int8.ofInt (9)).toInt32 = (9 : Int32) := by decide +kernel
theorem kt_3 : (3 : Int32).toInt = 3 := by decide +kernel
theorem kt_4 : (4 : Int32).toInt = 4 := by decide +kernel
theorem kt_5 : (5 : Int32).toInt = 5 := by decide +kernel
theorem kt_6 : (6 : Int32).toInt = 6 := by decide +kernel
theorem kt_7 : (7 : Int32).toInt = 7 := by decide +kernel
theorem ki_m8 : Int32.ofInt (-8) = (-8 : Int32) := by decide +kernel
theorem kt_8 : (8 : Int32).toInt = 8 := by decide +kernel
theorem kt_9 : (9 : Int32).toInt = 9 := by decide +kernel
theorem kt_11 : (11 : Int32).toInt = 11 := by decide +kernel
theorem kb_50 : (Int8.ofInt (50)).toInt32 = (50 : Int32) := by decide +kernel
theorem ks_255 : (Int16.ofInt (255)).toInt32 = (255 : Int32) := by decide +kernel
theorem kb_115 : (Int8.ofInt (115)).toInt32 = (115 : Int32) := by decide +kernel
theorem kb_107 : (Int8.ofInt (107)).toInt32 = (107 : Int32) := by decide +kernel
theorem kb_110 : (Int8.ofInt (110)).toInt32 = (110 : Int32) := by decide +kernel
theorem kb_114 : (Int8.ofInt (114)).toInt32 = (114 : Int32) := by decide +kernel
theorem kb_116 : (Int8.ofInt (116)).toInt32 = (116 : Int32) := by decide +kernel
theorem kb_105 : (Int8.ofInt (105)).toInt32 = (105 : Int32) := by decide +kernel
theorem kb_117 : (Int8.ofInt (117)).toInt32 = (117 : Int32) := by decide +kernel
theorem kb_101 : (Int8.ofInt (101)).toInt32 = (101 : Int32) := by decide +kernel
theorem kb_119 : (Int8.ofInt (119)).toInt32 = (119 : Int32) := by decide +kernel
theorem kb_108 : (Int8.ofInt (108)).toInt32 = (108 : Int32) := by decide +kernel
theorem kb_111 : (Int8.ofInt (111)).toInt32 = (111 : Int32) := by decide +kernel
theorem kb_102 : (Int8.ofInt (102)).toInt32 = (102 : Int32) := by decide +kernel
theorem kb_104 : (Int8.ofInt (104)).toInt32 = (104 : Int32) := by decide +kernel
theorem kb_103 : (Int8.ofInt (103)).toInt32 = (103 : Int32) := by decide +kernel
theorem kb_112 : (Int8.ofInt (112)).toInt32 = (112 : Int32) := by decide +kernel
theorem kb_121 : (Int8.ofInt (121)).toInt32 = (121 : Int32) := by decide +kernel
theorem kb_118 : (Int8.ofInt (118)).toInt32 = (118 : Int32) := by decide +kernel
theorem kb_109 : (Int8.ofInt (109)).toInt32 = (109 : Int32) := by decide +kernel
theorem ks_442 : (Int16.ofInt (442)).toInt32 = (442 : Int32) := by decide +kernel
theorem kb_40 : (Int8.ofInt (40)).toInt32 = (40 : Int32) := by decide +kernel
theorem ks_1768 : (Int16.ofInt (1768)).toInt32 = (1768 : Int32) := by decide +kernel
theorem ks_1769 : (Int16.ofInt (1769)).toInt32 = (1769 : Int32) := by decide +kernel
theorem ks_1775 : (Int16.ofInt (1775)).toInt32 = (1775 : Int32) := by decide +kernel
theorem ks_1772 : (Int16.ofInt (1772)).toInt32 = (1772 : Int32) := by decide +kernel
theorem ks_1788 : (Int16.ofInt (1788)).toInt32 = (1788 : Int32) := by decide +kernel
theorem ks_1782 : (Int16.ofInt (1782)).toInt32 = (1782 : Int32) := by decide +kernel
theorem kb_25 : (Int8.ofInt (25)).toInt32 = (25 : Int32) := by decide +kernel
theorem ks_1776 : (Int16.ofInt (1776)).toInt32 = (1776 : Int32) := by decide +kernel
theorem ks_1860 : (Int16.ofInt (1860)).toInt32 = (1860 : Int32) := by decide +kernel
theorem ks_1773 : (Int16.ofInt (1773)).toInt32 = (1773 : Int32) := by decide +kernel
theorem ks_1908 : (Int16.ofInt (1908)).toInt32 = (1908 : Int32) := by decide +kernel
theorem ks_1940 : (Int16.ofInt (1940)).toInt32 = (1940 : Int32) := by decide +kernel
theorem ks_172 : (Int16.ofInt (172)).toInt32 = (172 : Int32) := by decide +kernel
theorem ks_171 : (Int16.ofInt (171)).toInt32 = (171 : Int32) := by decide +kernel
theorem ks_170 : (Int16.ofInt (170)).toInt32 = (170 : Int32) := by decide +kernel
theorem ks_164 : (Int16.ofInt (164)).toInt32 = (164 : Int32) := by decide +kernel
theorem kb_13 : (Int8.ofInt (13)).toInt32 = (13 : Int32) := by decide +kernel
theorem kb_14 : (Int8.ofInt (14)).toInt32 = (14 : Int32) := by decide +kernel
theorem kb_92 : (Int8.ofInt (92)).toInt32 = (92 : Int32) := by decide +kernel
theorem ks_140 : (Int16.ofInt (140)).toInt32 = (140 : Int32) := by decide +kernel
theorem ks_152 : (Int16.ofInt (152)).toInt32 = (152 : Int32) := by decide +kernel
theorem ks_10000 : (Int16.ofInt (10000)).toInt32 = (10000 : Int32) := by decide +kernel
theorem ki_6 : Int32.ofInt (6) = (6 : Int32) := by decide +kernel
theorem kt_23 : (23 : Int32).toInt = 23 := by decide +kernel
theorem kt_24 : (24 : Int32).toInt = 24 := by decide +kernel
theorem kt_25 : (25 : Int32).toInt = 25 := by decide +kernel
theorem kt_26 : (26 : Int32).toInt = 26 := by decide +kernel
theorem kt_27 : (27 : Int32).toInt = 27 := by decide +kernel
theorem kt_28 : (28 : Int32).toInt = 28 := by decide +kernel
theorem kt_29 : (29 : Int32).toInt = 29 := by decide +kernel
theorem kt_30 : (30 : Int32).toInt = 30 := by decide +kernel
theorem kt_31 : (31 : Int32).toInt = 31 := by decide +kernel
theorem kt_32 : (32 : Int32).toInt = 32 := by decide +kernel
theorem kt_33 : (33 : Int32).toInt = 33 := by decide +kernel
theorem kt_34 : (34 : Int32).toInt = 34 := by decide +kernel
theorem kt_35 : (35 : Int32).toInt = 35 := by decide +kernel
theorem kt_36 : (36 : Int32).toInt = 36 := by decide +kernel
theorem kt_37 : (37 : Int32).toInt = 37 := by decide +kernel
theorem kt_38 : (38 : Int32).toInt = 38 := by decide +kernel
theorem kt_39 : (39 : Int32).toInt = 39 := by decide +kernel
theorem kt_40 : (40 : Int32).toInt = 40 := by decide +kernel
theorem kt_41 : (41 : Int32).toInt = 41 := by decide +kernel
theorem kt_42 : (42 : Int32).toInt = 42 := by decide +kernel
theorem kt_43 : (43 : Int32).toInt = 43 := by decide +kernel
theorem kt_44 : (44 : Int32).toInt = 44 := by decide +kernel
theorem kt_45 : (45 : Int32).toInt = 45 := by decide +kernel
theorem kt_46 : (46 : Int32).toInt = 46 := by decide +kernel
theorem kt_47 : (47 : Int32).toInt = 47 := by decide +kernel
theorem kt_48 : (48 : Int32).toInt = 48 := by decide +kernel
theorem kt_49 : (49 : Int32).toInt = 49 := by decide +kernel
theorem kt_50 : (50 : Int32).toInt = 50 := by decide +kernel
theorem kt_51 : (51 : Int32).toInt = 51 := by decide +kernel
theorem kt_52 : (52 : Int32).toInt = 52 := by decide +kernel
theorem kt_53 : (53 : Int32).toInt = 53 := by decide +kernel
theorem kb_63 : (Int8.ofInt (63)).toInt32 = (63 : Int32) := by decide +kernel
theorem wd_475 : Cond.fieldLink RX4 11 RX4 "code" "[I" ∈ am_TB := List.mem_filter.mpr ⟨List.mem_of_getElem? (i := 475) (by decide +kernel), by decide +kernel⟩
theorem wd_550 : Cond.fieldLink RX0 11 RX0 "rounds" "[I" ∈ am_TB := List.mem_filter.mpr ⟨List.mem_of_getElem? (i := 550) (by decide +kernel), by decide +kernel⟩
theorem wd_1475 : Cond.methodLinkNest RX0 53 yX4_part "WaterPatience" ∈ am_NB := List.mem_filter.mpr ⟨List.mem_of_getElem? (i := 1475) (by decide +kernel), rfl⟩
theorem wd_1478 : Cond.code yX4_part cX4_part 3 (some .int) ∈ am_TB := List.mem_filter.mpr ⟨List.mem_of_getElem? (i := 1478) (by decide +kernel), by decide +kernel⟩
theorem wd_229 : Cond.initialized RX4 ∈ am_TB := List.mem_filter.mpr ⟨List.mem_of_getElem? (i := 229) (by decide +kernel), by decide +kernel⟩
theorem wd_1477 : Cond.instanceMethod yX4_part ∈ am_TB := List.mem_filter.mpr ⟨List.mem_of_getElem? (i := 1477) (by decide +kernel), by decide +kernel⟩
theorem wd_110 : Cond.selects RX4 yX4_part yX4_part ∈ am_TB := List.mem_filter.mpr ⟨List.mem_of_getElem? (i := 110) (by decide +kernel), by decide +kernel⟩
theorem wd_423 : Cond.fieldLink RX6 40 RX6 "red" "I" ∈ am_TB := List.mem_filter.mpr ⟨List.mem_of_getElem? (i := 423) (by decide +kernel), by decide +kernel⟩
theorem wd_403 : Cond.fieldLink RX6 15 RX6 "tall" "[I" ∈ am_TB := List.mem_filter.mpr ⟨List.mem_of_getElem? (i := 403) (by decide +kernel), by decide +kernel⟩
theorem wd_402 : Cond.fieldLink RX6 9 RX6 "lying" "[I" ∈ am_TB := List.mem_filter.mpr ⟨List.mem_of_getElem? (i := 402) (by decide +kernel), by decide +kernel⟩
theorem wd_426 : Cond.fieldLink RX6 43 RX6 "law" "I" ∈ am_TB := List.mem_filter.mpr ⟨List.mem_of_getElem? (i := 426) (by decide +kernel), by decide +kernel⟩
theorem wd_1133 : Cond.methodLinkNest RX6 90 yX10_suitOf "WaterPatience" ∈ am_NB := List.mem_filter.mpr ⟨List.mem_of_getElem? (i := 1133) (by decide +kernel), rfl⟩
theorem wd_1135 : Cond.code yX10_suitOf cX10_suitOf 1 (some .int) ∈ am_TB := List.mem_filter.mpr ⟨List.mem_of_getElem? (i := 1135) (by decide +kernel), by decide +kernel⟩
theorem wd_219 : Cond.initialized RX10 ∈ am_TB := List.mem_filter.mpr ⟨List.mem_of_getElem? (i := 219) (by decide +kernel), by decide +kernel⟩
theorem wd_1134 : Cond.static yX10_suitOf ∈ am_TB := List.mem_filter.mpr ⟨List.mem_of_getElem? (i := 1134) (by decide +kernel), by decide +kernel⟩
theorem wd_1136 : Cond.methodLink RX6 96 yX6_isRed ∈ am_TB := List.mem_filter.mpr ⟨List.mem_of_getElem? (i := 1136) (by decide +kernel), by decide +kernel⟩
theorem wd_1139 : Cond.code yX6_isRed cX6_isRed 2 (some .boolean) ∈ am_TB := List.mem_filter.mpr ⟨List.mem_of_getElem? (i := 1139) (by decide +kernel), by decide +kernel⟩
theorem wd_228 : Cond.initialized RX6 ∈ am_TB := List.mem_filter.mpr ⟨List.mem_of_getElem? (i := 228) (by decide +kernel), by decide +kernel⟩
theorem wd_1138 : Cond.instanceMethod yX6_isRed ∈ am_TB := List.mem_filter.mpr ⟨List.mem_of_getElem? (i := 1138) (by decide +kernel), by decide +kernel⟩
theorem wd_70 : Cond.selects RX6 yX6_isRed yX6_isRed ∈ am_TB := List.mem_filter.mpr ⟨List.mem_of_getElem? (i := 70) (by decide +kernel), by decide +kernel⟩
theorem wd_1130 : Cond.methodLinkNest RX6 93 yX10_rankOf "WaterPatience" ∈ am_NB := List.mem_filter.mpr ⟨List.mem_of_getElem? (i := 1130) (by decide +kernel), rfl⟩
theorem wd_1132 : Cond.code yX10_rankOf cX10_rankOf 1 (some .int) ∈ am_TB := List.mem_filter.mpr ⟨List.mem_of_getElem? (i := 1132) (by decide +kernel), by decide +kernel⟩
theorem wd_1131 : Cond.static yX10_rankOf ∈ am_TB := List.mem_filter.mpr ⟨List.mem_of_getElem? (i := 1131) (by decide +kernel), by decide +kernel⟩
theorem wd_1124 : Cond.methodLink RX6 78 yX6_topCard ∈ am_TB := List.mem_filter.mpr ⟨List.mem_of_getElem? (i := 1124) (by decide +kernel), by decide +kernel⟩
theorem wd_1074 : Cond.code yX6_topCard cX6_topCard 2 (some .int) ∈ am_TB := List.mem_filter.mpr ⟨List.mem_of_getElem? (i := 1074) (by decide +kernel), by decide +kernel⟩
theorem wd_1073 : Cond.instanceMethod yX6_topCard ∈ am_TB := List.mem_filter.mpr ⟨List.mem_of_getElem? (i := 1073) (by decide +kernel), by decide +kernel⟩
theorem wd_61 : Cond.selects RX6 yX6_topCard yX6_topCard ∈ am_TB := List.mem_filter.mpr ⟨List.mem_of_getElem? (i := 61) (by decide +kernel), by decide +kernel⟩
theorem wd_433 : Cond.fieldLink RX6 49 RX6 "rows" "I" ∈ am_TB := List.mem_filter.mpr ⟨List.mem_of_getElem? (i := 433) (by decide +kernel), by decide +kernel⟩
theorem wd_410 : Cond.fieldLink RX6 21 RX6 "home" "[I" ∈ am_TB := List.mem_filter.mpr ⟨List.mem_of_getElem? (i := 410) (by decide +kernel), by decide +kernel⟩
theorem wd_1126 : Cond.methodLink RX6 86 yX6_bears ∈ am_TB := List.mem_filter.mpr ⟨List.mem_of_getElem? (i := 1126) (by decide +kernel), by decide +kernel⟩
theorem wd_1129 : Cond.code yX6_bears cX6_bears 4 (some .boolean) ∈ am_TB := List.mem_filter.mpr ⟨List.mem_of_getElem? (i := 1129) (by decide +kernel), by decide +kernel⟩
theorem wd_1128 : Cond.instanceMethod yX6_bears ∈ am_TB := List.mem_filter.mpr ⟨List.mem_of_getElem? (i := 1128) (by decide +kernel), by decide +kernel⟩
theorem wd_69 : Cond.selects RX6 yX6_bears yX6_bears ∈ am_TB := List.mem_filter.mpr ⟨List.mem_of_getElem? (i := 69) (by decide +kernel), by decide +kernel⟩
theorem wd_1125 : Cond.methodLink RX6 82 yX6_isTarget ∈ am_TB := List.mem_filter.mpr ⟨List.mem_of_getElem? (i := 1125) (by decide +kernel), by decide +kernel⟩
theorem wd_1119 : Cond.code yX6_isTarget cX6_isTarget 2 (some .boolean) ∈ am_TB := List.mem_filter.mpr ⟨List.mem_of_getElem? (i := 1119) (by decide +kernel), by decide +kernel⟩
theorem wd_1118 : Cond.instanceMethod yX6_isTarget ∈ am_TB := List.mem_filter.mpr ⟨List.mem_of_getElem? (i := 1118) (by decide +kernel), by decide +kernel⟩
theorem wd_67 : Cond.selects RX6 yX6_isTarget yX6_isTarget ∈ am_TB := List.mem_filter.mpr ⟨List.mem_of_getElem? (i := 67) (by decide +kernel), by decide +kernel⟩
theorem wd_1265 : Cond.methodLink RX6 109 yX6_allows ∈ am_TB := List.mem_filter.mpr ⟨List.mem_of_getElem? (i := 1265) (by decide +kernel), by decide +kernel⟩
theorem wd_1123 : Cond.code yX6_allows cX6_allows 5 (some .boolean) ∈ am_TB := List.mem_filter.mpr ⟨List.mem_of_getElem? (i := 1123) (by decide +kernel), by decide +kernel⟩
theorem wd_1122 : Cond.instanceMethod yX6_allows ∈ am_TB := List.mem_filter.mpr ⟨List.mem_of_getElem? (i := 1122) (by decide +kernel), by decide +kernel⟩
theorem wd_68 : Cond.selects RX6 yX6_allows yX6_allows ∈ am_TB := List.mem_filter.mpr ⟨List.mem_of_getElem? (i := 68) (by decide +kernel), by decide +kernel⟩
theorem wd_498 : Cond.fieldLinkNest RX0 43 RX8 "plan" "LWaterPatience$Seasons;" "WaterPatience" ∈ am_NB := List.mem_filter.mpr ⟨List.mem_of_getElem? (i := 498) (by decide +kernel), rfl⟩
theorem wd_495 : Cond.fieldLinkNest RX0 80 RX8 "table" "LWaterPatience$Table;" "WaterPatience" ∈ am_NB := List.mem_filter.mpr ⟨List.mem_of_getElem? (i := 495) (by decide +kernel), rfl⟩
theorem wd_412 : Cond.fieldLinkNest RX0 134 RX6 "home" "[I" "WaterPatience" ∈ am_NB := List.mem_filter.mpr ⟨List.mem_of_getElem? (i := 412) (by decide +kernel), rfl⟩
theorem wd_513 : Cond.fieldLinkNest RX0 141 RX8 "water" "[I" "WaterPatience" ∈ am_NB := List.mem_filter.mpr ⟨List.mem_of_getElem? (i := 513) (by decide +kernel), rfl⟩
theorem wd_551 : Cond.fieldLink RX0 17 RX0 "moveList" "[I" ∈ am_TB := List.mem_filter.mpr ⟨List.mem_of_getElem? (i := 551) (by decide +kernel), by decide +kernel⟩
theorem wd_1494 : Cond.methodLinkNest RX0 126 yX6_listMoves "WaterPatience" ∈ am_NB := List.mem_filter.mpr ⟨List.mem_of_getElem? (i := 1494) (by decide +kernel), rfl⟩
theorem wd_1264 : Cond.code yX6_listMoves cX6_listMoves 7 (some .int) ∈ am_TB := List.mem_filter.mpr ⟨List.mem_of_getElem? (i := 1264) (by decide +kernel), by decide +kernel⟩
theorem wd_1263 : Cond.instanceMethod yX6_listMoves ∈ am_TB := List.mem_filter.mpr ⟨List.mem_of_getElem? (i := 1263) (by decide +kernel), by decide +kernel⟩
theorem wd_88 : Cond.selects RX6 yX6_listMoves yX6_listMoves ∈ am_TB := List.mem_filter.mpr ⟨List.mem_of_getElem? (i := 88) (by decide +kernel), by decide +kernel⟩
theorem wd_1491 : Cond.methodLink RX0 137 yX0_compares ∈ am_TB := List.mem_filter.mpr ⟨List.mem_of_getElem? (i := 1491) (by decide +kernel), by decide +kernel⟩
theorem wd_1493 : Cond.code yX0_compares cX0_compares 4 (some .boolean) ∈ am_TB := List.mem_filter.mpr ⟨List.mem_of_getElem? (i := 1493) (by decide +kernel), by decide +kernel⟩
theorem wd_230 : Cond.initialized RX0 ∈ am_TB := List.mem_filter.mpr ⟨List.mem_of_getElem? (i := 230) (by decide +kernel), by decide +kernel⟩
theorem wd_1492 : Cond.static yX0_compares ∈ am_TB := List.mem_filter.mpr ⟨List.mem_of_getElem? (i := 1492) (by decide +kernel), by decide +kernel⟩
theorem wd_511 : Cond.fieldLink RX8 39 RX8 "water" "[I" ∈ am_TB := List.mem_filter.mpr ⟨List.mem_of_getElem? (i := 511) (by decide +kernel), by decide +kernel⟩
theorem wd_518 : Cond.fieldLink RX8 45 RX8 "fate" "[I" ∈ am_TB := List.mem_filter.mpr ⟨List.mem_of_getElem? (i := 518) (by decide +kernel), by decide +kernel⟩
theorem wd_505 : Cond.fieldLink RX8 56 RX8 "today" "I" ∈ am_TB := List.mem_filter.mpr ⟨List.mem_of_getElem? (i := 505) (by decide +kernel), by decide +kernel⟩
theorem wd_502 : Cond.fieldLink RX8 52 RX8 "fields" "I" ∈ am_TB := List.mem_filter.mpr ⟨List.mem_of_getElem? (i := 502) (by decide +kernel), by decide +kernel⟩
theorem wd_509 : Cond.fieldLink RX8 36 RX8 "dries" "[I" ∈ am_TB := List.mem_filter.mpr ⟨List.mem_of_getElem? (i := 509) (by decide +kernel), by decide +kernel⟩
theorem wd_1214 : Cond.methodLink RX8 109 yX8_dry ∈ am_TB := List.mem_filter.mpr ⟨List.mem_of_getElem? (i := 1214) (by decide +kernel), by decide +kernel⟩
theorem wd_1217 : Cond.code yX8_dry cX8_dry 3 none ∈ am_TB := List.mem_filter.mpr ⟨List.mem_of_getElem? (i := 1217) (by decide +kernel), by decide +kernel⟩
theorem wd_227 : Cond.initialized RX8 ∈ am_TB := List.mem_filter.mpr ⟨List.mem_of_getElem? (i := 227) (by decide +kernel), by decide +kernel⟩
theorem wd_1216 : Cond.instanceMethod yX8_dry ∈ am_TB := List.mem_filter.mpr ⟨List.mem_of_getElem? (i := 1216) (by decide +kernel), by decide +kernel⟩
theorem wd_85 : Cond.selects RX8 yX8_dry yX8_dry ∈ am_TB := List.mem_filter.mpr ⟨List.mem_of_getElem? (i := 85) (by decide +kernel), by decide +kernel⟩
theorem wd_557 : Cond.fieldLink RX0 30 RX0 "days" "I" ∈ am_TB := List.mem_filter.mpr ⟨List.mem_of_getElem? (i := 557) (by decide +kernel), by decide +kernel⟩
theorem wd_1503 : Cond.methodLinkNest RX0 95 yX8_passDays "WaterPatience" ∈ am_NB := List.mem_filter.mpr ⟨List.mem_of_getElem? (i := 1503) (by decide +kernel), rfl⟩
theorem wd_1213 : Cond.code yX8_passDays cX8_passDays 3 (some .boolean) ∈ am_TB := List.mem_filter.mpr ⟨List.mem_of_getElem? (i := 1213) (by decide +kernel), by decide +kernel⟩
theorem wd_1212 : Cond.instanceMethod yX8_passDays ∈ am_TB := List.mem_filter.mpr ⟨List.mem_of_getElem? (i := 1212) (by decide +kernel), by decide +kernel⟩
theorem wd_84 : Cond.selects RX8 yX8_passDays yX8_passDays ∈ am_TB := List.mem_filter.mpr ⟨List.mem_of_getElem? (i := 84) (by decide +kernel), by decide +kernel⟩
theorem wd_1156 : Cond.methodLink RX6 106 yX6_lay ∈ am_TB := List.mem_filter.mpr ⟨List.mem_of_getElem? (i := 1156) (by decide +kernel), by decide +kernel⟩
theorem wd_928 : Cond.code yX6_lay cX6_lay 3 none ∈ am_TB := List.mem_filter.mpr ⟨List.mem_of_getElem? (i := 928) (by decide +kernel), by decide +kernel⟩
theorem wd_927 : Cond.instanceMethod yX6_lay ∈ am_TB := List.mem_filter.mpr ⟨List.mem_of_getElem? (i := 927) (by decide +kernel), by decide +kernel⟩
theorem wd_37 : Cond.selects RX6 yX6_lay yX6_lay ∈ am_TB := List.mem_filter.mpr ⟨List.mem_of_getElem? (i := 37) (by decide +kernel), by decide +kernel⟩
theorem wd_1152 : Cond.methodLink RX6 102 yX6_raise ∈ am_TB := List.mem_filter.mpr ⟨List.mem_of_getElem? (i := 1152) (by decide +kernel), by decide +kernel⟩
theorem wd_1155 : Cond.code yX6_raise cX6_raise 3 none ∈ am_TB := List.mem_filter.mpr ⟨List.mem_of_getElem? (i := 1155) (by decide +kernel), by decide +kernel⟩
theorem wd_1154 : Cond.instanceMethod yX6_raise ∈ am_TB := List.mem_filter.mpr ⟨List.mem_of_getElem? (i := 1154) (by decide +kernel), by decide +kernel⟩
theorem wd_74 : Cond.selects RX6 yX6_raise yX6_raise ∈ am_TB := List.mem_filter.mpr ⟨List.mem_of_getElem? (i := 74) (by decide +kernel), by decide +kernel⟩
theorem wd_1148 : Cond.methodLink RX6 99 yX6_lift ∈ am_TB := List.mem_filter.mpr ⟨List.mem_of_getElem? (i := 1148) (by decide +kernel), by decide +kernel⟩
theorem wd_1151 : Cond.code yX6_lift cX6_lift 2 (some .int) ∈ am_TB := List.mem_filter.mpr ⟨List.mem_of_getElem? (i := 1151) (by decide +kernel), by decide +kernel⟩
theorem wd_1150 : Cond.instanceMethod yX6_lift ∈ am_TB := List.mem_filter.mpr ⟨List.mem_of_getElem? (i := 1150) (by decide +kernel), by decide +kernel⟩
theorem wd_73 : Cond.selects RX6 yX6_lift yX6_lift ∈ am_TB := List.mem_filter.mpr ⟨List.mem_of_getElem? (i := 73) (by decide +kernel), by decide +kernel⟩
theorem wd_515 : Cond.fieldLink RX8 42 RX8 "high" "[I" ∈ am_TB := List.mem_filter.mpr ⟨List.mem_of_getElem? (i := 515) (by decide +kernel), by decide +kernel⟩
theorem wd_507 : Cond.fieldLink RX8 32 RX8 "sown" "[I" ∈ am_TB := List.mem_filter.mpr ⟨List.mem_of_getElem? (i := 507) (by decide +kernel), by decide +kernel⟩
theorem wd_1163 : Cond.methodLink RX8 75 yX8_wet ∈ am_TB := List.mem_filter.mpr ⟨List.mem_of_getElem? (i := 1163) (by decide +kernel), by decide +kernel⟩
theorem wd_1166 : Cond.code yX8_wet cX8_wet 3 none ∈ am_TB := List.mem_filter.mpr ⟨List.mem_of_getElem? (i := 1166) (by decide +kernel), by decide +kernel⟩
theorem wd_1165 : Cond.instanceMethod yX8_wet ∈ am_TB := List.mem_filter.mpr ⟨List.mem_of_getElem? (i := 1165) (by decide +kernel), by decide +kernel⟩
theorem wd_76 : Cond.selects RX8 yX8_wet yX8_wet ∈ am_TB := List.mem_filter.mpr ⟨List.mem_of_getElem? (i := 76) (by decide +kernel), by decide +kernel⟩
theorem wd_493 : Cond.fieldLink RX8 12 RX8 "table" "LWaterPatience$Table;" ∈ am_TB := List.mem_filter.mpr ⟨List.mem_of_getElem? (i := 493) (by decide +kernel), by decide +kernel⟩
theorem wd_1144 : Cond.methodLinkNest RX8 79 yX6_shift "WaterPatience" ∈ am_NB := List.mem_filter.mpr ⟨List.mem_of_getElem? (i := 1144) (by decide +kernel), rfl⟩
theorem wd_1147 : Cond.code yX6_shift cX6_shift 4 (some .int) ∈ am_TB := List.mem_filter.mpr ⟨List.mem_of_getElem? (i := 1147) (by decide +kernel), by decide +kernel⟩
theorem wd_1157 : Cond.methodLinkNest RX8 83 yX10_suitOf "WaterPatience" ∈ am_NB := List.mem_filter.mpr ⟨List.mem_of_getElem? (i := 1157) (by decide +kernel), rfl⟩
theorem wd_1158 : Cond.methodLinkNest RX8 87 yX10_rankOf "WaterPatience" ∈ am_NB := List.mem_filter.mpr ⟨List.mem_of_getElem? (i := 1158) (by decide +kernel), rfl⟩
theorem wd_1159 : Cond.methodLink RX8 90 yX8_wetSuit ∈ am_TB := List.mem_filter.mpr ⟨List.mem_of_getElem? (i := 1159) (by decide +kernel), by decide +kernel⟩
theorem wd_1162 : Cond.code yX8_wetSuit cX8_wetSuit 4 none ∈ am_TB := List.mem_filter.mpr ⟨List.mem_of_getElem? (i := 1162) (by decide +kernel), by decide +kernel⟩
theorem wd_1161 : Cond.instanceMethod yX8_wetSuit ∈ am_TB := List.mem_filter.mpr ⟨List.mem_of_getElem? (i := 1161) (by decide +kernel), by decide +kernel⟩
theorem wd_75 : Cond.selects RX8 yX8_wetSuit yX8_wetSuit ∈ am_TB := List.mem_filter.mpr ⟨List.mem_of_getElem? (i := 75) (by decide +kernel), by decide +kernel⟩
theorem wd_1146 : Cond.instanceMethod yX6_shift ∈ am_TB := List.mem_filter.mpr ⟨List.mem_of_getElem? (i := 1146) (by decide +kernel), by decide +kernel⟩
theorem wd_72 : Cond.selects RX6 yX6_shift yX6_shift ∈ am_TB := List.mem_filter.mpr ⟨List.mem_of_getElem? (i := 72) (by decide +kernel), by decide +kernel⟩
theorem wd_561 : Cond.fieldLink RX0 36 RX0 "made" "I" ∈ am_TB := List.mem_filter.mpr ⟨List.mem_of_getElem? (i := 561) (by decide +kernel), by decide +kernel⟩
theorem wd_559 : Cond.fieldLink RX0 33 RX0 "came" "I" ∈ am_TB := List.mem_filter.mpr ⟨List.mem_of_getElem? (i := 559) (by decide +kernel), by decide +kernel⟩
theorem wd_1514 : Cond.methodLinkNest RX0 112 yX8_play "WaterPatience" ∈ am_NB := List.mem_filter.mpr ⟨List.mem_of_getElem? (i := 1514) (by decide +kernel), rfl⟩
theorem wd_1143 : Cond.code yX8_play cX8_play 4 (some .int) ∈ am_TB := List.mem_filter.mpr ⟨List.mem_of_getElem? (i := 1143) (by decide +kernel), by decide +kernel⟩
theorem wd_1142 : Cond.instanceMethod yX8_play ∈ am_TB := List.mem_filter.mpr ⟨List.mem_of_getElem? (i := 1142) (by decide +kernel), by decide +kernel⟩
theorem wd_71 : Cond.selects RX8 yX8_play yX8_play ∈ am_TB := List.mem_filter.mpr ⟨List.mem_of_getElem? (i := 71) (by decide +kernel), by decide +kernel⟩
theorem wd_1249 : Cond.constant RX10 435 65536 ∈ am_TB := List.mem_filter.mpr ⟨List.mem_of_getElem? (i := 1249) (by decide +kernel), by decide +kernel⟩
theorem wd_552 : Cond.fieldLink RX0 20 RX0 "drawn" "I" ∈ am_TB := List.mem_filter.mpr ⟨List.mem_of_getElem? (i := 552) (by decide +kernel), by decide +kernel⟩
theorem wd_1510 : Cond.methodLink RX0 108 yX0_carry ∈ am_TB := List.mem_filter.mpr ⟨List.mem_of_getElem? (i := 1510) (by decide +kernel), by decide +kernel⟩
theorem wd_1513 : Cond.code yX0_carry cX0_carry 4 none ∈ am_TB := List.mem_filter.mpr ⟨List.mem_of_getElem? (i := 1513) (by decide +kernel), by decide +kernel⟩
theorem wd_1512 : Cond.instanceMethod yX0_carry ∈ am_TB := List.mem_filter.mpr ⟨List.mem_of_getElem? (i := 1512) (by decide +kernel), by decide +kernel⟩
theorem wd_117 : Cond.selects RX0 yX0_carry yX0_carry ∈ am_TB := List.mem_filter.mpr ⟨List.mem_of_getElem? (i := 117) (by decide +kernel), by decide +kernel⟩
theorem wd_1529 : Cond.methodLinkNest RX0 130 yX10_stir "WaterPatience" ∈ am_NB := List.mem_filter.mpr ⟨List.mem_of_getElem? (i := 1529) (by decide +kernel), rfl⟩
theorem wd_1248 : Cond.code yX10_stir cX10_stir 1 (some .int) ∈ am_TB := List.mem_filter.mpr ⟨List.mem_of_getElem? (i := 1248) (by decide +kernel), by decide +kernel⟩
theorem wd_1247 : Cond.static yX10_stir ∈ am_TB := List.mem_filter.mpr ⟨List.mem_of_getElem? (i := 1247) (by decide +kernel), by decide +kernel⟩
theorem wd_1508 : Cond.methodLinkNest RX0 99 yX6_isSource "WaterPatience" ∈ am_NB := List.mem_filter.mpr ⟨List.mem_of_getElem? (i := 1508) (by decide +kernel), rfl⟩
theorem wd_1115 : Cond.code yX6_isSource cX6_isSource 2 (some .boolean) ∈ am_TB := List.mem_filter.mpr ⟨List.mem_of_getElem? (i := 1115) (by decide +kernel), by decide +kernel⟩
theorem wd_1509 : Cond.methodLinkNest RX0 104 yX6_allows "WaterPatience" ∈ am_NB := List.mem_filter.mpr ⟨List.mem_of_getElem? (i := 1509) (by decide +kernel), rfl⟩
theorem wd_1114 : Cond.instanceMethod yX6_isSource ∈ am_TB := List.mem_filter.mpr ⟨List.mem_of_getElem? (i := 1114) (by decide +kernel), by decide +kernel⟩
theorem wd_66 : Cond.selects RX6 yX6_isSource yX6_isSource ∈ am_TB := List.mem_filter.mpr ⟨List.mem_of_getElem? (i := 66) (by decide +kernel), by decide +kernel⟩
theorem wd_437 : Cond.fieldLink RX6 28 RX6 "left" "[I" ∈ am_TB := List.mem_filter.mpr ⟨List.mem_of_getElem? (i := 437) (by decide +kernel), by decide +kernel⟩
theorem wd_438 : Cond.fieldLink RX6 31 RX6 "risen" "[I" ∈ am_TB := List.mem_filter.mpr ⟨List.mem_of_getElem? (i := 438) (by decide +kernel), by decide +kernel⟩
theorem wd_1180 : Cond.methodLink RX6 115 yX6_cardAt ∈ am_TB := List.mem_filter.mpr ⟨List.mem_of_getElem? (i := 1180) (by decide +kernel), by decide +kernel⟩
theorem wd_1058 : Cond.code yX6_cardAt cX6_cardAt 3 (some .int) ∈ am_TB := List.mem_filter.mpr ⟨List.mem_of_getElem? (i := 1058) (by decide +kernel), by decide +kernel⟩
theorem wd_1057 : Cond.instanceMethod yX6_cardAt ∈ am_TB := List.mem_filter.mpr ⟨List.mem_of_getElem? (i := 1057) (by decide +kernel), by decide +kernel⟩
theorem wd_59 : Cond.selects RX6 yX6_cardAt yX6_cardAt ∈ am_TB := List.mem_filter.mpr ⟨List.mem_of_getElem? (i := 59) (by decide +kernel), by decide +kernel⟩
theorem wd_1194 : Cond.methodLink RX6 123 yX6_ripenPile ∈ am_TB := List.mem_filter.mpr ⟨List.mem_of_getElem? (i := 1194) (by decide +kernel), by decide +kernel⟩
theorem wd_1197 : Cond.code yX6_ripenPile cX6_ripenPile 6 (some .boolean) ∈ am_TB := List.mem_filter.mpr ⟨List.mem_of_getElem? (i := 1197) (by decide +kernel), by decide +kernel⟩
theorem wd_1196 : Cond.instanceMethod yX6_ripenPile ∈ am_TB := List.mem_filter.mpr ⟨List.mem_of_getElem? (i := 1196) (by decide +kernel), by decide +kernel⟩
theorem wd_81 : Cond.selects RX6 yX6_ripenPile yX6_ripenPile ∈ am_TB := List.mem_filter.mpr ⟨List.mem_of_getElem? (i := 81) (by decide +kernel), by decide +kernel⟩
theorem wd_957 : Cond.methodLink RX6 64 arraycopyName ∈ am_TB := List.mem_filter.mpr ⟨List.mem_of_getElem? (i := 957) (by decide +kernel), by decide +kernel⟩
theorem wd_411 : Cond.fieldLinkNest RX8 100 RX6 "home" "[I" "WaterPatience" ∈ am_NB := List.mem_filter.mpr ⟨List.mem_of_getElem? (i := 411) (by decide +kernel), rfl⟩
theorem wd_439 : Cond.fieldLinkNest RX8 103 RX6 "risen" "[I" "WaterPatience" ∈ am_NB := List.mem_filter.mpr ⟨List.mem_of_getElem? (i := 439) (by decide +kernel), rfl⟩
theorem wd_1202 : Cond.methodLinkNest RX8 106 yX6_settle "WaterPatience" ∈ am_NB := List.mem_filter.mpr ⟨List.mem_of_getElem? (i := 1202) (by decide +kernel), rfl⟩
theorem wd_1205 : Cond.code yX6_settle cX6_settle 1 none ∈ am_TB := List.mem_filter.mpr ⟨List.mem_of_getElem? (i := 1205) (by decide +kernel), by decide +kernel⟩
theorem wd_1204 : Cond.instanceMethod yX6_settle ∈ am_TB := List.mem_filter.mpr ⟨List.mem_of_getElem? (i := 1204) (by decide +kernel), by decide +kernel⟩
theorem wd_83 : Cond.selects RX6 yX6_settle yX6_settle ∈ am_TB := List.mem_filter.mpr ⟨List.mem_of_getElem? (i := 83) (by decide +kernel), by decide +kernel⟩
theorem wd_1190 : Cond.methodLinkNest RX8 93 yX6_ripen "WaterPatience" ∈ am_NB := List.mem_filter.mpr ⟨List.mem_of_getElem? (i := 1190) (by decide +kernel), rfl⟩
theorem wd_1193 : Cond.code yX6_ripen cX6_ripen 4 none ∈ am_TB := List.mem_filter.mpr ⟨List.mem_of_getElem? (i := 1193) (by decide +kernel), by decide +kernel⟩
theorem wd_1198 : Cond.methodLinkNest RX8 96 yX6_riseMany "WaterPatience" ∈ am_NB := List.mem_filter.mpr ⟨List.mem_of_getElem? (i := 1198) (by decide +kernel), rfl⟩
theorem wd_1201 : Cond.code yX6_riseMany cX6_riseMany 3 (some .int) ∈ am_TB := List.mem_filter.mpr ⟨List.mem_of_getElem? (i := 1201) (by decide +kernel), by decide +kernel⟩
theorem wd_1200 : Cond.instanceMethod yX6_riseMany ∈ am_TB := List.mem_filter.mpr ⟨List.mem_of_getElem? (i := 1200) (by decide +kernel), by decide +kernel⟩
theorem wd_82 : Cond.selects RX6 yX6_riseMany yX6_riseMany ∈ am_TB := List.mem_filter.mpr ⟨List.mem_of_getElem? (i := 82) (by decide +kernel), by decide +kernel⟩
theorem wd_1192 : Cond.instanceMethod yX6_ripen ∈ am_TB := List.mem_filter.mpr ⟨List.mem_of_getElem? (i := 1192) (by decide +kernel), by decide +kernel⟩
theorem wd_80 : Cond.selects RX6 yX6_ripen yX6_ripen ∈ am_TB := List.mem_filter.mpr ⟨List.mem_of_getElem? (i := 80) (by decide +kernel), by decide +kernel⟩
theorem wd_1524 : Cond.methodLinkNest RX0 123 yX8_bringHome "WaterPatience" ∈ am_NB := List.mem_filter.mpr ⟨List.mem_of_getElem? (i := 1524) (by decide +kernel), rfl⟩
theorem wd_1189 : Cond.code yX8_bringHome cX8_bringHome 4 (some .int) ∈ am_TB := List.mem_filter.mpr ⟨List.mem_of_getElem? (i := 1189) (by decide +kernel), by decide +kernel⟩
theorem wd_1188 : Cond.instanceMethod yX8_bringHome ∈ am_TB := List.mem_filter.mpr ⟨List.mem_of_getElem? (i := 1188) (by decide +kernel), by decide +kernel⟩
theorem wd_79 : Cond.selects RX8 yX8_bringHome yX8_bringHome ∈ am_TB := List.mem_filter.mpr ⟨List.mem_of_getElem? (i := 79) (by decide +kernel), by decide +kernel⟩
theorem wd_409 : Cond.fieldLink RX6 61 RX6 "stockEnd" "I" ∈ am_TB := List.mem_filter.mpr ⟨List.mem_of_getElem? (i := 409) (by decide +kernel), by decide +kernel⟩
theorem wd_408 : Cond.fieldLink RX6 58 RX6 "stockFrom" "I" ∈ am_TB := List.mem_filter.mpr ⟨List.mem_of_getElem? (i := 408) (by decide +kernel), by decide +kernel⟩
theorem wd_429 : Cond.fieldLink RX6 46 RX6 "redeals" "I" ∈ am_TB := List.mem_filter.mpr ⟨List.mem_of_getElem? (i := 429) (by decide +kernel), by decide +kernel⟩
theorem wd_1083 : Cond.methodLink RX6 74 yX6_stockMany ∈ am_TB := List.mem_filter.mpr ⟨List.mem_of_getElem? (i := 1083) (by decide +kernel), by decide +kernel⟩
theorem wd_1034 : Cond.code yX6_stockMany cX6_stockMany 1 (some .int) ∈ am_TB := List.mem_filter.mpr ⟨List.mem_of_getElem? (i := 1034) (by decide +kernel), by decide +kernel⟩
theorem wd_1033 : Cond.instanceMethod yX6_stockMany ∈ am_TB := List.mem_filter.mpr ⟨List.mem_of_getElem? (i := 1033) (by decide +kernel), by decide +kernel⟩
theorem wd_54 : Cond.selects RX6 yX6_stockMany yX6_stockMany ∈ am_TB := List.mem_filter.mpr ⟨List.mem_of_getElem? (i := 54) (by decide +kernel), by decide +kernel⟩
theorem wd_407 : Cond.fieldLink RX6 18 RX6 "stock" "[I" ∈ am_TB := List.mem_filter.mpr ⟨List.mem_of_getElem? (i := 407) (by decide +kernel), by decide +kernel⟩
theorem wd_1181 : Cond.methodLink RX6 119 yX6_layInStock ∈ am_TB := List.mem_filter.mpr ⟨List.mem_of_getElem? (i := 1181) (by decide +kernel), by decide +kernel⟩
theorem wd_932 : Cond.code yX6_layInStock cX6_layInStock 2 none ∈ am_TB := List.mem_filter.mpr ⟨List.mem_of_getElem? (i := 932) (by decide +kernel), by decide +kernel⟩
theorem wd_931 : Cond.instanceMethod yX6_layInStock ∈ am_TB := List.mem_filter.mpr ⟨List.mem_of_getElem? (i := 931) (by decide +kernel), by decide +kernel⟩
theorem wd_38 : Cond.selects RX6 yX6_layInStock yX6_layInStock ∈ am_TB := List.mem_filter.mpr ⟨List.mem_of_getElem? (i := 38) (by decide +kernel), by decide +kernel⟩
theorem wd_1179 : Cond.methodLink RX6 112 yX6_stockCard ∈ am_TB := List.mem_filter.mpr ⟨List.mem_of_getElem? (i := 1179) (by decide +kernel), by decide +kernel⟩
theorem wd_1082 : Cond.code yX6_stockCard cX6_stockCard 3 (some .int) ∈ am_TB := List.mem_filter.mpr ⟨List.mem_of_getElem? (i := 1082) (by decide +kernel), by decide +kernel⟩
theorem wd_1081 : Cond.instanceMethod yX6_stockCard ∈ am_TB := List.mem_filter.mpr ⟨List.mem_of_getElem? (i := 1081) (by decide +kernel), by decide +kernel⟩
theorem wd_62 : Cond.selects RX6 yX6_stockCard yX6_stockCard ∈ am_TB := List.mem_filter.mpr ⟨List.mem_of_getElem? (i := 62) (by decide +kernel), by decide +kernel⟩
theorem wd_1519 : Cond.methodLinkNest RX0 119 yX6_turnUp "WaterPatience" ∈ am_NB := List.mem_filter.mpr ⟨List.mem_of_getElem? (i := 1519) (by decide +kernel), rfl⟩
theorem wd_1178 : Cond.code yX6_turnUp cX6_turnUp 2 (some .int) ∈ am_TB := List.mem_filter.mpr ⟨List.mem_of_getElem? (i := 1178) (by decide +kernel), by decide +kernel⟩
theorem wd_1177 : Cond.instanceMethod yX6_turnUp ∈ am_TB := List.mem_filter.mpr ⟨List.mem_of_getElem? (i := 1177) (by decide +kernel), by decide +kernel⟩
theorem wd_78 : Cond.selects RX6 yX6_turnUp yX6_turnUp ∈ am_TB := List.mem_filter.mpr ⟨List.mem_of_getElem? (i := 78) (by decide +kernel), by decide +kernel⟩
theorem wd_1518 : Cond.methodLinkNest RX0 115 yX6_hasDeal "WaterPatience" ∈ am_NB := List.mem_filter.mpr ⟨List.mem_of_getElem? (i := 1518) (by decide +kernel), rfl⟩
theorem wd_1174 : Cond.code yX6_hasDeal cX6_hasDeal 1 (some .boolean) ∈ am_TB := List.mem_filter.mpr ⟨List.mem_of_getElem? (i := 1174) (by decide +kernel), by decide +kernel⟩
theorem wd_1173 : Cond.instanceMethod yX6_hasDeal ∈ am_TB := List.mem_filter.mpr ⟨List.mem_of_getElem? (i := 1173) (by decide +kernel), by decide +kernel⟩
theorem wd_77 : Cond.selects RX6 yX6_hasDeal yX6_hasDeal ∈ am_TB := List.mem_filter.mpr ⟨List.mem_of_getElem? (i := 77) (by decide +kernel), by decide +kernel⟩
theorem wd_477 : Cond.fieldLinkNest RX0 50 RX4 "lines" "I" "WaterPatience" ∈ am_NB := List.mem_filter.mpr ⟨List.mem_of_getElem? (i := 477) (by decide +kernel), rfl⟩
theorem wd_555 : Cond.fieldLink RX0 27 RX0 "missed" "I" ∈ am_TB := List.mem_filter.mpr ⟨List.mem_of_getElem? (i := 555) (by decide +kernel), by decide +kernel⟩
theorem wd_1525 : Cond.methodLink RX0 92 yX0_makeAny ∈ am_TB := List.mem_filter.mpr ⟨List.mem_of_getElem? (i := 1525) (by decide +kernel), by decide +kernel⟩
theorem wd_1528 : Cond.code yX0_makeAny cX0_makeAny 4 (some .boolean) ∈ am_TB := List.mem_filter.mpr ⟨List.mem_of_getElem? (i := 1528) (by decide +kernel), by decide +kernel⟩
theorem wd_1527 : Cond.instanceMethod yX0_makeAny ∈ am_TB := List.mem_filter.mpr ⟨List.mem_of_getElem? (i := 1527) (by decide +kernel), by decide +kernel⟩
theorem wd_119 : Cond.selects RX0 yX0_makeAny yX0_makeAny ∈ am_TB := List.mem_filter.mpr ⟨List.mem_of_getElem? (i := 119) (by decide +kernel), by decide +kernel⟩
theorem wd_1520 : Cond.methodLink RX0 88 yX0_makeRun ∈ am_TB := List.mem_filter.mpr ⟨List.mem_of_getElem? (i := 1520) (by decide +kernel), by decide +kernel⟩
theorem wd_1523 : Cond.code yX0_makeRun cX0_makeRun 3 (some .boolean) ∈ am_TB := List.mem_filter.mpr ⟨List.mem_of_getElem? (i := 1523) (by decide +kernel), by decide +kernel⟩
theorem wd_1522 : Cond.instanceMethod yX0_makeRun ∈ am_TB := List.mem_filter.mpr ⟨List.mem_of_getElem? (i := 1522) (by decide +kernel), by decide +kernel⟩
theorem wd_118 : Cond.selects RX0 yX0_makeRun yX0_makeRun ∈ am_TB := List.mem_filter.mpr ⟨List.mem_of_getElem? (i := 118) (by decide +kernel), by decide +kernel⟩
theorem wd_1515 : Cond.methodLink RX0 84 yX0_turnCard ∈ am_TB := List.mem_filter.mpr ⟨List.mem_of_getElem? (i := 1515) (by decide +kernel), by decide +kernel⟩
theorem wd_1517 : Cond.code yX0_turnCard cX0_turnCard 1 (some .boolean) ∈ am_TB := List.mem_filter.mpr ⟨List.mem_of_getElem? (i := 1517) (by decide +kernel), by decide +kernel⟩
theorem wd_1516 : Cond.static yX0_turnCard ∈ am_TB := List.mem_filter.mpr ⟨List.mem_of_getElem? (i := 1516) (by decide +kernel), by decide +kernel⟩
theorem wd_1504 : Cond.methodLink RX0 76 yX0_makeMove ∈ am_TB := List.mem_filter.mpr ⟨List.mem_of_getElem? (i := 1504) (by decide +kernel), by decide +kernel⟩
theorem wd_1507 : Cond.code yX0_makeMove cX0_makeMove 4 (some .boolean) ∈ am_TB := List.mem_filter.mpr ⟨List.mem_of_getElem? (i := 1507) (by decide +kernel), by decide +kernel⟩
theorem wd_1506 : Cond.instanceMethod yX0_makeMove ∈ am_TB := List.mem_filter.mpr ⟨List.mem_of_getElem? (i := 1506) (by decide +kernel), by decide +kernel⟩
theorem wd_116 : Cond.selects RX0 yX0_makeMove yX0_makeMove ∈ am_TB := List.mem_filter.mpr ⟨List.mem_of_getElem? (i := 116) (by decide +kernel), by decide +kernel⟩
theorem wd_1499 : Cond.methodLink RX0 73 yX0_letPass ∈ am_TB := List.mem_filter.mpr ⟨List.mem_of_getElem? (i := 1499) (by decide +kernel), by decide +kernel⟩
theorem wd_1502 : Cond.code yX0_letPass cX0_letPass 3 (some .boolean) ∈ am_TB := List.mem_filter.mpr ⟨List.mem_of_getElem? (i := 1502) (by decide +kernel), by decide +kernel⟩
theorem wd_1501 : Cond.instanceMethod yX0_letPass ∈ am_TB := List.mem_filter.mpr ⟨List.mem_of_getElem? (i := 1501) (by decide +kernel), by decide +kernel⟩
theorem wd_115 : Cond.selects RX0 yX0_letPass yX0_letPass ∈ am_TB := List.mem_filter.mpr ⟨List.mem_of_getElem? (i := 115) (by decide +kernel), by decide +kernel⟩
theorem wd_1495 : Cond.methodLink RX0 69 yX0_startRounds ∈ am_TB := List.mem_filter.mpr ⟨List.mem_of_getElem? (i := 1495) (by decide +kernel), by decide +kernel⟩
theorem wd_1498 : Cond.code yX0_startRounds cX0_startRounds 3 none ∈ am_TB := List.mem_filter.mpr ⟨List.mem_of_getElem? (i := 1498) (by decide +kernel), by decide +kernel⟩
theorem wd_1497 : Cond.instanceMethod yX0_startRounds ∈ am_TB := List.mem_filter.mpr ⟨List.mem_of_getElem? (i := 1497) (by decide +kernel), by decide +kernel⟩
theorem wd_114 : Cond.selects RX0 yX0_startRounds yX0_startRounds ∈ am_TB := List.mem_filter.mpr ⟨List.mem_of_getElem? (i := 114) (by decide +kernel), by decide +kernel⟩
theorem wd_1487 : Cond.methodLink RX0 65 yX0_holds ∈ am_TB := List.mem_filter.mpr ⟨List.mem_of_getElem? (i := 1487) (by decide +kernel), by decide +kernel⟩
theorem wd_1490 : Cond.code yX0_holds cX0_holds 5 (some .boolean) ∈ am_TB := List.mem_filter.mpr ⟨List.mem_of_getElem? (i := 1490) (by decide +kernel), by decide +kernel⟩
theorem wd_1489 : Cond.instanceMethod yX0_holds ∈ am_TB := List.mem_filter.mpr ⟨List.mem_of_getElem? (i := 1489) (by decide +kernel), by decide +kernel⟩
theorem wd_113 : Cond.selects RX0 yX0_holds yX0_holds ∈ am_TB := List.mem_filter.mpr ⟨List.mem_of_getElem? (i := 113) (by decide +kernel), by decide +kernel⟩
theorem wd_553 : Cond.fieldLink RX0 24 RX0 "done" "I" ∈ am_TB := List.mem_filter.mpr ⟨List.mem_of_getElem? (i := 553) (by decide +kernel), by decide +kernel⟩
theorem wd_563 : Cond.fieldLink RX0 39 RX0 "cut" "Z" ∈ am_TB := List.mem_filter.mpr ⟨List.mem_of_getElem? (i := 563) (by decide +kernel), by decide +kernel⟩
theorem wd_1483 : Cond.methodLink RX0 61 yX0_afterStep ∈ am_TB := List.mem_filter.mpr ⟨List.mem_of_getElem? (i := 1483) (by decide +kernel), by decide +kernel⟩
theorem wd_1486 : Cond.code yX0_afterStep cX0_afterStep 6 (some .int) ∈ am_TB := List.mem_filter.mpr ⟨List.mem_of_getElem? (i := 1486) (by decide +kernel), by decide +kernel⟩
theorem wd_1485 : Cond.instanceMethod yX0_afterStep ∈ am_TB := List.mem_filter.mpr ⟨List.mem_of_getElem? (i := 1485) (by decide +kernel), by decide +kernel⟩
theorem wd_112 : Cond.selects RX0 yX0_afterStep yX0_afterStep ∈ am_TB := List.mem_filter.mpr ⟨List.mem_of_getElem? (i := 112) (by decide +kernel), by decide +kernel⟩
theorem wd_1479 : Cond.methodLink RX0 57 yX0_afterEnd ∈ am_TB := List.mem_filter.mpr ⟨List.mem_of_getElem? (i := 1479) (by decide +kernel), by decide +kernel⟩
theorem wd_1482 : Cond.code yX0_afterEnd cX0_afterEnd 4 (some .int) ∈ am_TB := List.mem_filter.mpr ⟨List.mem_of_getElem? (i := 1482) (by decide +kernel), by decide +kernel⟩
theorem wd_1481 : Cond.instanceMethod yX0_afterEnd ∈ am_TB := List.mem_filter.mpr ⟨List.mem_of_getElem? (i := 1481) (by decide +kernel), by decide +kernel⟩
theorem wd_111 : Cond.selects RX0 yX0_afterEnd yX0_afterEnd ∈ am_TB := List.mem_filter.mpr ⟨List.mem_of_getElem? (i := 111) (by decide +kernel), by decide +kernel⟩
theorem wd_1474 : Cond.constant RX0 49 1000000 ∈ am_TB := List.mem_filter.mpr ⟨List.mem_of_getElem? (i := 1474) (by decide +kernel), by decide +kernel⟩
theorem wd_419 : Cond.fieldLinkNest RX1 44 RX6 "suits" "I" "WaterPatience" ∈ am_NB := List.mem_filter.mpr ⟨List.mem_of_getElem? (i := 419) (by decide +kernel), rfl⟩
theorem wd_415 : Cond.fieldLinkNest RX1 47 RX6 "ranks" "I" "WaterPatience" ∈ am_NB := List.mem_filter.mpr ⟨List.mem_of_getElem? (i := 415) (by decide +kernel), rfl⟩
theorem wd_615 : Cond.fieldLink RX1 18 RX1 "deck" "[I" ∈ am_TB := List.mem_filter.mpr ⟨List.mem_of_getElem? (i := 615) (by decide +kernel), by decide +kernel⟩
theorem wd_1246 : Cond.methodLinkNest RX1 50 yX10_stir "WaterPatience" ∈ am_NB := List.mem_filter.mpr ⟨List.mem_of_getElem? (i := 1246) (by decide +kernel), rfl⟩
theorem wd_818 : Cond.methodLink RX6 52 yJ7_fill_53178 ∈ am_TB := List.mem_filter.mpr ⟨List.mem_of_getElem? (i := 818) (by decide +kernel), by decide +kernel⟩
theorem wd_820 : Cond.code yJ7_fill_53178 cJ7_fill_53178 4 none ∈ am_TB := List.mem_filter.mpr ⟨List.mem_of_getElem? (i := 820) (by decide +kernel), by decide +kernel⟩
theorem wd_235 : Cond.initialized RJ7 ∈ am_TB := List.mem_filter.mpr ⟨List.mem_of_getElem? (i := 235) (by decide +kernel), by decide +kernel⟩
theorem wd_819 : Cond.static yJ7_fill_53178 ∈ am_TB := List.mem_filter.mpr ⟨List.mem_of_getElem? (i := 819) (by decide +kernel), by decide +kernel⟩
theorem wd_432 : Cond.fieldLinkNest RX1 32 RX6 "rows" "I" "WaterPatience" ∈ am_NB := List.mem_filter.mpr ⟨List.mem_of_getElem? (i := 432) (by decide +kernel), rfl⟩
theorem wd_1252 : Cond.methodLinkNest RX1 40 yX6_layInStock "WaterPatience" ∈ am_NB := List.mem_filter.mpr ⟨List.mem_of_getElem? (i := 1252) (by decide +kernel), rfl⟩
theorem wd_1251 : Cond.methodLinkNest RX1 36 yX6_lay "WaterPatience" ∈ am_NB := List.mem_filter.mpr ⟨List.mem_of_getElem? (i := 1251) (by decide +kernel), rfl⟩
theorem wd_1242 : Cond.methodLink RX1 25 yX1_mix ∈ am_TB := List.mem_filter.mpr ⟨List.mem_of_getElem? (i := 1242) (by decide +kernel), by decide +kernel⟩
theorem wd_1245 : Cond.code yX1_mix cX1_mix 8 (some .int) ∈ am_TB := List.mem_filter.mpr ⟨List.mem_of_getElem? (i := 1245) (by decide +kernel), by decide +kernel⟩
theorem wd_232 : Cond.initialized RX1 ∈ am_TB := List.mem_filter.mpr ⟨List.mem_of_getElem? (i := 232) (by decide +kernel), by decide +kernel⟩
theorem wd_1250 : Cond.methodLinkNest RX1 29 yX6_sweep "WaterPatience" ∈ am_NB := List.mem_filter.mpr ⟨List.mem_of_getElem? (i := 1250) (by decide +kernel), rfl⟩
theorem wd_817 : Cond.code yX6_sweep cX6_sweep 1 none ∈ am_TB := List.mem_filter.mpr ⟨List.mem_of_getElem? (i := 817) (by decide +kernel), by decide +kernel⟩
theorem wd_816 : Cond.instanceMethod yX6_sweep ∈ am_TB := List.mem_filter.mpr ⟨List.mem_of_getElem? (i := 816) (by decide +kernel), by decide +kernel⟩
theorem wd_14 : Cond.selects RX6 yX6_sweep yX6_sweep ∈ am_TB := List.mem_filter.mpr ⟨List.mem_of_getElem? (i := 14) (by decide +kernel), by decide +kernel⟩
theorem wd_1244 : Cond.instanceMethod yX1_mix ∈ am_TB := List.mem_filter.mpr ⟨List.mem_of_getElem? (i := 1244) (by decide +kernel), by decide +kernel⟩
theorem wd_87 : Cond.selects RX1 yX1_mix yX1_mix ∈ am_TB := List.mem_filter.mpr ⟨List.mem_of_getElem? (i := 87) (by decide +kernel), by decide +kernel⟩
theorem wd_414 : Cond.fieldLink RX6 24 RX6 "ranks" "I" ∈ am_TB := List.mem_filter.mpr ⟨List.mem_of_getElem? (i := 414) (by decide +kernel), by decide +kernel⟩
theorem wd_418 : Cond.fieldLink RX6 37 RX6 "suits" "I" ∈ am_TB := List.mem_filter.mpr ⟨List.mem_of_getElem? (i := 418) (by decide +kernel), by decide +kernel⟩
theorem wd_613 : Cond.fieldLink RX1 12 RX1 "table" "LWaterPatience$Table;" ∈ am_TB := List.mem_filter.mpr ⟨List.mem_of_getElem? (i := 613) (by decide +kernel), by decide +kernel⟩
theorem wd_1413 : Cond.methodLinkNest RX1 54 yX6_copyShape "WaterPatience" ∈ am_NB := List.mem_filter.mpr ⟨List.mem_of_getElem? (i := 1413) (by decide +kernel), rfl⟩
theorem wd_961 : Cond.code yX6_copyShape cX6_copyShape 2 none ∈ am_TB := List.mem_filter.mpr ⟨List.mem_of_getElem? (i := 961) (by decide +kernel), by decide +kernel⟩
theorem wd_1414 : Cond.methodLink RX1 58 yX1_dealOut ∈ am_TB := List.mem_filter.mpr ⟨List.mem_of_getElem? (i := 1414) (by decide +kernel), by decide +kernel⟩
theorem wd_1241 : Cond.code yX1_dealOut cX1_dealOut 7 none ∈ am_TB := List.mem_filter.mpr ⟨List.mem_of_getElem? (i := 1241) (by decide +kernel), by decide +kernel⟩
theorem wd_1415 : Cond.methodLinkNest RX1 62 yX6_ripen "WaterPatience" ∈ am_NB := List.mem_filter.mpr ⟨List.mem_of_getElem? (i := 1415) (by decide +kernel), rfl⟩
theorem wd_1240 : Cond.instanceMethod yX1_dealOut ∈ am_TB := List.mem_filter.mpr ⟨List.mem_of_getElem? (i := 1240) (by decide +kernel), by decide +kernel⟩
theorem wd_86 : Cond.selects RX1 yX1_dealOut yX1_dealOut ∈ am_TB := List.mem_filter.mpr ⟨List.mem_of_getElem? (i := 86) (by decide +kernel), by decide +kernel⟩
theorem wd_960 : Cond.instanceMethod yX6_copyShape ∈ am_TB := List.mem_filter.mpr ⟨List.mem_of_getElem? (i := 960) (by decide +kernel), by decide +kernel⟩
theorem wd_45 : Cond.selects RX6 yX6_copyShape yX6_copyShape ∈ am_TB := List.mem_filter.mpr ⟨List.mem_of_getElem? (i := 45) (by decide +kernel), by decide +kernel⟩
theorem wd_1284 : Cond.methodLinkNest RX6 126 yX10_ranksUpTo "WaterPatience" ∈ am_NB := List.mem_filter.mpr ⟨List.mem_of_getElem? (i := 1284) (by decide +kernel), rfl⟩
theorem wd_1286 : Cond.code yX10_ranksUpTo cX10_ranksUpTo 1 (some .int) ∈ am_TB := List.mem_filter.mpr ⟨List.mem_of_getElem? (i := 1286) (by decide +kernel), by decide +kernel⟩
theorem wd_1285 : Cond.static yX10_ranksUpTo ∈ am_TB := List.mem_filter.mpr ⟨List.mem_of_getElem? (i := 1285) (by decide +kernel), by decide +kernel⟩
theorem wd_1420 : Cond.methodLinkNest RX1 65 yX6_riseRanks "WaterPatience" ∈ am_NB := List.mem_filter.mpr ⟨List.mem_of_getElem? (i := 1420) (by decide +kernel), rfl⟩
theorem wd_1283 : Cond.code yX6_riseRanks cX6_riseRanks 2 (some .int) ∈ am_TB := List.mem_filter.mpr ⟨List.mem_of_getElem? (i := 1283) (by decide +kernel), by decide +kernel⟩
theorem wd_1282 : Cond.instanceMethod yX6_riseRanks ∈ am_TB := List.mem_filter.mpr ⟨List.mem_of_getElem? (i := 1282) (by decide +kernel), by decide +kernel⟩
theorem wd_89 : Cond.selects RX6 yX6_riseRanks yX6_riseRanks ∈ am_TB := List.mem_filter.mpr ⟨List.mem_of_getElem? (i := 89) (by decide +kernel), by decide +kernel⟩
theorem wd_616 : Cond.fieldLink RX1 22 RX1 "sums" "[I" ∈ am_TB := List.mem_filter.mpr ⟨List.mem_of_getElem? (i := 616) (by decide +kernel), by decide +kernel⟩
theorem wd_1434 : Cond.methodLink RX1 77 yX1_wetsOf ∈ am_TB := List.mem_filter.mpr ⟨List.mem_of_getElem? (i := 1434) (by decide +kernel), by decide +kernel⟩
theorem wd_1419 : Cond.code yX1_wetsOf cX1_wetsOf 2 (some .int) ∈ am_TB := List.mem_filter.mpr ⟨List.mem_of_getElem? (i := 1419) (by decide +kernel), by decide +kernel⟩
theorem wd_1418 : Cond.instanceMethod yX1_wetsOf ∈ am_TB := List.mem_filter.mpr ⟨List.mem_of_getElem? (i := 1418) (by decide +kernel), by decide +kernel⟩
theorem wd_104 : Cond.selects RX1 yX1_wetsOf yX1_wetsOf ∈ am_TB := List.mem_filter.mpr ⟨List.mem_of_getElem? (i := 104) (by decide +kernel), by decide +kernel⟩
theorem wd_1433 : Cond.methodLink RX1 74 yX1_tryOut ∈ am_TB := List.mem_filter.mpr ⟨List.mem_of_getElem? (i := 1433) (by decide +kernel), by decide +kernel⟩
theorem wd_1412 : Cond.code yX1_tryOut cX1_tryOut 3 none ∈ am_TB := List.mem_filter.mpr ⟨List.mem_of_getElem? (i := 1412) (by decide +kernel), by decide +kernel⟩
theorem wd_1411 : Cond.instanceMethod yX1_tryOut ∈ am_TB := List.mem_filter.mpr ⟨List.mem_of_getElem? (i := 1411) (by decide +kernel), by decide +kernel⟩
theorem wd_103 : Cond.selects RX1 yX1_tryOut yX1_tryOut ∈ am_TB := List.mem_filter.mpr ⟨List.mem_of_getElem? (i := 103) (by decide +kernel), by decide +kernel⟩
theorem wd_1432 : Cond.methodLink RX1 68 yJ7_fill_53178 ∈ am_TB := List.mem_filter.mpr ⟨List.mem_of_getElem? (i := 1432) (by decide +kernel), by decide +kernel⟩
theorem wd_1360 : Cond.methodLinkNest RX2 56 yX10_rankOf "WaterPatience" ∈ am_NB := List.mem_filter.mpr ⟨List.mem_of_getElem? (i := 1360) (by decide +kernel), rfl⟩
theorem wd_1359 : Cond.methodLinkNest RX2 52 yX10_suitOf "WaterPatience" ∈ am_NB := List.mem_filter.mpr ⟨List.mem_of_getElem? (i := 1359) (by decide +kernel), rfl⟩
theorem wd_1353 : Cond.code yX2_reach cX2_reach 10 (some .int) ∈ am_TB := List.mem_filter.mpr ⟨List.mem_of_getElem? (i := 1353) (by decide +kernel), by decide +kernel⟩
theorem wd_231 : Cond.initialized RX2 ∈ am_TB := List.mem_filter.mpr ⟨List.mem_of_getElem? (i := 231) (by decide +kernel), by decide +kernel⟩
theorem wd_590 : Cond.fieldLink RX2 9 RX2 "moveList" "[I" ∈ am_TB := List.mem_filter.mpr ⟨List.mem_of_getElem? (i := 590) (by decide +kernel), by decide +kernel⟩
theorem wd_591 : Cond.fieldLink RX2 15 RX2 "opening" "[I" ∈ am_TB := List.mem_filter.mpr ⟨List.mem_of_getElem? (i := 591) (by decide +kernel), by decide +kernel⟩
theorem wd_1355 : Cond.methodLinkNest RX2 31 yX6_shift "WaterPatience" ∈ am_NB := List.mem_filter.mpr ⟨List.mem_of_getElem? (i := 1355) (by decide +kernel), rfl⟩
theorem wd_1356 : Cond.methodLink RX2 35 yX2_gain ∈ am_TB := List.mem_filter.mpr ⟨List.mem_of_getElem? (i := 1356) (by decide +kernel), by decide +kernel⟩
theorem wd_1358 : Cond.code yX2_gain cX2_gain 3 (some .int) ∈ am_TB := List.mem_filter.mpr ⟨List.mem_of_getElem? (i := 1358) (by decide +kernel), by decide +kernel⟩
theorem wd_1362 : Cond.methodLink RX2 44 yX2_reach ∈ am_TB := List.mem_filter.mpr ⟨List.mem_of_getElem? (i := 1362) (by decide +kernel), by decide +kernel⟩
theorem wd_1363 : Cond.methodLinkNest RX2 48 yX6_unshift "WaterPatience" ∈ am_NB := List.mem_filter.mpr ⟨List.mem_of_getElem? (i := 1363) (by decide +kernel), rfl⟩
theorem wd_1366 : Cond.code yX6_unshift cX6_unshift 4 none ∈ am_TB := List.mem_filter.mpr ⟨List.mem_of_getElem? (i := 1366) (by decide +kernel), by decide +kernel⟩
theorem wd_1365 : Cond.instanceMethod yX6_unshift ∈ am_TB := List.mem_filter.mpr ⟨List.mem_of_getElem? (i := 1365) (by decide +kernel), by decide +kernel⟩
theorem wd_98 : Cond.selects RX6 yX6_unshift yX6_unshift ∈ am_TB := List.mem_filter.mpr ⟨List.mem_of_getElem? (i := 98) (by decide +kernel), by decide +kernel⟩
theorem wd_1352 : Cond.static yX2_reach ∈ am_TB := List.mem_filter.mpr ⟨List.mem_of_getElem? (i := 1352) (by decide +kernel), by decide +kernel⟩
theorem wd_1361 : Cond.methodLink RX2 39 Lib.Math.max.name ∈ am_TB := List.mem_filter.mpr ⟨List.mem_of_getElem? (i := 1361) (by decide +kernel), by decide +kernel⟩
theorem wd_1357 : Cond.static yX2_gain ∈ am_TB := List.mem_filter.mpr ⟨List.mem_of_getElem? (i := 1357) (by decide +kernel), by decide +kernel⟩
theorem wd_1354 : Cond.methodLinkNest RX2 25 yX6_listMoves "WaterPatience" ∈ am_NB := List.mem_filter.mpr ⟨List.mem_of_getElem? (i := 1354) (by decide +kernel), rfl⟩
theorem wd_1381 : Cond.code yX2_duel cX2_duel 11 (some .int) ∈ am_TB := List.mem_filter.mpr ⟨List.mem_of_getElem? (i := 1381) (by decide +kernel), by decide +kernel⟩
theorem wd_1382 : Cond.methodLink RX2 59 yX2_duel ∈ am_TB := List.mem_filter.mpr ⟨List.mem_of_getElem? (i := 1382) (by decide +kernel), by decide +kernel⟩
theorem wd_1380 : Cond.static yX2_duel ∈ am_TB := List.mem_filter.mpr ⟨List.mem_of_getElem? (i := 1380) (by decide +kernel), by decide +kernel⟩
theorem wd_435 : Cond.fieldLinkNest RX2 69 RX6 "rows" "I" "WaterPatience" ∈ am_NB := List.mem_filter.mpr ⟨List.mem_of_getElem? (i := 435) (by decide +kernel), rfl⟩
theorem wd_404 : Cond.fieldLinkNest RX2 72 RX6 "tall" "[I" "WaterPatience" ∈ am_NB := List.mem_filter.mpr ⟨List.mem_of_getElem? (i := 404) (by decide +kernel), rfl⟩
theorem wd_1397 : Cond.methodLinkNest RX2 79 yX6_swap "WaterPatience" ∈ am_NB := List.mem_filter.mpr ⟨List.mem_of_getElem? (i := 1397) (by decide +kernel), rfl⟩
theorem wd_1400 : Cond.code yX6_swap cX6_swap 7 none ∈ am_TB := List.mem_filter.mpr ⟨List.mem_of_getElem? (i := 1400) (by decide +kernel), by decide +kernel⟩
theorem wd_1391 : Cond.methodLinkNest RX2 63 yX6_ripen "WaterPatience" ∈ am_NB := List.mem_filter.mpr ⟨List.mem_of_getElem? (i := 1391) (by decide +kernel), rfl⟩
theorem wd_1392 : Cond.methodLinkNest RX2 66 yX6_riseRanks "WaterPatience" ∈ am_NB := List.mem_filter.mpr ⟨List.mem_of_getElem? (i := 1392) (by decide +kernel), rfl⟩
theorem wd_592 : Cond.fieldLink RX2 18 RX2 "swapLesser" "I" ∈ am_TB := List.mem_filter.mpr ⟨List.mem_of_getElem? (i := 592) (by decide +kernel), by decide +kernel⟩
theorem wd_594 : Cond.fieldLink RX2 22 RX2 "swapOther" "I" ∈ am_TB := List.mem_filter.mpr ⟨List.mem_of_getElem? (i := 594) (by decide +kernel), by decide +kernel⟩
theorem wd_1399 : Cond.instanceMethod yX6_swap ∈ am_TB := List.mem_filter.mpr ⟨List.mem_of_getElem? (i := 1399) (by decide +kernel), by decide +kernel⟩
theorem wd_102 : Cond.selects RX6 yX6_swap yX6_swap ∈ am_TB := List.mem_filter.mpr ⟨List.mem_of_getElem? (i := 102) (by decide +kernel), by decide +kernel⟩
theorem wd_1393 : Cond.methodLink RX2 75 yX2_swapsOf ∈ am_TB := List.mem_filter.mpr ⟨List.mem_of_getElem? (i := 1393) (by decide +kernel), by decide +kernel⟩
theorem wd_1396 : Cond.code yX2_swapsOf cX2_swapsOf 10 (some .int) ∈ am_TB := List.mem_filter.mpr ⟨List.mem_of_getElem? (i := 1396) (by decide +kernel), by decide +kernel⟩
theorem wd_1395 : Cond.instanceMethod yX2_swapsOf ∈ am_TB := List.mem_filter.mpr ⟨List.mem_of_getElem? (i := 1395) (by decide +kernel), by decide +kernel⟩
theorem wd_101 : Cond.selects RX2 yX2_swapsOf yX2_swapsOf ∈ am_TB := List.mem_filter.mpr ⟨List.mem_of_getElem? (i := 101) (by decide +kernel), by decide +kernel⟩
theorem wd_306 : Cond.constantLong RX3 42 27 ∈ am_TB := List.mem_filter.mpr ⟨List.mem_of_getElem? (i := 306) (by decide +kernel), by decide +kernel⟩
theorem wd_308 : Cond.fieldLink RX3 15 RX3 "text" "[B" ∈ am_TB := List.mem_filter.mpr ⟨List.mem_of_getElem? (i := 308) (by decide +kernel), by decide +kernel⟩
theorem wd_309 : Cond.fieldLink RX3 53 RX3 "end" "I" ∈ am_TB := List.mem_filter.mpr ⟨List.mem_of_getElem? (i := 309) (by decide +kernel), by decide +kernel⟩
theorem wd_310 : Cond.fieldLink RX3 56 RX3 "at" "I" ∈ am_TB := List.mem_filter.mpr ⟨List.mem_of_getElem? (i := 310) (by decide +kernel), by decide +kernel⟩
theorem wd_323 : Cond.fieldLink RX3 19 RX3 "faultKind" "I" ∈ am_TB := List.mem_filter.mpr ⟨List.mem_of_getElem? (i := 323) (by decide +kernel), by decide +kernel⟩
theorem wd_325 : Cond.fieldLink RX3 23 RX3 "faultPlace" "I" ∈ am_TB := List.mem_filter.mpr ⟨List.mem_of_getElem? (i := 325) (by decide +kernel), by decide +kernel⟩
theorem wd_799 : Cond.methodLink RX3 50 Lib.Math.min.name ∈ am_TB := List.mem_filter.mpr ⟨List.mem_of_getElem? (i := 799) (by decide +kernel), by decide +kernel⟩
theorem wd_796 : Cond.methodLink RX3 44 Lib.Math.max.name ∈ am_TB := List.mem_filter.mpr ⟨List.mem_of_getElem? (i := 796) (by decide +kernel), by decide +kernel⟩
theorem wd_312 : Cond.fieldLink RX3 59 RX3 "place" "I" ∈ am_TB := List.mem_filter.mpr ⟨List.mem_of_getElem? (i := 312) (by decide +kernel), by decide +kernel⟩
theorem wd_315 : Cond.fieldLink RX3 91 RX3 "value" "I" ∈ am_TB := List.mem_filter.mpr ⟨List.mem_of_getElem? (i := 315) (by decide +kernel), by decide +kernel⟩
theorem wd_850 : Cond.methodLink RX3 88 yX3_blame ∈ am_TB := List.mem_filter.mpr ⟨List.mem_of_getElem? (i := 850) (by decide +kernel), by decide +kernel⟩
theorem wd_853 : Cond.code yX3_blame cX3_blame 2 (some .boolean) ∈ am_TB := List.mem_filter.mpr ⟨List.mem_of_getElem? (i := 853) (by decide +kernel), by decide +kernel⟩
theorem wd_220 : Cond.initialized RX3 ∈ am_TB := List.mem_filter.mpr ⟨List.mem_of_getElem? (i := 220) (by decide +kernel), by decide +kernel⟩
theorem wd_852 : Cond.instanceMethod yX3_blame ∈ am_TB := List.mem_filter.mpr ⟨List.mem_of_getElem? (i := 852) (by decide +kernel), by decide +kernel⟩
theorem wd_20 : Cond.selects RX3 yX3_blame yX3_blame ∈ am_TB := List.mem_filter.mpr ⟨List.mem_of_getElem? (i := 20) (by decide +kernel), by decide +kernel⟩
theorem wd_829 : Cond.methodLink RX3 62 yX3_byteHere ∈ am_TB := List.mem_filter.mpr ⟨List.mem_of_getElem? (i := 829) (by decide +kernel), by decide +kernel⟩
theorem wd_832 : Cond.code yX3_byteHere cX3_byteHere 1 (some .int) ∈ am_TB := List.mem_filter.mpr ⟨List.mem_of_getElem? (i := 832) (by decide +kernel), by decide +kernel⟩
theorem wd_843 : Cond.methodLink RX3 81 yX3_isDigit ∈ am_TB := List.mem_filter.mpr ⟨List.mem_of_getElem? (i := 843) (by decide +kernel), by decide +kernel⟩
theorem wd_845 : Cond.code yX3_isDigit cX3_isDigit 1 (some .boolean) ∈ am_TB := List.mem_filter.mpr ⟨List.mem_of_getElem? (i := 845) (by decide +kernel), by decide +kernel⟩
theorem wd_831 : Cond.instanceMethod yX3_byteHere ∈ am_TB := List.mem_filter.mpr ⟨List.mem_of_getElem? (i := 831) (by decide +kernel), by decide +kernel⟩
theorem wd_17 : Cond.selects RX3 yX3_byteHere yX3_byteHere ∈ am_TB := List.mem_filter.mpr ⟨List.mem_of_getElem? (i := 17) (by decide +kernel), by decide +kernel⟩
theorem wd_844 : Cond.static yX3_isDigit ∈ am_TB := List.mem_filter.mpr ⟨List.mem_of_getElem? (i := 844) (by decide +kernel), by decide +kernel⟩
theorem wd_311 : Cond.fieldLink RX3 72 RX3 "kind" "I" ∈ am_TB := List.mem_filter.mpr ⟨List.mem_of_getElem? (i := 311) (by decide +kernel), by decide +kernel⟩
theorem wd_318 : Cond.fieldLink RX3 94 RX3 "name" "J" ∈ am_TB := List.mem_filter.mpr ⟨List.mem_of_getElem? (i := 318) (by decide +kernel), by decide +kernel⟩
theorem wd_319 : Cond.fieldLink RX3 98 RX3 "letters" "I" ∈ am_TB := List.mem_filter.mpr ⟨List.mem_of_getElem? (i := 319) (by decide +kernel), by decide +kernel⟩
theorem wd_307 : Cond.fieldLink RX3 9 RX3 "words" "[J" ∈ am_TB := List.mem_filter.mpr ⟨List.mem_of_getElem? (i := 307) (by decide +kernel), by decide +kernel⟩
theorem wd_322 : Cond.fieldLink RX3 69 RX3 "word" "I" ∈ am_TB := List.mem_filter.mpr ⟨List.mem_of_getElem? (i := 322) (by decide +kernel), by decide +kernel⟩
theorem wd_836 : Cond.methodLink RX3 75 yX3_isLetter ∈ am_TB := List.mem_filter.mpr ⟨List.mem_of_getElem? (i := 836) (by decide +kernel), by decide +kernel⟩
theorem wd_838 : Cond.code yX3_isLetter cX3_isLetter 1 (some .boolean) ∈ am_TB := List.mem_filter.mpr ⟨List.mem_of_getElem? (i := 838) (by decide +kernel), by decide +kernel⟩
theorem wd_303 : Cond.methodLink RX3 38 yX3_withLetter ∈ am_TB := List.mem_filter.mpr ⟨List.mem_of_getElem? (i := 303) (by decide +kernel), by decide +kernel⟩
theorem wd_305 : Cond.code yX3_withLetter cX3_withLetter 3 (some .long) ∈ am_TB := List.mem_filter.mpr ⟨List.mem_of_getElem? (i := 305) (by decide +kernel), by decide +kernel⟩
theorem wd_304 : Cond.static yX3_withLetter ∈ am_TB := List.mem_filter.mpr ⟨List.mem_of_getElem? (i := 304) (by decide +kernel), by decide +kernel⟩
theorem wd_837 : Cond.static yX3_isLetter ∈ am_TB := List.mem_filter.mpr ⟨List.mem_of_getElem? (i := 837) (by decide +kernel), by decide +kernel⟩
theorem wd_846 : Cond.methodLink RX3 84 yX3_readNumber ∈ am_TB := List.mem_filter.mpr ⟨List.mem_of_getElem? (i := 846) (by decide +kernel), by decide +kernel⟩
theorem wd_849 : Cond.code yX3_readNumber cX3_readNumber 1 (some .boolean) ∈ am_TB := List.mem_filter.mpr ⟨List.mem_of_getElem? (i := 849) (by decide +kernel), by decide +kernel⟩
theorem wd_848 : Cond.instanceMethod yX3_readNumber ∈ am_TB := List.mem_filter.mpr ⟨List.mem_of_getElem? (i := 848) (by decide +kernel), by decide +kernel⟩
theorem wd_19 : Cond.selects RX3 yX3_readNumber yX3_readNumber ∈ am_TB := List.mem_filter.mpr ⟨List.mem_of_getElem? (i := 19) (by decide +kernel), by decide +kernel⟩
theorem wd_839 : Cond.methodLink RX3 78 yX3_readWord ∈ am_TB := List.mem_filter.mpr ⟨List.mem_of_getElem? (i := 839) (by decide +kernel), by decide +kernel⟩
theorem wd_842 : Cond.code yX3_readWord cX3_readWord 2 none ∈ am_TB := List.mem_filter.mpr ⟨List.mem_of_getElem? (i := 842) (by decide +kernel), by decide +kernel⟩
theorem wd_841 : Cond.instanceMethod yX3_readWord ∈ am_TB := List.mem_filter.mpr ⟨List.mem_of_getElem? (i := 841) (by decide +kernel), by decide +kernel⟩
theorem wd_18 : Cond.selects RX3 yX3_readWord yX3_readWord ∈ am_TB := List.mem_filter.mpr ⟨List.mem_of_getElem? (i := 18) (by decide +kernel), by decide +kernel⟩
theorem wd_833 : Cond.methodLink RX3 65 yX3_isBlank ∈ am_TB := List.mem_filter.mpr ⟨List.mem_of_getElem? (i := 833) (by decide +kernel), by decide +kernel⟩
theorem wd_835 : Cond.code yX3_isBlank cX3_isBlank 1 (some .boolean) ∈ am_TB := List.mem_filter.mpr ⟨List.mem_of_getElem? (i := 835) (by decide +kernel), by decide +kernel⟩
theorem wd_834 : Cond.static yX3_isBlank ∈ am_TB := List.mem_filter.mpr ⟨List.mem_of_getElem? (i := 834) (by decide +kernel), by decide +kernel⟩
theorem wd_872 : Cond.methodLink RX3 104 yX3_isSign ∈ am_TB := List.mem_filter.mpr ⟨List.mem_of_getElem? (i := 872) (by decide +kernel), by decide +kernel⟩
theorem wd_875 : Cond.code yX3_isSign cX3_isSign 2 (some .boolean) ∈ am_TB := List.mem_filter.mpr ⟨List.mem_of_getElem? (i := 875) (by decide +kernel), by decide +kernel⟩
theorem wd_874 : Cond.instanceMethod yX3_isSign ∈ am_TB := List.mem_filter.mpr ⟨List.mem_of_getElem? (i := 874) (by decide +kernel), by decide +kernel⟩
theorem wd_25 : Cond.selects RX3 yX3_isSign yX3_isSign ∈ am_TB := List.mem_filter.mpr ⟨List.mem_of_getElem? (i := 25) (by decide +kernel), by decide +kernel⟩
theorem wd_867 : Cond.methodLink RX3 101 yX3_step ∈ am_TB := List.mem_filter.mpr ⟨List.mem_of_getElem? (i := 867) (by decide +kernel), by decide +kernel⟩
theorem wd_828 : Cond.code yX3_step cX3_step 2 (some .boolean) ∈ am_TB := List.mem_filter.mpr ⟨List.mem_of_getElem? (i := 828) (by decide +kernel), by decide +kernel⟩
theorem wd_827 : Cond.instanceMethod yX3_step ∈ am_TB := List.mem_filter.mpr ⟨List.mem_of_getElem? (i := 827) (by decide +kernel), by decide +kernel⟩
theorem wd_16 : Cond.selects RX3 yX3_step yX3_step ∈ am_TB := List.mem_filter.mpr ⟨List.mem_of_getElem? (i := 16) (by decide +kernel), by decide +kernel⟩
theorem wd_888 : Cond.methodLink RX3 107 yX3_isName ∈ am_TB := List.mem_filter.mpr ⟨List.mem_of_getElem? (i := 888) (by decide +kernel), by decide +kernel⟩
theorem wd_891 : Cond.code yX3_isName cX3_isName 1 (some .boolean) ∈ am_TB := List.mem_filter.mpr ⟨List.mem_of_getElem? (i := 891) (by decide +kernel), by decide +kernel⟩
theorem wd_890 : Cond.instanceMethod yX3_isName ∈ am_TB := List.mem_filter.mpr ⟨List.mem_of_getElem? (i := 890) (by decide +kernel), by decide +kernel⟩
theorem wd_29 : Cond.selects RX3 yX3_isName yX3_isName ∈ am_TB := List.mem_filter.mpr ⟨List.mem_of_getElem? (i := 29) (by decide +kernel), by decide +kernel⟩
theorem wd_476 : Cond.fieldLink RX4 15 RX4 "lines" "I" ∈ am_TB := List.mem_filter.mpr ⟨List.mem_of_getElem? (i := 476) (by decide +kernel), by decide +kernel⟩
theorem wd_478 : Cond.fieldLink RX4 19 RX4 "steps" "I" ∈ am_TB := List.mem_filter.mpr ⟨List.mem_of_getElem? (i := 478) (by decide +kernel), by decide +kernel⟩
theorem wd_482 : Cond.fieldLink RX4 22 RX4 "there" "Z" ∈ am_TB := List.mem_filter.mpr ⟨List.mem_of_getElem? (i := 482) (by decide +kernel), by decide +kernel⟩
theorem wd_966 : Cond.methodLink RX4 26 arraycopyName ∈ am_TB := List.mem_filter.mpr ⟨List.mem_of_getElem? (i := 966) (by decide +kernel), by decide +kernel⟩
theorem wd_992 : Cond.methodLink RX4 32 yX4_setPart ∈ am_TB := List.mem_filter.mpr ⟨List.mem_of_getElem? (i := 992) (by decide +kernel), by decide +kernel⟩
theorem wd_995 : Cond.code yX4_setPart cX4_setPart 4 none ∈ am_TB := List.mem_filter.mpr ⟨List.mem_of_getElem? (i := 995) (by decide +kernel), by decide +kernel⟩
theorem wd_994 : Cond.instanceMethod yX4_setPart ∈ am_TB := List.mem_filter.mpr ⟨List.mem_of_getElem? (i := 994) (by decide +kernel), by decide +kernel⟩
theorem wd_51 : Cond.selects RX4 yX4_setPart yX4_setPart ∈ am_TB := List.mem_filter.mpr ⟨List.mem_of_getElem? (i := 51) (by decide +kernel), by decide +kernel⟩
theorem wd_383 : Cond.fieldLink RX5 24 RX5 "deep" "I" ∈ am_TB := List.mem_filter.mpr ⟨List.mem_of_getElem? (i := 383) (by decide +kernel), by decide +kernel⟩
theorem wd_382 : Cond.fieldLink RX5 11 RX5 "open" "[I" ∈ am_TB := List.mem_filter.mpr ⟨List.mem_of_getElem? (i := 382) (by decide +kernel), by decide +kernel⟩
theorem wd_988 : Cond.methodLinkNest RX5 52 yX4_addLine "WaterPatience" ∈ am_NB := List.mem_filter.mpr ⟨List.mem_of_getElem? (i := 988) (by decide +kernel), rfl⟩
theorem wd_991 : Cond.code yX4_addLine cX4_addLine 3 (some .int) ∈ am_TB := List.mem_filter.mpr ⟨List.mem_of_getElem? (i := 991) (by decide +kernel), by decide +kernel⟩
theorem wd_996 : Cond.methodLinkNest RX5 56 yX4_setPart "WaterPatience" ∈ am_NB := List.mem_filter.mpr ⟨List.mem_of_getElem? (i := 996) (by decide +kernel), rfl⟩
theorem wd_997 : Cond.methodLinkNest RX5 60 yX3_wantSign "WaterPatience" ∈ am_NB := List.mem_filter.mpr ⟨List.mem_of_getElem? (i := 997) (by decide +kernel), rfl⟩
theorem wd_871 : Cond.code yX3_wantSign cX3_wantSign 2 (some .boolean) ∈ am_TB := List.mem_filter.mpr ⟨List.mem_of_getElem? (i := 871) (by decide +kernel), by decide +kernel⟩
theorem wd_870 : Cond.instanceMethod yX3_wantSign ∈ am_TB := List.mem_filter.mpr ⟨List.mem_of_getElem? (i := 870) (by decide +kernel), by decide +kernel⟩
theorem wd_24 : Cond.selects RX3 yX3_wantSign yX3_wantSign ∈ am_TB := List.mem_filter.mpr ⟨List.mem_of_getElem? (i := 24) (by decide +kernel), by decide +kernel⟩
theorem wd_990 : Cond.instanceMethod yX4_addLine ∈ am_TB := List.mem_filter.mpr ⟨List.mem_of_getElem? (i := 990) (by decide +kernel), by decide +kernel⟩
theorem wd_50 : Cond.selects RX4 yX4_addLine yX4_addLine ∈ am_TB := List.mem_filter.mpr ⟨List.mem_of_getElem? (i := 50) (by decide +kernel), by decide +kernel⟩
theorem wd_983 : Cond.methodLinkNest RX5 37 yX3_blame "WaterPatience" ∈ am_NB := List.mem_filter.mpr ⟨List.mem_of_getElem? (i := 983) (by decide +kernel), rfl⟩
theorem wd_314 : Cond.fieldLinkNest RX5 85 RX3 "value" "I" "WaterPatience" ∈ am_NB := List.mem_filter.mpr ⟨List.mem_of_getElem? (i := 314) (by decide +kernel), rfl⟩
theorem wd_1008 : Cond.methodLinkNest RX5 81 yX3_wantNumber "WaterPatience" ∈ am_NB := List.mem_filter.mpr ⟨List.mem_of_getElem? (i := 1008) (by decide +kernel), rfl⟩
theorem wd_866 : Cond.code yX3_wantNumber cX3_wantNumber 3 (some .boolean) ∈ am_TB := List.mem_filter.mpr ⟨List.mem_of_getElem? (i := 866) (by decide +kernel), by decide +kernel⟩
theorem wd_865 : Cond.instanceMethod yX3_wantNumber ∈ am_TB := List.mem_filter.mpr ⟨List.mem_of_getElem? (i := 865) (by decide +kernel), by decide +kernel⟩
theorem wd_23 : Cond.selects RX3 yX3_wantNumber yX3_wantNumber ∈ am_TB := List.mem_filter.mpr ⟨List.mem_of_getElem? (i := 23) (by decide +kernel), by decide +kernel⟩
theorem wd_501 : Cond.fieldLink RX8 29 RX8 "fieldNames" "[J" ∈ am_TB := List.mem_filter.mpr ⟨List.mem_of_getElem? (i := 501) (by decide +kernel), by decide +kernel⟩
theorem wd_420 : Cond.fieldLinkNest RX8 72 RX6 "suits" "I" "WaterPatience" ∈ am_NB := List.mem_filter.mpr ⟨List.mem_of_getElem? (i := 420) (by decide +kernel), rfl⟩
theorem wd_500 : Cond.fieldLink RX8 25 RX8 "suitNames" "[J" ∈ am_TB := List.mem_filter.mpr ⟨List.mem_of_getElem? (i := 500) (by decide +kernel), by decide +kernel⟩
theorem wd_321 : Cond.fieldLinkNest RX5 41 RX3 "word" "I" "WaterPatience" ∈ am_NB := List.mem_filter.mpr ⟨List.mem_of_getElem? (i := 321) (by decide +kernel), rfl⟩
theorem wd_317 : Cond.fieldLinkNest RX5 91 RX3 "name" "J" "WaterPatience" ∈ am_NB := List.mem_filter.mpr ⟨List.mem_of_getElem? (i := 317) (by decide +kernel), rfl⟩
theorem wd_1018 : Cond.methodLinkNest RX5 104 yX3_wantCompare "WaterPatience" ∈ am_NB := List.mem_filter.mpr ⟨List.mem_of_getElem? (i := 1018) (by decide +kernel), rfl⟩
theorem wd_1021 : Cond.code yX3_wantCompare cX3_wantCompare 1 (some .boolean) ∈ am_TB := List.mem_filter.mpr ⟨List.mem_of_getElem? (i := 1021) (by decide +kernel), by decide +kernel⟩
theorem wd_1020 : Cond.instanceMethod yX3_wantCompare ∈ am_TB := List.mem_filter.mpr ⟨List.mem_of_getElem? (i := 1020) (by decide +kernel), by decide +kernel⟩
theorem wd_53 : Cond.selects RX3 yX3_wantCompare yX3_wantCompare ∈ am_TB := List.mem_filter.mpr ⟨List.mem_of_getElem? (i := 53) (by decide +kernel), by decide +kernel⟩
theorem wd_1017 : Cond.methodLinkNest RX5 101 yX8_fieldNamed "WaterPatience" ∈ am_NB := List.mem_filter.mpr ⟨List.mem_of_getElem? (i := 1017) (by decide +kernel), rfl⟩
theorem wd_899 : Cond.code yX8_fieldNamed cX8_fieldNamed 4 (some .int) ∈ am_TB := List.mem_filter.mpr ⟨List.mem_of_getElem? (i := 899) (by decide +kernel), by decide +kernel⟩
theorem wd_898 : Cond.instanceMethod yX8_fieldNamed ∈ am_TB := List.mem_filter.mpr ⟨List.mem_of_getElem? (i := 898) (by decide +kernel), by decide +kernel⟩
theorem wd_31 : Cond.selects RX8 yX8_fieldNamed yX8_fieldNamed ∈ am_TB := List.mem_filter.mpr ⟨List.mem_of_getElem? (i := 31) (by decide +kernel), by decide +kernel⟩
theorem wd_1016 : Cond.methodLinkNest RX5 95 yX8_suitNamed "WaterPatience" ∈ am_NB := List.mem_filter.mpr ⟨List.mem_of_getElem? (i := 1016) (by decide +kernel), rfl⟩
theorem wd_895 : Cond.code yX8_suitNamed cX8_suitNamed 4 (some .int) ∈ am_TB := List.mem_filter.mpr ⟨List.mem_of_getElem? (i := 895) (by decide +kernel), by decide +kernel⟩
theorem wd_894 : Cond.instanceMethod yX8_suitNamed ∈ am_TB := List.mem_filter.mpr ⟨List.mem_of_getElem? (i := 894) (by decide +kernel), by decide +kernel⟩
theorem wd_30 : Cond.selects RX8 yX8_suitNamed yX8_suitNamed ∈ am_TB := List.mem_filter.mpr ⟨List.mem_of_getElem? (i := 30) (by decide +kernel), by decide +kernel⟩
theorem wd_1015 : Cond.methodLinkNest RX5 88 yX3_wantName "WaterPatience" ∈ am_NB := List.mem_filter.mpr ⟨List.mem_of_getElem? (i := 1015) (by decide +kernel), rfl⟩
theorem wd_887 : Cond.code yX3_wantName cX3_wantName 1 (some .boolean) ∈ am_TB := List.mem_filter.mpr ⟨List.mem_of_getElem? (i := 887) (by decide +kernel), by decide +kernel⟩
theorem wd_886 : Cond.instanceMethod yX3_wantName ∈ am_TB := List.mem_filter.mpr ⟨List.mem_of_getElem? (i := 886) (by decide +kernel), by decide +kernel⟩
theorem wd_28 : Cond.selects RX3 yX3_wantName yX3_wantName ∈ am_TB := List.mem_filter.mpr ⟨List.mem_of_getElem? (i := 28) (by decide +kernel), by decide +kernel⟩
theorem wd_981 : Cond.methodLinkNest RX5 28 yX3_step "WaterPatience" ∈ am_NB := List.mem_filter.mpr ⟨List.mem_of_getElem? (i := 981) (by decide +kernel), rfl⟩
theorem wd_479 : Cond.fieldLinkNest RX5 66 RX4 "steps" "I" "WaterPatience" ∈ am_NB := List.mem_filter.mpr ⟨List.mem_of_getElem? (i := 479) (by decide +kernel), rfl⟩
theorem wd_1012 : Cond.methodLink RX5 77 yX5_takeTest ∈ am_TB := List.mem_filter.mpr ⟨List.mem_of_getElem? (i := 1012) (by decide +kernel), by decide +kernel⟩
theorem wd_1014 : Cond.code yX5_takeTest cX5_takeTest 6 (some .boolean) ∈ am_TB := List.mem_filter.mpr ⟨List.mem_of_getElem? (i := 1014) (by decide +kernel), by decide +kernel⟩
theorem wd_226 : Cond.initialized RX5 ∈ am_TB := List.mem_filter.mpr ⟨List.mem_of_getElem? (i := 226) (by decide +kernel), by decide +kernel⟩
theorem wd_1013 : Cond.static yX5_takeTest ∈ am_TB := List.mem_filter.mpr ⟨List.mem_of_getElem? (i := 1013) (by decide +kernel), by decide +kernel⟩
theorem wd_1009 : Cond.methodLink RX5 73 yX5_takePlaces ∈ am_TB := List.mem_filter.mpr ⟨List.mem_of_getElem? (i := 1009) (by decide +kernel), by decide +kernel⟩
theorem wd_1011 : Cond.code yX5_takePlaces cX5_takePlaces 3 (some .boolean) ∈ am_TB := List.mem_filter.mpr ⟨List.mem_of_getElem? (i := 1011) (by decide +kernel), by decide +kernel⟩
theorem wd_1010 : Cond.static yX5_takePlaces ∈ am_TB := List.mem_filter.mpr ⟨List.mem_of_getElem? (i := 1010) (by decide +kernel), by decide +kernel⟩
theorem wd_1005 : Cond.methodLink RX5 69 yX5_takeNumber ∈ am_TB := List.mem_filter.mpr ⟨List.mem_of_getElem? (i := 1005) (by decide +kernel), by decide +kernel⟩
theorem wd_1007 : Cond.code yX5_takeNumber cX5_takeNumber 4 (some .boolean) ∈ am_TB := List.mem_filter.mpr ⟨List.mem_of_getElem? (i := 1007) (by decide +kernel), by decide +kernel⟩
theorem wd_1006 : Cond.static yX5_takeNumber ∈ am_TB := List.mem_filter.mpr ⟨List.mem_of_getElem? (i := 1006) (by decide +kernel), by decide +kernel⟩
theorem wd_1002 : Cond.methodLink RX5 63 yX5_isStep ∈ am_TB := List.mem_filter.mpr ⟨List.mem_of_getElem? (i := 1002) (by decide +kernel), by decide +kernel⟩
theorem wd_1004 : Cond.code yX5_isStep cX5_isStep 1 (some .boolean) ∈ am_TB := List.mem_filter.mpr ⟨List.mem_of_getElem? (i := 1004) (by decide +kernel), by decide +kernel⟩
theorem wd_1003 : Cond.static yX5_isStep ∈ am_TB := List.mem_filter.mpr ⟨List.mem_of_getElem? (i := 1003) (by decide +kernel), by decide +kernel⟩
theorem wd_998 : Cond.methodLink RX5 48 yX5_takeStep ∈ am_TB := List.mem_filter.mpr ⟨List.mem_of_getElem? (i := 998) (by decide +kernel), by decide +kernel⟩
theorem wd_1001 : Cond.code yX5_takeStep cX5_takeStep 8 (some .boolean) ∈ am_TB := List.mem_filter.mpr ⟨List.mem_of_getElem? (i := 1001) (by decide +kernel), by decide +kernel⟩
theorem wd_1000 : Cond.instanceMethod yX5_takeStep ∈ am_TB := List.mem_filter.mpr ⟨List.mem_of_getElem? (i := 1000) (by decide +kernel), by decide +kernel⟩
theorem wd_52 : Cond.selects RX5 yX5_takeStep yX5_takeStep ∈ am_TB := List.mem_filter.mpr ⟨List.mem_of_getElem? (i := 52) (by decide +kernel), by decide +kernel⟩
theorem wd_984 : Cond.methodLink RX5 44 yX5_takeEnd ∈ am_TB := List.mem_filter.mpr ⟨List.mem_of_getElem? (i := 984) (by decide +kernel), by decide +kernel⟩
theorem wd_987 : Cond.code yX5_takeEnd cX5_takeEnd 4 (some .boolean) ∈ am_TB := List.mem_filter.mpr ⟨List.mem_of_getElem? (i := 987) (by decide +kernel), by decide +kernel⟩
theorem wd_986 : Cond.instanceMethod yX5_takeEnd ∈ am_TB := List.mem_filter.mpr ⟨List.mem_of_getElem? (i := 986) (by decide +kernel), by decide +kernel⟩
theorem wd_49 : Cond.selects RX5 yX5_takeEnd yX5_takeEnd ∈ am_TB := List.mem_filter.mpr ⟨List.mem_of_getElem? (i := 49) (by decide +kernel), by decide +kernel⟩
theorem wd_982 : Cond.methodLinkNest RX5 34 yX3_isEnd "WaterPatience" ∈ am_NB := List.mem_filter.mpr ⟨List.mem_of_getElem? (i := 982) (by decide +kernel), rfl⟩
theorem wd_857 : Cond.code yX3_isEnd cX3_isEnd 1 (some .boolean) ∈ am_TB := List.mem_filter.mpr ⟨List.mem_of_getElem? (i := 857) (by decide +kernel), by decide +kernel⟩
theorem wd_856 : Cond.instanceMethod yX3_isEnd ∈ am_TB := List.mem_filter.mpr ⟨List.mem_of_getElem? (i := 856) (by decide +kernel), by decide +kernel⟩
theorem wd_21 : Cond.selects RX3 yX3_isEnd yX3_isEnd ∈ am_TB := List.mem_filter.mpr ⟨List.mem_of_getElem? (i := 21) (by decide +kernel), by decide +kernel⟩
theorem wd_980 : Cond.methodLinkNest RX5 15 yX4_clear "WaterPatience" ∈ am_NB := List.mem_filter.mpr ⟨List.mem_of_getElem? (i := 980) (by decide +kernel), rfl⟩
theorem wd_824 : Cond.code yX4_clear cX4_clear 1 none ∈ am_TB := List.mem_filter.mpr ⟨List.mem_of_getElem? (i := 824) (by decide +kernel), by decide +kernel⟩
theorem wd_481 : Cond.fieldLinkNest RX5 20 RX4 "there" "Z" "WaterPatience" ∈ am_NB := List.mem_filter.mpr ⟨List.mem_of_getElem? (i := 481) (by decide +kernel), rfl⟩
theorem wd_823 : Cond.instanceMethod yX4_clear ∈ am_TB := List.mem_filter.mpr ⟨List.mem_of_getElem? (i := 823) (by decide +kernel), by decide +kernel⟩
theorem wd_15 : Cond.selects RX4 yX4_clear yX4_clear ∈ am_TB := List.mem_filter.mpr ⟨List.mem_of_getElem? (i := 15) (by decide +kernel), by decide +kernel⟩
theorem wd_814 : Cond.methodLink RX6 34 yX6_sweep ∈ am_TB := List.mem_filter.mpr ⟨List.mem_of_getElem? (i := 814) (by decide +kernel), by decide +kernel⟩
theorem wd_958 : Cond.methodLink RX6 70 yX6_copyShape ∈ am_TB := List.mem_filter.mpr ⟨List.mem_of_getElem? (i := 958) (by decide +kernel), by decide +kernel⟩
theorem wd_1307 : Cond.methodLink RX6 135 yX6_placeInStock ∈ am_TB := List.mem_filter.mpr ⟨List.mem_of_getElem? (i := 1307) (by decide +kernel), by decide +kernel⟩
theorem wd_1310 : Cond.code yX6_placeInStock cX6_placeInStock 3 (some .int) ∈ am_TB := List.mem_filter.mpr ⟨List.mem_of_getElem? (i := 1310) (by decide +kernel), by decide +kernel⟩
theorem wd_1309 : Cond.instanceMethod yX6_placeInStock ∈ am_TB := List.mem_filter.mpr ⟨List.mem_of_getElem? (i := 1309) (by decide +kernel), by decide +kernel⟩
theorem wd_94 : Cond.selects RX6 yX6_placeInStock yX6_placeInStock ∈ am_TB := List.mem_filter.mpr ⟨List.mem_of_getElem? (i := 94) (by decide +kernel), by decide +kernel⟩
theorem wd_1303 : Cond.methodLink RX6 132 yX6_placeIn ∈ am_TB := List.mem_filter.mpr ⟨List.mem_of_getElem? (i := 1303) (by decide +kernel), by decide +kernel⟩
theorem wd_1306 : Cond.code yX6_placeIn cX6_placeIn 4 (some .int) ∈ am_TB := List.mem_filter.mpr ⟨List.mem_of_getElem? (i := 1306) (by decide +kernel), by decide +kernel⟩
theorem wd_1305 : Cond.instanceMethod yX6_placeIn ∈ am_TB := List.mem_filter.mpr ⟨List.mem_of_getElem? (i := 1305) (by decide +kernel), by decide +kernel⟩
theorem wd_93 : Cond.selects RX6 yX6_placeIn yX6_placeIn ∈ am_TB := List.mem_filter.mpr ⟨List.mem_of_getElem? (i := 93) (by decide +kernel), by decide +kernel⟩
theorem wd_1299 : Cond.methodLink RX6 129 yX6_whereIs ∈ am_TB := List.mem_filter.mpr ⟨List.mem_of_getElem? (i := 1299) (by decide +kernel), by decide +kernel⟩
theorem wd_1302 : Cond.code yX6_whereIs cX6_whereIs 3 (some .int) ∈ am_TB := List.mem_filter.mpr ⟨List.mem_of_getElem? (i := 1302) (by decide +kernel), by decide +kernel⟩
theorem wd_1301 : Cond.instanceMethod yX6_whereIs ∈ am_TB := List.mem_filter.mpr ⟨List.mem_of_getElem? (i := 1301) (by decide +kernel), by decide +kernel⟩
theorem wd_92 : Cond.selects RX6 yX6_whereIs yX6_whereIs ∈ am_TB := List.mem_filter.mpr ⟨List.mem_of_getElem? (i := 92) (by decide +kernel), by decide +kernel⟩
theorem wd_630 : Cond.fieldLink RX7 9 RX7 "numbers" "[J" ∈ am_TB := List.mem_filter.mpr ⟨List.mem_of_getElem? (i := 630) (by decide +kernel), by decide +kernel⟩
theorem wd_632 : Cond.fieldLink RX7 15 RX7 "there" "Z" ∈ am_TB := List.mem_filter.mpr ⟨List.mem_of_getElem? (i := 632) (by decide +kernel), by decide +kernel⟩
theorem wd_634 : Cond.fieldLink RX7 19 RX7 "sort" "I" ∈ am_TB := List.mem_filter.mpr ⟨List.mem_of_getElem? (i := 634) (by decide +kernel), by decide +kernel⟩
theorem wd_636 : Cond.fieldLink RX7 23 RX7 "many" "I" ∈ am_TB := List.mem_filter.mpr ⟨List.mem_of_getElem? (i := 636) (by decide +kernel), by decide +kernel⟩
theorem wd_732 : Cond.methodLink RX7 26 yJ7_fill_d0a16 ∈ am_TB := List.mem_filter.mpr ⟨List.mem_of_getElem? (i := 732) (by decide +kernel), by decide +kernel⟩
theorem wd_734 : Cond.code yJ7_fill_d0a16 cJ7_fill_d0a16 5 none ∈ am_TB := List.mem_filter.mpr ⟨List.mem_of_getElem? (i := 734) (by decide +kernel), by decide +kernel⟩
theorem wd_733 : Cond.static yJ7_fill_d0a16 ∈ am_TB := List.mem_filter.mpr ⟨List.mem_of_getElem? (i := 733) (by decide +kernel), by decide +kernel⟩
theorem wd_755 : Cond.methodLink RX7 32 yX7_has ∈ am_TB := List.mem_filter.mpr ⟨List.mem_of_getElem? (i := 755) (by decide +kernel), by decide +kernel⟩
theorem wd_750 : Cond.code yX7_has cX7_has 3 (some .boolean) ∈ am_TB := List.mem_filter.mpr ⟨List.mem_of_getElem? (i := 750) (by decide +kernel), by decide +kernel⟩
theorem wd_233 : Cond.initialized RX7 ∈ am_TB := List.mem_filter.mpr ⟨List.mem_of_getElem? (i := 233) (by decide +kernel), by decide +kernel⟩
theorem wd_756 : Cond.methodLink RX7 36 yX7_cut ∈ am_TB := List.mem_filter.mpr ⟨List.mem_of_getElem? (i := 756) (by decide +kernel), by decide +kernel⟩
theorem wd_759 : Cond.code yX7_cut cX7_cut 3 (some .long) ∈ am_TB := List.mem_filter.mpr ⟨List.mem_of_getElem? (i := 759) (by decide +kernel), by decide +kernel⟩
theorem wd_758 : Cond.instanceMethod yX7_cut ∈ am_TB := List.mem_filter.mpr ⟨List.mem_of_getElem? (i := 758) (by decide +kernel), by decide +kernel⟩
theorem wd_6 : Cond.selects RX7 yX7_cut yX7_cut ∈ am_TB := List.mem_filter.mpr ⟨List.mem_of_getElem? (i := 6) (by decide +kernel), by decide +kernel⟩
theorem wd_749 : Cond.instanceMethod yX7_has ∈ am_TB := List.mem_filter.mpr ⟨List.mem_of_getElem? (i := 749) (by decide +kernel), by decide +kernel⟩
theorem wd_4 : Cond.selects RX7 yX7_has yX7_has ∈ am_TB := List.mem_filter.mpr ⟨List.mem_of_getElem? (i := 4) (by decide +kernel), by decide +kernel⟩
theorem wd_772 : Cond.constantLong RX7 40 (-1) ∈ am_TB := List.mem_filter.mpr ⟨List.mem_of_getElem? (i := 772) (by decide +kernel), by decide +kernel⟩
theorem wd_497 : Cond.fieldLink RX8 21 RX8 "plan" "LWaterPatience$Seasons;" ∈ am_TB := List.mem_filter.mpr ⟨List.mem_of_getElem? (i := 497) (by decide +kernel), by decide +kernel⟩
theorem wd_810 : Cond.methodLinkNest RX8 48 yX6_clear "WaterPatience" ∈ am_NB := List.mem_filter.mpr ⟨List.mem_of_getElem? (i := 810) (by decide +kernel), rfl⟩
theorem wd_813 : Cond.code yX6_clear cX6_clear 1 none ∈ am_TB := List.mem_filter.mpr ⟨List.mem_of_getElem? (i := 813) (by decide +kernel), by decide +kernel⟩
theorem wd_821 : Cond.methodLinkNest RX8 51 yX4_clear "WaterPatience" ∈ am_NB := List.mem_filter.mpr ⟨List.mem_of_getElem? (i := 821) (by decide +kernel), rfl⟩
theorem wd_812 : Cond.instanceMethod yX6_clear ∈ am_TB := List.mem_filter.mpr ⟨List.mem_of_getElem? (i := 812) (by decide +kernel), by decide +kernel⟩
theorem wd_13 : Cond.selects RX6 yX6_clear yX6_clear ∈ am_TB := List.mem_filter.mpr ⟨List.mem_of_getElem? (i := 13) (by decide +kernel), by decide +kernel⟩
theorem wd_953 : Cond.methodLinkNest RX8 59 yX6_copyFrom "WaterPatience" ∈ am_NB := List.mem_filter.mpr ⟨List.mem_of_getElem? (i := 953) (by decide +kernel), rfl⟩
theorem wd_956 : Cond.code yX6_copyFrom cX6_copyFrom 2 none ∈ am_TB := List.mem_filter.mpr ⟨List.mem_of_getElem? (i := 956) (by decide +kernel), by decide +kernel⟩
theorem wd_962 : Cond.methodLinkNest RX8 63 yX4_copyFrom "WaterPatience" ∈ am_NB := List.mem_filter.mpr ⟨List.mem_of_getElem? (i := 962) (by decide +kernel), rfl⟩
theorem wd_965 : Cond.code yX4_copyFrom cX4_copyFrom 2 none ∈ am_TB := List.mem_filter.mpr ⟨List.mem_of_getElem? (i := 965) (by decide +kernel), by decide +kernel⟩
theorem wd_967 : Cond.methodLink RX8 66 arraycopyName ∈ am_TB := List.mem_filter.mpr ⟨List.mem_of_getElem? (i := 967) (by decide +kernel), by decide +kernel⟩
theorem wd_964 : Cond.instanceMethod yX4_copyFrom ∈ am_TB := List.mem_filter.mpr ⟨List.mem_of_getElem? (i := 964) (by decide +kernel), by decide +kernel⟩
theorem wd_46 : Cond.selects RX4 yX4_copyFrom yX4_copyFrom ∈ am_TB := List.mem_filter.mpr ⟨List.mem_of_getElem? (i := 46) (by decide +kernel), by decide +kernel⟩
theorem wd_955 : Cond.instanceMethod yX6_copyFrom ∈ am_TB := List.mem_filter.mpr ⟨List.mem_of_getElem? (i := 955) (by decide +kernel), by decide +kernel⟩
theorem wd_44 : Cond.selects RX6 yX6_copyFrom yX6_copyFrom ∈ am_TB := List.mem_filter.mpr ⟨List.mem_of_getElem? (i := 44) (by decide +kernel), by decide +kernel⟩
theorem wd_434 : Cond.fieldLinkNest RX9 66 RX6 "rows" "I" "WaterPatience" ∈ am_NB := List.mem_filter.mpr ⟨List.mem_of_getElem? (i := 434) (by decide +kernel), rfl⟩
theorem wd_862 : Cond.methodLinkNest RX9 78 yX3_blame "WaterPatience" ∈ am_NB := List.mem_filter.mpr ⟨List.mem_of_getElem? (i := 862) (by decide +kernel), rfl⟩
theorem wd_316 : Cond.fieldLinkNest RX9 107 RX3 "name" "J" "WaterPatience" ∈ am_NB := List.mem_filter.mpr ⟨List.mem_of_getElem? (i := 316) (by decide +kernel), rfl⟩
theorem wd_494 : Cond.fieldLinkNest RX9 45 RX8 "table" "LWaterPatience$Table;" "WaterPatience" ∈ am_NB := List.mem_filter.mpr ⟨List.mem_of_getElem? (i := 494) (by decide +kernel), rfl⟩
theorem wd_405 : Cond.fieldLinkNest RX9 137 RX6 "tall" "[I" "WaterPatience" ∈ am_NB := List.mem_filter.mpr ⟨List.mem_of_getElem? (i := 405) (by decide +kernel), rfl⟩
theorem wd_416 : Cond.fieldLinkNest RX9 89 RX6 "ranks" "I" "WaterPatience" ∈ am_NB := List.mem_filter.mpr ⟨List.mem_of_getElem? (i := 416) (by decide +kernel), rfl⟩
theorem wd_313 : Cond.fieldLinkNest RX9 86 RX3 "value" "I" "WaterPatience" ∈ am_NB := List.mem_filter.mpr ⟨List.mem_of_getElem? (i := 313) (by decide +kernel), rfl⟩
theorem wd_364 : Cond.fieldLink RX9 29 RX9 "dealt" "I" ∈ am_TB := List.mem_filter.mpr ⟨List.mem_of_getElem? (i := 364) (by decide +kernel), by decide +kernel⟩
theorem wd_929 : Cond.methodLinkNest RX9 145 yX6_layInStock "WaterPatience" ∈ am_NB := List.mem_filter.mpr ⟨List.mem_of_getElem? (i := 929) (by decide +kernel), rfl⟩
theorem wd_925 : Cond.methodLinkNest RX9 141 yX6_lay "WaterPatience" ∈ am_NB := List.mem_filter.mpr ⟨List.mem_of_getElem? (i := 925) (by decide +kernel), rfl⟩
theorem wd_863 : Cond.methodLinkNest RX9 82 yX3_wantNumber "WaterPatience" ∈ am_NB := List.mem_filter.mpr ⟨List.mem_of_getElem? (i := 863) (by decide +kernel), rfl⟩
theorem wd_892 : Cond.methodLinkNest RX9 124 yX8_suitNamed "WaterPatience" ∈ am_NB := List.mem_filter.mpr ⟨List.mem_of_getElem? (i := 892) (by decide +kernel), rfl⟩
theorem wd_924 : Cond.methodLinkNest RX9 134 yX3_isName "WaterPatience" ∈ am_NB := List.mem_filter.mpr ⟨List.mem_of_getElem? (i := 924) (by decide +kernel), rfl⟩
theorem wd_920 : Cond.methodLink RX9 131 yX9_takeCard ∈ am_TB := List.mem_filter.mpr ⟨List.mem_of_getElem? (i := 920) (by decide +kernel), by decide +kernel⟩
theorem wd_923 : Cond.code yX9_takeCard cX9_takeCard 7 (some .boolean) ∈ am_TB := List.mem_filter.mpr ⟨List.mem_of_getElem? (i := 923) (by decide +kernel), by decide +kernel⟩
theorem wd_225 : Cond.initialized RX9 ∈ am_TB := List.mem_filter.mpr ⟨List.mem_of_getElem? (i := 225) (by decide +kernel), by decide +kernel⟩
theorem wd_922 : Cond.instanceMethod yX9_takeCard ∈ am_TB := List.mem_filter.mpr ⟨List.mem_of_getElem? (i := 922) (by decide +kernel), by decide +kernel⟩
theorem wd_36 : Cond.selects RX9 yX9_takeCard yX9_takeCard ∈ am_TB := List.mem_filter.mpr ⟨List.mem_of_getElem? (i := 36) (by decide +kernel), by decide +kernel⟩
theorem wd_904 : Cond.methodLinkNest RX9 118 yX3_isSign "WaterPatience" ∈ am_NB := List.mem_filter.mpr ⟨List.mem_of_getElem? (i := 904) (by decide +kernel), rfl⟩
theorem wd_825 : Cond.methodLinkNest RX9 33 yX3_step "WaterPatience" ∈ am_NB := List.mem_filter.mpr ⟨List.mem_of_getElem? (i := 825) (by decide +kernel), rfl⟩
theorem wd_363 : Cond.fieldLink RX9 26 RX9 "cardsTold" "Z" ∈ am_TB := List.mem_filter.mpr ⟨List.mem_of_getElem? (i := 363) (by decide +kernel), by decide +kernel⟩
theorem wd_320 : Cond.fieldLinkNest RX9 42 RX3 "word" "I" "WaterPatience" ∈ am_NB := List.mem_filter.mpr ⟨List.mem_of_getElem? (i := 320) (by decide +kernel), rfl⟩
theorem wd_512 : Cond.fieldLinkNest RX9 162 RX8 "water" "[I" "WaterPatience" ∈ am_NB := List.mem_filter.mpr ⟨List.mem_of_getElem? (i := 512) (by decide +kernel), rfl⟩
theorem wd_516 : Cond.fieldLinkNest RX9 165 RX8 "high" "[I" "WaterPatience" ∈ am_NB := List.mem_filter.mpr ⟨List.mem_of_getElem? (i := 516) (by decide +kernel), rfl⟩
theorem wd_868 : Cond.methodLinkNest RX9 92 yX3_wantSign "WaterPatience" ∈ am_NB := List.mem_filter.mpr ⟨List.mem_of_getElem? (i := 868) (by decide +kernel), rfl⟩
theorem wd_896 : Cond.methodLinkNest RX9 128 yX8_fieldNamed "WaterPatience" ∈ am_NB := List.mem_filter.mpr ⟨List.mem_of_getElem? (i := 896) (by decide +kernel), rfl⟩
theorem wd_884 : Cond.methodLinkNest RX9 121 yX3_wantName "WaterPatience" ∈ am_NB := List.mem_filter.mpr ⟨List.mem_of_getElem? (i := 884) (by decide +kernel), rfl⟩
theorem wd_504 : Cond.fieldLinkNest RX9 149 RX8 "fields" "I" "WaterPatience" ∈ am_NB := List.mem_filter.mpr ⟨List.mem_of_getElem? (i := 504) (by decide +kernel), rfl⟩
theorem wd_941 : Cond.methodLinkNest RX9 155 yX8_addField "WaterPatience" ∈ am_NB := List.mem_filter.mpr ⟨List.mem_of_getElem? (i := 941) (by decide +kernel), rfl⟩
theorem wd_944 : Cond.code yX8_addField cX8_addField 5 none ∈ am_TB := List.mem_filter.mpr ⟨List.mem_of_getElem? (i := 944) (by decide +kernel), by decide +kernel⟩
theorem wd_945 : Cond.methodLink RX9 159 yX9_takeWater ∈ am_TB := List.mem_filter.mpr ⟨List.mem_of_getElem? (i := 945) (by decide +kernel), by decide +kernel⟩
theorem wd_948 : Cond.code yX9_takeWater cX9_takeWater 4 (some .boolean) ∈ am_TB := List.mem_filter.mpr ⟨List.mem_of_getElem? (i := 948) (by decide +kernel), by decide +kernel⟩
theorem wd_947 : Cond.instanceMethod yX9_takeWater ∈ am_TB := List.mem_filter.mpr ⟨List.mem_of_getElem? (i := 947) (by decide +kernel), by decide +kernel⟩
theorem wd_42 : Cond.selects RX9 yX9_takeWater yX9_takeWater ∈ am_TB := List.mem_filter.mpr ⟨List.mem_of_getElem? (i := 42) (by decide +kernel), by decide +kernel⟩
theorem wd_943 : Cond.instanceMethod yX8_addField ∈ am_TB := List.mem_filter.mpr ⟨List.mem_of_getElem? (i := 943) (by decide +kernel), by decide +kernel⟩
theorem wd_41 : Cond.selects RX8 yX8_addField yX8_addField ∈ am_TB := List.mem_filter.mpr ⟨List.mem_of_getElem? (i := 41) (by decide +kernel), by decide +kernel⟩
theorem wd_937 : Cond.methodLinkNest RX9 152 yX3_wantWord "WaterPatience" ∈ am_NB := List.mem_filter.mpr ⟨List.mem_of_getElem? (i := 937) (by decide +kernel), rfl⟩
theorem wd_940 : Cond.code yX3_wantWord cX3_wantWord 2 (some .boolean) ∈ am_TB := List.mem_filter.mpr ⟨List.mem_of_getElem? (i := 940) (by decide +kernel), by decide +kernel⟩
theorem wd_939 : Cond.instanceMethod yX3_wantWord ∈ am_TB := List.mem_filter.mpr ⟨List.mem_of_getElem? (i := 939) (by decide +kernel), by decide +kernel⟩
theorem wd_40 : Cond.selects RX3 yX3_wantWord yX3_wantWord ∈ am_TB := List.mem_filter.mpr ⟨List.mem_of_getElem? (i := 40) (by decide +kernel), by decide +kernel⟩
theorem wd_880 : Cond.methodLink RX9 104 yX9_wantNewName ∈ am_TB := List.mem_filter.mpr ⟨List.mem_of_getElem? (i := 880) (by decide +kernel), by decide +kernel⟩
theorem wd_883 : Cond.code yX9_wantNewName cX9_wantNewName 4 (some .boolean) ∈ am_TB := List.mem_filter.mpr ⟨List.mem_of_getElem? (i := 883) (by decide +kernel), by decide +kernel⟩
theorem wd_882 : Cond.instanceMethod yX9_wantNewName ∈ am_TB := List.mem_filter.mpr ⟨List.mem_of_getElem? (i := 882) (by decide +kernel), by decide +kernel⟩
theorem wd_27 : Cond.selects RX9 yX9_wantNewName yX9_wantNewName ∈ am_TB := List.mem_filter.mpr ⟨List.mem_of_getElem? (i := 27) (by decide +kernel), by decide +kernel⟩
theorem wd_361 : Cond.fieldLink RX9 20 RX9 "lawTold" "Z" ∈ am_TB := List.mem_filter.mpr ⟨List.mem_of_getElem? (i := 361) (by decide +kernel), by decide +kernel⟩
theorem wd_427 : Cond.fieldLinkNest RX9 95 RX6 "law" "I" "WaterPatience" ∈ am_NB := List.mem_filter.mpr ⟨List.mem_of_getElem? (i := 427) (by decide +kernel), rfl⟩
theorem wd_360 : Cond.fieldLink RX9 14 RX9 "ranksTold" "Z" ∈ am_TB := List.mem_filter.mpr ⟨List.mem_of_getElem? (i := 360) (by decide +kernel), by decide +kernel⟩
theorem wd_362 : Cond.fieldLink RX9 23 RX9 "redealsTold" "Z" ∈ am_TB := List.mem_filter.mpr ⟨List.mem_of_getElem? (i := 362) (by decide +kernel), by decide +kernel⟩
theorem wd_430 : Cond.fieldLinkNest RX9 98 RX6 "redeals" "I" "WaterPatience" ∈ am_NB := List.mem_filter.mpr ⟨List.mem_of_getElem? (i := 430) (by decide +kernel), rfl⟩
theorem wd_421 : Cond.fieldLinkNest RX9 101 RX6 "suits" "I" "WaterPatience" ∈ am_NB := List.mem_filter.mpr ⟨List.mem_of_getElem? (i := 421) (by decide +kernel), rfl⟩
theorem wd_424 : Cond.fieldLinkNest RX9 115 RX6 "red" "I" "WaterPatience" ∈ am_NB := List.mem_filter.mpr ⟨List.mem_of_getElem? (i := 424) (by decide +kernel), rfl⟩
theorem wd_900 : Cond.methodLinkNest RX9 111 yX8_addSuit "WaterPatience" ∈ am_NB := List.mem_filter.mpr ⟨List.mem_of_getElem? (i := 900) (by decide +kernel), rfl⟩
theorem wd_903 : Cond.code yX8_addSuit cX8_addSuit 3 none ∈ am_TB := List.mem_filter.mpr ⟨List.mem_of_getElem? (i := 903) (by decide +kernel), by decide +kernel⟩
theorem wd_902 : Cond.instanceMethod yX8_addSuit ∈ am_TB := List.mem_filter.mpr ⟨List.mem_of_getElem? (i := 902) (by decide +kernel), by decide +kernel⟩
theorem wd_32 : Cond.selects RX8 yX8_addSuit yX8_addSuit ∈ am_TB := List.mem_filter.mpr ⟨List.mem_of_getElem? (i := 32) (by decide +kernel), by decide +kernel⟩
theorem wd_933 : Cond.methodLink RX9 75 yX9_takeField ∈ am_TB := List.mem_filter.mpr ⟨List.mem_of_getElem? (i := 933) (by decide +kernel), by decide +kernel⟩
theorem wd_936 : Cond.code yX9_takeField cX9_takeField 7 (some .boolean) ∈ am_TB := List.mem_filter.mpr ⟨List.mem_of_getElem? (i := 936) (by decide +kernel), by decide +kernel⟩
theorem wd_935 : Cond.instanceMethod yX9_takeField ∈ am_TB := List.mem_filter.mpr ⟨List.mem_of_getElem? (i := 935) (by decide +kernel), by decide +kernel⟩
theorem wd_39 : Cond.selects RX9 yX9_takeField yX9_takeField ∈ am_TB := List.mem_filter.mpr ⟨List.mem_of_getElem? (i := 39) (by decide +kernel), by decide +kernel⟩
theorem wd_916 : Cond.methodLink RX9 71 yX9_takeCards ∈ am_TB := List.mem_filter.mpr ⟨List.mem_of_getElem? (i := 916) (by decide +kernel), by decide +kernel⟩
theorem wd_919 : Cond.code yX9_takeCards cX9_takeCards 5 (some .boolean) ∈ am_TB := List.mem_filter.mpr ⟨List.mem_of_getElem? (i := 919) (by decide +kernel), by decide +kernel⟩
theorem wd_918 : Cond.instanceMethod yX9_takeCards ∈ am_TB := List.mem_filter.mpr ⟨List.mem_of_getElem? (i := 918) (by decide +kernel), by decide +kernel⟩
theorem wd_35 : Cond.selects RX9 yX9_takeCards yX9_takeCards ∈ am_TB := List.mem_filter.mpr ⟨List.mem_of_getElem? (i := 35) (by decide +kernel), by decide +kernel⟩
theorem wd_913 : Cond.methodLink RX9 63 yX9_addRow ∈ am_TB := List.mem_filter.mpr ⟨List.mem_of_getElem? (i := 913) (by decide +kernel), by decide +kernel⟩
theorem wd_915 : Cond.code yX9_addRow cX9_addRow 2 (some .boolean) ∈ am_TB := List.mem_filter.mpr ⟨List.mem_of_getElem? (i := 915) (by decide +kernel), by decide +kernel⟩
theorem wd_914 : Cond.static yX9_addRow ∈ am_TB := List.mem_filter.mpr ⟨List.mem_of_getElem? (i := 914) (by decide +kernel), by decide +kernel⟩
theorem wd_909 : Cond.methodLink RX9 60 yX9_takeRedeals ∈ am_TB := List.mem_filter.mpr ⟨List.mem_of_getElem? (i := 909) (by decide +kernel), by decide +kernel⟩
theorem wd_912 : Cond.code yX9_takeRedeals cX9_takeRedeals 3 (some .boolean) ∈ am_TB := List.mem_filter.mpr ⟨List.mem_of_getElem? (i := 912) (by decide +kernel), by decide +kernel⟩
theorem wd_911 : Cond.instanceMethod yX9_takeRedeals ∈ am_TB := List.mem_filter.mpr ⟨List.mem_of_getElem? (i := 911) (by decide +kernel), by decide +kernel⟩
theorem wd_34 : Cond.selects RX9 yX9_takeRedeals yX9_takeRedeals ∈ am_TB := List.mem_filter.mpr ⟨List.mem_of_getElem? (i := 34) (by decide +kernel), by decide +kernel⟩
theorem wd_905 : Cond.methodLink RX9 57 yX9_takeLaw ∈ am_TB := List.mem_filter.mpr ⟨List.mem_of_getElem? (i := 905) (by decide +kernel), by decide +kernel⟩
theorem wd_908 : Cond.code yX9_takeLaw cX9_takeLaw 3 (some .boolean) ∈ am_TB := List.mem_filter.mpr ⟨List.mem_of_getElem? (i := 908) (by decide +kernel), by decide +kernel⟩
theorem wd_907 : Cond.instanceMethod yX9_takeLaw ∈ am_TB := List.mem_filter.mpr ⟨List.mem_of_getElem? (i := 907) (by decide +kernel), by decide +kernel⟩
theorem wd_33 : Cond.selects RX9 yX9_takeLaw yX9_takeLaw ∈ am_TB := List.mem_filter.mpr ⟨List.mem_of_getElem? (i := 33) (by decide +kernel), by decide +kernel⟩
theorem wd_876 : Cond.methodLink RX9 53 yX9_takeSuit ∈ am_TB := List.mem_filter.mpr ⟨List.mem_of_getElem? (i := 876) (by decide +kernel), by decide +kernel⟩
theorem wd_879 : Cond.code yX9_takeSuit cX9_takeSuit 4 (some .boolean) ∈ am_TB := List.mem_filter.mpr ⟨List.mem_of_getElem? (i := 879) (by decide +kernel), by decide +kernel⟩
theorem wd_878 : Cond.instanceMethod yX9_takeSuit ∈ am_TB := List.mem_filter.mpr ⟨List.mem_of_getElem? (i := 878) (by decide +kernel), by decide +kernel⟩
theorem wd_26 : Cond.selects RX9 yX9_takeSuit yX9_takeSuit ∈ am_TB := List.mem_filter.mpr ⟨List.mem_of_getElem? (i := 26) (by decide +kernel), by decide +kernel⟩
theorem wd_858 : Cond.methodLink RX9 49 yX9_takeRanks ∈ am_TB := List.mem_filter.mpr ⟨List.mem_of_getElem? (i := 858) (by decide +kernel), by decide +kernel⟩
theorem wd_861 : Cond.code yX9_takeRanks cX9_takeRanks 3 (some .boolean) ∈ am_TB := List.mem_filter.mpr ⟨List.mem_of_getElem? (i := 861) (by decide +kernel), by decide +kernel⟩
theorem wd_860 : Cond.instanceMethod yX9_takeRanks ∈ am_TB := List.mem_filter.mpr ⟨List.mem_of_getElem? (i := 860) (by decide +kernel), by decide +kernel⟩
theorem wd_22 : Cond.selects RX9 yX9_takeRanks yX9_takeRanks ∈ am_TB := List.mem_filter.mpr ⟨List.mem_of_getElem? (i := 22) (by decide +kernel), by decide +kernel⟩
theorem wd_854 : Cond.methodLinkNest RX9 39 yX3_isEnd "WaterPatience" ∈ am_NB := List.mem_filter.mpr ⟨List.mem_of_getElem? (i := 854) (by decide +kernel), rfl⟩
theorem wd_806 : Cond.methodLinkNest RX9 9 yX8_clear "WaterPatience" ∈ am_NB := List.mem_filter.mpr ⟨List.mem_of_getElem? (i := 806) (by decide +kernel), rfl⟩
theorem wd_809 : Cond.code yX8_clear cX8_clear 1 none ∈ am_TB := List.mem_filter.mpr ⟨List.mem_of_getElem? (i := 809) (by decide +kernel), by decide +kernel⟩
theorem wd_808 : Cond.instanceMethod yX8_clear ∈ am_TB := List.mem_filter.mpr ⟨List.mem_of_getElem? (i := 808) (by decide +kernel), by decide +kernel⟩
theorem wd_12 : Cond.selects RX8 yX8_clear yX8_clear ∈ am_TB := List.mem_filter.mpr ⟨List.mem_of_getElem? (i := 12) (by decide +kernel), by decide +kernel⟩
theorem wd_647 : Cond.fieldLink RX10 87 RX10 "status" "I" ∈ am_TB := List.mem_filter.mpr ⟨List.mem_of_getElem? (i := 647) (by decide +kernel), by decide +kernel⟩
theorem wd_648 : Cond.fieldLink RX10 91 RX10 "fractionTop" "J" ∈ am_TB := List.mem_filter.mpr ⟨List.mem_of_getElem? (i := 648) (by decide +kernel), by decide +kernel⟩
theorem wd_649 : Cond.fieldLink RX10 9 RX10 "fractionBottom" "J" ∈ am_TB := List.mem_filter.mpr ⟨List.mem_of_getElem? (i := 649) (by decide +kernel), by decide +kernel⟩
theorem wd_650 : Cond.fieldLink RX10 15 RX10 "trays" "[LWaterPatience$Tray;" ∈ am_TB := List.mem_filter.mpr ⟨List.mem_of_getElem? (i := 650) (by decide +kernel), by decide +kernel⟩
theorem wd_728 : Cond.methodLinkNest RX10 101 yX7_lay "WaterPatience" ∈ am_NB := List.mem_filter.mpr ⟨List.mem_of_getElem? (i := 728) (by decide +kernel), rfl⟩
theorem wd_731 : Cond.code yX7_lay cX7_lay 3 none ∈ am_TB := List.mem_filter.mpr ⟨List.mem_of_getElem? (i := 731) (by decide +kernel), by decide +kernel⟩
theorem wd_735 : Cond.methodLink RX10 105 yX10_accept ∈ am_TB := List.mem_filter.mpr ⟨List.mem_of_getElem? (i := 735) (by decide +kernel), by decide +kernel⟩
theorem wd_738 : Cond.code yX10_accept cX10_accept 1 (some .boolean) ∈ am_TB := List.mem_filter.mpr ⟨List.mem_of_getElem? (i := 738) (by decide +kernel), by decide +kernel⟩
theorem wd_737 : Cond.instanceMethod yX10_accept ∈ am_TB := List.mem_filter.mpr ⟨List.mem_of_getElem? (i := 737) (by decide +kernel), by decide +kernel⟩
theorem wd_2 : Cond.selects RX10 yX10_accept yX10_accept ∈ am_TB := List.mem_filter.mpr ⟨List.mem_of_getElem? (i := 2) (by decide +kernel), by decide +kernel⟩
theorem wd_730 : Cond.instanceMethod yX7_lay ∈ am_TB := List.mem_filter.mpr ⟨List.mem_of_getElem? (i := 730) (by decide +kernel), by decide +kernel⟩
theorem wd_1 : Cond.selects RX7 yX7_lay yX7_lay ∈ am_TB := List.mem_filter.mpr ⟨List.mem_of_getElem? (i := 1) (by decide +kernel), by decide +kernel⟩
theorem wd_724 : Cond.methodLink RX10 98 yX10_refuse ∈ am_TB := List.mem_filter.mpr ⟨List.mem_of_getElem? (i := 724) (by decide +kernel), by decide +kernel⟩
theorem wd_727 : Cond.code yX10_refuse cX10_refuse 2 (some .boolean) ∈ am_TB := List.mem_filter.mpr ⟨List.mem_of_getElem? (i := 727) (by decide +kernel), by decide +kernel⟩
theorem wd_726 : Cond.instanceMethod yX10_refuse ∈ am_TB := List.mem_filter.mpr ⟨List.mem_of_getElem? (i := 726) (by decide +kernel), by decide +kernel⟩
theorem wd_0 : Cond.selects RX10 yX10_refuse yX10_refuse ∈ am_TB := List.mem_filter.mpr ⟨List.mem_of_getElem? (i := 0) (by decide +kernel), by decide +kernel⟩
theorem wd_721 : Cond.methodLink RX10 94 yX10_isTray ∈ am_TB := List.mem_filter.mpr ⟨List.mem_of_getElem? (i := 721) (by decide +kernel), by decide +kernel⟩
theorem wd_723 : Cond.code yX10_isTray cX10_isTray 1 (some .boolean) ∈ am_TB := List.mem_filter.mpr ⟨List.mem_of_getElem? (i := 723) (by decide +kernel), by decide +kernel⟩
theorem wd_722 : Cond.static yX10_isTray ∈ am_TB := List.mem_filter.mpr ⟨List.mem_of_getElem? (i := 722) (by decide +kernel), by decide +kernel⟩
theorem wd_633 : Cond.fieldLinkNest RX10 125 RX7 "there" "Z" "WaterPatience" ∈ am_NB := List.mem_filter.mpr ⟨List.mem_of_getElem? (i := 633) (by decide +kernel), rfl⟩
theorem wd_747 : Cond.methodLinkNest RX10 132 yX7_has "WaterPatience" ∈ am_NB := List.mem_filter.mpr ⟨List.mem_of_getElem? (i := 747) (by decide +kernel), rfl⟩
theorem wd_751 : Cond.methodLinkNest RX10 113 yX7_put "WaterPatience" ∈ am_NB := List.mem_filter.mpr ⟨List.mem_of_getElem? (i := 751) (by decide +kernel), rfl⟩
theorem wd_754 : Cond.code yX7_put cX7_put 4 none ∈ am_TB := List.mem_filter.mpr ⟨List.mem_of_getElem? (i := 754) (by decide +kernel), by decide +kernel⟩
theorem wd_753 : Cond.instanceMethod yX7_put ∈ am_TB := List.mem_filter.mpr ⟨List.mem_of_getElem? (i := 753) (by decide +kernel), by decide +kernel⟩
theorem wd_5 : Cond.selects RX7 yX7_put yX7_put ∈ am_TB := List.mem_filter.mpr ⟨List.mem_of_getElem? (i := 5) (by decide +kernel), by decide +kernel⟩
theorem wd_743 : Cond.methodLink RX10 109 yX10_placeWrong ∈ am_TB := List.mem_filter.mpr ⟨List.mem_of_getElem? (i := 743) (by decide +kernel), by decide +kernel⟩
theorem wd_746 : Cond.code yX10_placeWrong cX10_placeWrong 3 (some .int) ∈ am_TB := List.mem_filter.mpr ⟨List.mem_of_getElem? (i := 746) (by decide +kernel), by decide +kernel⟩
theorem wd_745 : Cond.instanceMethod yX10_placeWrong ∈ am_TB := List.mem_filter.mpr ⟨List.mem_of_getElem? (i := 745) (by decide +kernel), by decide +kernel⟩
theorem wd_3 : Cond.selects RX10 yX10_placeWrong yX10_placeWrong ∈ am_TB := List.mem_filter.mpr ⟨List.mem_of_getElem? (i := 3) (by decide +kernel), by decide +kernel⟩
theorem wd_768 : Cond.methodLinkNest RX10 121 yX7_at "WaterPatience" ∈ am_NB := List.mem_filter.mpr ⟨List.mem_of_getElem? (i := 768) (by decide +kernel), rfl⟩
theorem wd_771 : Cond.code yX7_at cX7_at 2 (some .long) ∈ am_TB := List.mem_filter.mpr ⟨List.mem_of_getElem? (i := 771) (by decide +kernel), by decide +kernel⟩
theorem wd_770 : Cond.instanceMethod yX7_at ∈ am_TB := List.mem_filter.mpr ⟨List.mem_of_getElem? (i := 770) (by decide +kernel), by decide +kernel⟩
theorem wd_8 : Cond.selects RX7 yX7_at yX7_at ∈ am_TB := List.mem_filter.mpr ⟨List.mem_of_getElem? (i := 8) (by decide +kernel), by decide +kernel⟩
theorem wd_764 : Cond.methodLink RX10 117 yX10_fail ∈ am_TB := List.mem_filter.mpr ⟨List.mem_of_getElem? (i := 764) (by decide +kernel), by decide +kernel⟩
theorem wd_767 : Cond.code yX10_fail cX10_fail 2 (some .int) ∈ am_TB := List.mem_filter.mpr ⟨List.mem_of_getElem? (i := 767) (by decide +kernel), by decide +kernel⟩
theorem wd_766 : Cond.instanceMethod yX10_fail ∈ am_TB := List.mem_filter.mpr ⟨List.mem_of_getElem? (i := 766) (by decide +kernel), by decide +kernel⟩
theorem wd_7 : Cond.selects RX10 yX10_fail yX10_fail ∈ am_TB := List.mem_filter.mpr ⟨List.mem_of_getElem? (i := 7) (by decide +kernel), by decide +kernel⟩
theorem wd_635 : Cond.fieldLinkNest RX10 129 RX7 "sort" "I" "WaterPatience" ∈ am_NB := List.mem_filter.mpr ⟨List.mem_of_getElem? (i := 635) (by decide +kernel), rfl⟩
theorem wd_631 : Cond.fieldLinkNest RX10 136 RX7 "numbers" "[J" "WaterPatience" ∈ am_NB := List.mem_filter.mpr ⟨List.mem_of_getElem? (i := 631) (by decide +kernel), rfl⟩
theorem wd_777 : Cond.methodLink RX10 140 arraycopyName ∈ am_TB := List.mem_filter.mpr ⟨List.mem_of_getElem? (i := 777) (by decide +kernel), by decide +kernel⟩
theorem wd_652 : Cond.fieldLink RX10 146 RX10 "taped" "I" ∈ am_TB := List.mem_filter.mpr ⟨List.mem_of_getElem? (i := 652) (by decide +kernel), by decide +kernel⟩
theorem wd_651 : Cond.fieldLink RX10 19 RX10 "tape" "[B" ∈ am_TB := List.mem_filter.mpr ⟨List.mem_of_getElem? (i := 651) (by decide +kernel), by decide +kernel⟩
theorem wd_784 : Cond.methodLink RX10 149 yX10_tapeInt ∈ am_TB := List.mem_filter.mpr ⟨List.mem_of_getElem? (i := 784) (by decide +kernel), by decide +kernel⟩
theorem wd_787 : Cond.code yX10_tapeInt cX10_tapeInt 3 none ∈ am_TB := List.mem_filter.mpr ⟨List.mem_of_getElem? (i := 787) (by decide +kernel), by decide +kernel⟩
theorem wd_786 : Cond.instanceMethod yX10_tapeInt ∈ am_TB := List.mem_filter.mpr ⟨List.mem_of_getElem? (i := 786) (by decide +kernel), by decide +kernel⟩
theorem wd_9 : Cond.selects RX10 yX10_tapeInt yX10_tapeInt ∈ am_TB := List.mem_filter.mpr ⟨List.mem_of_getElem? (i := 9) (by decide +kernel), by decide +kernel⟩
theorem wd_653 : Cond.fieldLink RX10 26 RX10 "reader" "LWaterPatience$Reader;" ∈ am_TB := List.mem_filter.mpr ⟨List.mem_of_getElem? (i := 653) (by decide +kernel), by decide +kernel⟩
theorem wd_654 : Cond.fieldLink RX10 33 RX10 "valleyText" "LWaterPatience$ValleyText;" ∈ am_TB := List.mem_filter.mpr ⟨List.mem_of_getElem? (i := 654) (by decide +kernel), by decide +kernel⟩
theorem wd_657 : Cond.fieldLink RX10 51 RX10 "draft" "LWaterPatience$Valley;" ∈ am_TB := List.mem_filter.mpr ⟨List.mem_of_getElem? (i := 657) (by decide +kernel), by decide +kernel⟩
theorem wd_656 : Cond.fieldLink RX10 47 RX10 "land" "LWaterPatience$Valley;" ∈ am_TB := List.mem_filter.mpr ⟨List.mem_of_getElem? (i := 656) (by decide +kernel), by decide +kernel⟩
theorem wd_503 : Cond.fieldLinkNest RX10 165 RX8 "fields" "I" "WaterPatience" ∈ am_NB := List.mem_filter.mpr ⟨List.mem_of_getElem? (i := 503) (by decide +kernel), rfl⟩
theorem wd_949 : Cond.methodLinkNest RX10 161 yX8_copyFrom "WaterPatience" ∈ am_NB := List.mem_filter.mpr ⟨List.mem_of_getElem? (i := 949) (by decide +kernel), rfl⟩
theorem wd_952 : Cond.code yX8_copyFrom cX8_copyFrom 2 none ∈ am_TB := List.mem_filter.mpr ⟨List.mem_of_getElem? (i := 952) (by decide +kernel), by decide +kernel⟩
theorem wd_968 : Cond.methodLink RX10 168 yX10_give ∈ am_TB := List.mem_filter.mpr ⟨List.mem_of_getElem? (i := 968) (by decide +kernel), by decide +kernel⟩
theorem wd_971 : Cond.code yX10_give cX10_give 2 (some .int) ∈ am_TB := List.mem_filter.mpr ⟨List.mem_of_getElem? (i := 971) (by decide +kernel), by decide +kernel⟩
theorem wd_970 : Cond.instanceMethod yX10_give ∈ am_TB := List.mem_filter.mpr ⟨List.mem_of_getElem? (i := 970) (by decide +kernel), by decide +kernel⟩
theorem wd_47 : Cond.selects RX10 yX10_give yX10_give ∈ am_TB := List.mem_filter.mpr ⟨List.mem_of_getElem? (i := 47) (by decide +kernel), by decide +kernel⟩
theorem wd_951 : Cond.instanceMethod yX8_copyFrom ∈ am_TB := List.mem_filter.mpr ⟨List.mem_of_getElem? (i := 951) (by decide +kernel), by decide +kernel⟩
theorem wd_43 : Cond.selects RX8 yX8_copyFrom yX8_copyFrom ∈ am_TB := List.mem_filter.mpr ⟨List.mem_of_getElem? (i := 43) (by decide +kernel), by decide +kernel⟩
theorem wd_792 : Cond.methodLinkNest RX10 153 yX3_open "WaterPatience" ∈ am_NB := List.mem_filter.mpr ⟨List.mem_of_getElem? (i := 792) (by decide +kernel), rfl⟩
theorem wd_795 : Cond.code yX3_open cX3_open 3 none ∈ am_TB := List.mem_filter.mpr ⟨List.mem_of_getElem? (i := 795) (by decide +kernel), by decide +kernel⟩
theorem wd_802 : Cond.methodLinkNest RX10 157 yX9_take "WaterPatience" ∈ am_NB := List.mem_filter.mpr ⟨List.mem_of_getElem? (i := 802) (by decide +kernel), rfl⟩
theorem wd_805 : Cond.code yX9_take cX9_take 5 (some .boolean) ∈ am_TB := List.mem_filter.mpr ⟨List.mem_of_getElem? (i := 805) (by decide +kernel), by decide +kernel⟩
theorem wd_804 : Cond.instanceMethod yX9_take ∈ am_TB := List.mem_filter.mpr ⟨List.mem_of_getElem? (i := 804) (by decide +kernel), by decide +kernel⟩
theorem wd_11 : Cond.selects RX9 yX9_take yX9_take ∈ am_TB := List.mem_filter.mpr ⟨List.mem_of_getElem? (i := 11) (by decide +kernel), by decide +kernel⟩
theorem wd_794 : Cond.instanceMethod yX3_open ∈ am_TB := List.mem_filter.mpr ⟨List.mem_of_getElem? (i := 794) (by decide +kernel), by decide +kernel⟩
theorem wd_10 : Cond.selects RX3 yX3_open yX3_open ∈ am_TB := List.mem_filter.mpr ⟨List.mem_of_getElem? (i := 10) (by decide +kernel), by decide +kernel⟩
theorem wd_655 : Cond.fieldLink RX10 40 RX10 "seasonsText" "LWaterPatience$SeasonsText;" ∈ am_TB := List.mem_filter.mpr ⟨List.mem_of_getElem? (i := 655) (by decide +kernel), by decide +kernel⟩
theorem wd_499 : Cond.fieldLinkNest RX10 171 RX8 "plan" "LWaterPatience$Seasons;" "WaterPatience" ∈ am_NB := List.mem_filter.mpr ⟨List.mem_of_getElem? (i := 499) (by decide +kernel), rfl⟩
theorem wd_480 : Cond.fieldLinkNest RX10 183 RX4 "steps" "I" "WaterPatience" ∈ am_NB := List.mem_filter.mpr ⟨List.mem_of_getElem? (i := 480) (by decide +kernel), rfl⟩
theorem wd_1022 : Cond.methodLinkNest RX10 178 yX4_copyFrom "WaterPatience" ∈ am_NB := List.mem_filter.mpr ⟨List.mem_of_getElem? (i := 1022) (by decide +kernel), rfl⟩
theorem wd_976 : Cond.methodLinkNest RX10 175 yX5_take "WaterPatience" ∈ am_NB := List.mem_filter.mpr ⟨List.mem_of_getElem? (i := 976) (by decide +kernel), rfl⟩
theorem wd_979 : Cond.code yX5_take cX5_take 6 (some .boolean) ∈ am_TB := List.mem_filter.mpr ⟨List.mem_of_getElem? (i := 979) (by decide +kernel), by decide +kernel⟩
theorem wd_978 : Cond.instanceMethod yX5_take ∈ am_TB := List.mem_filter.mpr ⟨List.mem_of_getElem? (i := 978) (by decide +kernel), by decide +kernel⟩
theorem wd_48 : Cond.selects RX5 yX5_take yX5_take ∈ am_TB := List.mem_filter.mpr ⟨List.mem_of_getElem? (i := 48) (by decide +kernel), by decide +kernel⟩
theorem wd_324 : Cond.fieldLinkNest RX10 186 RX3 "faultKind" "I" "WaterPatience" ∈ am_NB := List.mem_filter.mpr ⟨List.mem_of_getElem? (i := 324) (by decide +kernel), rfl⟩
theorem wd_326 : Cond.fieldLinkNest RX10 189 RX3 "faultPlace" "I" "WaterPatience" ∈ am_NB := List.mem_filter.mpr ⟨List.mem_of_getElem? (i := 326) (by decide +kernel), rfl⟩
theorem wd_496 : Cond.fieldLinkNest RX10 192 RX8 "table" "LWaterPatience$Table;" "WaterPatience" ∈ am_NB := List.mem_filter.mpr ⟨List.mem_of_getElem? (i := 496) (by decide +kernel), rfl⟩
theorem wd_417 : Cond.fieldLinkNest RX10 196 RX6 "ranks" "I" "WaterPatience" ∈ am_NB := List.mem_filter.mpr ⟨List.mem_of_getElem? (i := 417) (by decide +kernel), rfl⟩
theorem wd_422 : Cond.fieldLinkNest RX10 201 RX6 "suits" "I" "WaterPatience" ∈ am_NB := List.mem_filter.mpr ⟨List.mem_of_getElem? (i := 422) (by decide +kernel), rfl⟩
theorem wd_428 : Cond.fieldLinkNest RX10 204 RX6 "law" "I" "WaterPatience" ∈ am_NB := List.mem_filter.mpr ⟨List.mem_of_getElem? (i := 428) (by decide +kernel), rfl⟩
theorem wd_431 : Cond.fieldLinkNest RX10 207 RX6 "redeals" "I" "WaterPatience" ∈ am_NB := List.mem_filter.mpr ⟨List.mem_of_getElem? (i := 431) (by decide +kernel), rfl⟩
theorem wd_436 : Cond.fieldLinkNest RX10 210 RX6 "rows" "I" "WaterPatience" ∈ am_NB := List.mem_filter.mpr ⟨List.mem_of_getElem? (i := 436) (by decide +kernel), rfl⟩
theorem wd_506 : Cond.fieldLinkNest RX10 213 RX8 "today" "I" "WaterPatience" ∈ am_NB := List.mem_filter.mpr ⟨List.mem_of_getElem? (i := 506) (by decide +kernel), rfl⟩
theorem wd_406 : Cond.fieldLinkNest RX10 220 RX6 "tall" "[I" "WaterPatience" ∈ am_NB := List.mem_filter.mpr ⟨List.mem_of_getElem? (i := 406) (by decide +kernel), rfl⟩
theorem wd_425 : Cond.fieldLinkNest RX10 232 RX6 "red" "I" "WaterPatience" ∈ am_NB := List.mem_filter.mpr ⟨List.mem_of_getElem? (i := 425) (by decide +kernel), rfl⟩
theorem wd_1043 : Cond.methodLinkNest RX10 229 yX8_setOf "WaterPatience" ∈ am_NB := List.mem_filter.mpr ⟨List.mem_of_getElem? (i := 1043) (by decide +kernel), rfl⟩
theorem wd_1046 : Cond.code yX8_setOf cX8_setOf 4 (some .int) ∈ am_TB := List.mem_filter.mpr ⟨List.mem_of_getElem? (i := 1046) (by decide +kernel), by decide +kernel⟩
theorem wd_1045 : Cond.instanceMethod yX8_setOf ∈ am_TB := List.mem_filter.mpr ⟨List.mem_of_getElem? (i := 1045) (by decide +kernel), by decide +kernel⟩
theorem wd_57 : Cond.selects RX8 yX8_setOf yX8_setOf ∈ am_TB := List.mem_filter.mpr ⟨List.mem_of_getElem? (i := 57) (by decide +kernel), by decide +kernel⟩
theorem wd_1039 : Cond.methodLinkNest RX10 226 yX6_rowsMany "WaterPatience" ∈ am_NB := List.mem_filter.mpr ⟨List.mem_of_getElem? (i := 1039) (by decide +kernel), rfl⟩
theorem wd_1042 : Cond.code yX6_rowsMany cX6_rowsMany 3 (some .int) ∈ am_TB := List.mem_filter.mpr ⟨List.mem_of_getElem? (i := 1042) (by decide +kernel), by decide +kernel⟩
theorem wd_1041 : Cond.instanceMethod yX6_rowsMany ∈ am_TB := List.mem_filter.mpr ⟨List.mem_of_getElem? (i := 1041) (by decide +kernel), by decide +kernel⟩
theorem wd_56 : Cond.selects RX6 yX6_rowsMany yX6_rowsMany ∈ am_TB := List.mem_filter.mpr ⟨List.mem_of_getElem? (i := 56) (by decide +kernel), by decide +kernel⟩
theorem wd_1035 : Cond.methodLinkNest RX10 223 yX6_homeMany "WaterPatience" ∈ am_NB := List.mem_filter.mpr ⟨List.mem_of_getElem? (i := 1035) (by decide +kernel), rfl⟩
theorem wd_1038 : Cond.code yX6_homeMany cX6_homeMany 3 (some .int) ∈ am_TB := List.mem_filter.mpr ⟨List.mem_of_getElem? (i := 1038) (by decide +kernel), by decide +kernel⟩
theorem wd_1037 : Cond.instanceMethod yX6_homeMany ∈ am_TB := List.mem_filter.mpr ⟨List.mem_of_getElem? (i := 1037) (by decide +kernel), by decide +kernel⟩
theorem wd_55 : Cond.selects RX6 yX6_homeMany yX6_homeMany ∈ am_TB := List.mem_filter.mpr ⟨List.mem_of_getElem? (i := 55) (by decide +kernel), by decide +kernel⟩
theorem wd_1031 : Cond.methodLinkNest RX10 216 yX6_stockMany "WaterPatience" ∈ am_NB := List.mem_filter.mpr ⟨List.mem_of_getElem? (i := 1031) (by decide +kernel), rfl⟩
theorem wd_1055 : Cond.methodLinkNest RX10 238 yX6_cardAt "WaterPatience" ∈ am_NB := List.mem_filter.mpr ⟨List.mem_of_getElem? (i := 1055) (by decide +kernel), rfl⟩
theorem wd_1059 : Cond.methodLink RX10 241 yX10_giveCard ∈ am_TB := List.mem_filter.mpr ⟨List.mem_of_getElem? (i := 1059) (by decide +kernel), by decide +kernel⟩
theorem wd_1062 : Cond.code yX10_giveCard cX10_giveCard 2 (some .int) ∈ am_TB := List.mem_filter.mpr ⟨List.mem_of_getElem? (i := 1062) (by decide +kernel), by decide +kernel⟩
theorem wd_1061 : Cond.instanceMethod yX10_giveCard ∈ am_TB := List.mem_filter.mpr ⟨List.mem_of_getElem? (i := 1061) (by decide +kernel), by decide +kernel⟩
theorem wd_60 : Cond.selects RX10 yX10_giveCard yX10_giveCard ∈ am_TB := List.mem_filter.mpr ⟨List.mem_of_getElem? (i := 60) (by decide +kernel), by decide +kernel⟩
theorem wd_1051 : Cond.methodLink RX10 235 yX10_isRow ∈ am_TB := List.mem_filter.mpr ⟨List.mem_of_getElem? (i := 1051) (by decide +kernel), by decide +kernel⟩
theorem wd_1054 : Cond.code yX10_isRow cX10_isRow 2 (some .boolean) ∈ am_TB := List.mem_filter.mpr ⟨List.mem_of_getElem? (i := 1054) (by decide +kernel), by decide +kernel⟩
theorem wd_1053 : Cond.instanceMethod yX10_isRow ∈ am_TB := List.mem_filter.mpr ⟨List.mem_of_getElem? (i := 1053) (by decide +kernel), by decide +kernel⟩
theorem wd_58 : Cond.selects RX10 yX10_isRow yX10_isRow ∈ am_TB := List.mem_filter.mpr ⟨List.mem_of_getElem? (i := 58) (by decide +kernel), by decide +kernel⟩
theorem wd_1071 : Cond.methodLinkNest RX10 244 yX6_topCard "WaterPatience" ∈ am_NB := List.mem_filter.mpr ⟨List.mem_of_getElem? (i := 1071) (by decide +kernel), rfl⟩
theorem wd_1079 : Cond.methodLinkNest RX10 247 yX6_stockCard "WaterPatience" ∈ am_NB := List.mem_filter.mpr ⟨List.mem_of_getElem? (i := 1079) (by decide +kernel), rfl⟩
theorem wd_413 : Cond.fieldLinkNest RX10 253 RX6 "home" "[I" "WaterPatience" ∈ am_NB := List.mem_filter.mpr ⟨List.mem_of_getElem? (i := 413) (by decide +kernel), rfl⟩
theorem wd_1088 : Cond.methodLink RX10 250 yX10_isSuit ∈ am_TB := List.mem_filter.mpr ⟨List.mem_of_getElem? (i := 1088) (by decide +kernel), by decide +kernel⟩
theorem wd_1091 : Cond.code yX10_isSuit cX10_isSuit 2 (some .boolean) ∈ am_TB := List.mem_filter.mpr ⟨List.mem_of_getElem? (i := 1091) (by decide +kernel), by decide +kernel⟩
theorem wd_1090 : Cond.instanceMethod yX10_isSuit ∈ am_TB := List.mem_filter.mpr ⟨List.mem_of_getElem? (i := 1090) (by decide +kernel), by decide +kernel⟩
theorem wd_63 : Cond.selects RX10 yX10_isSuit yX10_isSuit ∈ am_TB := List.mem_filter.mpr ⟨List.mem_of_getElem? (i := 63) (by decide +kernel), by decide +kernel⟩
theorem wd_508 : Cond.fieldLinkNest RX10 259 RX8 "sown" "[I" "WaterPatience" ∈ am_NB := List.mem_filter.mpr ⟨List.mem_of_getElem? (i := 508) (by decide +kernel), rfl⟩
theorem wd_510 : Cond.fieldLinkNest RX10 262 RX8 "dries" "[I" "WaterPatience" ∈ am_NB := List.mem_filter.mpr ⟨List.mem_of_getElem? (i := 510) (by decide +kernel), rfl⟩
theorem wd_514 : Cond.fieldLinkNest RX10 265 RX8 "water" "[I" "WaterPatience" ∈ am_NB := List.mem_filter.mpr ⟨List.mem_of_getElem? (i := 514) (by decide +kernel), rfl⟩
theorem wd_517 : Cond.fieldLinkNest RX10 268 RX8 "high" "[I" "WaterPatience" ∈ am_NB := List.mem_filter.mpr ⟨List.mem_of_getElem? (i := 517) (by decide +kernel), rfl⟩
theorem wd_519 : Cond.fieldLinkNest RX10 271 RX8 "fate" "[I" "WaterPatience" ∈ am_NB := List.mem_filter.mpr ⟨List.mem_of_getElem? (i := 519) (by decide +kernel), rfl⟩
theorem wd_1096 : Cond.methodLink RX10 256 yX10_isField ∈ am_TB := List.mem_filter.mpr ⟨List.mem_of_getElem? (i := 1096) (by decide +kernel), by decide +kernel⟩
theorem wd_1099 : Cond.code yX10_isField cX10_isField 2 (some .boolean) ∈ am_TB := List.mem_filter.mpr ⟨List.mem_of_getElem? (i := 1099) (by decide +kernel), by decide +kernel⟩
theorem wd_1098 : Cond.instanceMethod yX10_isField ∈ am_TB := List.mem_filter.mpr ⟨List.mem_of_getElem? (i := 1098) (by decide +kernel), by decide +kernel⟩
theorem wd_64 : Cond.selects RX10 yX10_isField yX10_isField ∈ am_TB := List.mem_filter.mpr ⟨List.mem_of_getElem? (i := 64) (by decide +kernel), by decide +kernel⟩
theorem wd_637 : Cond.fieldLinkNest RX10 274 RX7 "many" "I" "WaterPatience" ∈ am_NB := List.mem_filter.mpr ⟨List.mem_of_getElem? (i := 637) (by decide +kernel), rfl⟩
theorem wd_1112 : Cond.methodLinkNest RX10 429 yX6_isSource "WaterPatience" ∈ am_NB := List.mem_filter.mpr ⟨List.mem_of_getElem? (i := 1112) (by decide +kernel), rfl⟩
theorem wd_1116 : Cond.methodLinkNest RX10 432 yX6_isTarget "WaterPatience" ∈ am_NB := List.mem_filter.mpr ⟨List.mem_of_getElem? (i := 1116) (by decide +kernel), rfl⟩
theorem wd_1140 : Cond.methodLinkNest RX10 283 yX8_play "WaterPatience" ∈ am_NB := List.mem_filter.mpr ⟨List.mem_of_getElem? (i := 1140) (by decide +kernel), rfl⟩
theorem wd_1120 : Cond.methodLinkNest RX10 280 yX6_allows "WaterPatience" ∈ am_NB := List.mem_filter.mpr ⟨List.mem_of_getElem? (i := 1120) (by decide +kernel), rfl⟩
theorem wd_1108 : Cond.methodLink RX10 277 yX10_arePlaces ∈ am_TB := List.mem_filter.mpr ⟨List.mem_of_getElem? (i := 1108) (by decide +kernel), by decide +kernel⟩
theorem wd_1111 : Cond.code yX10_arePlaces cX10_arePlaces 3 (some .boolean) ∈ am_TB := List.mem_filter.mpr ⟨List.mem_of_getElem? (i := 1111) (by decide +kernel), by decide +kernel⟩
theorem wd_1110 : Cond.instanceMethod yX10_arePlaces ∈ am_TB := List.mem_filter.mpr ⟨List.mem_of_getElem? (i := 1110) (by decide +kernel), by decide +kernel⟩
theorem wd_65 : Cond.selects RX10 yX10_arePlaces yX10_arePlaces ∈ am_TB := List.mem_filter.mpr ⟨List.mem_of_getElem? (i := 65) (by decide +kernel), by decide +kernel⟩
theorem wd_1175 : Cond.methodLinkNest RX10 289 yX6_turnUp "WaterPatience" ∈ am_NB := List.mem_filter.mpr ⟨List.mem_of_getElem? (i := 1175) (by decide +kernel), rfl⟩
theorem wd_1171 : Cond.methodLinkNest RX10 286 yX6_hasDeal "WaterPatience" ∈ am_NB := List.mem_filter.mpr ⟨List.mem_of_getElem? (i := 1171) (by decide +kernel), rfl⟩
theorem wd_1186 : Cond.methodLinkNest RX10 292 yX8_bringHome "WaterPatience" ∈ am_NB := List.mem_filter.mpr ⟨List.mem_of_getElem? (i := 1186) (by decide +kernel), rfl⟩
theorem wd_1210 : Cond.methodLinkNest RX10 295 yX8_passDays "WaterPatience" ∈ am_NB := List.mem_filter.mpr ⟨List.mem_of_getElem? (i := 1210) (by decide +kernel), rfl⟩
theorem wd_1222 : Cond.methodLinkNest RX10 298 yX8_wet "WaterPatience" ∈ am_NB := List.mem_filter.mpr ⟨List.mem_of_getElem? (i := 1222) (by decide +kernel), rfl⟩
theorem wd_664 : Cond.fieldLink RX10 78 RX10 "packs" "LWaterPatience$Packs;" ∈ am_TB := List.mem_filter.mpr ⟨List.mem_of_getElem? (i := 664) (by decide +kernel), by decide +kernel⟩
theorem wd_1238 : Cond.methodLinkNest RX10 304 yX1_dealOut "WaterPatience" ∈ am_NB := List.mem_filter.mpr ⟨List.mem_of_getElem? (i := 1238) (by decide +kernel), rfl⟩
theorem wd_1235 : Cond.methodLink RX10 301 yX10_isSeed ∈ am_TB := List.mem_filter.mpr ⟨List.mem_of_getElem? (i := 1235) (by decide +kernel), by decide +kernel⟩
theorem wd_1237 : Cond.code yX10_isSeed cX10_isSeed 1 (some .boolean) ∈ am_TB := List.mem_filter.mpr ⟨List.mem_of_getElem? (i := 1237) (by decide +kernel), by decide +kernel⟩
theorem wd_1236 : Cond.static yX10_isSeed ∈ am_TB := List.mem_filter.mpr ⟨List.mem_of_getElem? (i := 1236) (by decide +kernel), by decide +kernel⟩
theorem wd_665 : Cond.fieldLink RX10 82 RX10 "moveList" "[I" ∈ am_TB := List.mem_filter.mpr ⟨List.mem_of_getElem? (i := 665) (by decide +kernel), by decide +kernel⟩
theorem wd_1261 : Cond.methodLinkNest RX10 308 yX6_listMoves "WaterPatience" ∈ am_NB := List.mem_filter.mpr ⟨List.mem_of_getElem? (i := 1261) (by decide +kernel), rfl⟩
theorem wd_1274 : Cond.methodLinkNest RX10 312 yX6_ripen "WaterPatience" ∈ am_NB := List.mem_filter.mpr ⟨List.mem_of_getElem? (i := 1274) (by decide +kernel), rfl⟩
theorem wd_1275 : Cond.methodLinkNest RX10 315 yX6_riseMany "WaterPatience" ∈ am_NB := List.mem_filter.mpr ⟨List.mem_of_getElem? (i := 1275) (by decide +kernel), rfl⟩
theorem wd_1280 : Cond.methodLinkNest RX10 318 yX6_riseRanks "WaterPatience" ∈ am_NB := List.mem_filter.mpr ⟨List.mem_of_getElem? (i := 1280) (by decide +kernel), rfl⟩
theorem wd_1295 : Cond.methodLinkNest RX10 324 yX6_nextCard "WaterPatience" ∈ am_NB := List.mem_filter.mpr ⟨List.mem_of_getElem? (i := 1295) (by decide +kernel), rfl⟩
theorem wd_1298 : Cond.code yX6_nextCard cX6_nextCard 3 (some .int) ∈ am_TB := List.mem_filter.mpr ⟨List.mem_of_getElem? (i := 1298) (by decide +kernel), by decide +kernel⟩
theorem wd_1297 : Cond.instanceMethod yX6_nextCard ∈ am_TB := List.mem_filter.mpr ⟨List.mem_of_getElem? (i := 1297) (by decide +kernel), by decide +kernel⟩
theorem wd_91 : Cond.selects RX6 yX6_nextCard yX6_nextCard ∈ am_TB := List.mem_filter.mpr ⟨List.mem_of_getElem? (i := 91) (by decide +kernel), by decide +kernel⟩
theorem wd_1291 : Cond.methodLink RX10 321 yX10_nextWrong ∈ am_TB := List.mem_filter.mpr ⟨List.mem_of_getElem? (i := 1291) (by decide +kernel), by decide +kernel⟩
theorem wd_1294 : Cond.code yX10_nextWrong cX10_nextWrong 2 (some .int) ∈ am_TB := List.mem_filter.mpr ⟨List.mem_of_getElem? (i := 1294) (by decide +kernel), by decide +kernel⟩
theorem wd_1293 : Cond.instanceMethod yX10_nextWrong ∈ am_TB := List.mem_filter.mpr ⟨List.mem_of_getElem? (i := 1293) (by decide +kernel), by decide +kernel⟩
theorem wd_90 : Cond.selects RX10 yX10_nextWrong yX10_nextWrong ∈ am_TB := List.mem_filter.mpr ⟨List.mem_of_getElem? (i := 90) (by decide +kernel), by decide +kernel⟩
theorem wd_1315 : Cond.methodLinkNest RX10 327 yX6_whereIs "WaterPatience" ∈ am_NB := List.mem_filter.mpr ⟨List.mem_of_getElem? (i := 1315) (by decide +kernel), rfl⟩
theorem wd_1320 : Cond.methodLinkNest RX10 330 yX6_cardsOver "WaterPatience" ∈ am_NB := List.mem_filter.mpr ⟨List.mem_of_getElem? (i := 1320) (by decide +kernel), rfl⟩
theorem wd_1323 : Cond.code yX6_cardsOver cX6_cardsOver 3 (some .int) ∈ am_TB := List.mem_filter.mpr ⟨List.mem_of_getElem? (i := 1323) (by decide +kernel), by decide +kernel⟩
theorem wd_1322 : Cond.instanceMethod yX6_cardsOver ∈ am_TB := List.mem_filter.mpr ⟨List.mem_of_getElem? (i := 1322) (by decide +kernel), by decide +kernel⟩
theorem wd_95 : Cond.selects RX6 yX6_cardsOver yX6_cardsOver ∈ am_TB := List.mem_filter.mpr ⟨List.mem_of_getElem? (i := 95) (by decide +kernel), by decide +kernel⟩
theorem wd_1332 : Cond.methodLinkNest RX10 333 yX8_daysLeft "WaterPatience" ∈ am_NB := List.mem_filter.mpr ⟨List.mem_of_getElem? (i := 1332) (by decide +kernel), rfl⟩
theorem wd_1335 : Cond.code yX8_daysLeft cX8_daysLeft 2 (some .int) ∈ am_TB := List.mem_filter.mpr ⟨List.mem_of_getElem? (i := 1335) (by decide +kernel), by decide +kernel⟩
theorem wd_1334 : Cond.instanceMethod yX8_daysLeft ∈ am_TB := List.mem_filter.mpr ⟨List.mem_of_getElem? (i := 1334) (by decide +kernel), by decide +kernel⟩
theorem wd_96 : Cond.selects RX8 yX8_daysLeft yX8_daysLeft ∈ am_TB := List.mem_filter.mpr ⟨List.mem_of_getElem? (i := 96) (by decide +kernel), by decide +kernel⟩
theorem wd_663 : Cond.fieldLink RX10 71 RX10 "plans" "LWaterPatience$Plans;" ∈ am_TB := List.mem_filter.mpr ⟨List.mem_of_getElem? (i := 663) (by decide +kernel), by decide +kernel⟩
theorem wd_1351 : Cond.methodLinkNest RX10 342 yX2_reach "WaterPatience" ∈ am_NB := List.mem_filter.mpr ⟨List.mem_of_getElem? (i := 1351) (by decide +kernel), rfl⟩
theorem wd_1344 : Cond.methodLink RX10 336 yX10_isSet ∈ am_TB := List.mem_filter.mpr ⟨List.mem_of_getElem? (i := 1344) (by decide +kernel), by decide +kernel⟩
theorem wd_1347 : Cond.code yX10_isSet cX10_isSet 2 (some .boolean) ∈ am_TB := List.mem_filter.mpr ⟨List.mem_of_getElem? (i := 1347) (by decide +kernel), by decide +kernel⟩
theorem wd_1348 : Cond.methodLink RX10 339 yX10_areTurns ∈ am_TB := List.mem_filter.mpr ⟨List.mem_of_getElem? (i := 1348) (by decide +kernel), by decide +kernel⟩
theorem wd_1350 : Cond.code yX10_areTurns cX10_areTurns 1 (some .boolean) ∈ am_TB := List.mem_filter.mpr ⟨List.mem_of_getElem? (i := 1350) (by decide +kernel), by decide +kernel⟩
theorem wd_1349 : Cond.static yX10_areTurns ∈ am_TB := List.mem_filter.mpr ⟨List.mem_of_getElem? (i := 1349) (by decide +kernel), by decide +kernel⟩
theorem wd_1346 : Cond.instanceMethod yX10_isSet ∈ am_TB := List.mem_filter.mpr ⟨List.mem_of_getElem? (i := 1346) (by decide +kernel), by decide +kernel⟩
theorem wd_97 : Cond.selects RX10 yX10_isSet yX10_isSet ∈ am_TB := List.mem_filter.mpr ⟨List.mem_of_getElem? (i := 97) (by decide +kernel), by decide +kernel⟩
theorem wd_1371 : Cond.methodLinkNest RX10 346 yX2_openingOf "WaterPatience" ∈ am_NB := List.mem_filter.mpr ⟨List.mem_of_getElem? (i := 1371) (by decide +kernel), rfl⟩
theorem wd_1374 : Cond.code yX2_openingOf cX2_openingOf 2 (some .int) ∈ am_TB := List.mem_filter.mpr ⟨List.mem_of_getElem? (i := 1374) (by decide +kernel), by decide +kernel⟩
theorem wd_1373 : Cond.instanceMethod yX2_openingOf ∈ am_TB := List.mem_filter.mpr ⟨List.mem_of_getElem? (i := 1373) (by decide +kernel), by decide +kernel⟩
theorem wd_99 : Cond.selects RX2 yX2_openingOf yX2_openingOf ∈ am_TB := List.mem_filter.mpr ⟨List.mem_of_getElem? (i := 99) (by decide +kernel), by decide +kernel⟩
theorem wd_1379 : Cond.methodLinkNest RX10 349 yX2_duel "WaterPatience" ∈ am_NB := List.mem_filter.mpr ⟨List.mem_of_getElem? (i := 1379) (by decide +kernel), rfl⟩
theorem wd_1387 : Cond.methodLinkNest RX10 353 yX2_bestSwap "WaterPatience" ∈ am_NB := List.mem_filter.mpr ⟨List.mem_of_getElem? (i := 1387) (by decide +kernel), rfl⟩
theorem wd_1390 : Cond.code yX2_bestSwap cX2_bestSwap 6 (some .int) ∈ am_TB := List.mem_filter.mpr ⟨List.mem_of_getElem? (i := 1390) (by decide +kernel), by decide +kernel⟩
theorem wd_1389 : Cond.instanceMethod yX2_bestSwap ∈ am_TB := List.mem_filter.mpr ⟨List.mem_of_getElem? (i := 1389) (by decide +kernel), by decide +kernel⟩
theorem wd_100 : Cond.selects RX2 yX2_bestSwap yX2_bestSwap ∈ am_TB := List.mem_filter.mpr ⟨List.mem_of_getElem? (i := 100) (by decide +kernel), by decide +kernel⟩
theorem wd_593 : Cond.fieldLinkNest RX10 357 RX2 "swapLesser" "I" "WaterPatience" ∈ am_NB := List.mem_filter.mpr ⟨List.mem_of_getElem? (i := 593) (by decide +kernel), rfl⟩
theorem wd_595 : Cond.fieldLinkNest RX10 360 RX2 "swapOther" "I" "WaterPatience" ∈ am_NB := List.mem_filter.mpr ⟨List.mem_of_getElem? (i := 595) (by decide +kernel), rfl⟩
theorem wd_1409 : Cond.methodLinkNest RX10 363 yX1_tryOut "WaterPatience" ∈ am_NB := List.mem_filter.mpr ⟨List.mem_of_getElem? (i := 1409) (by decide +kernel), rfl⟩
theorem wd_1416 : Cond.methodLinkNest RX10 366 yX1_wetsOf "WaterPatience" ∈ am_NB := List.mem_filter.mpr ⟨List.mem_of_getElem? (i := 1416) (by decide +kernel), rfl⟩
theorem wd_1439 : Cond.methodLink RX10 425 yX10_commonDivisor ∈ am_TB := List.mem_filter.mpr ⟨List.mem_of_getElem? (i := 1439) (by decide +kernel), by decide +kernel⟩
theorem wd_1441 : Cond.code yX10_commonDivisor cX10_commonDivisor 11 (some .long) ∈ am_TB := List.mem_filter.mpr ⟨List.mem_of_getElem? (i := 1441) (by decide +kernel), by decide +kernel⟩
theorem wd_1440 : Cond.static yX10_commonDivisor ∈ am_TB := List.mem_filter.mpr ⟨List.mem_of_getElem? (i := 1440) (by decide +kernel), by decide +kernel⟩
theorem wd_617 : Cond.fieldLinkNest RX10 377 RX1 "sums" "[I" "WaterPatience" ∈ am_NB := List.mem_filter.mpr ⟨List.mem_of_getElem? (i := 617) (by decide +kernel), rfl⟩
theorem wd_1428 : Cond.methodLinkNest RX10 373 yX1_sumUp "WaterPatience" ∈ am_NB := List.mem_filter.mpr ⟨List.mem_of_getElem? (i := 1428) (by decide +kernel), rfl⟩
theorem wd_1431 : Cond.code yX1_sumUp cX1_sumUp 6 none ∈ am_TB := List.mem_filter.mpr ⟨List.mem_of_getElem? (i := 1431) (by decide +kernel), by decide +kernel⟩
theorem wd_1435 : Cond.methodLink RX10 380 yX10_tellFraction ∈ am_TB := List.mem_filter.mpr ⟨List.mem_of_getElem? (i := 1435) (by decide +kernel), by decide +kernel⟩
theorem wd_1438 : Cond.code yX10_tellFraction cX10_tellFraction 7 none ∈ am_TB := List.mem_filter.mpr ⟨List.mem_of_getElem? (i := 1438) (by decide +kernel), by decide +kernel⟩
theorem wd_1437 : Cond.instanceMethod yX10_tellFraction ∈ am_TB := List.mem_filter.mpr ⟨List.mem_of_getElem? (i := 1437) (by decide +kernel), by decide +kernel⟩
theorem wd_106 : Cond.selects RX10 yX10_tellFraction yX10_tellFraction ∈ am_TB := List.mem_filter.mpr ⟨List.mem_of_getElem? (i := 106) (by decide +kernel), by decide +kernel⟩
theorem wd_1430 : Cond.instanceMethod yX1_sumUp ∈ am_TB := List.mem_filter.mpr ⟨List.mem_of_getElem? (i := 1430) (by decide +kernel), by decide +kernel⟩
theorem wd_105 : Cond.selects RX1 yX1_sumUp yX1_sumUp ∈ am_TB := List.mem_filter.mpr ⟨List.mem_of_getElem? (i := 105) (by decide +kernel), by decide +kernel⟩
theorem wd_1425 : Cond.methodLink RX10 369 yX10_areSeeds ∈ am_TB := List.mem_filter.mpr ⟨List.mem_of_getElem? (i := 1425) (by decide +kernel), by decide +kernel⟩
theorem wd_1427 : Cond.code yX10_areSeeds cX10_areSeeds 3 (some .boolean) ∈ am_TB := List.mem_filter.mpr ⟨List.mem_of_getElem? (i := 1427) (by decide +kernel), by decide +kernel⟩
theorem wd_1426 : Cond.static yX10_areSeeds ∈ am_TB := List.mem_filter.mpr ⟨List.mem_of_getElem? (i := 1426) (by decide +kernel), by decide +kernel⟩
theorem wd_1454 : Cond.methodLink RX10 388 yX10_isLike ∈ am_TB := List.mem_filter.mpr ⟨List.mem_of_getElem? (i := 1454) (by decide +kernel), by decide +kernel⟩
theorem wd_1457 : Cond.code yX10_isLike cX10_isLike 4 (some .boolean) ∈ am_TB := List.mem_filter.mpr ⟨List.mem_of_getElem? (i := 1457) (by decide +kernel), by decide +kernel⟩
theorem wd_1456 : Cond.instanceMethod yX10_isLike ∈ am_TB := List.mem_filter.mpr ⟨List.mem_of_getElem? (i := 1456) (by decide +kernel), by decide +kernel⟩
theorem wd_108 : Cond.selects RX10 yX10_isLike yX10_isLike ∈ am_TB := List.mem_filter.mpr ⟨List.mem_of_getElem? (i := 108) (by decide +kernel), by decide +kernel⟩
theorem wd_1450 : Cond.methodLink RX10 384 yX10_likeWrong ∈ am_TB := List.mem_filter.mpr ⟨List.mem_of_getElem? (i := 1450) (by decide +kernel), by decide +kernel⟩
theorem wd_1453 : Cond.code yX10_likeWrong cX10_likeWrong 4 (some .int) ∈ am_TB := List.mem_filter.mpr ⟨List.mem_of_getElem? (i := 1453) (by decide +kernel), by decide +kernel⟩
theorem wd_1452 : Cond.instanceMethod yX10_likeWrong ∈ am_TB := List.mem_filter.mpr ⟨List.mem_of_getElem? (i := 1452) (by decide +kernel), by decide +kernel⟩
theorem wd_107 : Cond.selects RX10 yX10_likeWrong yX10_likeWrong ∈ am_TB := List.mem_filter.mpr ⟨List.mem_of_getElem? (i := 107) (by decide +kernel), by decide +kernel⟩
theorem wd_614 : Cond.fieldLinkNest RX10 392 RX1 "table" "LWaterPatience$Table;" "WaterPatience" ∈ am_NB := List.mem_filter.mpr ⟨List.mem_of_getElem? (i := 614) (by decide +kernel), rfl⟩
theorem wd_483 : Cond.fieldLinkNest RX10 393 RX4 "there" "Z" "WaterPatience" ∈ am_NB := List.mem_filter.mpr ⟨List.mem_of_getElem? (i := 483) (by decide +kernel), rfl⟩
theorem wd_660 : Cond.fieldLink RX10 61 RX10 "life" "LWaterPatience$Life;" ∈ am_TB := List.mem_filter.mpr ⟨List.mem_of_getElem? (i := 660) (by decide +kernel), by decide +kernel⟩
theorem wd_554 : Cond.fieldLinkNest RX10 401 RX0 "done" "I" "WaterPatience" ∈ am_NB := List.mem_filter.mpr ⟨List.mem_of_getElem? (i := 554) (by decide +kernel), rfl⟩
theorem wd_1470 : Cond.methodLinkNest RX10 394 yX0_pass "WaterPatience" ∈ am_NB := List.mem_filter.mpr ⟨List.mem_of_getElem? (i := 1470) (by decide +kernel), rfl⟩
theorem wd_1473 : Cond.code yX0_pass cX0_pass 6 none ∈ am_TB := List.mem_filter.mpr ⟨List.mem_of_getElem? (i := 1473) (by decide +kernel), by decide +kernel⟩
theorem wd_662 : Cond.fieldLink RX10 398 RX10 "hasLived" "Z" ∈ am_TB := List.mem_filter.mpr ⟨List.mem_of_getElem? (i := 662) (by decide +kernel), by decide +kernel⟩
theorem wd_1472 : Cond.instanceMethod yX0_pass ∈ am_TB := List.mem_filter.mpr ⟨List.mem_of_getElem? (i := 1472) (by decide +kernel), by decide +kernel⟩
theorem wd_109 : Cond.selects RX0 yX0_pass yX0_pass ∈ am_TB := List.mem_filter.mpr ⟨List.mem_of_getElem? (i := 109) (by decide +kernel), by decide +kernel⟩
theorem wd_556 : Cond.fieldLinkNest RX10 404 RX0 "missed" "I" "WaterPatience" ∈ am_NB := List.mem_filter.mpr ⟨List.mem_of_getElem? (i := 556) (by decide +kernel), rfl⟩
theorem wd_558 : Cond.fieldLinkNest RX10 407 RX0 "days" "I" "WaterPatience" ∈ am_NB := List.mem_filter.mpr ⟨List.mem_of_getElem? (i := 558) (by decide +kernel), rfl⟩
theorem wd_560 : Cond.fieldLinkNest RX10 410 RX0 "came" "I" "WaterPatience" ∈ am_NB := List.mem_filter.mpr ⟨List.mem_of_getElem? (i := 560) (by decide +kernel), rfl⟩
theorem wd_562 : Cond.fieldLinkNest RX10 413 RX0 "made" "I" "WaterPatience" ∈ am_NB := List.mem_filter.mpr ⟨List.mem_of_getElem? (i := 562) (by decide +kernel), rfl⟩
theorem wd_564 : Cond.fieldLinkNest RX10 416 RX0 "cut" "Z" "WaterPatience" ∈ am_NB := List.mem_filter.mpr ⟨List.mem_of_getElem? (i := 564) (by decide +kernel), rfl⟩
theorem wd_661 : Cond.fieldLink RX10 65 RX10 "trial" "LWaterPatience$Life;" ∈ am_TB := List.mem_filter.mpr ⟨List.mem_of_getElem? (i := 661) (by decide +kernel), by decide +kernel⟩
theorem wd_1538 : Cond.methodLinkNest RX10 419 yX8_allWater "WaterPatience" ∈ am_NB := List.mem_filter.mpr ⟨List.mem_of_getElem? (i := 1538) (by decide +kernel), rfl⟩
theorem wd_1541 : Cond.code yX8_allWater cX8_allWater 3 (some .int) ∈ am_TB := List.mem_filter.mpr ⟨List.mem_of_getElem? (i := 1541) (by decide +kernel), by decide +kernel⟩
theorem wd_1540 : Cond.instanceMethod yX8_allWater ∈ am_TB := List.mem_filter.mpr ⟨List.mem_of_getElem? (i := 1540) (by decide +kernel), by decide +kernel⟩
theorem wd_120 : Cond.selects RX8 yX8_allWater yX8_allWater ∈ am_TB := List.mem_filter.mpr ⟨List.mem_of_getElem? (i := 120) (by decide +kernel), by decide +kernel⟩
theorem wd_659 : Cond.fieldLink RX10 422 RX10 "marks" "I" ∈ am_TB := List.mem_filter.mpr ⟨List.mem_of_getElem? (i := 659) (by decide +kernel), by decide +kernel⟩
theorem wd_658 : Cond.fieldLink RX10 54 RX10 "marked" "[LWaterPatience$Valley;" ∈ am_TB := List.mem_filter.mpr ⟨List.mem_of_getElem? (i := 658) (by decide +kernel), by decide +kernel⟩
theorem wd_1556 : Cond.fieldLink RX11 62 RX11 "status" "I" ∈ am_TB := List.mem_filter.mpr ⟨List.mem_of_getElem? (i := 1556) (by decide +kernel), by decide +kernel⟩
theorem wd_1557 : Cond.fieldLink RX11 59 RX11 "thrown" "I" ∈ am_TB := List.mem_filter.mpr ⟨List.mem_of_getElem? (i := 1557) (by decide +kernel), by decide +kernel⟩
theorem wd_1558 : Cond.fieldLink RX11 65 RX11 "above" "J" ∈ am_TB := List.mem_filter.mpr ⟨List.mem_of_getElem? (i := 1558) (by decide +kernel), by decide +kernel⟩
theorem wd_1559 : Cond.fieldLink RX11 7 RX11 "under" "J" ∈ am_TB := List.mem_filter.mpr ⟨List.mem_of_getElem? (i := 1559) (by decide +kernel), by decide +kernel⟩
theorem wd_2264 : Cond.methodLink RX11 68 Lib.MathLoose.abs_long.x ∈ am_TB := List.mem_filter.mpr ⟨List.mem_of_getElem? (i := 2264) (by decide +kernel), by decide +kernel⟩
theorem wd_1560 : Cond.fieldLink RX11 13 RX11 "traySort" "[I" ∈ am_TB := List.mem_filter.mpr ⟨List.mem_of_getElem? (i := 1560) (by decide +kernel), by decide +kernel⟩
theorem wd_1561 : Cond.fieldLink RX11 17 RX11 "trayMany" "[I" ∈ am_TB := List.mem_filter.mpr ⟨List.mem_of_getElem? (i := 1561) (by decide +kernel), by decide +kernel⟩
theorem wd_1562 : Cond.fieldLink RX11 20 RX11 "numbers" "[J" ∈ am_TB := List.mem_filter.mpr ⟨List.mem_of_getElem? (i := 1562) (by decide +kernel), by decide +kernel⟩
theorem wd_1723 : Cond.methodLink RX11 74 yX11_no ∈ am_TB := List.mem_filter.mpr ⟨List.mem_of_getElem? (i := 1723) (by decide +kernel), by decide +kernel⟩
theorem wd_1726 : Cond.code yX11_no cX11_no 2 (some .boolean) ∈ am_TB := List.mem_filter.mpr ⟨List.mem_of_getElem? (i := 1726) (by decide +kernel), by decide +kernel⟩
theorem wd_234 : Cond.initialized RX11 ∈ am_TB := List.mem_filter.mpr ⟨List.mem_of_getElem? (i := 234) (by decide +kernel), by decide +kernel⟩
theorem wd_1725 : Cond.instanceMethod yX11_no ∈ am_TB := List.mem_filter.mpr ⟨List.mem_of_getElem? (i := 1725) (by decide +kernel), by decide +kernel⟩
theorem wd_121 : Cond.selects RX11 yX11_no yX11_no ∈ am_TB := List.mem_filter.mpr ⟨List.mem_of_getElem? (i := 121) (by decide +kernel), by decide +kernel⟩
theorem wd_1735 : Cond.methodLink RX11 78 yX11_trayed ∈ am_TB := List.mem_filter.mpr ⟨List.mem_of_getElem? (i := 1735) (by decide +kernel), by decide +kernel⟩
theorem wd_1738 : Cond.code yX11_trayed cX11_trayed 2 (some .int) ∈ am_TB := List.mem_filter.mpr ⟨List.mem_of_getElem? (i := 1738) (by decide +kernel), by decide +kernel⟩
theorem wd_1737 : Cond.instanceMethod yX11_trayed ∈ am_TB := List.mem_filter.mpr ⟨List.mem_of_getElem? (i := 1737) (by decide +kernel), by decide +kernel⟩
theorem wd_123 : Cond.selects RX11 yX11_trayed yX11_trayed ∈ am_TB := List.mem_filter.mpr ⟨List.mem_of_getElem? (i := 123) (by decide +kernel), by decide +kernel⟩
theorem wd_1739 : Cond.methodLink RX11 86 yX11_cut ∈ am_TB := List.mem_filter.mpr ⟨List.mem_of_getElem? (i := 1739) (by decide +kernel), by decide +kernel⟩
theorem wd_1741 : Cond.code yX11_cut cX11_cut 3 (some .long) ∈ am_TB := List.mem_filter.mpr ⟨List.mem_of_getElem? (i := 1741) (by decide +kernel), by decide +kernel⟩
theorem wd_1740 : Cond.static yX11_cut ∈ am_TB := List.mem_filter.mpr ⟨List.mem_of_getElem? (i := 1740) (by decide +kernel), by decide +kernel⟩
theorem wd_1731 : Cond.methodLink RX11 82 yX11_placed ∈ am_TB := List.mem_filter.mpr ⟨List.mem_of_getElem? (i := 1731) (by decide +kernel), by decide +kernel⟩
theorem wd_1734 : Cond.code yX11_placed cX11_placed 4 (some .int) ∈ am_TB := List.mem_filter.mpr ⟨List.mem_of_getElem? (i := 1734) (by decide +kernel), by decide +kernel⟩
theorem wd_1733 : Cond.instanceMethod yX11_placed ∈ am_TB := List.mem_filter.mpr ⟨List.mem_of_getElem? (i := 1733) (by decide +kernel), by decide +kernel⟩
theorem wd_122 : Cond.selects RX11 yX11_placed yX11_placed ∈ am_TB := List.mem_filter.mpr ⟨List.mem_of_getElem? (i := 122) (by decide +kernel), by decide +kernel⟩
theorem wd_1746 : Cond.constantLong RX11 90 (-1) ∈ am_TB := List.mem_filter.mpr ⟨List.mem_of_getElem? (i := 1746) (by decide +kernel), by decide +kernel⟩
theorem wd_1825 : Cond.methodLink RX11 94 yX11_isIn ∈ am_TB := List.mem_filter.mpr ⟨List.mem_of_getElem? (i := 1825) (by decide +kernel), by decide +kernel⟩
theorem wd_1827 : Cond.code yX11_isIn cX11_isIn 6 (some .boolean) ∈ am_TB := List.mem_filter.mpr ⟨List.mem_of_getElem? (i := 1827) (by decide +kernel), by decide +kernel⟩
theorem wd_1826 : Cond.static yX11_isIn ∈ am_TB := List.mem_filter.mpr ⟨List.mem_of_getElem? (i := 1826) (by decide +kernel), by decide +kernel⟩
theorem wd_2040 : Cond.constantLong RX11 92 3 ∈ am_TB := List.mem_filter.mpr ⟨List.mem_of_getElem? (i := 2040) (by decide +kernel), by decide +kernel⟩
theorem wd_1565 : Cond.fieldLink RX11 98 RX11 "textEnd" "I" ∈ am_TB := List.mem_filter.mpr ⟨List.mem_of_getElem? (i := 1565) (by decide +kernel), by decide +kernel⟩
theorem wd_1563 : Cond.fieldLink RX11 24 RX11 "tape" "[B" ∈ am_TB := List.mem_filter.mpr ⟨List.mem_of_getElem? (i := 1563) (by decide +kernel), by decide +kernel⟩
theorem wd_1572 : Cond.fieldLink RX11 101 RX11 "behind" "I" ∈ am_TB := List.mem_filter.mpr ⟨List.mem_of_getElem? (i := 1572) (by decide +kernel), by decide +kernel⟩
theorem wd_1571 : Cond.fieldLink RX11 104 RX11 "at" "I" ∈ am_TB := List.mem_filter.mpr ⟨List.mem_of_getElem? (i := 1571) (by decide +kernel), by decide +kernel⟩
theorem wd_1575 : Cond.fieldLink RX11 116 RX11 "word" "J" ∈ am_TB := List.mem_filter.mpr ⟨List.mem_of_getElem? (i := 1575) (by decide +kernel), by decide +kernel⟩
theorem wd_1573 : Cond.fieldLink RX11 129 RX11 "number" "I" ∈ am_TB := List.mem_filter.mpr ⟨List.mem_of_getElem? (i := 1573) (by decide +kernel), by decide +kernel⟩
theorem wd_1570 : Cond.fieldLink RX11 110 RX11 "token" "I" ∈ am_TB := List.mem_filter.mpr ⟨List.mem_of_getElem? (i := 1570) (by decide +kernel), by decide +kernel⟩
theorem wd_1787 : Cond.methodLink RX11 132 yX11_isSignByte ∈ am_TB := List.mem_filter.mpr ⟨List.mem_of_getElem? (i := 1787) (by decide +kernel), by decide +kernel⟩
theorem wd_1790 : Cond.code yX11_isSignByte cX11_isSignByte 2 (some .boolean) ∈ am_TB := List.mem_filter.mpr ⟨List.mem_of_getElem? (i := 1790) (by decide +kernel), by decide +kernel⟩
theorem wd_1789 : Cond.instanceMethod yX11_isSignByte ∈ am_TB := List.mem_filter.mpr ⟨List.mem_of_getElem? (i := 1789) (by decide +kernel), by decide +kernel⟩
theorem wd_128 : Cond.selects RX11 yX11_isSignByte yX11_isSignByte ∈ am_TB := List.mem_filter.mpr ⟨List.mem_of_getElem? (i := 128) (by decide +kernel), by decide +kernel⟩
theorem wd_1775 : Cond.methodLink RX11 107 yX11_look2 ∈ am_TB := List.mem_filter.mpr ⟨List.mem_of_getElem? (i := 1775) (by decide +kernel), by decide +kernel⟩
theorem wd_1778 : Cond.code yX11_look2 cX11_look2 2 (some .int) ∈ am_TB := List.mem_filter.mpr ⟨List.mem_of_getElem? (i := 1778) (by decide +kernel), by decide +kernel⟩
theorem wd_1784 : Cond.methodLink RX11 126 yX11_isDigit ∈ am_TB := List.mem_filter.mpr ⟨List.mem_of_getElem? (i := 1784) (by decide +kernel), by decide +kernel⟩
theorem wd_1786 : Cond.code yX11_isDigit cX11_isDigit 1 (some .boolean) ∈ am_TB := List.mem_filter.mpr ⟨List.mem_of_getElem? (i := 1786) (by decide +kernel), by decide +kernel⟩
theorem wd_1777 : Cond.instanceMethod yX11_look2 ∈ am_TB := List.mem_filter.mpr ⟨List.mem_of_getElem? (i := 1777) (by decide +kernel), by decide +kernel⟩
theorem wd_127 : Cond.selects RX11 yX11_look2 yX11_look2 ∈ am_TB := List.mem_filter.mpr ⟨List.mem_of_getElem? (i := 127) (by decide +kernel), by decide +kernel⟩
theorem wd_1785 : Cond.static yX11_isDigit ∈ am_TB := List.mem_filter.mpr ⟨List.mem_of_getElem? (i := 1785) (by decide +kernel), by decide +kernel⟩
theorem wd_1574 : Cond.fieldLink RX11 123 RX11 "letters" "I" ∈ am_TB := List.mem_filter.mpr ⟨List.mem_of_getElem? (i := 1574) (by decide +kernel), by decide +kernel⟩
theorem wd_1779 : Cond.methodLink RX11 113 yX11_isLetter ∈ am_TB := List.mem_filter.mpr ⟨List.mem_of_getElem? (i := 1779) (by decide +kernel), by decide +kernel⟩
theorem wd_1781 : Cond.code yX11_isLetter cX11_isLetter 1 (some .boolean) ∈ am_TB := List.mem_filter.mpr ⟨List.mem_of_getElem? (i := 1781) (by decide +kernel), by decide +kernel⟩
theorem wd_1783 : Cond.constantLong RX11 121 96 ∈ am_TB := List.mem_filter.mpr ⟨List.mem_of_getElem? (i := 1783) (by decide +kernel), by decide +kernel⟩
theorem wd_1782 : Cond.constantLong RX11 119 32 ∈ am_TB := List.mem_filter.mpr ⟨List.mem_of_getElem? (i := 1782) (by decide +kernel), by decide +kernel⟩
theorem wd_1780 : Cond.static yX11_isLetter ∈ am_TB := List.mem_filter.mpr ⟨List.mem_of_getElem? (i := 1780) (by decide +kernel), by decide +kernel⟩
theorem wd_1799 : Cond.methodLink RX11 135 yX11_spelled ∈ am_TB := List.mem_filter.mpr ⟨List.mem_of_getElem? (i := 1799) (by decide +kernel), by decide +kernel⟩
theorem wd_1801 : Cond.code yX11_spelled cX11_spelled 8 (some .long) ∈ am_TB := List.mem_filter.mpr ⟨List.mem_of_getElem? (i := 1801) (by decide +kernel), by decide +kernel⟩
theorem wd_1802 : Cond.methodLink RX11 139 yX11_isWord ∈ am_TB := List.mem_filter.mpr ⟨List.mem_of_getElem? (i := 1802) (by decide +kernel), by decide +kernel⟩
theorem wd_1805 : Cond.code yX11_isWord cX11_isWord 3 (some .boolean) ∈ am_TB := List.mem_filter.mpr ⟨List.mem_of_getElem? (i := 1805) (by decide +kernel), by decide +kernel⟩
theorem wd_1804 : Cond.instanceMethod yX11_isWord ∈ am_TB := List.mem_filter.mpr ⟨List.mem_of_getElem? (i := 1804) (by decide +kernel), by decide +kernel⟩
theorem wd_131 : Cond.selects RX11 yX11_isWord yX11_isWord ∈ am_TB := List.mem_filter.mpr ⟨List.mem_of_getElem? (i := 131) (by decide +kernel), by decide +kernel⟩
theorem wd_1800 : Cond.static yX11_spelled ∈ am_TB := List.mem_filter.mpr ⟨List.mem_of_getElem? (i := 1800) (by decide +kernel), by decide +kernel⟩
theorem wd_1836 : Cond.constantLong RX11 143 19 ∈ am_TB := List.mem_filter.mpr ⟨List.mem_of_getElem? (i := 1836) (by decide +kernel), by decide +kernel⟩
theorem wd_1893 : Cond.methodLink RX11 145 yX11_isWater ∈ am_TB := List.mem_filter.mpr ⟨List.mem_of_getElem? (i := 1893) (by decide +kernel), by decide +kernel⟩
theorem wd_1896 : Cond.code yX11_isWater cX11_isWater 1 (some .boolean) ∈ am_TB := List.mem_filter.mpr ⟨List.mem_of_getElem? (i := 1896) (by decide +kernel), by decide +kernel⟩
theorem wd_1895 : Cond.instanceMethod yX11_isWater ∈ am_TB := List.mem_filter.mpr ⟨List.mem_of_getElem? (i := 1895) (by decide +kernel), by decide +kernel⟩
theorem wd_152 : Cond.selects RX11 yX11_isWater yX11_isWater ∈ am_TB := List.mem_filter.mpr ⟨List.mem_of_getElem? (i := 152) (by decide +kernel), by decide +kernel⟩
theorem wd_1885 : Cond.methodLink RX11 182 yX11_stepWord ∈ am_TB := List.mem_filter.mpr ⟨List.mem_of_getElem? (i := 1885) (by decide +kernel), by decide +kernel⟩
theorem wd_1888 : Cond.code yX11_stepWord cX11_stepWord 1 (some .int) ∈ am_TB := List.mem_filter.mpr ⟨List.mem_of_getElem? (i := 1888) (by decide +kernel), by decide +kernel⟩
theorem wd_1889 : Cond.methodLink RX11 186 yX11_testWord ∈ am_TB := List.mem_filter.mpr ⟨List.mem_of_getElem? (i := 1889) (by decide +kernel), by decide +kernel⟩
theorem wd_1892 : Cond.code yX11_testWord cX11_testWord 1 (some .int) ∈ am_TB := List.mem_filter.mpr ⟨List.mem_of_getElem? (i := 1892) (by decide +kernel), by decide +kernel⟩
theorem wd_1897 : Cond.methodLink RX11 189 yX11_isEnd ∈ am_TB := List.mem_filter.mpr ⟨List.mem_of_getElem? (i := 1897) (by decide +kernel), by decide +kernel⟩
theorem wd_1900 : Cond.code yX11_isEnd cX11_isEnd 1 (some .boolean) ∈ am_TB := List.mem_filter.mpr ⟨List.mem_of_getElem? (i := 1900) (by decide +kernel), by decide +kernel⟩
theorem wd_1899 : Cond.instanceMethod yX11_isEnd ∈ am_TB := List.mem_filter.mpr ⟨List.mem_of_getElem? (i := 1899) (by decide +kernel), by decide +kernel⟩
theorem wd_153 : Cond.selects RX11 yX11_isEnd yX11_isEnd ∈ am_TB := List.mem_filter.mpr ⟨List.mem_of_getElem? (i := 153) (by decide +kernel), by decide +kernel⟩
theorem wd_1891 : Cond.instanceMethod yX11_testWord ∈ am_TB := List.mem_filter.mpr ⟨List.mem_of_getElem? (i := 1891) (by decide +kernel), by decide +kernel⟩
theorem wd_151 : Cond.selects RX11 yX11_testWord yX11_testWord ∈ am_TB := List.mem_filter.mpr ⟨List.mem_of_getElem? (i := 151) (by decide +kernel), by decide +kernel⟩
theorem wd_1887 : Cond.instanceMethod yX11_stepWord ∈ am_TB := List.mem_filter.mpr ⟨List.mem_of_getElem? (i := 1887) (by decide +kernel), by decide +kernel⟩
theorem wd_150 : Cond.selects RX11 yX11_stepWord yX11_stepWord ∈ am_TB := List.mem_filter.mpr ⟨List.mem_of_getElem? (i := 150) (by decide +kernel), by decide +kernel⟩
theorem wd_1795 : Cond.methodLink RX11 149 yX11_isRanks ∈ am_TB := List.mem_filter.mpr ⟨List.mem_of_getElem? (i := 1795) (by decide +kernel), by decide +kernel⟩
theorem wd_1798 : Cond.code yX11_isRanks cX11_isRanks 1 (some .boolean) ∈ am_TB := List.mem_filter.mpr ⟨List.mem_of_getElem? (i := 1798) (by decide +kernel), by decide +kernel⟩
theorem wd_1837 : Cond.methodLink RX11 152 yX11_isSuit ∈ am_TB := List.mem_filter.mpr ⟨List.mem_of_getElem? (i := 1837) (by decide +kernel), by decide +kernel⟩
theorem wd_1840 : Cond.code yX11_isSuit cX11_isSuit 1 (some .boolean) ∈ am_TB := List.mem_filter.mpr ⟨List.mem_of_getElem? (i := 1840) (by decide +kernel), by decide +kernel⟩
theorem wd_1857 : Cond.methodLink RX11 155 yX11_isRed ∈ am_TB := List.mem_filter.mpr ⟨List.mem_of_getElem? (i := 1857) (by decide +kernel), by decide +kernel⟩
theorem wd_1860 : Cond.code yX11_isRed cX11_isRed 1 (some .boolean) ∈ am_TB := List.mem_filter.mpr ⟨List.mem_of_getElem? (i := 1860) (by decide +kernel), by decide +kernel⟩
theorem wd_1828 : Cond.methodLink RX11 158 yX11_isLaw ∈ am_TB := List.mem_filter.mpr ⟨List.mem_of_getElem? (i := 1828) (by decide +kernel), by decide +kernel⟩
theorem wd_1831 : Cond.code yX11_isLaw cX11_isLaw 1 (some .boolean) ∈ am_TB := List.mem_filter.mpr ⟨List.mem_of_getElem? (i := 1831) (by decide +kernel), by decide +kernel⟩
theorem wd_1832 : Cond.methodLink RX11 161 yX11_isRedeals ∈ am_TB := List.mem_filter.mpr ⟨List.mem_of_getElem? (i := 1832) (by decide +kernel), by decide +kernel⟩
theorem wd_1835 : Cond.code yX11_isRedeals cX11_isRedeals 1 (some .boolean) ∈ am_TB := List.mem_filter.mpr ⟨List.mem_of_getElem? (i := 1835) (by decide +kernel), by decide +kernel⟩
theorem wd_1861 : Cond.methodLink RX11 164 yX11_isRow ∈ am_TB := List.mem_filter.mpr ⟨List.mem_of_getElem? (i := 1861) (by decide +kernel), by decide +kernel⟩
theorem wd_1864 : Cond.code yX11_isRow cX11_isRow 1 (some .boolean) ∈ am_TB := List.mem_filter.mpr ⟨List.mem_of_getElem? (i := 1864) (by decide +kernel), by decide +kernel⟩
theorem wd_1865 : Cond.methodLink RX11 167 yX11_isStock ∈ am_TB := List.mem_filter.mpr ⟨List.mem_of_getElem? (i := 1865) (by decide +kernel), by decide +kernel⟩
theorem wd_1868 : Cond.code yX11_isStock cX11_isStock 1 (some .boolean) ∈ am_TB := List.mem_filter.mpr ⟨List.mem_of_getElem? (i := 1868) (by decide +kernel), by decide +kernel⟩
theorem wd_1869 : Cond.methodLink RX11 170 yX11_isField ∈ am_TB := List.mem_filter.mpr ⟨List.mem_of_getElem? (i := 1869) (by decide +kernel), by decide +kernel⟩
theorem wd_1872 : Cond.code yX11_isField cX11_isField 1 (some .boolean) ∈ am_TB := List.mem_filter.mpr ⟨List.mem_of_getElem? (i := 1872) (by decide +kernel), by decide +kernel⟩
theorem wd_1873 : Cond.methodLink RX11 173 yX11_isOf ∈ am_TB := List.mem_filter.mpr ⟨List.mem_of_getElem? (i := 1873) (by decide +kernel), by decide +kernel⟩
theorem wd_1876 : Cond.code yX11_isOf cX11_isOf 1 (some .boolean) ∈ am_TB := List.mem_filter.mpr ⟨List.mem_of_getElem? (i := 1876) (by decide +kernel), by decide +kernel⟩
theorem wd_1877 : Cond.methodLink RX11 176 yX11_isDries ∈ am_TB := List.mem_filter.mpr ⟨List.mem_of_getElem? (i := 1877) (by decide +kernel), by decide +kernel⟩
theorem wd_1880 : Cond.code yX11_isDries cX11_isDries 1 (some .boolean) ∈ am_TB := List.mem_filter.mpr ⟨List.mem_of_getElem? (i := 1880) (by decide +kernel), by decide +kernel⟩
theorem wd_1881 : Cond.methodLink RX11 179 yX11_isHigh ∈ am_TB := List.mem_filter.mpr ⟨List.mem_of_getElem? (i := 1881) (by decide +kernel), by decide +kernel⟩
theorem wd_1884 : Cond.code yX11_isHigh cX11_isHigh 1 (some .boolean) ∈ am_TB := List.mem_filter.mpr ⟨List.mem_of_getElem? (i := 1884) (by decide +kernel), by decide +kernel⟩
theorem wd_1883 : Cond.instanceMethod yX11_isHigh ∈ am_TB := List.mem_filter.mpr ⟨List.mem_of_getElem? (i := 1883) (by decide +kernel), by decide +kernel⟩
theorem wd_149 : Cond.selects RX11 yX11_isHigh yX11_isHigh ∈ am_TB := List.mem_filter.mpr ⟨List.mem_of_getElem? (i := 149) (by decide +kernel), by decide +kernel⟩
theorem wd_1879 : Cond.instanceMethod yX11_isDries ∈ am_TB := List.mem_filter.mpr ⟨List.mem_of_getElem? (i := 1879) (by decide +kernel), by decide +kernel⟩
theorem wd_148 : Cond.selects RX11 yX11_isDries yX11_isDries ∈ am_TB := List.mem_filter.mpr ⟨List.mem_of_getElem? (i := 148) (by decide +kernel), by decide +kernel⟩
theorem wd_1875 : Cond.instanceMethod yX11_isOf ∈ am_TB := List.mem_filter.mpr ⟨List.mem_of_getElem? (i := 1875) (by decide +kernel), by decide +kernel⟩
theorem wd_147 : Cond.selects RX11 yX11_isOf yX11_isOf ∈ am_TB := List.mem_filter.mpr ⟨List.mem_of_getElem? (i := 147) (by decide +kernel), by decide +kernel⟩
theorem wd_1871 : Cond.instanceMethod yX11_isField ∈ am_TB := List.mem_filter.mpr ⟨List.mem_of_getElem? (i := 1871) (by decide +kernel), by decide +kernel⟩
theorem wd_146 : Cond.selects RX11 yX11_isField yX11_isField ∈ am_TB := List.mem_filter.mpr ⟨List.mem_of_getElem? (i := 146) (by decide +kernel), by decide +kernel⟩
theorem wd_1867 : Cond.instanceMethod yX11_isStock ∈ am_TB := List.mem_filter.mpr ⟨List.mem_of_getElem? (i := 1867) (by decide +kernel), by decide +kernel⟩
theorem wd_145 : Cond.selects RX11 yX11_isStock yX11_isStock ∈ am_TB := List.mem_filter.mpr ⟨List.mem_of_getElem? (i := 145) (by decide +kernel), by decide +kernel⟩
theorem wd_1863 : Cond.instanceMethod yX11_isRow ∈ am_TB := List.mem_filter.mpr ⟨List.mem_of_getElem? (i := 1863) (by decide +kernel), by decide +kernel⟩
theorem wd_144 : Cond.selects RX11 yX11_isRow yX11_isRow ∈ am_TB := List.mem_filter.mpr ⟨List.mem_of_getElem? (i := 144) (by decide +kernel), by decide +kernel⟩
theorem wd_1834 : Cond.instanceMethod yX11_isRedeals ∈ am_TB := List.mem_filter.mpr ⟨List.mem_of_getElem? (i := 1834) (by decide +kernel), by decide +kernel⟩
theorem wd_137 : Cond.selects RX11 yX11_isRedeals yX11_isRedeals ∈ am_TB := List.mem_filter.mpr ⟨List.mem_of_getElem? (i := 137) (by decide +kernel), by decide +kernel⟩
theorem wd_1830 : Cond.instanceMethod yX11_isLaw ∈ am_TB := List.mem_filter.mpr ⟨List.mem_of_getElem? (i := 1830) (by decide +kernel), by decide +kernel⟩
theorem wd_136 : Cond.selects RX11 yX11_isLaw yX11_isLaw ∈ am_TB := List.mem_filter.mpr ⟨List.mem_of_getElem? (i := 136) (by decide +kernel), by decide +kernel⟩
theorem wd_1859 : Cond.instanceMethod yX11_isRed ∈ am_TB := List.mem_filter.mpr ⟨List.mem_of_getElem? (i := 1859) (by decide +kernel), by decide +kernel⟩
theorem wd_143 : Cond.selects RX11 yX11_isRed yX11_isRed ∈ am_TB := List.mem_filter.mpr ⟨List.mem_of_getElem? (i := 143) (by decide +kernel), by decide +kernel⟩
theorem wd_1839 : Cond.instanceMethod yX11_isSuit ∈ am_TB := List.mem_filter.mpr ⟨List.mem_of_getElem? (i := 1839) (by decide +kernel), by decide +kernel⟩
theorem wd_138 : Cond.selects RX11 yX11_isSuit yX11_isSuit ∈ am_TB := List.mem_filter.mpr ⟨List.mem_of_getElem? (i := 138) (by decide +kernel), by decide +kernel⟩
theorem wd_1797 : Cond.instanceMethod yX11_isRanks ∈ am_TB := List.mem_filter.mpr ⟨List.mem_of_getElem? (i := 1797) (by decide +kernel), by decide +kernel⟩
theorem wd_130 : Cond.selects RX11 yX11_isRanks yX11_isRanks ∈ am_TB := List.mem_filter.mpr ⟨List.mem_of_getElem? (i := 130) (by decide +kernel), by decide +kernel⟩
theorem wd_1853 : Cond.methodLink RX11 192 yX11_isKept ∈ am_TB := List.mem_filter.mpr ⟨List.mem_of_getElem? (i := 1853) (by decide +kernel), by decide +kernel⟩
theorem wd_1856 : Cond.code yX11_isKept cX11_isKept 1 (some .boolean) ∈ am_TB := List.mem_filter.mpr ⟨List.mem_of_getElem? (i := 1856) (by decide +kernel), by decide +kernel⟩
theorem wd_1855 : Cond.instanceMethod yX11_isKept ∈ am_TB := List.mem_filter.mpr ⟨List.mem_of_getElem? (i := 1855) (by decide +kernel), by decide +kernel⟩
theorem wd_142 : Cond.selects RX11 yX11_isKept yX11_isKept ∈ am_TB := List.mem_filter.mpr ⟨List.mem_of_getElem? (i := 142) (by decide +kernel), by decide +kernel⟩
theorem wd_1568 : Cond.fieldLink RX11 195 RX11 "bad" "I" ∈ am_TB := List.mem_filter.mpr ⟨List.mem_of_getElem? (i := 1568) (by decide +kernel), by decide +kernel⟩
theorem wd_1569 : Cond.fieldLink RX11 198 RX11 "badAt" "I" ∈ am_TB := List.mem_filter.mpr ⟨List.mem_of_getElem? (i := 1569) (by decide +kernel), by decide +kernel⟩
theorem wd_1814 : Cond.methodLink RX11 201 yX11_fail ∈ am_TB := List.mem_filter.mpr ⟨List.mem_of_getElem? (i := 1814) (by decide +kernel), by decide +kernel⟩
theorem wd_1817 : Cond.code yX11_fail cX11_fail 3 none ∈ am_TB := List.mem_filter.mpr ⟨List.mem_of_getElem? (i := 1817) (by decide +kernel), by decide +kernel⟩
theorem wd_1816 : Cond.instanceMethod yX11_fail ∈ am_TB := List.mem_filter.mpr ⟨List.mem_of_getElem? (i := 1816) (by decide +kernel), by decide +kernel⟩
theorem wd_134 : Cond.selects RX11 yX11_fail yX11_fail ∈ am_TB := List.mem_filter.mpr ⟨List.mem_of_getElem? (i := 134) (by decide +kernel), by decide +kernel⟩
theorem wd_1810 : Cond.methodLink RX11 208 yX11_amiss ∈ am_TB := List.mem_filter.mpr ⟨List.mem_of_getElem? (i := 1810) (by decide +kernel), by decide +kernel⟩
theorem wd_1813 : Cond.code yX11_amiss cX11_amiss 1 none ∈ am_TB := List.mem_filter.mpr ⟨List.mem_of_getElem? (i := 1813) (by decide +kernel), by decide +kernel⟩
theorem wd_1812 : Cond.instanceMethod yX11_amiss ∈ am_TB := List.mem_filter.mpr ⟨List.mem_of_getElem? (i := 1812) (by decide +kernel), by decide +kernel⟩
theorem wd_133 : Cond.selects RX11 yX11_amiss yX11_amiss ∈ am_TB := List.mem_filter.mpr ⟨List.mem_of_getElem? (i := 133) (by decide +kernel), by decide +kernel⟩
theorem wd_1771 : Cond.methodLink RX11 205 yX11_advance ∈ am_TB := List.mem_filter.mpr ⟨List.mem_of_getElem? (i := 1771) (by decide +kernel), by decide +kernel⟩
theorem wd_1774 : Cond.code yX11_advance cX11_advance 2 none ∈ am_TB := List.mem_filter.mpr ⟨List.mem_of_getElem? (i := 1774) (by decide +kernel), by decide +kernel⟩
theorem wd_1773 : Cond.instanceMethod yX11_advance ∈ am_TB := List.mem_filter.mpr ⟨List.mem_of_getElem? (i := 1773) (by decide +kernel), by decide +kernel⟩
theorem wd_126 : Cond.selects RX11 yX11_advance yX11_advance ∈ am_TB := List.mem_filter.mpr ⟨List.mem_of_getElem? (i := 126) (by decide +kernel), by decide +kernel⟩
theorem wd_1918 : Cond.methodLink RX11 211 yX11_must ∈ am_TB := List.mem_filter.mpr ⟨List.mem_of_getElem? (i := 1918) (by decide +kernel), by decide +kernel⟩
theorem wd_1921 : Cond.code yX11_must cX11_must 2 none ∈ am_TB := List.mem_filter.mpr ⟨List.mem_of_getElem? (i := 1921) (by decide +kernel), by decide +kernel⟩
theorem wd_1821 : Cond.methodLink RX11 215 yX11_count ∈ am_TB := List.mem_filter.mpr ⟨List.mem_of_getElem? (i := 1821) (by decide +kernel), by decide +kernel⟩
theorem wd_1824 : Cond.code yX11_count cX11_count 4 (some .int) ∈ am_TB := List.mem_filter.mpr ⟨List.mem_of_getElem? (i := 1824) (by decide +kernel), by decide +kernel⟩
theorem wd_1823 : Cond.instanceMethod yX11_count ∈ am_TB := List.mem_filter.mpr ⟨List.mem_of_getElem? (i := 1823) (by decide +kernel), by decide +kernel⟩
theorem wd_135 : Cond.selects RX11 yX11_count yX11_count ∈ am_TB := List.mem_filter.mpr ⟨List.mem_of_getElem? (i := 135) (by decide +kernel), by decide +kernel⟩
theorem wd_1920 : Cond.instanceMethod yX11_must ∈ am_TB := List.mem_filter.mpr ⟨List.mem_of_getElem? (i := 1920) (by decide +kernel), by decide +kernel⟩
theorem wd_158 : Cond.selects RX11 yX11_must yX11_must ∈ am_TB := List.mem_filter.mpr ⟨List.mem_of_getElem? (i := 158) (by decide +kernel), by decide +kernel⟩
theorem wd_1564 : Cond.fieldLink RX11 218 RX11 "taped" "I" ∈ am_TB := List.mem_filter.mpr ⟨List.mem_of_getElem? (i := 1564) (by decide +kernel), by decide +kernel⟩
theorem wd_1755 : Cond.methodLink RX11 221 yX11_lay ∈ am_TB := List.mem_filter.mpr ⟨List.mem_of_getElem? (i := 1755) (by decide +kernel), by decide +kernel⟩
theorem wd_1758 : Cond.code yX11_lay cX11_lay 3 none ∈ am_TB := List.mem_filter.mpr ⟨List.mem_of_getElem? (i := 1758) (by decide +kernel), by decide +kernel⟩
theorem wd_1757 : Cond.instanceMethod yX11_lay ∈ am_TB := List.mem_filter.mpr ⟨List.mem_of_getElem? (i := 1757) (by decide +kernel), by decide +kernel⟩
theorem wd_124 : Cond.selects RX11 yX11_lay yX11_lay ∈ am_TB := List.mem_filter.mpr ⟨List.mem_of_getElem? (i := 124) (by decide +kernel), by decide +kernel⟩
theorem wd_1567 : Cond.fieldLink RX11 32 RX11 "faultAt" "I" ∈ am_TB := List.mem_filter.mpr ⟨List.mem_of_getElem? (i := 1567) (by decide +kernel), by decide +kernel⟩
theorem wd_1566 : Cond.fieldLink RX11 28 RX11 "faultKind" "I" ∈ am_TB := List.mem_filter.mpr ⟨List.mem_of_getElem? (i := 1566) (by decide +kernel), by decide +kernel⟩
theorem wd_1576 : Cond.fieldLink RX11 35 RX11 "c" "[I" ∈ am_TB := List.mem_filter.mpr ⟨List.mem_of_getElem? (i := 1576) (by decide +kernel), by decide +kernel⟩
theorem wd_1579 : Cond.fieldLink RX11 44 RX11 "words" "[J" ∈ am_TB := List.mem_filter.mpr ⟨List.mem_of_getElem? (i := 1579) (by decide +kernel), by decide +kernel⟩
theorem wd_1901 : Cond.methodLink RX11 228 yX11_named ∈ am_TB := List.mem_filter.mpr ⟨List.mem_of_getElem? (i := 1901) (by decide +kernel), by decide +kernel⟩
theorem wd_1904 : Cond.code yX11_named cX11_named 5 (some .int) ∈ am_TB := List.mem_filter.mpr ⟨List.mem_of_getElem? (i := 1904) (by decide +kernel), by decide +kernel⟩
theorem wd_1903 : Cond.instanceMethod yX11_named ∈ am_TB := List.mem_filter.mpr ⟨List.mem_of_getElem? (i := 1903) (by decide +kernel), by decide +kernel⟩
theorem wd_154 : Cond.selects RX11 yX11_named yX11_named ∈ am_TB := List.mem_filter.mpr ⟨List.mem_of_getElem? (i := 154) (by decide +kernel), by decide +kernel⟩
theorem wd_1849 : Cond.methodLink RX11 225 yX11_isName ∈ am_TB := List.mem_filter.mpr ⟨List.mem_of_getElem? (i := 1849) (by decide +kernel), by decide +kernel⟩
theorem wd_1852 : Cond.code yX11_isName cX11_isName 1 (some .boolean) ∈ am_TB := List.mem_filter.mpr ⟨List.mem_of_getElem? (i := 1852) (by decide +kernel), by decide +kernel⟩
theorem wd_1851 : Cond.instanceMethod yX11_isName ∈ am_TB := List.mem_filter.mpr ⟨List.mem_of_getElem? (i := 1851) (by decide +kernel), by decide +kernel⟩
theorem wd_141 : Cond.selects RX11 yX11_isName yX11_isName ∈ am_TB := List.mem_filter.mpr ⟨List.mem_of_getElem? (i := 141) (by decide +kernel), by decide +kernel⟩
theorem wd_1917 : Cond.methodLink RX11 231 Lib.Math.max.name ∈ am_TB := List.mem_filter.mpr ⟨List.mem_of_getElem? (i := 1917) (by decide +kernel), by decide +kernel⟩
theorem wd_1913 : Cond.methodLink RX11 234 yX11_told ∈ am_TB := List.mem_filter.mpr ⟨List.mem_of_getElem? (i := 1913) (by decide +kernel), by decide +kernel⟩
theorem wd_1916 : Cond.code yX11_told cX11_told 4 (some .int) ∈ am_TB := List.mem_filter.mpr ⟨List.mem_of_getElem? (i := 1916) (by decide +kernel), by decide +kernel⟩
theorem wd_1915 : Cond.instanceMethod yX11_told ∈ am_TB := List.mem_filter.mpr ⟨List.mem_of_getElem? (i := 1915) (by decide +kernel), by decide +kernel⟩
theorem wd_157 : Cond.selects RX11 yX11_told yX11_told ∈ am_TB := List.mem_filter.mpr ⟨List.mem_of_getElem? (i := 157) (by decide +kernel), by decide +kernel⟩
theorem wd_1583 : Cond.fieldLink RX11 237 RX11 "dealt" "Z" ∈ am_TB := List.mem_filter.mpr ⟨List.mem_of_getElem? (i := 1583) (by decide +kernel), by decide +kernel⟩
theorem wd_1581 : Cond.fieldLink RX11 241 RX11 "toldOnce" "I" ∈ am_TB := List.mem_filter.mpr ⟨List.mem_of_getElem? (i := 1581) (by decide +kernel), by decide +kernel⟩
theorem wd_1818 : Cond.methodLink RX11 244 yX11_has ∈ am_TB := List.mem_filter.mpr ⟨List.mem_of_getElem? (i := 1818) (by decide +kernel), by decide +kernel⟩
theorem wd_1820 : Cond.code yX11_has cX11_has 2 (some .boolean) ∈ am_TB := List.mem_filter.mpr ⟨List.mem_of_getElem? (i := 1820) (by decide +kernel), by decide +kernel⟩
theorem wd_1819 : Cond.static yX11_has ∈ am_TB := List.mem_filter.mpr ⟨List.mem_of_getElem? (i := 1819) (by decide +kernel), by decide +kernel⟩
theorem wd_1845 : Cond.methodLink RX11 248 yX11_readNew ∈ am_TB := List.mem_filter.mpr ⟨List.mem_of_getElem? (i := 1845) (by decide +kernel), by decide +kernel⟩
theorem wd_1848 : Cond.code yX11_readNew cX11_readNew 4 (some .int) ∈ am_TB := List.mem_filter.mpr ⟨List.mem_of_getElem? (i := 1848) (by decide +kernel), by decide +kernel⟩
theorem wd_1847 : Cond.instanceMethod yX11_readNew ∈ am_TB := List.mem_filter.mpr ⟨List.mem_of_getElem? (i := 1847) (by decide +kernel), by decide +kernel⟩
theorem wd_140 : Cond.selects RX11 yX11_readNew yX11_readNew ∈ am_TB := List.mem_filter.mpr ⟨List.mem_of_getElem? (i := 140) (by decide +kernel), by decide +kernel⟩
theorem wd_1582 : Cond.fieldLink RX11 251 RX11 "laid" "I" ∈ am_TB := List.mem_filter.mpr ⟨List.mem_of_getElem? (i := 1582) (by decide +kernel), by decide +kernel⟩
theorem wd_1909 : Cond.methodLink RX11 254 yX11_readCards ∈ am_TB := List.mem_filter.mpr ⟨List.mem_of_getElem? (i := 1909) (by decide +kernel), by decide +kernel⟩
theorem wd_1912 : Cond.code yX11_readCards cX11_readCards 7 (some .int) ∈ am_TB := List.mem_filter.mpr ⟨List.mem_of_getElem? (i := 1912) (by decide +kernel), by decide +kernel⟩
theorem wd_1911 : Cond.instanceMethod yX11_readCards ∈ am_TB := List.mem_filter.mpr ⟨List.mem_of_getElem? (i := 1911) (by decide +kernel), by decide +kernel⟩
theorem wd_156 : Cond.selects RX11 yX11_readCards yX11_readCards ∈ am_TB := List.mem_filter.mpr ⟨List.mem_of_getElem? (i := 156) (by decide +kernel), by decide +kernel⟩
theorem wd_1934 : Cond.methodLink RX11 260 yX11_behindWord ∈ am_TB := List.mem_filter.mpr ⟨List.mem_of_getElem? (i := 1934) (by decide +kernel), by decide +kernel⟩
theorem wd_1937 : Cond.code yX11_behindWord cX11_behindWord 4 (some .int) ∈ am_TB := List.mem_filter.mpr ⟨List.mem_of_getElem? (i := 1937) (by decide +kernel), by decide +kernel⟩
theorem wd_1936 : Cond.instanceMethod yX11_behindWord ∈ am_TB := List.mem_filter.mpr ⟨List.mem_of_getElem? (i := 1936) (by decide +kernel), by decide +kernel⟩
theorem wd_162 : Cond.selects RX11 yX11_behindWord yX11_behindWord ∈ am_TB := List.mem_filter.mpr ⟨List.mem_of_getElem? (i := 162) (by decide +kernel), by decide +kernel⟩
theorem wd_1930 : Cond.methodLink RX11 257 yX11_readTold ∈ am_TB := List.mem_filter.mpr ⟨List.mem_of_getElem? (i := 1930) (by decide +kernel), by decide +kernel⟩
theorem wd_1933 : Cond.code yX11_readTold cX11_readTold 4 (some .int) ∈ am_TB := List.mem_filter.mpr ⟨List.mem_of_getElem? (i := 1933) (by decide +kernel), by decide +kernel⟩
theorem wd_1932 : Cond.instanceMethod yX11_readTold ∈ am_TB := List.mem_filter.mpr ⟨List.mem_of_getElem? (i := 1932) (by decide +kernel), by decide +kernel⟩
theorem wd_161 : Cond.selects RX11 yX11_readTold yX11_readTold ∈ am_TB := List.mem_filter.mpr ⟨List.mem_of_getElem? (i := 161) (by decide +kernel), by decide +kernel⟩
theorem wd_1926 : Cond.methodLink RX11 277 yX11_readField ∈ am_TB := List.mem_filter.mpr ⟨List.mem_of_getElem? (i := 1926) (by decide +kernel), by decide +kernel⟩
theorem wd_1929 : Cond.code yX11_readField cX11_readField 3 none ∈ am_TB := List.mem_filter.mpr ⟨List.mem_of_getElem? (i := 1929) (by decide +kernel), by decide +kernel⟩
theorem wd_1928 : Cond.instanceMethod yX11_readField ∈ am_TB := List.mem_filter.mpr ⟨List.mem_of_getElem? (i := 1928) (by decide +kernel), by decide +kernel⟩
theorem wd_160 : Cond.selects RX11 yX11_readField yX11_readField ∈ am_TB := List.mem_filter.mpr ⟨List.mem_of_getElem? (i := 160) (by decide +kernel), by decide +kernel⟩
theorem wd_1922 : Cond.methodLink RX11 274 yX11_readStock ∈ am_TB := List.mem_filter.mpr ⟨List.mem_of_getElem? (i := 1922) (by decide +kernel), by decide +kernel⟩
theorem wd_1925 : Cond.code yX11_readStock cX11_readStock 1 none ∈ am_TB := List.mem_filter.mpr ⟨List.mem_of_getElem? (i := 1925) (by decide +kernel), by decide +kernel⟩
theorem wd_1924 : Cond.instanceMethod yX11_readStock ∈ am_TB := List.mem_filter.mpr ⟨List.mem_of_getElem? (i := 1924) (by decide +kernel), by decide +kernel⟩
theorem wd_159 : Cond.selects RX11 yX11_readStock yX11_readStock ∈ am_TB := List.mem_filter.mpr ⟨List.mem_of_getElem? (i := 159) (by decide +kernel), by decide +kernel⟩
theorem wd_1905 : Cond.methodLink RX11 271 yX11_readRow ∈ am_TB := List.mem_filter.mpr ⟨List.mem_of_getElem? (i := 1905) (by decide +kernel), by decide +kernel⟩
theorem wd_1908 : Cond.code yX11_readRow cX11_readRow 2 none ∈ am_TB := List.mem_filter.mpr ⟨List.mem_of_getElem? (i := 1908) (by decide +kernel), by decide +kernel⟩
theorem wd_1907 : Cond.instanceMethod yX11_readRow ∈ am_TB := List.mem_filter.mpr ⟨List.mem_of_getElem? (i := 1907) (by decide +kernel), by decide +kernel⟩
theorem wd_155 : Cond.selects RX11 yX11_readRow yX11_readRow ∈ am_TB := List.mem_filter.mpr ⟨List.mem_of_getElem? (i := 155) (by decide +kernel), by decide +kernel⟩
theorem wd_1841 : Cond.methodLink RX11 268 yX11_readSuit ∈ am_TB := List.mem_filter.mpr ⟨List.mem_of_getElem? (i := 1841) (by decide +kernel), by decide +kernel⟩
theorem wd_1844 : Cond.code yX11_readSuit cX11_readSuit 2 none ∈ am_TB := List.mem_filter.mpr ⟨List.mem_of_getElem? (i := 1844) (by decide +kernel), by decide +kernel⟩
theorem wd_1843 : Cond.instanceMethod yX11_readSuit ∈ am_TB := List.mem_filter.mpr ⟨List.mem_of_getElem? (i := 1843) (by decide +kernel), by decide +kernel⟩
theorem wd_139 : Cond.selects RX11 yX11_readSuit yX11_readSuit ∈ am_TB := List.mem_filter.mpr ⟨List.mem_of_getElem? (i := 139) (by decide +kernel), by decide +kernel⟩
theorem wd_1806 : Cond.methodLink RX11 264 yX11_readOnce ∈ am_TB := List.mem_filter.mpr ⟨List.mem_of_getElem? (i := 1806) (by decide +kernel), by decide +kernel⟩
theorem wd_1809 : Cond.code yX11_readOnce cX11_readOnce 5 none ∈ am_TB := List.mem_filter.mpr ⟨List.mem_of_getElem? (i := 1809) (by decide +kernel), by decide +kernel⟩
theorem wd_1808 : Cond.instanceMethod yX11_readOnce ∈ am_TB := List.mem_filter.mpr ⟨List.mem_of_getElem? (i := 1808) (by decide +kernel), by decide +kernel⟩
theorem wd_132 : Cond.selects RX11 yX11_readOnce yX11_readOnce ∈ am_TB := List.mem_filter.mpr ⟨List.mem_of_getElem? (i := 132) (by decide +kernel), by decide +kernel⟩
theorem wd_1946 : Cond.methodLink RX11 292 yX11_copy ∈ am_TB := List.mem_filter.mpr ⟨List.mem_of_getElem? (i := 1946) (by decide +kernel), by decide +kernel⟩
theorem wd_1949 : Cond.code yX11_copy cX11_copy 4 none ∈ am_TB := List.mem_filter.mpr ⟨List.mem_of_getElem? (i := 1949) (by decide +kernel), by decide +kernel⟩
theorem wd_1948 : Cond.instanceMethod yX11_copy ∈ am_TB := List.mem_filter.mpr ⟨List.mem_of_getElem? (i := 1948) (by decide +kernel), by decide +kernel⟩
theorem wd_165 : Cond.selects RX11 yX11_copy yX11_copy ∈ am_TB := List.mem_filter.mpr ⟨List.mem_of_getElem? (i := 165) (by decide +kernel), by decide +kernel⟩
theorem wd_1942 : Cond.methodLink RX11 289 yX11_isWell ∈ am_TB := List.mem_filter.mpr ⟨List.mem_of_getElem? (i := 1942) (by decide +kernel), by decide +kernel⟩
theorem wd_1945 : Cond.code yX11_isWell cX11_isWell 1 (some .boolean) ∈ am_TB := List.mem_filter.mpr ⟨List.mem_of_getElem? (i := 1945) (by decide +kernel), by decide +kernel⟩
theorem wd_1944 : Cond.instanceMethod yX11_isWell ∈ am_TB := List.mem_filter.mpr ⟨List.mem_of_getElem? (i := 1944) (by decide +kernel), by decide +kernel⟩
theorem wd_164 : Cond.selects RX11 yX11_isWell yX11_isWell ∈ am_TB := List.mem_filter.mpr ⟨List.mem_of_getElem? (i := 164) (by decide +kernel), by decide +kernel⟩
theorem wd_1791 : Cond.methodLink RX11 283 yX11_readPart ∈ am_TB := List.mem_filter.mpr ⟨List.mem_of_getElem? (i := 1791) (by decide +kernel), by decide +kernel⟩
theorem wd_1794 : Cond.code yX11_readPart cX11_readPart 1 none ∈ am_TB := List.mem_filter.mpr ⟨List.mem_of_getElem? (i := 1794) (by decide +kernel), by decide +kernel⟩
theorem wd_1938 : Cond.methodLink RX11 286 yX11_isSign ∈ am_TB := List.mem_filter.mpr ⟨List.mem_of_getElem? (i := 1938) (by decide +kernel), by decide +kernel⟩
theorem wd_1941 : Cond.code yX11_isSign cX11_isSign 2 (some .boolean) ∈ am_TB := List.mem_filter.mpr ⟨List.mem_of_getElem? (i := 1941) (by decide +kernel), by decide +kernel⟩
theorem wd_1940 : Cond.instanceMethod yX11_isSign ∈ am_TB := List.mem_filter.mpr ⟨List.mem_of_getElem? (i := 1940) (by decide +kernel), by decide +kernel⟩
theorem wd_163 : Cond.selects RX11 yX11_isSign yX11_isSign ∈ am_TB := List.mem_filter.mpr ⟨List.mem_of_getElem? (i := 163) (by decide +kernel), by decide +kernel⟩
theorem wd_1793 : Cond.instanceMethod yX11_readPart ∈ am_TB := List.mem_filter.mpr ⟨List.mem_of_getElem? (i := 1793) (by decide +kernel), by decide +kernel⟩
theorem wd_129 : Cond.selects RX11 yX11_readPart yX11_readPart ∈ am_TB := List.mem_filter.mpr ⟨List.mem_of_getElem? (i := 129) (by decide +kernel), by decide +kernel⟩
theorem wd_1767 : Cond.methodLink RX11 280 yX11_starts ∈ am_TB := List.mem_filter.mpr ⟨List.mem_of_getElem? (i := 1767) (by decide +kernel), by decide +kernel⟩
theorem wd_1770 : Cond.code yX11_starts cX11_starts 3 (some .boolean) ∈ am_TB := List.mem_filter.mpr ⟨List.mem_of_getElem? (i := 1770) (by decide +kernel), by decide +kernel⟩
theorem wd_1769 : Cond.instanceMethod yX11_starts ∈ am_TB := List.mem_filter.mpr ⟨List.mem_of_getElem? (i := 1769) (by decide +kernel), by decide +kernel⟩
theorem wd_125 : Cond.selects RX11 yX11_starts yX11_starts ∈ am_TB := List.mem_filter.mpr ⟨List.mem_of_getElem? (i := 125) (by decide +kernel), by decide +kernel⟩
theorem wd_1962 : Cond.methodLink RX11 295 yX11_readTest ∈ am_TB := List.mem_filter.mpr ⟨List.mem_of_getElem? (i := 1962) (by decide +kernel), by decide +kernel⟩
theorem wd_1965 : Cond.code yX11_readTest cX11_readTest 3 none ∈ am_TB := List.mem_filter.mpr ⟨List.mem_of_getElem? (i := 1965) (by decide +kernel), by decide +kernel⟩
theorem wd_1964 : Cond.instanceMethod yX11_readTest ∈ am_TB := List.mem_filter.mpr ⟨List.mem_of_getElem? (i := 1964) (by decide +kernel), by decide +kernel⟩
theorem wd_168 : Cond.selects RX11 yX11_readTest yX11_readTest ∈ am_TB := List.mem_filter.mpr ⟨List.mem_of_getElem? (i := 168) (by decide +kernel), by decide +kernel⟩
theorem wd_1957 : Cond.code yX11_readStep cX11_readStep 5 none ∈ am_TB := List.mem_filter.mpr ⟨List.mem_of_getElem? (i := 1957) (by decide +kernel), by decide +kernel⟩
theorem wd_1584 : Cond.fieldLink RX11 298 RX11 "newSteps" "I" ∈ am_TB := List.mem_filter.mpr ⟨List.mem_of_getElem? (i := 1584) (by decide +kernel), by decide +kernel⟩
theorem wd_1954 : Cond.methodLink RX11 304 yX11_readStep ∈ am_TB := List.mem_filter.mpr ⟨List.mem_of_getElem? (i := 1954) (by decide +kernel), by decide +kernel⟩
theorem wd_1956 : Cond.instanceMethod yX11_readStep ∈ am_TB := List.mem_filter.mpr ⟨List.mem_of_getElem? (i := 1956) (by decide +kernel), by decide +kernel⟩
theorem wd_166 : Cond.selects RX11 yX11_readStep yX11_readStep ∈ am_TB := List.mem_filter.mpr ⟨List.mem_of_getElem? (i := 166) (by decide +kernel), by decide +kernel⟩
theorem wd_1958 : Cond.methodLink RX11 301 yX11_readRest ∈ am_TB := List.mem_filter.mpr ⟨List.mem_of_getElem? (i := 1958) (by decide +kernel), by decide +kernel⟩
theorem wd_1961 : Cond.code yX11_readRest cX11_readRest 3 none ∈ am_TB := List.mem_filter.mpr ⟨List.mem_of_getElem? (i := 1961) (by decide +kernel), by decide +kernel⟩
theorem wd_1960 : Cond.instanceMethod yX11_readRest ∈ am_TB := List.mem_filter.mpr ⟨List.mem_of_getElem? (i := 1960) (by decide +kernel), by decide +kernel⟩
theorem wd_167 : Cond.selects RX11 yX11_readRest yX11_readRest ∈ am_TB := List.mem_filter.mpr ⟨List.mem_of_getElem? (i := 167) (by decide +kernel), by decide +kernel⟩
theorem wd_1987 : Cond.methodLink RX11 307 yX11_isRowAt ∈ am_TB := List.mem_filter.mpr ⟨List.mem_of_getElem? (i := 1987) (by decide +kernel), by decide +kernel⟩
theorem wd_1990 : Cond.code yX11_isRowAt cX11_isRowAt 2 (some .boolean) ∈ am_TB := List.mem_filter.mpr ⟨List.mem_of_getElem? (i := 1990) (by decide +kernel), by decide +kernel⟩
theorem wd_1989 : Cond.instanceMethod yX11_isRowAt ∈ am_TB := List.mem_filter.mpr ⟨List.mem_of_getElem? (i := 1989) (by decide +kernel), by decide +kernel⟩
theorem wd_172 : Cond.selects RX11 yX11_isRowAt yX11_isRowAt ∈ am_TB := List.mem_filter.mpr ⟨List.mem_of_getElem? (i := 172) (by decide +kernel), by decide +kernel⟩
theorem wd_1979 : Cond.methodLink RX11 318 yX11_fieldsThat ∈ am_TB := List.mem_filter.mpr ⟨List.mem_of_getElem? (i := 1979) (by decide +kernel), by decide +kernel⟩
theorem wd_1982 : Cond.code yX11_fieldsThat cX11_fieldsThat 4 (some .int) ∈ am_TB := List.mem_filter.mpr ⟨List.mem_of_getElem? (i := 1982) (by decide +kernel), by decide +kernel⟩
theorem wd_1981 : Cond.instanceMethod yX11_fieldsThat ∈ am_TB := List.mem_filter.mpr ⟨List.mem_of_getElem? (i := 1981) (by decide +kernel), by decide +kernel⟩
theorem wd_171 : Cond.selects RX11 yX11_fieldsThat yX11_fieldsThat ∈ am_TB := List.mem_filter.mpr ⟨List.mem_of_getElem? (i := 171) (by decide +kernel), by decide +kernel⟩
theorem wd_1975 : Cond.methodLink RX11 315 yX11_sum ∈ am_TB := List.mem_filter.mpr ⟨List.mem_of_getElem? (i := 1975) (by decide +kernel), by decide +kernel⟩
theorem wd_1978 : Cond.code yX11_sum cX11_sum 5 (some .int) ∈ am_TB := List.mem_filter.mpr ⟨List.mem_of_getElem? (i := 1978) (by decide +kernel), by decide +kernel⟩
theorem wd_1977 : Cond.instanceMethod yX11_sum ∈ am_TB := List.mem_filter.mpr ⟨List.mem_of_getElem? (i := 1977) (by decide +kernel), by decide +kernel⟩
theorem wd_170 : Cond.selects RX11 yX11_sum yX11_sum ∈ am_TB := List.mem_filter.mpr ⟨List.mem_of_getElem? (i := 170) (by decide +kernel), by decide +kernel⟩
theorem wd_1971 : Cond.methodLink RX11 312 yX11_refuse ∈ am_TB := List.mem_filter.mpr ⟨List.mem_of_getElem? (i := 1971) (by decide +kernel), by decide +kernel⟩
theorem wd_1974 : Cond.code yX11_refuse cX11_refuse 2 (some .int) ∈ am_TB := List.mem_filter.mpr ⟨List.mem_of_getElem? (i := 1974) (by decide +kernel), by decide +kernel⟩
theorem wd_1973 : Cond.instanceMethod yX11_refuse ∈ am_TB := List.mem_filter.mpr ⟨List.mem_of_getElem? (i := 1973) (by decide +kernel), by decide +kernel⟩
theorem wd_169 : Cond.selects RX11 yX11_refuse yX11_refuse ∈ am_TB := List.mem_filter.mpr ⟨List.mem_of_getElem? (i := 169) (by decide +kernel), by decide +kernel⟩
theorem wd_1970 : Cond.constantLong RX11 310 13 ∈ am_TB := List.mem_filter.mpr ⟨List.mem_of_getElem? (i := 1970) (by decide +kernel), by decide +kernel⟩
theorem wd_1991 : Cond.methodLink RX11 321 yX11_cardAt ∈ am_TB := List.mem_filter.mpr ⟨List.mem_of_getElem? (i := 1991) (by decide +kernel), by decide +kernel⟩
theorem wd_1994 : Cond.code yX11_cardAt cX11_cardAt 3 (some .int) ∈ am_TB := List.mem_filter.mpr ⟨List.mem_of_getElem? (i := 1994) (by decide +kernel), by decide +kernel⟩
theorem wd_1993 : Cond.instanceMethod yX11_cardAt ∈ am_TB := List.mem_filter.mpr ⟨List.mem_of_getElem? (i := 1993) (by decide +kernel), by decide +kernel⟩
theorem wd_173 : Cond.selects RX11 yX11_cardAt yX11_cardAt ∈ am_TB := List.mem_filter.mpr ⟨List.mem_of_getElem? (i := 173) (by decide +kernel), by decide +kernel⟩
theorem wd_2007 : Cond.methodLink RX11 327 yX11_topCard ∈ am_TB := List.mem_filter.mpr ⟨List.mem_of_getElem? (i := 2007) (by decide +kernel), by decide +kernel⟩
theorem wd_2010 : Cond.code yX11_topCard cX11_topCard 2 (some .int) ∈ am_TB := List.mem_filter.mpr ⟨List.mem_of_getElem? (i := 2010) (by decide +kernel), by decide +kernel⟩
theorem wd_2009 : Cond.instanceMethod yX11_topCard ∈ am_TB := List.mem_filter.mpr ⟨List.mem_of_getElem? (i := 2009) (by decide +kernel), by decide +kernel⟩
theorem wd_175 : Cond.selects RX11 yX11_topCard yX11_topCard ∈ am_TB := List.mem_filter.mpr ⟨List.mem_of_getElem? (i := 175) (by decide +kernel), by decide +kernel⟩
theorem wd_2003 : Cond.methodLink RX11 324 yX11_isFrom ∈ am_TB := List.mem_filter.mpr ⟨List.mem_of_getElem? (i := 2003) (by decide +kernel), by decide +kernel⟩
theorem wd_2006 : Cond.code yX11_isFrom cX11_isFrom 2 (some .boolean) ∈ am_TB := List.mem_filter.mpr ⟨List.mem_of_getElem? (i := 2006) (by decide +kernel), by decide +kernel⟩
theorem wd_2005 : Cond.instanceMethod yX11_isFrom ∈ am_TB := List.mem_filter.mpr ⟨List.mem_of_getElem? (i := 2005) (by decide +kernel), by decide +kernel⟩
theorem wd_174 : Cond.selects RX11 yX11_isFrom yX11_isFrom ∈ am_TB := List.mem_filter.mpr ⟨List.mem_of_getElem? (i := 174) (by decide +kernel), by decide +kernel⟩
theorem wd_2019 : Cond.methodLink RX11 330 yX11_isSuitAt ∈ am_TB := List.mem_filter.mpr ⟨List.mem_of_getElem? (i := 2019) (by decide +kernel), by decide +kernel⟩
theorem wd_2022 : Cond.code yX11_isSuitAt cX11_isSuitAt 2 (some .boolean) ∈ am_TB := List.mem_filter.mpr ⟨List.mem_of_getElem? (i := 2022) (by decide +kernel), by decide +kernel⟩
theorem wd_2021 : Cond.instanceMethod yX11_isSuitAt ∈ am_TB := List.mem_filter.mpr ⟨List.mem_of_getElem? (i := 2021) (by decide +kernel), by decide +kernel⟩
theorem wd_176 : Cond.selects RX11 yX11_isSuitAt yX11_isSuitAt ∈ am_TB := List.mem_filter.mpr ⟨List.mem_of_getElem? (i := 176) (by decide +kernel), by decide +kernel⟩
theorem wd_2031 : Cond.constantLong RX11 336 4 ∈ am_TB := List.mem_filter.mpr ⟨List.mem_of_getElem? (i := 2031) (by decide +kernel), by decide +kernel⟩
theorem wd_2027 : Cond.methodLink RX11 333 yX11_isFieldAt ∈ am_TB := List.mem_filter.mpr ⟨List.mem_of_getElem? (i := 2027) (by decide +kernel), by decide +kernel⟩
theorem wd_2030 : Cond.code yX11_isFieldAt cX11_isFieldAt 2 (some .boolean) ∈ am_TB := List.mem_filter.mpr ⟨List.mem_of_getElem? (i := 2030) (by decide +kernel), by decide +kernel⟩
theorem wd_2029 : Cond.instanceMethod yX11_isFieldAt ∈ am_TB := List.mem_filter.mpr ⟨List.mem_of_getElem? (i := 2029) (by decide +kernel), by decide +kernel⟩
theorem wd_177 : Cond.selects RX11 yX11_isFieldAt yX11_isFieldAt ∈ am_TB := List.mem_filter.mpr ⟨List.mem_of_getElem? (i := 177) (by decide +kernel), by decide +kernel⟩
theorem wd_2036 : Cond.methodLink RX11 338 yX11_isTray ∈ am_TB := List.mem_filter.mpr ⟨List.mem_of_getElem? (i := 2036) (by decide +kernel), by decide +kernel⟩
theorem wd_2039 : Cond.code yX11_isTray cX11_isTray 2 (some .boolean) ∈ am_TB := List.mem_filter.mpr ⟨List.mem_of_getElem? (i := 2039) (by decide +kernel), by decide +kernel⟩
theorem wd_2038 : Cond.instanceMethod yX11_isTray ∈ am_TB := List.mem_filter.mpr ⟨List.mem_of_getElem? (i := 2038) (by decide +kernel), by decide +kernel⟩
theorem wd_178 : Cond.selects RX11 yX11_isTray yX11_isTray ∈ am_TB := List.mem_filter.mpr ⟨List.mem_of_getElem? (i := 178) (by decide +kernel), by decide +kernel⟩
theorem wd_2057 : Cond.methodLink RX11 341 yX11_rankOf ∈ am_TB := List.mem_filter.mpr ⟨List.mem_of_getElem? (i := 2057) (by decide +kernel), by decide +kernel⟩
theorem wd_2059 : Cond.code yX11_rankOf cX11_rankOf 1 (some .int) ∈ am_TB := List.mem_filter.mpr ⟨List.mem_of_getElem? (i := 2059) (by decide +kernel), by decide +kernel⟩
theorem wd_2060 : Cond.methodLink RX11 344 yX11_suitOf ∈ am_TB := List.mem_filter.mpr ⟨List.mem_of_getElem? (i := 2060) (by decide +kernel), by decide +kernel⟩
theorem wd_2062 : Cond.code yX11_suitOf cX11_suitOf 1 (some .int) ∈ am_TB := List.mem_filter.mpr ⟨List.mem_of_getElem? (i := 2062) (by decide +kernel), by decide +kernel⟩
theorem wd_2061 : Cond.static yX11_suitOf ∈ am_TB := List.mem_filter.mpr ⟨List.mem_of_getElem? (i := 2061) (by decide +kernel), by decide +kernel⟩
theorem wd_2058 : Cond.static yX11_rankOf ∈ am_TB := List.mem_filter.mpr ⟨List.mem_of_getElem? (i := 2058) (by decide +kernel), by decide +kernel⟩
theorem wd_2063 : Cond.methodLink RX11 350 yX11_fits ∈ am_TB := List.mem_filter.mpr ⟨List.mem_of_getElem? (i := 2063) (by decide +kernel), by decide +kernel⟩
theorem wd_2066 : Cond.code yX11_fits cX11_fits 3 (some .boolean) ∈ am_TB := List.mem_filter.mpr ⟨List.mem_of_getElem? (i := 2066) (by decide +kernel), by decide +kernel⟩
theorem wd_2065 : Cond.instanceMethod yX11_fits ∈ am_TB := List.mem_filter.mpr ⟨List.mem_of_getElem? (i := 2065) (by decide +kernel), by decide +kernel⟩
theorem wd_182 : Cond.selects RX11 yX11_fits yX11_fits ∈ am_TB := List.mem_filter.mpr ⟨List.mem_of_getElem? (i := 182) (by decide +kernel), by decide +kernel⟩
theorem wd_2053 : Cond.methodLink RX11 347 yX11_goesHome ∈ am_TB := List.mem_filter.mpr ⟨List.mem_of_getElem? (i := 2053) (by decide +kernel), by decide +kernel⟩
theorem wd_2056 : Cond.code yX11_goesHome cX11_goesHome 2 (some .boolean) ∈ am_TB := List.mem_filter.mpr ⟨List.mem_of_getElem? (i := 2056) (by decide +kernel), by decide +kernel⟩
theorem wd_2055 : Cond.instanceMethod yX11_goesHome ∈ am_TB := List.mem_filter.mpr ⟨List.mem_of_getElem? (i := 2055) (by decide +kernel), by decide +kernel⟩
theorem wd_181 : Cond.selects RX11 yX11_goesHome yX11_goesHome ∈ am_TB := List.mem_filter.mpr ⟨List.mem_of_getElem? (i := 181) (by decide +kernel), by decide +kernel⟩
theorem wd_2071 : Cond.methodLink RX11 353 yX11_waters ∈ am_TB := List.mem_filter.mpr ⟨List.mem_of_getElem? (i := 2071) (by decide +kernel), by decide +kernel⟩
theorem wd_2074 : Cond.code yX11_waters cX11_waters 4 none ∈ am_TB := List.mem_filter.mpr ⟨List.mem_of_getElem? (i := 2074) (by decide +kernel), by decide +kernel⟩
theorem wd_2073 : Cond.instanceMethod yX11_waters ∈ am_TB := List.mem_filter.mpr ⟨List.mem_of_getElem? (i := 2073) (by decide +kernel), by decide +kernel⟩
theorem wd_184 : Cond.selects RX11 yX11_waters yX11_waters ∈ am_TB := List.mem_filter.mpr ⟨List.mem_of_getElem? (i := 184) (by decide +kernel), by decide +kernel⟩
theorem wd_2049 : Cond.methodLink RX11 359 yX11_isMove ∈ am_TB := List.mem_filter.mpr ⟨List.mem_of_getElem? (i := 2049) (by decide +kernel), by decide +kernel⟩
theorem wd_2052 : Cond.code yX11_isMove cX11_isMove 4 (some .boolean) ∈ am_TB := List.mem_filter.mpr ⟨List.mem_of_getElem? (i := 2052) (by decide +kernel), by decide +kernel⟩
theorem wd_2067 : Cond.methodLink RX11 362 yX11_goes ∈ am_TB := List.mem_filter.mpr ⟨List.mem_of_getElem? (i := 2067) (by decide +kernel), by decide +kernel⟩
theorem wd_2070 : Cond.code yX11_goes cX11_goes 5 (some .int) ∈ am_TB := List.mem_filter.mpr ⟨List.mem_of_getElem? (i := 2070) (by decide +kernel), by decide +kernel⟩
theorem wd_2069 : Cond.instanceMethod yX11_goes ∈ am_TB := List.mem_filter.mpr ⟨List.mem_of_getElem? (i := 2069) (by decide +kernel), by decide +kernel⟩
theorem wd_183 : Cond.selects RX11 yX11_goes yX11_goes ∈ am_TB := List.mem_filter.mpr ⟨List.mem_of_getElem? (i := 183) (by decide +kernel), by decide +kernel⟩
theorem wd_2051 : Cond.instanceMethod yX11_isMove ∈ am_TB := List.mem_filter.mpr ⟨List.mem_of_getElem? (i := 2051) (by decide +kernel), by decide +kernel⟩
theorem wd_180 : Cond.selects RX11 yX11_isMove yX11_isMove ∈ am_TB := List.mem_filter.mpr ⟨List.mem_of_getElem? (i := 180) (by decide +kernel), by decide +kernel⟩
theorem wd_2045 : Cond.methodLink RX11 356 yX11_isTo ∈ am_TB := List.mem_filter.mpr ⟨List.mem_of_getElem? (i := 2045) (by decide +kernel), by decide +kernel⟩
theorem wd_2048 : Cond.code yX11_isTo cX11_isTo 2 (some .boolean) ∈ am_TB := List.mem_filter.mpr ⟨List.mem_of_getElem? (i := 2048) (by decide +kernel), by decide +kernel⟩
theorem wd_2047 : Cond.instanceMethod yX11_isTo ∈ am_TB := List.mem_filter.mpr ⟨List.mem_of_getElem? (i := 2047) (by decide +kernel), by decide +kernel⟩
theorem wd_179 : Cond.selects RX11 yX11_isTo yX11_isTo ∈ am_TB := List.mem_filter.mpr ⟨List.mem_of_getElem? (i := 179) (by decide +kernel), by decide +kernel⟩
theorem wd_1585 : Cond.fieldLink RX11 365 RX11 "dealtCard" "I" ∈ am_TB := List.mem_filter.mpr ⟨List.mem_of_getElem? (i := 1585) (by decide +kernel), by decide +kernel⟩
theorem wd_2079 : Cond.methodLink RX11 368 yX11_deals ∈ am_TB := List.mem_filter.mpr ⟨List.mem_of_getElem? (i := 2079) (by decide +kernel), by decide +kernel⟩
theorem wd_2082 : Cond.code yX11_deals cX11_deals 2 (some .boolean) ∈ am_TB := List.mem_filter.mpr ⟨List.mem_of_getElem? (i := 2082) (by decide +kernel), by decide +kernel⟩
theorem wd_2081 : Cond.instanceMethod yX11_deals ∈ am_TB := List.mem_filter.mpr ⟨List.mem_of_getElem? (i := 2081) (by decide +kernel), by decide +kernel⟩
theorem wd_185 : Cond.selects RX11 yX11_deals yX11_deals ∈ am_TB := List.mem_filter.mpr ⟨List.mem_of_getElem? (i := 185) (by decide +kernel), by decide +kernel⟩
theorem wd_1586 : Cond.fieldLink RX11 47 RX11 "ran" "[I" ∈ am_TB := List.mem_filter.mpr ⟨List.mem_of_getElem? (i := 1586) (by decide +kernel), by decide +kernel⟩
theorem wd_2087 : Cond.methodLink RX11 371 yX11_runsAll ∈ am_TB := List.mem_filter.mpr ⟨List.mem_of_getElem? (i := 2087) (by decide +kernel), by decide +kernel⟩
theorem wd_2090 : Cond.code yX11_runsAll cX11_runsAll 5 (some .int) ∈ am_TB := List.mem_filter.mpr ⟨List.mem_of_getElem? (i := 2090) (by decide +kernel), by decide +kernel⟩
theorem wd_2089 : Cond.instanceMethod yX11_runsAll ∈ am_TB := List.mem_filter.mpr ⟨List.mem_of_getElem? (i := 2089) (by decide +kernel), by decide +kernel⟩
theorem wd_186 : Cond.selects RX11 yX11_runsAll yX11_runsAll ∈ am_TB := List.mem_filter.mpr ⟨List.mem_of_getElem? (i := 186) (by decide +kernel), by decide +kernel⟩
theorem wd_2096 : Cond.methodLink RX11 376 yX11_goesDay ∈ am_TB := List.mem_filter.mpr ⟨List.mem_of_getElem? (i := 2096) (by decide +kernel), by decide +kernel⟩
theorem wd_2099 : Cond.code yX11_goesDay cX11_goesDay 3 none ∈ am_TB := List.mem_filter.mpr ⟨List.mem_of_getElem? (i := 2099) (by decide +kernel), by decide +kernel⟩
theorem wd_2098 : Cond.instanceMethod yX11_goesDay ∈ am_TB := List.mem_filter.mpr ⟨List.mem_of_getElem? (i := 2098) (by decide +kernel), by decide +kernel⟩
theorem wd_187 : Cond.selects RX11 yX11_goesDay yX11_goesDay ∈ am_TB := List.mem_filter.mpr ⟨List.mem_of_getElem? (i := 187) (by decide +kernel), by decide +kernel⟩
theorem wd_2095 : Cond.constantLong RX11 374 99 ∈ am_TB := List.mem_filter.mpr ⟨List.mem_of_getElem? (i := 2095) (by decide +kernel), by decide +kernel⟩
theorem wd_2108 : Cond.constantLong RX11 379 2 ∈ am_TB := List.mem_filter.mpr ⟨List.mem_of_getElem? (i := 2108) (by decide +kernel), by decide +kernel⟩
theorem wd_1587 : Cond.fieldLink RX11 381 RX11 "mixed" "I" ∈ am_TB := List.mem_filter.mpr ⟨List.mem_of_getElem? (i := 1587) (by decide +kernel), by decide +kernel⟩
theorem wd_2126 : Cond.constant RX11 384 65536 ∈ am_TB := List.mem_filter.mpr ⟨List.mem_of_getElem? (i := 2126) (by decide +kernel), by decide +kernel⟩
theorem wd_1588 : Cond.fieldLink RX11 50 RX11 "pack" "[I" ∈ am_TB := List.mem_filter.mpr ⟨List.mem_of_getElem? (i := 1588) (by decide +kernel), by decide +kernel⟩
theorem wd_2127 : Cond.methodLink RX11 388 Lib.Math.min.name ∈ am_TB := List.mem_filter.mpr ⟨List.mem_of_getElem? (i := 2127) (by decide +kernel), by decide +kernel⟩
theorem wd_2122 : Cond.methodLink RX11 385 yX11_mix ∈ am_TB := List.mem_filter.mpr ⟨List.mem_of_getElem? (i := 2122) (by decide +kernel), by decide +kernel⟩
theorem wd_2125 : Cond.code yX11_mix cX11_mix 2 (some .int) ∈ am_TB := List.mem_filter.mpr ⟨List.mem_of_getElem? (i := 2125) (by decide +kernel), by decide +kernel⟩
theorem wd_2124 : Cond.instanceMethod yX11_mix ∈ am_TB := List.mem_filter.mpr ⟨List.mem_of_getElem? (i := 2124) (by decide +kernel), by decide +kernel⟩
theorem wd_189 : Cond.selects RX11 yX11_mix yX11_mix ∈ am_TB := List.mem_filter.mpr ⟨List.mem_of_getElem? (i := 189) (by decide +kernel), by decide +kernel⟩
theorem wd_2118 : Cond.methodLink RX11 393 yX11_packs ∈ am_TB := List.mem_filter.mpr ⟨List.mem_of_getElem? (i := 2118) (by decide +kernel), by decide +kernel⟩
theorem wd_2121 : Cond.code yX11_packs cX11_packs 6 (some .int) ∈ am_TB := List.mem_filter.mpr ⟨List.mem_of_getElem? (i := 2121) (by decide +kernel), by decide +kernel⟩
theorem wd_2120 : Cond.instanceMethod yX11_packs ∈ am_TB := List.mem_filter.mpr ⟨List.mem_of_getElem? (i := 2120) (by decide +kernel), by decide +kernel⟩
theorem wd_188 : Cond.selects RX11 yX11_packs yX11_packs ∈ am_TB := List.mem_filter.mpr ⟨List.mem_of_getElem? (i := 188) (by decide +kernel), by decide +kernel⟩
theorem wd_2117 : Cond.constantLong RX11 391 9999 ∈ am_TB := List.mem_filter.mpr ⟨List.mem_of_getElem? (i := 2117) (by decide +kernel), by decide +kernel⟩
theorem wd_2136 : Cond.methodLink RX11 396 yX11_moveBy ∈ am_TB := List.mem_filter.mpr ⟨List.mem_of_getElem? (i := 2136) (by decide +kernel), by decide +kernel⟩
theorem wd_2139 : Cond.code yX11_moveBy cX11_moveBy 5 (some .int) ∈ am_TB := List.mem_filter.mpr ⟨List.mem_of_getElem? (i := 2139) (by decide +kernel), by decide +kernel⟩
theorem wd_2138 : Cond.instanceMethod yX11_moveBy ∈ am_TB := List.mem_filter.mpr ⟨List.mem_of_getElem? (i := 2138) (by decide +kernel), by decide +kernel⟩
theorem wd_190 : Cond.selects RX11 yX11_moveBy yX11_moveBy ∈ am_TB := List.mem_filter.mpr ⟨List.mem_of_getElem? (i := 190) (by decide +kernel), by decide +kernel⟩
theorem wd_1577 : Cond.fieldLink RX11 38 RX11 "aside" "[I" ∈ am_TB := List.mem_filter.mpr ⟨List.mem_of_getElem? (i := 1577) (by decide +kernel), by decide +kernel⟩
theorem wd_2148 : Cond.methodLink RX11 399 yX11_keeps ∈ am_TB := List.mem_filter.mpr ⟨List.mem_of_getElem? (i := 2148) (by decide +kernel), by decide +kernel⟩
theorem wd_2151 : Cond.code yX11_keeps cX11_keeps 3 none ∈ am_TB := List.mem_filter.mpr ⟨List.mem_of_getElem? (i := 2151) (by decide +kernel), by decide +kernel⟩
theorem wd_2152 : Cond.methodLink RX11 402 yX11_gives ∈ am_TB := List.mem_filter.mpr ⟨List.mem_of_getElem? (i := 2152) (by decide +kernel), by decide +kernel⟩
theorem wd_2155 : Cond.code yX11_gives cX11_gives 3 none ∈ am_TB := List.mem_filter.mpr ⟨List.mem_of_getElem? (i := 2155) (by decide +kernel), by decide +kernel⟩
theorem wd_2154 : Cond.instanceMethod yX11_gives ∈ am_TB := List.mem_filter.mpr ⟨List.mem_of_getElem? (i := 2154) (by decide +kernel), by decide +kernel⟩
theorem wd_192 : Cond.selects RX11 yX11_gives yX11_gives ∈ am_TB := List.mem_filter.mpr ⟨List.mem_of_getElem? (i := 192) (by decide +kernel), by decide +kernel⟩
theorem wd_2150 : Cond.instanceMethod yX11_keeps ∈ am_TB := List.mem_filter.mpr ⟨List.mem_of_getElem? (i := 2150) (by decide +kernel), by decide +kernel⟩
theorem wd_191 : Cond.selects RX11 yX11_keeps yX11_keeps ∈ am_TB := List.mem_filter.mpr ⟨List.mem_of_getElem? (i := 191) (by decide +kernel), by decide +kernel⟩
theorem wd_1589 : Cond.fieldLink RX11 405 RX11 "lies" "I" ∈ am_TB := List.mem_filter.mpr ⟨List.mem_of_getElem? (i := 1589) (by decide +kernel), by decide +kernel⟩
theorem wd_1590 : Cond.fieldLink RX11 408 RX11 "over" "I" ∈ am_TB := List.mem_filter.mpr ⟨List.mem_of_getElem? (i := 1590) (by decide +kernel), by decide +kernel⟩
theorem wd_2168 : Cond.methodLink RX11 411 yX11_finds ∈ am_TB := List.mem_filter.mpr ⟨List.mem_of_getElem? (i := 2168) (by decide +kernel), by decide +kernel⟩
theorem wd_2171 : Cond.code yX11_finds cX11_finds 4 (some .boolean) ∈ am_TB := List.mem_filter.mpr ⟨List.mem_of_getElem? (i := 2171) (by decide +kernel), by decide +kernel⟩
theorem wd_2170 : Cond.instanceMethod yX11_finds ∈ am_TB := List.mem_filter.mpr ⟨List.mem_of_getElem? (i := 2170) (by decide +kernel), by decide +kernel⟩
theorem wd_194 : Cond.selects RX11 yX11_finds yX11_finds ∈ am_TB := List.mem_filter.mpr ⟨List.mem_of_getElem? (i := 194) (by decide +kernel), by decide +kernel⟩
theorem wd_2164 : Cond.methodLink RX11 414 yX11_findsNext ∈ am_TB := List.mem_filter.mpr ⟨List.mem_of_getElem? (i := 2164) (by decide +kernel), by decide +kernel⟩
theorem wd_2167 : Cond.code yX11_findsNext cX11_findsNext 2 (some .boolean) ∈ am_TB := List.mem_filter.mpr ⟨List.mem_of_getElem? (i := 2167) (by decide +kernel), by decide +kernel⟩
theorem wd_2166 : Cond.instanceMethod yX11_findsNext ∈ am_TB := List.mem_filter.mpr ⟨List.mem_of_getElem? (i := 2166) (by decide +kernel), by decide +kernel⟩
theorem wd_193 : Cond.selects RX11 yX11_findsNext yX11_findsNext ∈ am_TB := List.mem_filter.mpr ⟨List.mem_of_getElem? (i := 193) (by decide +kernel), by decide +kernel⟩
theorem wd_2188 : Cond.methodLink RX11 417 yX11_withers ∈ am_TB := List.mem_filter.mpr ⟨List.mem_of_getElem? (i := 2188) (by decide +kernel), by decide +kernel⟩
theorem wd_2191 : Cond.code yX11_withers cX11_withers 3 (some .int) ∈ am_TB := List.mem_filter.mpr ⟨List.mem_of_getElem? (i := 2191) (by decide +kernel), by decide +kernel⟩
theorem wd_2190 : Cond.instanceMethod yX11_withers ∈ am_TB := List.mem_filter.mpr ⟨List.mem_of_getElem? (i := 2190) (by decide +kernel), by decide +kernel⟩
theorem wd_195 : Cond.selects RX11 yX11_withers yX11_withers ∈ am_TB := List.mem_filter.mpr ⟨List.mem_of_getElem? (i := 195) (by decide +kernel), by decide +kernel⟩
theorem wd_2207 : Cond.code yX11_most cX11_most 11 (some .int) ∈ am_TB := List.mem_filter.mpr ⟨List.mem_of_getElem? (i := 2207) (by decide +kernel), by decide +kernel⟩
theorem wd_1591 : Cond.fieldLink RX11 424 RX11 "firstMove" "I" ∈ am_TB := List.mem_filter.mpr ⟨List.mem_of_getElem? (i := 1591) (by decide +kernel), by decide +kernel⟩
theorem wd_2204 : Cond.methodLink RX11 420 yX11_most ∈ am_TB := List.mem_filter.mpr ⟨List.mem_of_getElem? (i := 2204) (by decide +kernel), by decide +kernel⟩
theorem wd_2206 : Cond.instanceMethod yX11_most ∈ am_TB := List.mem_filter.mpr ⟨List.mem_of_getElem? (i := 2206) (by decide +kernel), by decide +kernel⟩
theorem wd_197 : Cond.selects RX11 yX11_most yX11_most ∈ am_TB := List.mem_filter.mpr ⟨List.mem_of_getElem? (i := 197) (by decide +kernel), by decide +kernel⟩
theorem wd_2200 : Cond.methodLink RX11 427 yX11_isAsked ∈ am_TB := List.mem_filter.mpr ⟨List.mem_of_getElem? (i := 2200) (by decide +kernel), by decide +kernel⟩
theorem wd_2203 : Cond.code yX11_isAsked cX11_isAsked 3 (some .boolean) ∈ am_TB := List.mem_filter.mpr ⟨List.mem_of_getElem? (i := 2203) (by decide +kernel), by decide +kernel⟩
theorem wd_2202 : Cond.instanceMethod yX11_isAsked ∈ am_TB := List.mem_filter.mpr ⟨List.mem_of_getElem? (i := 2202) (by decide +kernel), by decide +kernel⟩
theorem wd_196 : Cond.selects RX11 yX11_isAsked yX11_isAsked ∈ am_TB := List.mem_filter.mpr ⟨List.mem_of_getElem? (i := 196) (by decide +kernel), by decide +kernel⟩
theorem wd_2219 : Cond.code yX11_plays cX11_plays 10 (some .int) ∈ am_TB := List.mem_filter.mpr ⟨List.mem_of_getElem? (i := 2219) (by decide +kernel), by decide +kernel⟩
theorem wd_2216 : Cond.methodLink RX11 430 yX11_plays ∈ am_TB := List.mem_filter.mpr ⟨List.mem_of_getElem? (i := 2216) (by decide +kernel), by decide +kernel⟩
theorem wd_2218 : Cond.instanceMethod yX11_plays ∈ am_TB := List.mem_filter.mpr ⟨List.mem_of_getElem? (i := 2218) (by decide +kernel), by decide +kernel⟩
theorem wd_198 : Cond.selects RX11 yX11_plays yX11_plays ∈ am_TB := List.mem_filter.mpr ⟨List.mem_of_getElem? (i := 198) (by decide +kernel), by decide +kernel⟩
theorem wd_1592 : Cond.fieldLink RX11 436 RX11 "cheatOne" "I" ∈ am_TB := List.mem_filter.mpr ⟨List.mem_of_getElem? (i := 1592) (by decide +kernel), by decide +kernel⟩
theorem wd_1593 : Cond.fieldLink RX11 445 RX11 "cheatOther" "I" ∈ am_TB := List.mem_filter.mpr ⟨List.mem_of_getElem? (i := 1593) (by decide +kernel), by decide +kernel⟩
theorem wd_2236 : Cond.methodLink RX11 442 yX11_exchanges ∈ am_TB := List.mem_filter.mpr ⟨List.mem_of_getElem? (i := 2236) (by decide +kernel), by decide +kernel⟩
theorem wd_2239 : Cond.code yX11_exchanges cX11_exchanges 6 none ∈ am_TB := List.mem_filter.mpr ⟨List.mem_of_getElem? (i := 2239) (by decide +kernel), by decide +kernel⟩
theorem wd_2228 : Cond.methodLink RX11 433 yX11_runFor ∈ am_TB := List.mem_filter.mpr ⟨List.mem_of_getElem? (i := 2228) (by decide +kernel), by decide +kernel⟩
theorem wd_2231 : Cond.code yX11_runFor cX11_runFor 2 (some .int) ∈ am_TB := List.mem_filter.mpr ⟨List.mem_of_getElem? (i := 2231) (by decide +kernel), by decide +kernel⟩
theorem wd_2238 : Cond.instanceMethod yX11_exchanges ∈ am_TB := List.mem_filter.mpr ⟨List.mem_of_getElem? (i := 2238) (by decide +kernel), by decide +kernel⟩
theorem wd_202 : Cond.selects RX11 yX11_exchanges yX11_exchanges ∈ am_TB := List.mem_filter.mpr ⟨List.mem_of_getElem? (i := 202) (by decide +kernel), by decide +kernel⟩
theorem wd_2230 : Cond.instanceMethod yX11_runFor ∈ am_TB := List.mem_filter.mpr ⟨List.mem_of_getElem? (i := 2230) (by decide +kernel), by decide +kernel⟩
theorem wd_200 : Cond.selects RX11 yX11_runFor yX11_runFor ∈ am_TB := List.mem_filter.mpr ⟨List.mem_of_getElem? (i := 200) (by decide +kernel), by decide +kernel⟩
theorem wd_2232 : Cond.methodLink RX11 439 yX11_isPlace ∈ am_TB := List.mem_filter.mpr ⟨List.mem_of_getElem? (i := 2232) (by decide +kernel), by decide +kernel⟩
theorem wd_2235 : Cond.code yX11_isPlace cX11_isPlace 2 (some .boolean) ∈ am_TB := List.mem_filter.mpr ⟨List.mem_of_getElem? (i := 2235) (by decide +kernel), by decide +kernel⟩
theorem wd_2234 : Cond.instanceMethod yX11_isPlace ∈ am_TB := List.mem_filter.mpr ⟨List.mem_of_getElem? (i := 2234) (by decide +kernel), by decide +kernel⟩
theorem wd_201 : Cond.selects RX11 yX11_isPlace yX11_isPlace ∈ am_TB := List.mem_filter.mpr ⟨List.mem_of_getElem? (i := 201) (by decide +kernel), by decide +kernel⟩
theorem wd_2224 : Cond.methodLink RX11 448 yX11_cheats ∈ am_TB := List.mem_filter.mpr ⟨List.mem_of_getElem? (i := 2224) (by decide +kernel), by decide +kernel⟩
theorem wd_2227 : Cond.code yX11_cheats cX11_cheats 6 (some .int) ∈ am_TB := List.mem_filter.mpr ⟨List.mem_of_getElem? (i := 2227) (by decide +kernel), by decide +kernel⟩
theorem wd_2226 : Cond.instanceMethod yX11_cheats ∈ am_TB := List.mem_filter.mpr ⟨List.mem_of_getElem? (i := 2226) (by decide +kernel), by decide +kernel⟩
theorem wd_199 : Cond.selects RX11 yX11_cheats yX11_cheats ∈ am_TB := List.mem_filter.mpr ⟨List.mem_of_getElem? (i := 199) (by decide +kernel), by decide +kernel⟩
theorem wd_2251 : Cond.constantLong RX11 451 50 ∈ am_TB := List.mem_filter.mpr ⟨List.mem_of_getElem? (i := 2251) (by decide +kernel), by decide +kernel⟩
theorem wd_2252 : Cond.methodLink RX11 456 yX11_wetsBy ∈ am_TB := List.mem_filter.mpr ⟨List.mem_of_getElem? (i := 2252) (by decide +kernel), by decide +kernel⟩
theorem wd_2255 : Cond.code yX11_wetsBy cX11_wetsBy 2 none ∈ am_TB := List.mem_filter.mpr ⟨List.mem_of_getElem? (i := 2255) (by decide +kernel), by decide +kernel⟩
theorem wd_2254 : Cond.instanceMethod yX11_wetsBy ∈ am_TB := List.mem_filter.mpr ⟨List.mem_of_getElem? (i := 2254) (by decide +kernel), by decide +kernel⟩
theorem wd_203 : Cond.selects RX11 yX11_wetsBy yX11_wetsBy ∈ am_TB := List.mem_filter.mpr ⟨List.mem_of_getElem? (i := 203) (by decide +kernel), by decide +kernel⟩
theorem wd_2248 : Cond.methodLink RX11 453 yX11_areSeeds ∈ am_TB := List.mem_filter.mpr ⟨List.mem_of_getElem? (i := 2248) (by decide +kernel), by decide +kernel⟩
theorem wd_2250 : Cond.code yX11_areSeeds cX11_areSeeds 2 (some .boolean) ∈ am_TB := List.mem_filter.mpr ⟨List.mem_of_getElem? (i := 2250) (by decide +kernel), by decide +kernel⟩
theorem wd_2249 : Cond.static yX11_areSeeds ∈ am_TB := List.mem_filter.mpr ⟨List.mem_of_getElem? (i := 2249) (by decide +kernel), by decide +kernel⟩
theorem wd_2260 : Cond.methodLink RX11 459 yX11_fraction ∈ am_TB := List.mem_filter.mpr ⟨List.mem_of_getElem? (i := 2260) (by decide +kernel), by decide +kernel⟩
theorem wd_2263 : Cond.code yX11_fraction cX11_fraction 11 (some .boolean) ∈ am_TB := List.mem_filter.mpr ⟨List.mem_of_getElem? (i := 2263) (by decide +kernel), by decide +kernel⟩
theorem wd_2262 : Cond.instanceMethod yX11_fraction ∈ am_TB := List.mem_filter.mpr ⟨List.mem_of_getElem? (i := 2262) (by decide +kernel), by decide +kernel⟩
theorem wd_204 : Cond.selects RX11 yX11_fraction yX11_fraction ∈ am_TB := List.mem_filter.mpr ⟨List.mem_of_getElem? (i := 204) (by decide +kernel), by decide +kernel⟩
theorem wd_1594 : Cond.fieldLink RX11 53 RX11 "sums" "[I" ∈ am_TB := List.mem_filter.mpr ⟨List.mem_of_getElem? (i := 1594) (by decide +kernel), by decide +kernel⟩
theorem wd_1595 : Cond.fieldLink RX11 463 RX11 "likeOne" "I" ∈ am_TB := List.mem_filter.mpr ⟨List.mem_of_getElem? (i := 1595) (by decide +kernel), by decide +kernel⟩
theorem wd_2283 : Cond.methodLink RX11 466 yX11_numberOf ∈ am_TB := List.mem_filter.mpr ⟨List.mem_of_getElem? (i := 2283) (by decide +kernel), by decide +kernel⟩
theorem wd_2286 : Cond.code yX11_numberOf cX11_numberOf 3 (some .long) ∈ am_TB := List.mem_filter.mpr ⟨List.mem_of_getElem? (i := 2286) (by decide +kernel), by decide +kernel⟩
theorem wd_2285 : Cond.instanceMethod yX11_numberOf ∈ am_TB := List.mem_filter.mpr ⟨List.mem_of_getElem? (i := 2285) (by decide +kernel), by decide +kernel⟩
theorem wd_207 : Cond.selects RX11 yX11_numberOf yX11_numberOf ∈ am_TB := List.mem_filter.mpr ⟨List.mem_of_getElem? (i := 207) (by decide +kernel), by decide +kernel⟩
theorem wd_2279 : Cond.methodLink RX11 473 yX11_likes ∈ am_TB := List.mem_filter.mpr ⟨List.mem_of_getElem? (i := 2279) (by decide +kernel), by decide +kernel⟩
theorem wd_2282 : Cond.code yX11_likes cX11_likes 8 (some .int) ∈ am_TB := List.mem_filter.mpr ⟨List.mem_of_getElem? (i := 2282) (by decide +kernel), by decide +kernel⟩
theorem wd_2281 : Cond.instanceMethod yX11_likes ∈ am_TB := List.mem_filter.mpr ⟨List.mem_of_getElem? (i := 2281) (by decide +kernel), by decide +kernel⟩
theorem wd_206 : Cond.selects RX11 yX11_likes yX11_likes ∈ am_TB := List.mem_filter.mpr ⟨List.mem_of_getElem? (i := 206) (by decide +kernel), by decide +kernel⟩
theorem wd_2275 : Cond.methodLink RX11 470 yX11_whyNotLike ∈ am_TB := List.mem_filter.mpr ⟨List.mem_of_getElem? (i := 2275) (by decide +kernel), by decide +kernel⟩
theorem wd_2278 : Cond.code yX11_whyNotLike cX11_whyNotLike 4 (some .int) ∈ am_TB := List.mem_filter.mpr ⟨List.mem_of_getElem? (i := 2278) (by decide +kernel), by decide +kernel⟩
theorem wd_2277 : Cond.instanceMethod yX11_whyNotLike ∈ am_TB := List.mem_filter.mpr ⟨List.mem_of_getElem? (i := 2277) (by decide +kernel), by decide +kernel⟩
theorem wd_205 : Cond.selects RX11 yX11_whyNotLike yX11_whyNotLike ∈ am_TB := List.mem_filter.mpr ⟨List.mem_of_getElem? (i := 205) (by decide +kernel), by decide +kernel⟩
theorem wd_1599 : Cond.fieldLink RX11 476 RX11 "random" "I" ∈ am_TB := List.mem_filter.mpr ⟨List.mem_of_getElem? (i := 1599) (by decide +kernel), by decide +kernel⟩
theorem wd_1602 : Cond.fieldLink RX11 479 RX11 "days" "I" ∈ am_TB := List.mem_filter.mpr ⟨List.mem_of_getElem? (i := 1602) (by decide +kernel), by decide +kernel⟩
theorem wd_1603 : Cond.fieldLink RX11 482 RX11 "homes" "I" ∈ am_TB := List.mem_filter.mpr ⟨List.mem_of_getElem? (i := 1603) (by decide +kernel), by decide +kernel⟩
theorem wd_1604 : Cond.fieldLink RX11 485 RX11 "moved" "I" ∈ am_TB := List.mem_filter.mpr ⟨List.mem_of_getElem? (i := 1604) (by decide +kernel), by decide +kernel⟩
theorem wd_2331 : Cond.methodLink RX11 488 yX11_draw ∈ am_TB := List.mem_filter.mpr ⟨List.mem_of_getElem? (i := 2331) (by decide +kernel), by decide +kernel⟩
theorem wd_2334 : Cond.code yX11_draw cX11_draw 2 (some .int) ∈ am_TB := List.mem_filter.mpr ⟨List.mem_of_getElem? (i := 2334) (by decide +kernel), by decide +kernel⟩
theorem wd_2319 : Cond.methodLink RX11 491 yX11_isMoved ∈ am_TB := List.mem_filter.mpr ⟨List.mem_of_getElem? (i := 2319) (by decide +kernel), by decide +kernel⟩
theorem wd_2322 : Cond.code yX11_isMoved cX11_isMoved 3 (some .boolean) ∈ am_TB := List.mem_filter.mpr ⟨List.mem_of_getElem? (i := 2322) (by decide +kernel), by decide +kernel⟩
theorem wd_2321 : Cond.instanceMethod yX11_isMoved ∈ am_TB := List.mem_filter.mpr ⟨List.mem_of_getElem? (i := 2321) (by decide +kernel), by decide +kernel⟩
theorem wd_213 : Cond.selects RX11 yX11_isMoved yX11_isMoved ∈ am_TB := List.mem_filter.mpr ⟨List.mem_of_getElem? (i := 213) (by decide +kernel), by decide +kernel⟩
theorem wd_2333 : Cond.instanceMethod yX11_draw ∈ am_TB := List.mem_filter.mpr ⟨List.mem_of_getElem? (i := 2333) (by decide +kernel), by decide +kernel⟩
theorem wd_216 : Cond.selects RX11 yX11_draw yX11_draw ∈ am_TB := List.mem_filter.mpr ⟨List.mem_of_getElem? (i := 216) (by decide +kernel), by decide +kernel⟩
theorem wd_2327 : Cond.methodLink RX11 500 yX11_isAny ∈ am_TB := List.mem_filter.mpr ⟨List.mem_of_getElem? (i := 2327) (by decide +kernel), by decide +kernel⟩
theorem wd_2330 : Cond.code yX11_isAny cX11_isAny 3 (some .boolean) ∈ am_TB := List.mem_filter.mpr ⟨List.mem_of_getElem? (i := 2330) (by decide +kernel), by decide +kernel⟩
theorem wd_2329 : Cond.instanceMethod yX11_isAny ∈ am_TB := List.mem_filter.mpr ⟨List.mem_of_getElem? (i := 2329) (by decide +kernel), by decide +kernel⟩
theorem wd_215 : Cond.selects RX11 yX11_isAny yX11_isAny ∈ am_TB := List.mem_filter.mpr ⟨List.mem_of_getElem? (i := 215) (by decide +kernel), by decide +kernel⟩
theorem wd_2323 : Cond.methodLink RX11 497 yX11_isRun ∈ am_TB := List.mem_filter.mpr ⟨List.mem_of_getElem? (i := 2323) (by decide +kernel), by decide +kernel⟩
theorem wd_2326 : Cond.code yX11_isRun cX11_isRun 2 (some .boolean) ∈ am_TB := List.mem_filter.mpr ⟨List.mem_of_getElem? (i := 2326) (by decide +kernel), by decide +kernel⟩
theorem wd_2325 : Cond.instanceMethod yX11_isRun ∈ am_TB := List.mem_filter.mpr ⟨List.mem_of_getElem? (i := 2325) (by decide +kernel), by decide +kernel⟩
theorem wd_214 : Cond.selects RX11 yX11_isRun yX11_isRun ∈ am_TB := List.mem_filter.mpr ⟨List.mem_of_getElem? (i := 214) (by decide +kernel), by decide +kernel⟩
theorem wd_2315 : Cond.methodLink RX11 494 yX11_anyDays ∈ am_TB := List.mem_filter.mpr ⟨List.mem_of_getElem? (i := 2315) (by decide +kernel), by decide +kernel⟩
theorem wd_2318 : Cond.code yX11_anyDays cX11_anyDays 3 (some .boolean) ∈ am_TB := List.mem_filter.mpr ⟨List.mem_of_getElem? (i := 2318) (by decide +kernel), by decide +kernel⟩
theorem wd_2317 : Cond.instanceMethod yX11_anyDays ∈ am_TB := List.mem_filter.mpr ⟨List.mem_of_getElem? (i := 2317) (by decide +kernel), by decide +kernel⟩
theorem wd_212 : Cond.selects RX11 yX11_anyDays yX11_anyDays ∈ am_TB := List.mem_filter.mpr ⟨List.mem_of_getElem? (i := 212) (by decide +kernel), by decide +kernel⟩
theorem wd_2306 : Cond.code yX11_doAll cX11_doAll 4 none ∈ am_TB := List.mem_filter.mpr ⟨List.mem_of_getElem? (i := 2306) (by decide +kernel), by decide +kernel⟩
theorem wd_1600 : Cond.fieldLink RX11 503 RX11 "done" "I" ∈ am_TB := List.mem_filter.mpr ⟨List.mem_of_getElem? (i := 1600) (by decide +kernel), by decide +kernel⟩
theorem wd_1601 : Cond.fieldLink RX11 512 RX11 "missed" "I" ∈ am_TB := List.mem_filter.mpr ⟨List.mem_of_getElem? (i := 1601) (by decide +kernel), by decide +kernel⟩
theorem wd_1598 : Cond.fieldLink RX11 506 RX11 "isOver" "Z" ∈ am_TB := List.mem_filter.mpr ⟨List.mem_of_getElem? (i := 1598) (by decide +kernel), by decide +kernel⟩
theorem wd_2303 : Cond.methodLink RX11 521 yX11_doAll ∈ am_TB := List.mem_filter.mpr ⟨List.mem_of_getElem? (i := 2303) (by decide +kernel), by decide +kernel⟩
theorem wd_2305 : Cond.instanceMethod yX11_doAll ∈ am_TB := List.mem_filter.mpr ⟨List.mem_of_getElem? (i := 2305) (by decide +kernel), by decide +kernel⟩
theorem wd_209 : Cond.selects RX11 yX11_doAll yX11_doAll ∈ am_TB := List.mem_filter.mpr ⟨List.mem_of_getElem? (i := 209) (by decide +kernel), by decide +kernel⟩
theorem wd_2335 : Cond.methodLink RX11 518 yX11_isSo ∈ am_TB := List.mem_filter.mpr ⟨List.mem_of_getElem? (i := 2335) (by decide +kernel), by decide +kernel⟩
theorem wd_2338 : Cond.code yX11_isSo cX11_isSo 4 (some .boolean) ∈ am_TB := List.mem_filter.mpr ⟨List.mem_of_getElem? (i := 2338) (by decide +kernel), by decide +kernel⟩
theorem wd_2337 : Cond.instanceMethod yX11_isSo ∈ am_TB := List.mem_filter.mpr ⟨List.mem_of_getElem? (i := 2337) (by decide +kernel), by decide +kernel⟩
theorem wd_217 : Cond.selects RX11 yX11_isSo yX11_isSo ∈ am_TB := List.mem_filter.mpr ⟨List.mem_of_getElem? (i := 217) (by decide +kernel), by decide +kernel⟩
theorem wd_2311 : Cond.methodLink RX11 515 yX11_does ∈ am_TB := List.mem_filter.mpr ⟨List.mem_of_getElem? (i := 2311) (by decide +kernel), by decide +kernel⟩
theorem wd_2314 : Cond.code yX11_does cX11_does 3 (some .boolean) ∈ am_TB := List.mem_filter.mpr ⟨List.mem_of_getElem? (i := 2314) (by decide +kernel), by decide +kernel⟩
theorem wd_2313 : Cond.instanceMethod yX11_does ∈ am_TB := List.mem_filter.mpr ⟨List.mem_of_getElem? (i := 2313) (by decide +kernel), by decide +kernel⟩
theorem wd_211 : Cond.selects RX11 yX11_does yX11_does ∈ am_TB := List.mem_filter.mpr ⟨List.mem_of_getElem? (i := 211) (by decide +kernel), by decide +kernel⟩
theorem wd_1605 : Cond.fieldLink RX11 509 RX11 "leftOver" "I" ∈ am_TB := List.mem_filter.mpr ⟨List.mem_of_getElem? (i := 1605) (by decide +kernel), by decide +kernel⟩
theorem wd_2310 : Cond.code yX11_doOne cX11_doOne 5 none ∈ am_TB := List.mem_filter.mpr ⟨List.mem_of_getElem? (i := 2310) (by decide +kernel), by decide +kernel⟩
theorem wd_2307 : Cond.methodLink RX11 524 yX11_doOne ∈ am_TB := List.mem_filter.mpr ⟨List.mem_of_getElem? (i := 2307) (by decide +kernel), by decide +kernel⟩
theorem wd_2309 : Cond.instanceMethod yX11_doOne ∈ am_TB := List.mem_filter.mpr ⟨List.mem_of_getElem? (i := 2309) (by decide +kernel), by decide +kernel⟩
theorem wd_210 : Cond.selects RX11 yX11_doOne yX11_doOne ∈ am_TB := List.mem_filter.mpr ⟨List.mem_of_getElem? (i := 210) (by decide +kernel), by decide +kernel⟩
theorem wd_1596 : Cond.fieldLink RX11 56 RX11 "livedLast" "[I" ∈ am_TB := List.mem_filter.mpr ⟨List.mem_of_getElem? (i := 1596) (by decide +kernel), by decide +kernel⟩
theorem wd_2299 : Cond.methodLink RX11 527 yX11_runsSeasons ∈ am_TB := List.mem_filter.mpr ⟨List.mem_of_getElem? (i := 2299) (by decide +kernel), by decide +kernel⟩
theorem wd_2302 : Cond.code yX11_runsSeasons cX11_runsSeasons 2 none ∈ am_TB := List.mem_filter.mpr ⟨List.mem_of_getElem? (i := 2302) (by decide +kernel), by decide +kernel⟩
theorem wd_1597 : Cond.fieldLink RX11 530 RX11 "hasLived" "Z" ∈ am_TB := List.mem_filter.mpr ⟨List.mem_of_getElem? (i := 1597) (by decide +kernel), by decide +kernel⟩
theorem wd_2301 : Cond.instanceMethod yX11_runsSeasons ∈ am_TB := List.mem_filter.mpr ⟨List.mem_of_getElem? (i := 2301) (by decide +kernel), by decide +kernel⟩
theorem wd_208 : Cond.selects RX11 yX11_runsSeasons yX11_runsSeasons ∈ am_TB := List.mem_filter.mpr ⟨List.mem_of_getElem? (i := 208) (by decide +kernel), by decide +kernel⟩
theorem wd_1578 : Cond.fieldLink RX11 41 RX11 "before" "[I" ∈ am_TB := List.mem_filter.mpr ⟨List.mem_of_getElem? (i := 1578) (by decide +kernel), by decide +kernel⟩
theorem wd_2347 : Cond.constantLong RX11 533 20 ∈ am_TB := List.mem_filter.mpr ⟨List.mem_of_getElem? (i := 2347) (by decide +kernel), by decide +kernel⟩
theorem wd_1580 : Cond.fieldLink RX11 535 RX11 "markMany" "I" ∈ am_TB := List.mem_filter.mpr ⟨List.mem_of_getElem? (i := 1580) (by decide +kernel), by decide +kernel⟩
theorem wd_1546 : Cond.methodLink RL 239 yX10_back ∈ am_TB := List.mem_filter.mpr ⟨List.mem_of_getElem? (i := 1546) (by decide +kernel), by decide +kernel⟩
theorem wd_1549 : Cond.code yX10_back cX10_back 1 (some .int) ∈ am_TB := List.mem_filter.mpr ⟨List.mem_of_getElem? (i := 1549) (by decide +kernel), by decide +kernel⟩
theorem wd_2352 : Cond.methodLink RL 242 yX11_back ∈ am_TB := List.mem_filter.mpr ⟨List.mem_of_getElem? (i := 2352) (by decide +kernel), by decide +kernel⟩
theorem wd_2355 : Cond.code yX11_back cX11_back 1 (some .int) ∈ am_TB := List.mem_filter.mpr ⟨List.mem_of_getElem? (i := 2355) (by decide +kernel), by decide +kernel⟩
theorem wd_2353 : Cond.instanceMethod yX11_back ∈ am_TB := List.mem_filter.mpr ⟨List.mem_of_getElem? (i := 2353) (by decide +kernel), by decide +kernel⟩
theorem wd_2354 : Cond.selects RX11 yX11_back yX11_back ∈ am_TB := List.mem_filter.mpr ⟨List.mem_of_getElem? (i := 2354) (by decide +kernel), by decide +kernel⟩
theorem wd_1547 : Cond.instanceMethod yX10_back ∈ am_TB := List.mem_filter.mpr ⟨List.mem_of_getElem? (i := 1547) (by decide +kernel), by decide +kernel⟩
theorem wd_1548 : Cond.selects RX10 yX10_back yX10_back ∈ am_TB := List.mem_filter.mpr ⟨List.mem_of_getElem? (i := 1548) (by decide +kernel), by decide +kernel⟩
theorem wd_1542 : Cond.methodLink RL 235 yX10_mark ∈ am_TB := List.mem_filter.mpr ⟨List.mem_of_getElem? (i := 1542) (by decide +kernel), by decide +kernel⟩
theorem wd_1545 : Cond.code yX10_mark cX10_mark 1 (some .int) ∈ am_TB := List.mem_filter.mpr ⟨List.mem_of_getElem? (i := 1545) (by decide +kernel), by decide +kernel⟩
theorem wd_2348 : Cond.methodLink RL 238 yX11_mark ∈ am_TB := List.mem_filter.mpr ⟨List.mem_of_getElem? (i := 2348) (by decide +kernel), by decide +kernel⟩
theorem wd_2351 : Cond.code yX11_mark cX11_mark 1 (some .int) ∈ am_TB := List.mem_filter.mpr ⟨List.mem_of_getElem? (i := 2351) (by decide +kernel), by decide +kernel⟩
theorem wd_2349 : Cond.instanceMethod yX11_mark ∈ am_TB := List.mem_filter.mpr ⟨List.mem_of_getElem? (i := 2349) (by decide +kernel), by decide +kernel⟩
theorem wd_2350 : Cond.selects RX11 yX11_mark yX11_mark ∈ am_TB := List.mem_filter.mpr ⟨List.mem_of_getElem? (i := 2350) (by decide +kernel), by decide +kernel⟩
theorem wd_1543 : Cond.instanceMethod yX10_mark ∈ am_TB := List.mem_filter.mpr ⟨List.mem_of_getElem? (i := 1543) (by decide +kernel), by decide +kernel⟩
theorem wd_1544 : Cond.selects RX10 yX10_mark yX10_mark ∈ am_TB := List.mem_filter.mpr ⟨List.mem_of_getElem? (i := 1544) (by decide +kernel), by decide +kernel⟩
theorem wd_1534 : Cond.methodLink RL 231 yX10_mean ∈ am_TB := List.mem_filter.mpr ⟨List.mem_of_getElem? (i := 1534) (by decide +kernel), by decide +kernel⟩
theorem wd_1537 : Cond.code yX10_mean cX10_mean 6 (some .boolean) ∈ am_TB := List.mem_filter.mpr ⟨List.mem_of_getElem? (i := 1537) (by decide +kernel), by decide +kernel⟩
theorem wd_2343 : Cond.methodLink RL 234 yX11_mean ∈ am_TB := List.mem_filter.mpr ⟨List.mem_of_getElem? (i := 2343) (by decide +kernel), by decide +kernel⟩
theorem wd_2346 : Cond.code yX11_mean cX11_mean 7 (some .boolean) ∈ am_TB := List.mem_filter.mpr ⟨List.mem_of_getElem? (i := 2346) (by decide +kernel), by decide +kernel⟩
theorem wd_2344 : Cond.instanceMethod yX11_mean ∈ am_TB := List.mem_filter.mpr ⟨List.mem_of_getElem? (i := 2344) (by decide +kernel), by decide +kernel⟩
theorem wd_2345 : Cond.selects RX11 yX11_mean yX11_mean ∈ am_TB := List.mem_filter.mpr ⟨List.mem_of_getElem? (i := 2345) (by decide +kernel), by decide +kernel⟩
theorem wd_1535 : Cond.instanceMethod yX10_mean ∈ am_TB := List.mem_filter.mpr ⟨List.mem_of_getElem? (i := 1535) (by decide +kernel), by decide +kernel⟩
theorem wd_1536 : Cond.selects RX10 yX10_mean yX10_mean ∈ am_TB := List.mem_filter.mpr ⟨List.mem_of_getElem? (i := 1536) (by decide +kernel), by decide +kernel⟩
theorem wd_1530 : Cond.methodLink RL 227 yX10_lived ∈ am_TB := List.mem_filter.mpr ⟨List.mem_of_getElem? (i := 1530) (by decide +kernel), by decide +kernel⟩
theorem wd_1533 : Cond.code yX10_lived cX10_lived 2 (some .int) ∈ am_TB := List.mem_filter.mpr ⟨List.mem_of_getElem? (i := 1533) (by decide +kernel), by decide +kernel⟩
theorem wd_2339 : Cond.methodLink RL 230 yX11_lived ∈ am_TB := List.mem_filter.mpr ⟨List.mem_of_getElem? (i := 2339) (by decide +kernel), by decide +kernel⟩
theorem wd_2342 : Cond.code yX11_lived cX11_lived 2 (some .int) ∈ am_TB := List.mem_filter.mpr ⟨List.mem_of_getElem? (i := 2342) (by decide +kernel), by decide +kernel⟩
theorem wd_2340 : Cond.instanceMethod yX11_lived ∈ am_TB := List.mem_filter.mpr ⟨List.mem_of_getElem? (i := 2340) (by decide +kernel), by decide +kernel⟩
theorem wd_2341 : Cond.selects RX11 yX11_lived yX11_lived ∈ am_TB := List.mem_filter.mpr ⟨List.mem_of_getElem? (i := 2341) (by decide +kernel), by decide +kernel⟩
theorem wd_1531 : Cond.instanceMethod yX10_lived ∈ am_TB := List.mem_filter.mpr ⟨List.mem_of_getElem? (i := 1531) (by decide +kernel), by decide +kernel⟩
theorem wd_1532 : Cond.selects RX10 yX10_lived yX10_lived ∈ am_TB := List.mem_filter.mpr ⟨List.mem_of_getElem? (i := 1532) (by decide +kernel), by decide +kernel⟩
theorem wd_1466 : Cond.methodLink RL 223 yX10_live ∈ am_TB := List.mem_filter.mpr ⟨List.mem_of_getElem? (i := 1466) (by decide +kernel), by decide +kernel⟩
theorem wd_1469 : Cond.code yX10_live cX10_live 2 (some .int) ∈ am_TB := List.mem_filter.mpr ⟨List.mem_of_getElem? (i := 1469) (by decide +kernel), by decide +kernel⟩
theorem wd_2295 : Cond.methodLink RL 226 yX11_live ∈ am_TB := List.mem_filter.mpr ⟨List.mem_of_getElem? (i := 2295) (by decide +kernel), by decide +kernel⟩
theorem wd_2298 : Cond.code yX11_live cX11_live 2 (some .int) ∈ am_TB := List.mem_filter.mpr ⟨List.mem_of_getElem? (i := 2298) (by decide +kernel), by decide +kernel⟩
theorem wd_2296 : Cond.instanceMethod yX11_live ∈ am_TB := List.mem_filter.mpr ⟨List.mem_of_getElem? (i := 2296) (by decide +kernel), by decide +kernel⟩
theorem wd_2297 : Cond.selects RX11 yX11_live yX11_live ∈ am_TB := List.mem_filter.mpr ⟨List.mem_of_getElem? (i := 2297) (by decide +kernel), by decide +kernel⟩
theorem wd_1467 : Cond.instanceMethod yX10_live ∈ am_TB := List.mem_filter.mpr ⟨List.mem_of_getElem? (i := 1467) (by decide +kernel), by decide +kernel⟩
theorem wd_1468 : Cond.selects RX10 yX10_live yX10_live ∈ am_TB := List.mem_filter.mpr ⟨List.mem_of_getElem? (i := 1468) (by decide +kernel), by decide +kernel⟩
theorem wd_1462 : Cond.methodLink RL 219 yX10_packTop ∈ am_TB := List.mem_filter.mpr ⟨List.mem_of_getElem? (i := 1462) (by decide +kernel), by decide +kernel⟩
theorem wd_1465 : Cond.code yX10_packTop cX10_packTop 3 (some .int) ∈ am_TB := List.mem_filter.mpr ⟨List.mem_of_getElem? (i := 1465) (by decide +kernel), by decide +kernel⟩
theorem wd_2291 : Cond.methodLink RL 222 yX11_packTop ∈ am_TB := List.mem_filter.mpr ⟨List.mem_of_getElem? (i := 2291) (by decide +kernel), by decide +kernel⟩
theorem wd_2294 : Cond.code yX11_packTop cX11_packTop 4 (some .int) ∈ am_TB := List.mem_filter.mpr ⟨List.mem_of_getElem? (i := 2294) (by decide +kernel), by decide +kernel⟩
theorem wd_2292 : Cond.instanceMethod yX11_packTop ∈ am_TB := List.mem_filter.mpr ⟨List.mem_of_getElem? (i := 2292) (by decide +kernel), by decide +kernel⟩
theorem wd_2293 : Cond.selects RX11 yX11_packTop yX11_packTop ∈ am_TB := List.mem_filter.mpr ⟨List.mem_of_getElem? (i := 2293) (by decide +kernel), by decide +kernel⟩
theorem wd_1463 : Cond.instanceMethod yX10_packTop ∈ am_TB := List.mem_filter.mpr ⟨List.mem_of_getElem? (i := 1463) (by decide +kernel), by decide +kernel⟩
theorem wd_1464 : Cond.selects RX10 yX10_packTop yX10_packTop ∈ am_TB := List.mem_filter.mpr ⟨List.mem_of_getElem? (i := 1464) (by decide +kernel), by decide +kernel⟩
theorem wd_1458 : Cond.methodLink RL 215 yX10_likeFirst ∈ am_TB := List.mem_filter.mpr ⟨List.mem_of_getElem? (i := 1458) (by decide +kernel), by decide +kernel⟩
theorem wd_1461 : Cond.code yX10_likeFirst cX10_likeFirst 6 (some .int) ∈ am_TB := List.mem_filter.mpr ⟨List.mem_of_getElem? (i := 1461) (by decide +kernel), by decide +kernel⟩
theorem wd_2287 : Cond.methodLink RL 218 yX11_likeFirst ∈ am_TB := List.mem_filter.mpr ⟨List.mem_of_getElem? (i := 2287) (by decide +kernel), by decide +kernel⟩
theorem wd_2290 : Cond.code yX11_likeFirst cX11_likeFirst 4 (some .int) ∈ am_TB := List.mem_filter.mpr ⟨List.mem_of_getElem? (i := 2290) (by decide +kernel), by decide +kernel⟩
theorem wd_2288 : Cond.instanceMethod yX11_likeFirst ∈ am_TB := List.mem_filter.mpr ⟨List.mem_of_getElem? (i := 2288) (by decide +kernel), by decide +kernel⟩
theorem wd_2289 : Cond.selects RX11 yX11_likeFirst yX11_likeFirst ∈ am_TB := List.mem_filter.mpr ⟨List.mem_of_getElem? (i := 2289) (by decide +kernel), by decide +kernel⟩
theorem wd_1459 : Cond.instanceMethod yX10_likeFirst ∈ am_TB := List.mem_filter.mpr ⟨List.mem_of_getElem? (i := 1459) (by decide +kernel), by decide +kernel⟩
theorem wd_1460 : Cond.selects RX10 yX10_likeFirst yX10_likeFirst ∈ am_TB := List.mem_filter.mpr ⟨List.mem_of_getElem? (i := 1460) (by decide +kernel), by decide +kernel⟩
theorem wd_1446 : Cond.methodLink RL 210 yX10_like ∈ am_TB := List.mem_filter.mpr ⟨List.mem_of_getElem? (i := 1446) (by decide +kernel), by decide +kernel⟩
theorem wd_1449 : Cond.code yX10_like cX10_like 7 (some .int) ∈ am_TB := List.mem_filter.mpr ⟨List.mem_of_getElem? (i := 1449) (by decide +kernel), by decide +kernel⟩
theorem wd_2271 : Cond.methodLink RL 214 yX11_like ∈ am_TB := List.mem_filter.mpr ⟨List.mem_of_getElem? (i := 2271) (by decide +kernel), by decide +kernel⟩
theorem wd_2274 : Cond.code yX11_like cX11_like 4 (some .int) ∈ am_TB := List.mem_filter.mpr ⟨List.mem_of_getElem? (i := 2274) (by decide +kernel), by decide +kernel⟩
theorem wd_2272 : Cond.instanceMethod yX11_like ∈ am_TB := List.mem_filter.mpr ⟨List.mem_of_getElem? (i := 2272) (by decide +kernel), by decide +kernel⟩
theorem wd_2273 : Cond.selects RX11 yX11_like yX11_like ∈ am_TB := List.mem_filter.mpr ⟨List.mem_of_getElem? (i := 2273) (by decide +kernel), by decide +kernel⟩
theorem wd_1447 : Cond.instanceMethod yX10_like ∈ am_TB := List.mem_filter.mpr ⟨List.mem_of_getElem? (i := 1447) (by decide +kernel), by decide +kernel⟩
theorem wd_1448 : Cond.selects RX10 yX10_like yX10_like ∈ am_TB := List.mem_filter.mpr ⟨List.mem_of_getElem? (i := 1448) (by decide +kernel), by decide +kernel⟩
theorem wd_1442 : Cond.methodLink RL 206 yX10_bestSuit ∈ am_TB := List.mem_filter.mpr ⟨List.mem_of_getElem? (i := 1442) (by decide +kernel), by decide +kernel⟩
theorem wd_1445 : Cond.code yX10_bestSuit cX10_bestSuit 5 (some .int) ∈ am_TB := List.mem_filter.mpr ⟨List.mem_of_getElem? (i := 1445) (by decide +kernel), by decide +kernel⟩
theorem wd_2267 : Cond.methodLink RL 209 yX11_bestSuit ∈ am_TB := List.mem_filter.mpr ⟨List.mem_of_getElem? (i := 2267) (by decide +kernel), by decide +kernel⟩
theorem wd_2270 : Cond.code yX11_bestSuit cX11_bestSuit 5 (some .int) ∈ am_TB := List.mem_filter.mpr ⟨List.mem_of_getElem? (i := 2270) (by decide +kernel), by decide +kernel⟩
theorem wd_2268 : Cond.instanceMethod yX11_bestSuit ∈ am_TB := List.mem_filter.mpr ⟨List.mem_of_getElem? (i := 2268) (by decide +kernel), by decide +kernel⟩
theorem wd_2269 : Cond.selects RX11 yX11_bestSuit yX11_bestSuit ∈ am_TB := List.mem_filter.mpr ⟨List.mem_of_getElem? (i := 2269) (by decide +kernel), by decide +kernel⟩
theorem wd_1443 : Cond.instanceMethod yX10_bestSuit ∈ am_TB := List.mem_filter.mpr ⟨List.mem_of_getElem? (i := 1443) (by decide +kernel), by decide +kernel⟩
theorem wd_1444 : Cond.selects RX10 yX10_bestSuit yX10_bestSuit ∈ am_TB := List.mem_filter.mpr ⟨List.mem_of_getElem? (i := 1444) (by decide +kernel), by decide +kernel⟩
theorem wd_1421 : Cond.methodLink RL 202 yX10_meanWets ∈ am_TB := List.mem_filter.mpr ⟨List.mem_of_getElem? (i := 1421) (by decide +kernel), by decide +kernel⟩
theorem wd_1424 : Cond.code yX10_meanWets cX10_meanWets 4 (some .boolean) ∈ am_TB := List.mem_filter.mpr ⟨List.mem_of_getElem? (i := 1424) (by decide +kernel), by decide +kernel⟩
theorem wd_2256 : Cond.methodLink RL 205 yX11_meanWets ∈ am_TB := List.mem_filter.mpr ⟨List.mem_of_getElem? (i := 2256) (by decide +kernel), by decide +kernel⟩
theorem wd_2259 : Cond.code yX11_meanWets cX11_meanWets 7 (some .boolean) ∈ am_TB := List.mem_filter.mpr ⟨List.mem_of_getElem? (i := 2259) (by decide +kernel), by decide +kernel⟩
theorem wd_2257 : Cond.instanceMethod yX11_meanWets ∈ am_TB := List.mem_filter.mpr ⟨List.mem_of_getElem? (i := 2257) (by decide +kernel), by decide +kernel⟩
theorem wd_2258 : Cond.selects RX11 yX11_meanWets yX11_meanWets ∈ am_TB := List.mem_filter.mpr ⟨List.mem_of_getElem? (i := 2258) (by decide +kernel), by decide +kernel⟩
theorem wd_1422 : Cond.instanceMethod yX10_meanWets ∈ am_TB := List.mem_filter.mpr ⟨List.mem_of_getElem? (i := 1422) (by decide +kernel), by decide +kernel⟩
theorem wd_1423 : Cond.selects RX10 yX10_meanWets yX10_meanWets ∈ am_TB := List.mem_filter.mpr ⟨List.mem_of_getElem? (i := 1423) (by decide +kernel), by decide +kernel⟩
theorem wd_1405 : Cond.methodLink RL 198 yX10_wets ∈ am_TB := List.mem_filter.mpr ⟨List.mem_of_getElem? (i := 1405) (by decide +kernel), by decide +kernel⟩
theorem wd_1408 : Cond.code yX10_wets cX10_wets 3 (some .int) ∈ am_TB := List.mem_filter.mpr ⟨List.mem_of_getElem? (i := 1408) (by decide +kernel), by decide +kernel⟩
theorem wd_2244 : Cond.methodLink RL 201 yX11_wets ∈ am_TB := List.mem_filter.mpr ⟨List.mem_of_getElem? (i := 2244) (by decide +kernel), by decide +kernel⟩
theorem wd_2247 : Cond.code yX11_wets cX11_wets 3 (some .int) ∈ am_TB := List.mem_filter.mpr ⟨List.mem_of_getElem? (i := 2247) (by decide +kernel), by decide +kernel⟩
theorem wd_2245 : Cond.instanceMethod yX11_wets ∈ am_TB := List.mem_filter.mpr ⟨List.mem_of_getElem? (i := 2245) (by decide +kernel), by decide +kernel⟩
theorem wd_2246 : Cond.selects RX11 yX11_wets yX11_wets ∈ am_TB := List.mem_filter.mpr ⟨List.mem_of_getElem? (i := 2246) (by decide +kernel), by decide +kernel⟩
theorem wd_1406 : Cond.instanceMethod yX10_wets ∈ am_TB := List.mem_filter.mpr ⟨List.mem_of_getElem? (i := 1406) (by decide +kernel), by decide +kernel⟩
theorem wd_1407 : Cond.selects RX10 yX10_wets yX10_wets ∈ am_TB := List.mem_filter.mpr ⟨List.mem_of_getElem? (i := 1407) (by decide +kernel), by decide +kernel⟩
theorem wd_1401 : Cond.methodLink RL 194 yX10_cheatAt ∈ am_TB := List.mem_filter.mpr ⟨List.mem_of_getElem? (i := 1401) (by decide +kernel), by decide +kernel⟩
theorem wd_1404 : Cond.code yX10_cheatAt cX10_cheatAt 4 (some .int) ∈ am_TB := List.mem_filter.mpr ⟨List.mem_of_getElem? (i := 1404) (by decide +kernel), by decide +kernel⟩
theorem wd_2240 : Cond.methodLink RL 197 yX11_cheatAt ∈ am_TB := List.mem_filter.mpr ⟨List.mem_of_getElem? (i := 2240) (by decide +kernel), by decide +kernel⟩
theorem wd_2243 : Cond.code yX11_cheatAt cX11_cheatAt 3 (some .int) ∈ am_TB := List.mem_filter.mpr ⟨List.mem_of_getElem? (i := 2243) (by decide +kernel), by decide +kernel⟩
theorem wd_2241 : Cond.instanceMethod yX11_cheatAt ∈ am_TB := List.mem_filter.mpr ⟨List.mem_of_getElem? (i := 2241) (by decide +kernel), by decide +kernel⟩
theorem wd_2242 : Cond.selects RX11 yX11_cheatAt yX11_cheatAt ∈ am_TB := List.mem_filter.mpr ⟨List.mem_of_getElem? (i := 2242) (by decide +kernel), by decide +kernel⟩
theorem wd_1402 : Cond.instanceMethod yX10_cheatAt ∈ am_TB := List.mem_filter.mpr ⟨List.mem_of_getElem? (i := 1402) (by decide +kernel), by decide +kernel⟩
theorem wd_1403 : Cond.selects RX10 yX10_cheatAt yX10_cheatAt ∈ am_TB := List.mem_filter.mpr ⟨List.mem_of_getElem? (i := 1403) (by decide +kernel), by decide +kernel⟩
theorem wd_1383 : Cond.methodLink RL 190 yX10_cheat ∈ am_TB := List.mem_filter.mpr ⟨List.mem_of_getElem? (i := 1383) (by decide +kernel), by decide +kernel⟩
theorem wd_1386 : Cond.code yX10_cheat cX10_cheat 2 (some .int) ∈ am_TB := List.mem_filter.mpr ⟨List.mem_of_getElem? (i := 1386) (by decide +kernel), by decide +kernel⟩
theorem wd_2220 : Cond.methodLink RL 193 yX11_cheat ∈ am_TB := List.mem_filter.mpr ⟨List.mem_of_getElem? (i := 2220) (by decide +kernel), by decide +kernel⟩
theorem wd_2223 : Cond.code yX11_cheat cX11_cheat 2 (some .int) ∈ am_TB := List.mem_filter.mpr ⟨List.mem_of_getElem? (i := 2223) (by decide +kernel), by decide +kernel⟩
theorem wd_2221 : Cond.instanceMethod yX11_cheat ∈ am_TB := List.mem_filter.mpr ⟨List.mem_of_getElem? (i := 2221) (by decide +kernel), by decide +kernel⟩
theorem wd_2222 : Cond.selects RX11 yX11_cheat yX11_cheat ∈ am_TB := List.mem_filter.mpr ⟨List.mem_of_getElem? (i := 2222) (by decide +kernel), by decide +kernel⟩
theorem wd_1384 : Cond.instanceMethod yX10_cheat ∈ am_TB := List.mem_filter.mpr ⟨List.mem_of_getElem? (i := 1384) (by decide +kernel), by decide +kernel⟩
theorem wd_1385 : Cond.selects RX10 yX10_cheat yX10_cheat ∈ am_TB := List.mem_filter.mpr ⟨List.mem_of_getElem? (i := 1385) (by decide +kernel), by decide +kernel⟩
theorem wd_1375 : Cond.methodLink RL 186 yX10_game ∈ am_TB := List.mem_filter.mpr ⟨List.mem_of_getElem? (i := 1375) (by decide +kernel), by decide +kernel⟩
theorem wd_1378 : Cond.code yX10_game cX10_game 3 (some .int) ∈ am_TB := List.mem_filter.mpr ⟨List.mem_of_getElem? (i := 1378) (by decide +kernel), by decide +kernel⟩
theorem wd_2212 : Cond.methodLink RL 189 yX11_game ∈ am_TB := List.mem_filter.mpr ⟨List.mem_of_getElem? (i := 2212) (by decide +kernel), by decide +kernel⟩
theorem wd_2215 : Cond.code yX11_game cX11_game 3 (some .int) ∈ am_TB := List.mem_filter.mpr ⟨List.mem_of_getElem? (i := 2215) (by decide +kernel), by decide +kernel⟩
theorem wd_2213 : Cond.instanceMethod yX11_game ∈ am_TB := List.mem_filter.mpr ⟨List.mem_of_getElem? (i := 2213) (by decide +kernel), by decide +kernel⟩
theorem wd_2214 : Cond.selects RX11 yX11_game yX11_game ∈ am_TB := List.mem_filter.mpr ⟨List.mem_of_getElem? (i := 2214) (by decide +kernel), by decide +kernel⟩
theorem wd_1376 : Cond.instanceMethod yX10_game ∈ am_TB := List.mem_filter.mpr ⟨List.mem_of_getElem? (i := 1376) (by decide +kernel), by decide +kernel⟩
theorem wd_1377 : Cond.selects RX10 yX10_game yX10_game ∈ am_TB := List.mem_filter.mpr ⟨List.mem_of_getElem? (i := 1377) (by decide +kernel), by decide +kernel⟩
theorem wd_1367 : Cond.methodLink RL 182 yX10_first ∈ am_TB := List.mem_filter.mpr ⟨List.mem_of_getElem? (i := 1367) (by decide +kernel), by decide +kernel⟩
theorem wd_1370 : Cond.code yX10_first cX10_first 4 (some .int) ∈ am_TB := List.mem_filter.mpr ⟨List.mem_of_getElem? (i := 1370) (by decide +kernel), by decide +kernel⟩
theorem wd_2208 : Cond.methodLink RL 185 yX11_first ∈ am_TB := List.mem_filter.mpr ⟨List.mem_of_getElem? (i := 2208) (by decide +kernel), by decide +kernel⟩
theorem wd_2211 : Cond.code yX11_first cX11_first 3 (some .int) ∈ am_TB := List.mem_filter.mpr ⟨List.mem_of_getElem? (i := 2211) (by decide +kernel), by decide +kernel⟩
theorem wd_2209 : Cond.instanceMethod yX11_first ∈ am_TB := List.mem_filter.mpr ⟨List.mem_of_getElem? (i := 2209) (by decide +kernel), by decide +kernel⟩
theorem wd_2210 : Cond.selects RX11 yX11_first yX11_first ∈ am_TB := List.mem_filter.mpr ⟨List.mem_of_getElem? (i := 2210) (by decide +kernel), by decide +kernel⟩
theorem wd_1368 : Cond.instanceMethod yX10_first ∈ am_TB := List.mem_filter.mpr ⟨List.mem_of_getElem? (i := 1368) (by decide +kernel), by decide +kernel⟩
theorem wd_1369 : Cond.selects RX10 yX10_first yX10_first ∈ am_TB := List.mem_filter.mpr ⟨List.mem_of_getElem? (i := 1369) (by decide +kernel), by decide +kernel⟩
theorem wd_1340 : Cond.methodLink RL 178 yX10_yields ∈ am_TB := List.mem_filter.mpr ⟨List.mem_of_getElem? (i := 1340) (by decide +kernel), by decide +kernel⟩
theorem wd_1343 : Cond.code yX10_yields cX10_yields 3 (some .int) ∈ am_TB := List.mem_filter.mpr ⟨List.mem_of_getElem? (i := 1343) (by decide +kernel), by decide +kernel⟩
theorem wd_2196 : Cond.methodLink RL 181 yX11_yields ∈ am_TB := List.mem_filter.mpr ⟨List.mem_of_getElem? (i := 2196) (by decide +kernel), by decide +kernel⟩
theorem wd_2199 : Cond.code yX11_yields cX11_yields 3 (some .int) ∈ am_TB := List.mem_filter.mpr ⟨List.mem_of_getElem? (i := 2199) (by decide +kernel), by decide +kernel⟩
theorem wd_2197 : Cond.instanceMethod yX11_yields ∈ am_TB := List.mem_filter.mpr ⟨List.mem_of_getElem? (i := 2197) (by decide +kernel), by decide +kernel⟩
theorem wd_2198 : Cond.selects RX11 yX11_yields yX11_yields ∈ am_TB := List.mem_filter.mpr ⟨List.mem_of_getElem? (i := 2198) (by decide +kernel), by decide +kernel⟩
theorem wd_1341 : Cond.instanceMethod yX10_yields ∈ am_TB := List.mem_filter.mpr ⟨List.mem_of_getElem? (i := 1341) (by decide +kernel), by decide +kernel⟩
theorem wd_1342 : Cond.selects RX10 yX10_yields yX10_yields ∈ am_TB := List.mem_filter.mpr ⟨List.mem_of_getElem? (i := 1342) (by decide +kernel), by decide +kernel⟩
theorem wd_1336 : Cond.methodLink RL 174 yX10_thirstiest ∈ am_TB := List.mem_filter.mpr ⟨List.mem_of_getElem? (i := 1336) (by decide +kernel), by decide +kernel⟩
theorem wd_1339 : Cond.code yX10_thirstiest cX10_thirstiest 5 (some .int) ∈ am_TB := List.mem_filter.mpr ⟨List.mem_of_getElem? (i := 1339) (by decide +kernel), by decide +kernel⟩
theorem wd_2192 : Cond.methodLink RL 177 yX11_thirstiest ∈ am_TB := List.mem_filter.mpr ⟨List.mem_of_getElem? (i := 2192) (by decide +kernel), by decide +kernel⟩
theorem wd_2195 : Cond.code yX11_thirstiest cX11_thirstiest 3 (some .int) ∈ am_TB := List.mem_filter.mpr ⟨List.mem_of_getElem? (i := 2195) (by decide +kernel), by decide +kernel⟩
theorem wd_2193 : Cond.instanceMethod yX11_thirstiest ∈ am_TB := List.mem_filter.mpr ⟨List.mem_of_getElem? (i := 2193) (by decide +kernel), by decide +kernel⟩
theorem wd_2194 : Cond.selects RX11 yX11_thirstiest yX11_thirstiest ∈ am_TB := List.mem_filter.mpr ⟨List.mem_of_getElem? (i := 2194) (by decide +kernel), by decide +kernel⟩
theorem wd_1337 : Cond.instanceMethod yX10_thirstiest ∈ am_TB := List.mem_filter.mpr ⟨List.mem_of_getElem? (i := 1337) (by decide +kernel), by decide +kernel⟩
theorem wd_1338 : Cond.selects RX10 yX10_thirstiest yX10_thirstiest ∈ am_TB := List.mem_filter.mpr ⟨List.mem_of_getElem? (i := 1338) (by decide +kernel), by decide +kernel⟩
theorem wd_1328 : Cond.methodLink RL 170 yX10_wilts ∈ am_TB := List.mem_filter.mpr ⟨List.mem_of_getElem? (i := 1328) (by decide +kernel), by decide +kernel⟩
theorem wd_1331 : Cond.code yX10_wilts cX10_wilts 3 (some .int) ∈ am_TB := List.mem_filter.mpr ⟨List.mem_of_getElem? (i := 1331) (by decide +kernel), by decide +kernel⟩
theorem wd_2184 : Cond.methodLink RL 173 yX11_wilts ∈ am_TB := List.mem_filter.mpr ⟨List.mem_of_getElem? (i := 2184) (by decide +kernel), by decide +kernel⟩
theorem wd_2187 : Cond.code yX11_wilts cX11_wilts 3 (some .int) ∈ am_TB := List.mem_filter.mpr ⟨List.mem_of_getElem? (i := 2187) (by decide +kernel), by decide +kernel⟩
theorem wd_2185 : Cond.instanceMethod yX11_wilts ∈ am_TB := List.mem_filter.mpr ⟨List.mem_of_getElem? (i := 2185) (by decide +kernel), by decide +kernel⟩
theorem wd_2186 : Cond.selects RX11 yX11_wilts yX11_wilts ∈ am_TB := List.mem_filter.mpr ⟨List.mem_of_getElem? (i := 2186) (by decide +kernel), by decide +kernel⟩
theorem wd_1329 : Cond.instanceMethod yX10_wilts ∈ am_TB := List.mem_filter.mpr ⟨List.mem_of_getElem? (i := 1329) (by decide +kernel), by decide +kernel⟩
theorem wd_1330 : Cond.selects RX10 yX10_wilts yX10_wilts ∈ am_TB := List.mem_filter.mpr ⟨List.mem_of_getElem? (i := 1330) (by decide +kernel), by decide +kernel⟩
theorem wd_1324 : Cond.methodLink RL 166 yX10_easiest ∈ am_TB := List.mem_filter.mpr ⟨List.mem_of_getElem? (i := 1324) (by decide +kernel), by decide +kernel⟩
theorem wd_1327 : Cond.code yX10_easiest cX10_easiest 7 (some .int) ∈ am_TB := List.mem_filter.mpr ⟨List.mem_of_getElem? (i := 1327) (by decide +kernel), by decide +kernel⟩
theorem wd_2180 : Cond.methodLink RL 169 yX11_easiest ∈ am_TB := List.mem_filter.mpr ⟨List.mem_of_getElem? (i := 2180) (by decide +kernel), by decide +kernel⟩
theorem wd_2183 : Cond.code yX11_easiest cX11_easiest 4 (some .int) ∈ am_TB := List.mem_filter.mpr ⟨List.mem_of_getElem? (i := 2183) (by decide +kernel), by decide +kernel⟩
theorem wd_2181 : Cond.instanceMethod yX11_easiest ∈ am_TB := List.mem_filter.mpr ⟨List.mem_of_getElem? (i := 2181) (by decide +kernel), by decide +kernel⟩
theorem wd_2182 : Cond.selects RX11 yX11_easiest yX11_easiest ∈ am_TB := List.mem_filter.mpr ⟨List.mem_of_getElem? (i := 2182) (by decide +kernel), by decide +kernel⟩
theorem wd_1325 : Cond.instanceMethod yX10_easiest ∈ am_TB := List.mem_filter.mpr ⟨List.mem_of_getElem? (i := 1325) (by decide +kernel), by decide +kernel⟩
theorem wd_1326 : Cond.selects RX10 yX10_easiest yX10_easiest ∈ am_TB := List.mem_filter.mpr ⟨List.mem_of_getElem? (i := 1326) (by decide +kernel), by decide +kernel⟩
theorem wd_1316 : Cond.methodLink RL 162 yX10_over ∈ am_TB := List.mem_filter.mpr ⟨List.mem_of_getElem? (i := 1316) (by decide +kernel), by decide +kernel⟩
theorem wd_1319 : Cond.code yX10_over cX10_over 3 (some .int) ∈ am_TB := List.mem_filter.mpr ⟨List.mem_of_getElem? (i := 1319) (by decide +kernel), by decide +kernel⟩
theorem wd_2176 : Cond.methodLink RL 165 yX11_over ∈ am_TB := List.mem_filter.mpr ⟨List.mem_of_getElem? (i := 2176) (by decide +kernel), by decide +kernel⟩
theorem wd_2179 : Cond.code yX11_over cX11_over 2 (some .int) ∈ am_TB := List.mem_filter.mpr ⟨List.mem_of_getElem? (i := 2179) (by decide +kernel), by decide +kernel⟩
theorem wd_2177 : Cond.instanceMethod yX11_over ∈ am_TB := List.mem_filter.mpr ⟨List.mem_of_getElem? (i := 2177) (by decide +kernel), by decide +kernel⟩
theorem wd_2178 : Cond.selects RX11 yX11_over yX11_over ∈ am_TB := List.mem_filter.mpr ⟨List.mem_of_getElem? (i := 2178) (by decide +kernel), by decide +kernel⟩
theorem wd_1317 : Cond.instanceMethod yX10_over ∈ am_TB := List.mem_filter.mpr ⟨List.mem_of_getElem? (i := 1317) (by decide +kernel), by decide +kernel⟩
theorem wd_1318 : Cond.selects RX10 yX10_over yX10_over ∈ am_TB := List.mem_filter.mpr ⟨List.mem_of_getElem? (i := 1318) (by decide +kernel), by decide +kernel⟩
theorem wd_1311 : Cond.methodLink RL 158 yX10_nextAt ∈ am_TB := List.mem_filter.mpr ⟨List.mem_of_getElem? (i := 1311) (by decide +kernel), by decide +kernel⟩
theorem wd_1314 : Cond.code yX10_nextAt cX10_nextAt 3 (some .int) ∈ am_TB := List.mem_filter.mpr ⟨List.mem_of_getElem? (i := 1314) (by decide +kernel), by decide +kernel⟩
theorem wd_2172 : Cond.methodLink RL 161 yX11_nextAt ∈ am_TB := List.mem_filter.mpr ⟨List.mem_of_getElem? (i := 2172) (by decide +kernel), by decide +kernel⟩
theorem wd_2175 : Cond.code yX11_nextAt cX11_nextAt 2 (some .int) ∈ am_TB := List.mem_filter.mpr ⟨List.mem_of_getElem? (i := 2175) (by decide +kernel), by decide +kernel⟩
theorem wd_2173 : Cond.instanceMethod yX11_nextAt ∈ am_TB := List.mem_filter.mpr ⟨List.mem_of_getElem? (i := 2173) (by decide +kernel), by decide +kernel⟩
theorem wd_2174 : Cond.selects RX11 yX11_nextAt yX11_nextAt ∈ am_TB := List.mem_filter.mpr ⟨List.mem_of_getElem? (i := 2174) (by decide +kernel), by decide +kernel⟩
theorem wd_1312 : Cond.instanceMethod yX10_nextAt ∈ am_TB := List.mem_filter.mpr ⟨List.mem_of_getElem? (i := 1312) (by decide +kernel), by decide +kernel⟩
theorem wd_1313 : Cond.selects RX10 yX10_nextAt yX10_nextAt ∈ am_TB := List.mem_filter.mpr ⟨List.mem_of_getElem? (i := 1313) (by decide +kernel), by decide +kernel⟩
theorem wd_1287 : Cond.methodLink RL 154 yX10_next ∈ am_TB := List.mem_filter.mpr ⟨List.mem_of_getElem? (i := 1287) (by decide +kernel), by decide +kernel⟩
theorem wd_1290 : Cond.code yX10_next cX10_next 3 (some .int) ∈ am_TB := List.mem_filter.mpr ⟨List.mem_of_getElem? (i := 1290) (by decide +kernel), by decide +kernel⟩
theorem wd_2160 : Cond.methodLink RL 157 yX11_next ∈ am_TB := List.mem_filter.mpr ⟨List.mem_of_getElem? (i := 2160) (by decide +kernel), by decide +kernel⟩
theorem wd_2163 : Cond.code yX11_next cX11_next 2 (some .int) ∈ am_TB := List.mem_filter.mpr ⟨List.mem_of_getElem? (i := 2163) (by decide +kernel), by decide +kernel⟩
theorem wd_2161 : Cond.instanceMethod yX11_next ∈ am_TB := List.mem_filter.mpr ⟨List.mem_of_getElem? (i := 2161) (by decide +kernel), by decide +kernel⟩
theorem wd_2162 : Cond.selects RX11 yX11_next yX11_next ∈ am_TB := List.mem_filter.mpr ⟨List.mem_of_getElem? (i := 2162) (by decide +kernel), by decide +kernel⟩
theorem wd_1288 : Cond.instanceMethod yX10_next ∈ am_TB := List.mem_filter.mpr ⟨List.mem_of_getElem? (i := 1288) (by decide +kernel), by decide +kernel⟩
theorem wd_1289 : Cond.selects RX10 yX10_next yX10_next ∈ am_TB := List.mem_filter.mpr ⟨List.mem_of_getElem? (i := 1289) (by decide +kernel), by decide +kernel⟩
theorem wd_1276 : Cond.methodLink RL 150 yX10_runWater ∈ am_TB := List.mem_filter.mpr ⟨List.mem_of_getElem? (i := 1276) (by decide +kernel), by decide +kernel⟩
theorem wd_1279 : Cond.code yX10_runWater cX10_runWater 2 (some .int) ∈ am_TB := List.mem_filter.mpr ⟨List.mem_of_getElem? (i := 1279) (by decide +kernel), by decide +kernel⟩
theorem wd_2156 : Cond.methodLink RL 153 yX11_runWater ∈ am_TB := List.mem_filter.mpr ⟨List.mem_of_getElem? (i := 2156) (by decide +kernel), by decide +kernel⟩
theorem wd_2159 : Cond.code yX11_runWater cX11_runWater 2 (some .int) ∈ am_TB := List.mem_filter.mpr ⟨List.mem_of_getElem? (i := 2159) (by decide +kernel), by decide +kernel⟩
theorem wd_2157 : Cond.instanceMethod yX11_runWater ∈ am_TB := List.mem_filter.mpr ⟨List.mem_of_getElem? (i := 2157) (by decide +kernel), by decide +kernel⟩
theorem wd_2158 : Cond.selects RX11 yX11_runWater yX11_runWater ∈ am_TB := List.mem_filter.mpr ⟨List.mem_of_getElem? (i := 2158) (by decide +kernel), by decide +kernel⟩
theorem wd_1277 : Cond.instanceMethod yX10_runWater ∈ am_TB := List.mem_filter.mpr ⟨List.mem_of_getElem? (i := 1277) (by decide +kernel), by decide +kernel⟩
theorem wd_1278 : Cond.selects RX10 yX10_runWater yX10_runWater ∈ am_TB := List.mem_filter.mpr ⟨List.mem_of_getElem? (i := 1278) (by decide +kernel), by decide +kernel⟩
theorem wd_1270 : Cond.methodLink RL 146 yX10_runs ∈ am_TB := List.mem_filter.mpr ⟨List.mem_of_getElem? (i := 1270) (by decide +kernel), by decide +kernel⟩
theorem wd_1273 : Cond.code yX10_runs cX10_runs 1 (some .int) ∈ am_TB := List.mem_filter.mpr ⟨List.mem_of_getElem? (i := 1273) (by decide +kernel), by decide +kernel⟩
theorem wd_2144 : Cond.methodLink RL 149 yX11_runs ∈ am_TB := List.mem_filter.mpr ⟨List.mem_of_getElem? (i := 2144) (by decide +kernel), by decide +kernel⟩
theorem wd_2147 : Cond.code yX11_runs cX11_runs 2 (some .int) ∈ am_TB := List.mem_filter.mpr ⟨List.mem_of_getElem? (i := 2147) (by decide +kernel), by decide +kernel⟩
theorem wd_2145 : Cond.instanceMethod yX11_runs ∈ am_TB := List.mem_filter.mpr ⟨List.mem_of_getElem? (i := 2145) (by decide +kernel), by decide +kernel⟩
theorem wd_2146 : Cond.selects RX11 yX11_runs yX11_runs ∈ am_TB := List.mem_filter.mpr ⟨List.mem_of_getElem? (i := 2146) (by decide +kernel), by decide +kernel⟩
theorem wd_1271 : Cond.instanceMethod yX10_runs ∈ am_TB := List.mem_filter.mpr ⟨List.mem_of_getElem? (i := 1271) (by decide +kernel), by decide +kernel⟩
theorem wd_1272 : Cond.selects RX10 yX10_runs yX10_runs ∈ am_TB := List.mem_filter.mpr ⟨List.mem_of_getElem? (i := 1272) (by decide +kernel), by decide +kernel⟩
theorem wd_1266 : Cond.methodLink RL 142 yX10_moveAt ∈ am_TB := List.mem_filter.mpr ⟨List.mem_of_getElem? (i := 1266) (by decide +kernel), by decide +kernel⟩
theorem wd_1269 : Cond.code yX10_moveAt cX10_moveAt 3 (some .int) ∈ am_TB := List.mem_filter.mpr ⟨List.mem_of_getElem? (i := 1269) (by decide +kernel), by decide +kernel⟩
theorem wd_2140 : Cond.methodLink RL 145 yX11_moveAt ∈ am_TB := List.mem_filter.mpr ⟨List.mem_of_getElem? (i := 2140) (by decide +kernel), by decide +kernel⟩
theorem wd_2143 : Cond.code yX11_moveAt cX11_moveAt 3 (some .int) ∈ am_TB := List.mem_filter.mpr ⟨List.mem_of_getElem? (i := 2143) (by decide +kernel), by decide +kernel⟩
theorem wd_2141 : Cond.instanceMethod yX11_moveAt ∈ am_TB := List.mem_filter.mpr ⟨List.mem_of_getElem? (i := 2141) (by decide +kernel), by decide +kernel⟩
theorem wd_2142 : Cond.selects RX11 yX11_moveAt yX11_moveAt ∈ am_TB := List.mem_filter.mpr ⟨List.mem_of_getElem? (i := 2142) (by decide +kernel), by decide +kernel⟩
theorem wd_1267 : Cond.instanceMethod yX10_moveAt ∈ am_TB := List.mem_filter.mpr ⟨List.mem_of_getElem? (i := 1267) (by decide +kernel), by decide +kernel⟩
theorem wd_1268 : Cond.selects RX10 yX10_moveAt yX10_moveAt ∈ am_TB := List.mem_filter.mpr ⟨List.mem_of_getElem? (i := 1268) (by decide +kernel), by decide +kernel⟩
theorem wd_1257 : Cond.methodLink RL 138 yX10_moves ∈ am_TB := List.mem_filter.mpr ⟨List.mem_of_getElem? (i := 1257) (by decide +kernel), by decide +kernel⟩
theorem wd_1260 : Cond.code yX10_moves cX10_moves 1 (some .int) ∈ am_TB := List.mem_filter.mpr ⟨List.mem_of_getElem? (i := 1260) (by decide +kernel), by decide +kernel⟩
theorem wd_2132 : Cond.methodLink RL 141 yX11_moves ∈ am_TB := List.mem_filter.mpr ⟨List.mem_of_getElem? (i := 2132) (by decide +kernel), by decide +kernel⟩
theorem wd_2135 : Cond.code yX11_moves cX11_moves 1 (some .int) ∈ am_TB := List.mem_filter.mpr ⟨List.mem_of_getElem? (i := 2135) (by decide +kernel), by decide +kernel⟩
theorem wd_2133 : Cond.instanceMethod yX11_moves ∈ am_TB := List.mem_filter.mpr ⟨List.mem_of_getElem? (i := 2133) (by decide +kernel), by decide +kernel⟩
theorem wd_2134 : Cond.selects RX11 yX11_moves yX11_moves ∈ am_TB := List.mem_filter.mpr ⟨List.mem_of_getElem? (i := 2134) (by decide +kernel), by decide +kernel⟩
theorem wd_1258 : Cond.instanceMethod yX10_moves ∈ am_TB := List.mem_filter.mpr ⟨List.mem_of_getElem? (i := 1258) (by decide +kernel), by decide +kernel⟩
theorem wd_1259 : Cond.selects RX10 yX10_moves yX10_moves ∈ am_TB := List.mem_filter.mpr ⟨List.mem_of_getElem? (i := 1259) (by decide +kernel), by decide +kernel⟩
theorem wd_1253 : Cond.methodLink RL 134 yX10_canMove ∈ am_TB := List.mem_filter.mpr ⟨List.mem_of_getElem? (i := 1253) (by decide +kernel), by decide +kernel⟩
theorem wd_1256 : Cond.code yX10_canMove cX10_canMove 3 (some .int) ∈ am_TB := List.mem_filter.mpr ⟨List.mem_of_getElem? (i := 1256) (by decide +kernel), by decide +kernel⟩
theorem wd_2128 : Cond.methodLink RL 137 yX11_canMove ∈ am_TB := List.mem_filter.mpr ⟨List.mem_of_getElem? (i := 2128) (by decide +kernel), by decide +kernel⟩
theorem wd_2131 : Cond.code yX11_canMove cX11_canMove 3 (some .int) ∈ am_TB := List.mem_filter.mpr ⟨List.mem_of_getElem? (i := 2131) (by decide +kernel), by decide +kernel⟩
theorem wd_2129 : Cond.instanceMethod yX11_canMove ∈ am_TB := List.mem_filter.mpr ⟨List.mem_of_getElem? (i := 2129) (by decide +kernel), by decide +kernel⟩
theorem wd_2130 : Cond.selects RX11 yX11_canMove yX11_canMove ∈ am_TB := List.mem_filter.mpr ⟨List.mem_of_getElem? (i := 2130) (by decide +kernel), by decide +kernel⟩
theorem wd_1254 : Cond.instanceMethod yX10_canMove ∈ am_TB := List.mem_filter.mpr ⟨List.mem_of_getElem? (i := 1254) (by decide +kernel), by decide +kernel⟩
theorem wd_1255 : Cond.selects RX10 yX10_canMove yX10_canMove ∈ am_TB := List.mem_filter.mpr ⟨List.mem_of_getElem? (i := 1255) (by decide +kernel), by decide +kernel⟩
theorem wd_1231 : Cond.methodLink RL 130 yX10_shuffle ∈ am_TB := List.mem_filter.mpr ⟨List.mem_of_getElem? (i := 1231) (by decide +kernel), by decide +kernel⟩
theorem wd_1234 : Cond.code yX10_shuffle cX10_shuffle 2 (some .int) ∈ am_TB := List.mem_filter.mpr ⟨List.mem_of_getElem? (i := 1234) (by decide +kernel), by decide +kernel⟩
theorem wd_2113 : Cond.methodLink RL 133 yX11_shuffle ∈ am_TB := List.mem_filter.mpr ⟨List.mem_of_getElem? (i := 2113) (by decide +kernel), by decide +kernel⟩
theorem wd_2116 : Cond.code yX11_shuffle cX11_shuffle 2 (some .int) ∈ am_TB := List.mem_filter.mpr ⟨List.mem_of_getElem? (i := 2116) (by decide +kernel), by decide +kernel⟩
theorem wd_2114 : Cond.instanceMethod yX11_shuffle ∈ am_TB := List.mem_filter.mpr ⟨List.mem_of_getElem? (i := 2114) (by decide +kernel), by decide +kernel⟩
theorem wd_2115 : Cond.selects RX11 yX11_shuffle yX11_shuffle ∈ am_TB := List.mem_filter.mpr ⟨List.mem_of_getElem? (i := 2115) (by decide +kernel), by decide +kernel⟩
theorem wd_1232 : Cond.instanceMethod yX10_shuffle ∈ am_TB := List.mem_filter.mpr ⟨List.mem_of_getElem? (i := 1232) (by decide +kernel), by decide +kernel⟩
theorem wd_1233 : Cond.selects RX10 yX10_shuffle yX10_shuffle ∈ am_TB := List.mem_filter.mpr ⟨List.mem_of_getElem? (i := 1233) (by decide +kernel), by decide +kernel⟩
theorem wd_1227 : Cond.methodLink RL 125 yX10_sow ∈ am_TB := List.mem_filter.mpr ⟨List.mem_of_getElem? (i := 1227) (by decide +kernel), by decide +kernel⟩
theorem wd_1230 : Cond.code yX10_sow cX10_sow 3 (some .boolean) ∈ am_TB := List.mem_filter.mpr ⟨List.mem_of_getElem? (i := 1230) (by decide +kernel), by decide +kernel⟩
theorem wd_2109 : Cond.methodLink RL 129 yX11_sow ∈ am_TB := List.mem_filter.mpr ⟨List.mem_of_getElem? (i := 2109) (by decide +kernel), by decide +kernel⟩
theorem wd_2112 : Cond.code yX11_sow cX11_sow 3 (some .boolean) ∈ am_TB := List.mem_filter.mpr ⟨List.mem_of_getElem? (i := 2112) (by decide +kernel), by decide +kernel⟩
theorem wd_2110 : Cond.instanceMethod yX11_sow ∈ am_TB := List.mem_filter.mpr ⟨List.mem_of_getElem? (i := 2110) (by decide +kernel), by decide +kernel⟩
theorem wd_2111 : Cond.selects RX11 yX11_sow yX11_sow ∈ am_TB := List.mem_filter.mpr ⟨List.mem_of_getElem? (i := 2111) (by decide +kernel), by decide +kernel⟩
theorem wd_1228 : Cond.instanceMethod yX10_sow ∈ am_TB := List.mem_filter.mpr ⟨List.mem_of_getElem? (i := 1228) (by decide +kernel), by decide +kernel⟩
theorem wd_1229 : Cond.selects RX10 yX10_sow yX10_sow ∈ am_TB := List.mem_filter.mpr ⟨List.mem_of_getElem? (i := 1229) (by decide +kernel), by decide +kernel⟩
theorem wd_1223 : Cond.methodLink RL 120 yX10_rule ∈ am_TB := List.mem_filter.mpr ⟨List.mem_of_getElem? (i := 1223) (by decide +kernel), by decide +kernel⟩
theorem wd_1226 : Cond.code yX10_rule cX10_rule 2 (some .boolean) ∈ am_TB := List.mem_filter.mpr ⟨List.mem_of_getElem? (i := 1226) (by decide +kernel), by decide +kernel⟩
theorem wd_2104 : Cond.methodLink RL 124 yX11_rule ∈ am_TB := List.mem_filter.mpr ⟨List.mem_of_getElem? (i := 2104) (by decide +kernel), by decide +kernel⟩
theorem wd_2107 : Cond.code yX11_rule cX11_rule 2 (some .boolean) ∈ am_TB := List.mem_filter.mpr ⟨List.mem_of_getElem? (i := 2107) (by decide +kernel), by decide +kernel⟩
theorem wd_2105 : Cond.instanceMethod yX11_rule ∈ am_TB := List.mem_filter.mpr ⟨List.mem_of_getElem? (i := 2105) (by decide +kernel), by decide +kernel⟩
theorem wd_2106 : Cond.selects RX11 yX11_rule yX11_rule ∈ am_TB := List.mem_filter.mpr ⟨List.mem_of_getElem? (i := 2106) (by decide +kernel), by decide +kernel⟩
theorem wd_1224 : Cond.instanceMethod yX10_rule ∈ am_TB := List.mem_filter.mpr ⟨List.mem_of_getElem? (i := 1224) (by decide +kernel), by decide +kernel⟩
theorem wd_1225 : Cond.selects RX10 yX10_rule yX10_rule ∈ am_TB := List.mem_filter.mpr ⟨List.mem_of_getElem? (i := 1225) (by decide +kernel), by decide +kernel⟩
theorem wd_1218 : Cond.methodLink RL 116 yX10_rain ∈ am_TB := List.mem_filter.mpr ⟨List.mem_of_getElem? (i := 1218) (by decide +kernel), by decide +kernel⟩
theorem wd_1221 : Cond.code yX10_rain cX10_rain 3 (some .int) ∈ am_TB := List.mem_filter.mpr ⟨List.mem_of_getElem? (i := 1221) (by decide +kernel), by decide +kernel⟩
theorem wd_2100 : Cond.methodLink RL 119 yX11_rain ∈ am_TB := List.mem_filter.mpr ⟨List.mem_of_getElem? (i := 2100) (by decide +kernel), by decide +kernel⟩
theorem wd_2103 : Cond.code yX11_rain cX11_rain 3 (some .int) ∈ am_TB := List.mem_filter.mpr ⟨List.mem_of_getElem? (i := 2103) (by decide +kernel), by decide +kernel⟩
theorem wd_2101 : Cond.instanceMethod yX11_rain ∈ am_TB := List.mem_filter.mpr ⟨List.mem_of_getElem? (i := 2101) (by decide +kernel), by decide +kernel⟩
theorem wd_2102 : Cond.selects RX11 yX11_rain yX11_rain ∈ am_TB := List.mem_filter.mpr ⟨List.mem_of_getElem? (i := 2102) (by decide +kernel), by decide +kernel⟩
theorem wd_1219 : Cond.instanceMethod yX10_rain ∈ am_TB := List.mem_filter.mpr ⟨List.mem_of_getElem? (i := 1219) (by decide +kernel), by decide +kernel⟩
theorem wd_1220 : Cond.selects RX10 yX10_rain yX10_rain ∈ am_TB := List.mem_filter.mpr ⟨List.mem_of_getElem? (i := 1220) (by decide +kernel), by decide +kernel⟩
theorem wd_1206 : Cond.methodLink RL 112 yX10_day ∈ am_TB := List.mem_filter.mpr ⟨List.mem_of_getElem? (i := 1206) (by decide +kernel), by decide +kernel⟩
theorem wd_1209 : Cond.code yX10_day cX10_day 2 (some .int) ∈ am_TB := List.mem_filter.mpr ⟨List.mem_of_getElem? (i := 1209) (by decide +kernel), by decide +kernel⟩
theorem wd_2091 : Cond.methodLink RL 115 yX11_day ∈ am_TB := List.mem_filter.mpr ⟨List.mem_of_getElem? (i := 2091) (by decide +kernel), by decide +kernel⟩
theorem wd_2094 : Cond.code yX11_day cX11_day 3 (some .int) ∈ am_TB := List.mem_filter.mpr ⟨List.mem_of_getElem? (i := 2094) (by decide +kernel), by decide +kernel⟩
theorem wd_2092 : Cond.instanceMethod yX11_day ∈ am_TB := List.mem_filter.mpr ⟨List.mem_of_getElem? (i := 2092) (by decide +kernel), by decide +kernel⟩
theorem wd_2093 : Cond.selects RX11 yX11_day yX11_day ∈ am_TB := List.mem_filter.mpr ⟨List.mem_of_getElem? (i := 2093) (by decide +kernel), by decide +kernel⟩
theorem wd_1207 : Cond.instanceMethod yX10_day ∈ am_TB := List.mem_filter.mpr ⟨List.mem_of_getElem? (i := 1207) (by decide +kernel), by decide +kernel⟩
theorem wd_1208 : Cond.selects RX10 yX10_day yX10_day ∈ am_TB := List.mem_filter.mpr ⟨List.mem_of_getElem? (i := 1208) (by decide +kernel), by decide +kernel⟩
theorem wd_1182 : Cond.methodLink RL 108 yX10_run ∈ am_TB := List.mem_filter.mpr ⟨List.mem_of_getElem? (i := 1182) (by decide +kernel), by decide +kernel⟩
theorem wd_1185 : Cond.code yX10_run cX10_run 1 (some .int) ∈ am_TB := List.mem_filter.mpr ⟨List.mem_of_getElem? (i := 1185) (by decide +kernel), by decide +kernel⟩
theorem wd_2083 : Cond.methodLink RL 111 yX11_run ∈ am_TB := List.mem_filter.mpr ⟨List.mem_of_getElem? (i := 2083) (by decide +kernel), by decide +kernel⟩
theorem wd_2086 : Cond.code yX11_run cX11_run 1 (some .int) ∈ am_TB := List.mem_filter.mpr ⟨List.mem_of_getElem? (i := 2086) (by decide +kernel), by decide +kernel⟩
theorem wd_2084 : Cond.instanceMethod yX11_run ∈ am_TB := List.mem_filter.mpr ⟨List.mem_of_getElem? (i := 2084) (by decide +kernel), by decide +kernel⟩
theorem wd_2085 : Cond.selects RX11 yX11_run yX11_run ∈ am_TB := List.mem_filter.mpr ⟨List.mem_of_getElem? (i := 2085) (by decide +kernel), by decide +kernel⟩
theorem wd_1183 : Cond.instanceMethod yX10_run ∈ am_TB := List.mem_filter.mpr ⟨List.mem_of_getElem? (i := 1183) (by decide +kernel), by decide +kernel⟩
theorem wd_1184 : Cond.selects RX10 yX10_run yX10_run ∈ am_TB := List.mem_filter.mpr ⟨List.mem_of_getElem? (i := 1184) (by decide +kernel), by decide +kernel⟩
theorem wd_1167 : Cond.methodLink RL 104 yX10_deal ∈ am_TB := List.mem_filter.mpr ⟨List.mem_of_getElem? (i := 1167) (by decide +kernel), by decide +kernel⟩
theorem wd_1170 : Cond.code yX10_deal cX10_deal 1 (some .int) ∈ am_TB := List.mem_filter.mpr ⟨List.mem_of_getElem? (i := 1170) (by decide +kernel), by decide +kernel⟩
theorem wd_2075 : Cond.methodLink RL 107 yX11_deal ∈ am_TB := List.mem_filter.mpr ⟨List.mem_of_getElem? (i := 2075) (by decide +kernel), by decide +kernel⟩
theorem wd_2078 : Cond.code yX11_deal cX11_deal 1 (some .int) ∈ am_TB := List.mem_filter.mpr ⟨List.mem_of_getElem? (i := 2078) (by decide +kernel), by decide +kernel⟩
theorem wd_2076 : Cond.instanceMethod yX11_deal ∈ am_TB := List.mem_filter.mpr ⟨List.mem_of_getElem? (i := 2076) (by decide +kernel), by decide +kernel⟩
theorem wd_2077 : Cond.selects RX11 yX11_deal yX11_deal ∈ am_TB := List.mem_filter.mpr ⟨List.mem_of_getElem? (i := 2077) (by decide +kernel), by decide +kernel⟩
theorem wd_1168 : Cond.instanceMethod yX10_deal ∈ am_TB := List.mem_filter.mpr ⟨List.mem_of_getElem? (i := 1168) (by decide +kernel), by decide +kernel⟩
theorem wd_1169 : Cond.selects RX10 yX10_deal yX10_deal ∈ am_TB := List.mem_filter.mpr ⟨List.mem_of_getElem? (i := 1169) (by decide +kernel), by decide +kernel⟩
theorem wd_1104 : Cond.methodLink RL 100 yX10_move ∈ am_TB := List.mem_filter.mpr ⟨List.mem_of_getElem? (i := 1104) (by decide +kernel), by decide +kernel⟩
theorem wd_1107 : Cond.code yX10_move cX10_move 3 (some .int) ∈ am_TB := List.mem_filter.mpr ⟨List.mem_of_getElem? (i := 1107) (by decide +kernel), by decide +kernel⟩
theorem wd_2041 : Cond.methodLink RL 103 yX11_move ∈ am_TB := List.mem_filter.mpr ⟨List.mem_of_getElem? (i := 2041) (by decide +kernel), by decide +kernel⟩
theorem wd_2044 : Cond.code yX11_move cX11_move 3 (some .int) ∈ am_TB := List.mem_filter.mpr ⟨List.mem_of_getElem? (i := 2044) (by decide +kernel), by decide +kernel⟩
theorem wd_2042 : Cond.instanceMethod yX11_move ∈ am_TB := List.mem_filter.mpr ⟨List.mem_of_getElem? (i := 2042) (by decide +kernel), by decide +kernel⟩
theorem wd_2043 : Cond.selects RX11 yX11_move yX11_move ∈ am_TB := List.mem_filter.mpr ⟨List.mem_of_getElem? (i := 2043) (by decide +kernel), by decide +kernel⟩
theorem wd_1105 : Cond.instanceMethod yX10_move ∈ am_TB := List.mem_filter.mpr ⟨List.mem_of_getElem? (i := 1105) (by decide +kernel), by decide +kernel⟩
theorem wd_1106 : Cond.selects RX10 yX10_move yX10_move ∈ am_TB := List.mem_filter.mpr ⟨List.mem_of_getElem? (i := 1106) (by decide +kernel), by decide +kernel⟩
theorem wd_1100 : Cond.methodLink RL 96 yX10_copyRow ∈ am_TB := List.mem_filter.mpr ⟨List.mem_of_getElem? (i := 1100) (by decide +kernel), by decide +kernel⟩
theorem wd_1103 : Cond.code yX10_copyRow cX10_copyRow 6 (some .int) ∈ am_TB := List.mem_filter.mpr ⟨List.mem_of_getElem? (i := 1103) (by decide +kernel), by decide +kernel⟩
theorem wd_2032 : Cond.methodLink RL 99 yX11_copyRow ∈ am_TB := List.mem_filter.mpr ⟨List.mem_of_getElem? (i := 2032) (by decide +kernel), by decide +kernel⟩
theorem wd_2035 : Cond.code yX11_copyRow cX11_copyRow 4 (some .int) ∈ am_TB := List.mem_filter.mpr ⟨List.mem_of_getElem? (i := 2035) (by decide +kernel), by decide +kernel⟩
theorem wd_2033 : Cond.instanceMethod yX11_copyRow ∈ am_TB := List.mem_filter.mpr ⟨List.mem_of_getElem? (i := 2033) (by decide +kernel), by decide +kernel⟩
theorem wd_2034 : Cond.selects RX11 yX11_copyRow yX11_copyRow ∈ am_TB := List.mem_filter.mpr ⟨List.mem_of_getElem? (i := 2034) (by decide +kernel), by decide +kernel⟩
theorem wd_1101 : Cond.instanceMethod yX10_copyRow ∈ am_TB := List.mem_filter.mpr ⟨List.mem_of_getElem? (i := 1101) (by decide +kernel), by decide +kernel⟩
theorem wd_1102 : Cond.selects RX10 yX10_copyRow yX10_copyRow ∈ am_TB := List.mem_filter.mpr ⟨List.mem_of_getElem? (i := 1102) (by decide +kernel), by decide +kernel⟩
theorem wd_1092 : Cond.methodLink RL 92 yX10_field ∈ am_TB := List.mem_filter.mpr ⟨List.mem_of_getElem? (i := 1092) (by decide +kernel), by decide +kernel⟩
theorem wd_1095 : Cond.code yX10_field cX10_field 3 (some .int) ∈ am_TB := List.mem_filter.mpr ⟨List.mem_of_getElem? (i := 1095) (by decide +kernel), by decide +kernel⟩
theorem wd_2023 : Cond.methodLink RL 95 yX11_field ∈ am_TB := List.mem_filter.mpr ⟨List.mem_of_getElem? (i := 2023) (by decide +kernel), by decide +kernel⟩
theorem wd_2026 : Cond.code yX11_field cX11_field 3 (some .int) ∈ am_TB := List.mem_filter.mpr ⟨List.mem_of_getElem? (i := 2026) (by decide +kernel), by decide +kernel⟩
theorem wd_2024 : Cond.instanceMethod yX11_field ∈ am_TB := List.mem_filter.mpr ⟨List.mem_of_getElem? (i := 2024) (by decide +kernel), by decide +kernel⟩
theorem wd_2025 : Cond.selects RX11 yX11_field yX11_field ∈ am_TB := List.mem_filter.mpr ⟨List.mem_of_getElem? (i := 2025) (by decide +kernel), by decide +kernel⟩
theorem wd_1093 : Cond.instanceMethod yX10_field ∈ am_TB := List.mem_filter.mpr ⟨List.mem_of_getElem? (i := 1093) (by decide +kernel), by decide +kernel⟩
theorem wd_1094 : Cond.selects RX10 yX10_field yX10_field ∈ am_TB := List.mem_filter.mpr ⟨List.mem_of_getElem? (i := 1094) (by decide +kernel), by decide +kernel⟩
theorem wd_1084 : Cond.methodLink RL 88 yX10_homeOf ∈ am_TB := List.mem_filter.mpr ⟨List.mem_of_getElem? (i := 1084) (by decide +kernel), by decide +kernel⟩
theorem wd_1087 : Cond.code yX10_homeOf cX10_homeOf 2 (some .int) ∈ am_TB := List.mem_filter.mpr ⟨List.mem_of_getElem? (i := 1087) (by decide +kernel), by decide +kernel⟩
theorem wd_2015 : Cond.methodLink RL 91 yX11_homeOf ∈ am_TB := List.mem_filter.mpr ⟨List.mem_of_getElem? (i := 2015) (by decide +kernel), by decide +kernel⟩
theorem wd_2018 : Cond.code yX11_homeOf cX11_homeOf 2 (some .int) ∈ am_TB := List.mem_filter.mpr ⟨List.mem_of_getElem? (i := 2018) (by decide +kernel), by decide +kernel⟩
theorem wd_2016 : Cond.instanceMethod yX11_homeOf ∈ am_TB := List.mem_filter.mpr ⟨List.mem_of_getElem? (i := 2016) (by decide +kernel), by decide +kernel⟩
theorem wd_2017 : Cond.selects RX11 yX11_homeOf yX11_homeOf ∈ am_TB := List.mem_filter.mpr ⟨List.mem_of_getElem? (i := 2017) (by decide +kernel), by decide +kernel⟩
theorem wd_1085 : Cond.instanceMethod yX10_homeOf ∈ am_TB := List.mem_filter.mpr ⟨List.mem_of_getElem? (i := 1085) (by decide +kernel), by decide +kernel⟩
theorem wd_1086 : Cond.selects RX10 yX10_homeOf yX10_homeOf ∈ am_TB := List.mem_filter.mpr ⟨List.mem_of_getElem? (i := 1086) (by decide +kernel), by decide +kernel⟩
theorem wd_1075 : Cond.methodLink RL 84 yX10_stockAt ∈ am_TB := List.mem_filter.mpr ⟨List.mem_of_getElem? (i := 1075) (by decide +kernel), by decide +kernel⟩
theorem wd_1078 : Cond.code yX10_stockAt cX10_stockAt 2 (some .int) ∈ am_TB := List.mem_filter.mpr ⟨List.mem_of_getElem? (i := 1078) (by decide +kernel), by decide +kernel⟩
theorem wd_2011 : Cond.methodLink RL 87 yX11_stockAt ∈ am_TB := List.mem_filter.mpr ⟨List.mem_of_getElem? (i := 2011) (by decide +kernel), by decide +kernel⟩
theorem wd_2014 : Cond.code yX11_stockAt cX11_stockAt 2 (some .int) ∈ am_TB := List.mem_filter.mpr ⟨List.mem_of_getElem? (i := 2014) (by decide +kernel), by decide +kernel⟩
theorem wd_2012 : Cond.instanceMethod yX11_stockAt ∈ am_TB := List.mem_filter.mpr ⟨List.mem_of_getElem? (i := 2012) (by decide +kernel), by decide +kernel⟩
theorem wd_2013 : Cond.selects RX11 yX11_stockAt yX11_stockAt ∈ am_TB := List.mem_filter.mpr ⟨List.mem_of_getElem? (i := 2013) (by decide +kernel), by decide +kernel⟩
theorem wd_1076 : Cond.instanceMethod yX10_stockAt ∈ am_TB := List.mem_filter.mpr ⟨List.mem_of_getElem? (i := 1076) (by decide +kernel), by decide +kernel⟩
theorem wd_1077 : Cond.selects RX10 yX10_stockAt yX10_stockAt ∈ am_TB := List.mem_filter.mpr ⟨List.mem_of_getElem? (i := 1077) (by decide +kernel), by decide +kernel⟩
theorem wd_1067 : Cond.methodLink RL 80 yX10_topOf ∈ am_TB := List.mem_filter.mpr ⟨List.mem_of_getElem? (i := 1067) (by decide +kernel), by decide +kernel⟩
theorem wd_1070 : Cond.code yX10_topOf cX10_topOf 2 (some .int) ∈ am_TB := List.mem_filter.mpr ⟨List.mem_of_getElem? (i := 1070) (by decide +kernel), by decide +kernel⟩
theorem wd_1999 : Cond.methodLink RL 83 yX11_topOf ∈ am_TB := List.mem_filter.mpr ⟨List.mem_of_getElem? (i := 1999) (by decide +kernel), by decide +kernel⟩
theorem wd_2002 : Cond.code yX11_topOf cX11_topOf 3 (some .int) ∈ am_TB := List.mem_filter.mpr ⟨List.mem_of_getElem? (i := 2002) (by decide +kernel), by decide +kernel⟩
theorem wd_2000 : Cond.instanceMethod yX11_topOf ∈ am_TB := List.mem_filter.mpr ⟨List.mem_of_getElem? (i := 2000) (by decide +kernel), by decide +kernel⟩
theorem wd_2001 : Cond.selects RX11 yX11_topOf yX11_topOf ∈ am_TB := List.mem_filter.mpr ⟨List.mem_of_getElem? (i := 2001) (by decide +kernel), by decide +kernel⟩
theorem wd_1068 : Cond.instanceMethod yX10_topOf ∈ am_TB := List.mem_filter.mpr ⟨List.mem_of_getElem? (i := 1068) (by decide +kernel), by decide +kernel⟩
theorem wd_1069 : Cond.selects RX10 yX10_topOf yX10_topOf ∈ am_TB := List.mem_filter.mpr ⟨List.mem_of_getElem? (i := 1069) (by decide +kernel), by decide +kernel⟩
theorem wd_1063 : Cond.methodLink RL 76 yX10_length ∈ am_TB := List.mem_filter.mpr ⟨List.mem_of_getElem? (i := 1063) (by decide +kernel), by decide +kernel⟩
theorem wd_1066 : Cond.code yX10_length cX10_length 2 (some .int) ∈ am_TB := List.mem_filter.mpr ⟨List.mem_of_getElem? (i := 1066) (by decide +kernel), by decide +kernel⟩
theorem wd_1995 : Cond.methodLink RL 79 yX11_length ∈ am_TB := List.mem_filter.mpr ⟨List.mem_of_getElem? (i := 1995) (by decide +kernel), by decide +kernel⟩
theorem wd_1998 : Cond.code yX11_length cX11_length 2 (some .int) ∈ am_TB := List.mem_filter.mpr ⟨List.mem_of_getElem? (i := 1998) (by decide +kernel), by decide +kernel⟩
theorem wd_1996 : Cond.instanceMethod yX11_length ∈ am_TB := List.mem_filter.mpr ⟨List.mem_of_getElem? (i := 1996) (by decide +kernel), by decide +kernel⟩
theorem wd_1997 : Cond.selects RX11 yX11_length yX11_length ∈ am_TB := List.mem_filter.mpr ⟨List.mem_of_getElem? (i := 1997) (by decide +kernel), by decide +kernel⟩
theorem wd_1064 : Cond.instanceMethod yX10_length ∈ am_TB := List.mem_filter.mpr ⟨List.mem_of_getElem? (i := 1064) (by decide +kernel), by decide +kernel⟩
theorem wd_1065 : Cond.selects RX10 yX10_length yX10_length ∈ am_TB := List.mem_filter.mpr ⟨List.mem_of_getElem? (i := 1065) (by decide +kernel), by decide +kernel⟩
theorem wd_1047 : Cond.methodLink RL 71 yX10_card ∈ am_TB := List.mem_filter.mpr ⟨List.mem_of_getElem? (i := 1047) (by decide +kernel), by decide +kernel⟩
theorem wd_1050 : Cond.code yX10_card cX10_card 3 (some .int) ∈ am_TB := List.mem_filter.mpr ⟨List.mem_of_getElem? (i := 1050) (by decide +kernel), by decide +kernel⟩
theorem wd_1983 : Cond.methodLink RL 75 yX11_card ∈ am_TB := List.mem_filter.mpr ⟨List.mem_of_getElem? (i := 1983) (by decide +kernel), by decide +kernel⟩
theorem wd_1986 : Cond.code yX11_card cX11_card 3 (some .int) ∈ am_TB := List.mem_filter.mpr ⟨List.mem_of_getElem? (i := 1986) (by decide +kernel), by decide +kernel⟩
theorem wd_1984 : Cond.instanceMethod yX11_card ∈ am_TB := List.mem_filter.mpr ⟨List.mem_of_getElem? (i := 1984) (by decide +kernel), by decide +kernel⟩
theorem wd_1985 : Cond.selects RX11 yX11_card yX11_card ∈ am_TB := List.mem_filter.mpr ⟨List.mem_of_getElem? (i := 1985) (by decide +kernel), by decide +kernel⟩
theorem wd_1048 : Cond.instanceMethod yX10_card ∈ am_TB := List.mem_filter.mpr ⟨List.mem_of_getElem? (i := 1048) (by decide +kernel), by decide +kernel⟩
theorem wd_1049 : Cond.selects RX10 yX10_card yX10_card ∈ am_TB := List.mem_filter.mpr ⟨List.mem_of_getElem? (i := 1049) (by decide +kernel), by decide +kernel⟩
theorem wd_1027 : Cond.methodLink RL 67 yX10_many ∈ am_TB := List.mem_filter.mpr ⟨List.mem_of_getElem? (i := 1027) (by decide +kernel), by decide +kernel⟩
theorem wd_1030 : Cond.code yX10_many cX10_many 3 (some .int) ∈ am_TB := List.mem_filter.mpr ⟨List.mem_of_getElem? (i := 1030) (by decide +kernel), by decide +kernel⟩
theorem wd_1966 : Cond.methodLink RL 70 yX11_many ∈ am_TB := List.mem_filter.mpr ⟨List.mem_of_getElem? (i := 1966) (by decide +kernel), by decide +kernel⟩
theorem wd_1969 : Cond.code yX11_many cX11_many 2 (some .int) ∈ am_TB := List.mem_filter.mpr ⟨List.mem_of_getElem? (i := 1969) (by decide +kernel), by decide +kernel⟩
theorem wd_1967 : Cond.instanceMethod yX11_many ∈ am_TB := List.mem_filter.mpr ⟨List.mem_of_getElem? (i := 1967) (by decide +kernel), by decide +kernel⟩
theorem wd_1968 : Cond.selects RX11 yX11_many yX11_many ∈ am_TB := List.mem_filter.mpr ⟨List.mem_of_getElem? (i := 1968) (by decide +kernel), by decide +kernel⟩
theorem wd_1028 : Cond.instanceMethod yX10_many ∈ am_TB := List.mem_filter.mpr ⟨List.mem_of_getElem? (i := 1028) (by decide +kernel), by decide +kernel⟩
theorem wd_1029 : Cond.selects RX10 yX10_many yX10_many ∈ am_TB := List.mem_filter.mpr ⟨List.mem_of_getElem? (i := 1029) (by decide +kernel), by decide +kernel⟩
theorem wd_1023 : Cond.methodLink RL 63 yX10_fault ∈ am_TB := List.mem_filter.mpr ⟨List.mem_of_getElem? (i := 1023) (by decide +kernel), by decide +kernel⟩
theorem wd_1026 : Cond.code yX10_fault cX10_fault 2 (some .int) ∈ am_TB := List.mem_filter.mpr ⟨List.mem_of_getElem? (i := 1026) (by decide +kernel), by decide +kernel⟩
theorem wd_1759 : Cond.methodLink RL 66 yX11_fault ∈ am_TB := List.mem_filter.mpr ⟨List.mem_of_getElem? (i := 1759) (by decide +kernel), by decide +kernel⟩
theorem wd_1762 : Cond.code yX11_fault cX11_fault 2 (some .int) ∈ am_TB := List.mem_filter.mpr ⟨List.mem_of_getElem? (i := 1762) (by decide +kernel), by decide +kernel⟩
theorem wd_1760 : Cond.instanceMethod yX11_fault ∈ am_TB := List.mem_filter.mpr ⟨List.mem_of_getElem? (i := 1760) (by decide +kernel), by decide +kernel⟩
theorem wd_1761 : Cond.selects RX11 yX11_fault yX11_fault ∈ am_TB := List.mem_filter.mpr ⟨List.mem_of_getElem? (i := 1761) (by decide +kernel), by decide +kernel⟩
theorem wd_1024 : Cond.instanceMethod yX10_fault ∈ am_TB := List.mem_filter.mpr ⟨List.mem_of_getElem? (i := 1024) (by decide +kernel), by decide +kernel⟩
theorem wd_1025 : Cond.selects RX10 yX10_fault yX10_fault ∈ am_TB := List.mem_filter.mpr ⟨List.mem_of_getElem? (i := 1025) (by decide +kernel), by decide +kernel⟩
theorem wd_972 : Cond.methodLink RL 59 yX10_seasons ∈ am_TB := List.mem_filter.mpr ⟨List.mem_of_getElem? (i := 972) (by decide +kernel), by decide +kernel⟩
theorem wd_975 : Cond.code yX10_seasons cX10_seasons 2 (some .int) ∈ am_TB := List.mem_filter.mpr ⟨List.mem_of_getElem? (i := 975) (by decide +kernel), by decide +kernel⟩
theorem wd_1950 : Cond.methodLink RL 62 yX11_seasons ∈ am_TB := List.mem_filter.mpr ⟨List.mem_of_getElem? (i := 1950) (by decide +kernel), by decide +kernel⟩
theorem wd_1953 : Cond.code yX11_seasons cX11_seasons 3 (some .int) ∈ am_TB := List.mem_filter.mpr ⟨List.mem_of_getElem? (i := 1953) (by decide +kernel), by decide +kernel⟩
theorem wd_1951 : Cond.instanceMethod yX11_seasons ∈ am_TB := List.mem_filter.mpr ⟨List.mem_of_getElem? (i := 1951) (by decide +kernel), by decide +kernel⟩
theorem wd_1952 : Cond.selects RX11 yX11_seasons yX11_seasons ∈ am_TB := List.mem_filter.mpr ⟨List.mem_of_getElem? (i := 1952) (by decide +kernel), by decide +kernel⟩
theorem wd_973 : Cond.instanceMethod yX10_seasons ∈ am_TB := List.mem_filter.mpr ⟨List.mem_of_getElem? (i := 973) (by decide +kernel), by decide +kernel⟩
theorem wd_974 : Cond.selects RX10 yX10_seasons yX10_seasons ∈ am_TB := List.mem_filter.mpr ⟨List.mem_of_getElem? (i := 974) (by decide +kernel), by decide +kernel⟩
theorem wd_788 : Cond.methodLink RL 54 yX10_valley ∈ am_TB := List.mem_filter.mpr ⟨List.mem_of_getElem? (i := 788) (by decide +kernel), by decide +kernel⟩
theorem wd_791 : Cond.code yX10_valley cX10_valley 2 (some .int) ∈ am_TB := List.mem_filter.mpr ⟨List.mem_of_getElem? (i := 791) (by decide +kernel), by decide +kernel⟩
theorem wd_1763 : Cond.methodLink RL 58 yX11_valley ∈ am_TB := List.mem_filter.mpr ⟨List.mem_of_getElem? (i := 1763) (by decide +kernel), by decide +kernel⟩
theorem wd_1766 : Cond.code yX11_valley cX11_valley 3 (some .int) ∈ am_TB := List.mem_filter.mpr ⟨List.mem_of_getElem? (i := 1766) (by decide +kernel), by decide +kernel⟩
theorem wd_1764 : Cond.instanceMethod yX11_valley ∈ am_TB := List.mem_filter.mpr ⟨List.mem_of_getElem? (i := 1764) (by decide +kernel), by decide +kernel⟩
theorem wd_1765 : Cond.selects RX11 yX11_valley yX11_valley ∈ am_TB := List.mem_filter.mpr ⟨List.mem_of_getElem? (i := 1765) (by decide +kernel), by decide +kernel⟩
theorem wd_789 : Cond.instanceMethod yX10_valley ∈ am_TB := List.mem_filter.mpr ⟨List.mem_of_getElem? (i := 789) (by decide +kernel), by decide +kernel⟩
theorem wd_790 : Cond.selects RX10 yX10_valley yX10_valley ∈ am_TB := List.mem_filter.mpr ⟨List.mem_of_getElem? (i := 790) (by decide +kernel), by decide +kernel⟩
theorem wd_780 : Cond.methodLink RL 49 yX10_feed ∈ am_TB := List.mem_filter.mpr ⟨List.mem_of_getElem? (i := 780) (by decide +kernel), by decide +kernel⟩
theorem wd_783 : Cond.code yX10_feed cX10_feed 6 (some .int) ∈ am_TB := List.mem_filter.mpr ⟨List.mem_of_getElem? (i := 783) (by decide +kernel), by decide +kernel⟩
theorem wd_1751 : Cond.methodLink RL 53 yX11_feed ∈ am_TB := List.mem_filter.mpr ⟨List.mem_of_getElem? (i := 1751) (by decide +kernel), by decide +kernel⟩
theorem wd_1754 : Cond.code yX11_feed cX11_feed 6 (some .int) ∈ am_TB := List.mem_filter.mpr ⟨List.mem_of_getElem? (i := 1754) (by decide +kernel), by decide +kernel⟩
theorem wd_1752 : Cond.instanceMethod yX11_feed ∈ am_TB := List.mem_filter.mpr ⟨List.mem_of_getElem? (i := 1752) (by decide +kernel), by decide +kernel⟩
theorem wd_1753 : Cond.selects RX11 yX11_feed yX11_feed ∈ am_TB := List.mem_filter.mpr ⟨List.mem_of_getElem? (i := 1753) (by decide +kernel), by decide +kernel⟩
theorem wd_781 : Cond.instanceMethod yX10_feed ∈ am_TB := List.mem_filter.mpr ⟨List.mem_of_getElem? (i := 781) (by decide +kernel), by decide +kernel⟩
theorem wd_782 : Cond.selects RX10 yX10_feed yX10_feed ∈ am_TB := List.mem_filter.mpr ⟨List.mem_of_getElem? (i := 782) (by decide +kernel), by decide +kernel⟩
theorem wd_773 : Cond.methodLink RL 44 yX10_pour ∈ am_TB := List.mem_filter.mpr ⟨List.mem_of_getElem? (i := 773) (by decide +kernel), by decide +kernel⟩
theorem wd_776 : Cond.code yX10_pour cX10_pour 8 (some .boolean) ∈ am_TB := List.mem_filter.mpr ⟨List.mem_of_getElem? (i := 776) (by decide +kernel), by decide +kernel⟩
theorem wd_1747 : Cond.methodLink RL 48 yX11_pour ∈ am_TB := List.mem_filter.mpr ⟨List.mem_of_getElem? (i := 1747) (by decide +kernel), by decide +kernel⟩
theorem wd_1750 : Cond.code yX11_pour cX11_pour 9 (some .boolean) ∈ am_TB := List.mem_filter.mpr ⟨List.mem_of_getElem? (i := 1750) (by decide +kernel), by decide +kernel⟩
theorem wd_1748 : Cond.instanceMethod yX11_pour ∈ am_TB := List.mem_filter.mpr ⟨List.mem_of_getElem? (i := 1748) (by decide +kernel), by decide +kernel⟩
theorem wd_1749 : Cond.selects RX11 yX11_pour yX11_pour ∈ am_TB := List.mem_filter.mpr ⟨List.mem_of_getElem? (i := 1749) (by decide +kernel), by decide +kernel⟩
theorem wd_774 : Cond.instanceMethod yX10_pour ∈ am_TB := List.mem_filter.mpr ⟨List.mem_of_getElem? (i := 774) (by decide +kernel), by decide +kernel⟩
theorem wd_775 : Cond.selects RX10 yX10_pour yX10_pour ∈ am_TB := List.mem_filter.mpr ⟨List.mem_of_getElem? (i := 775) (by decide +kernel), by decide +kernel⟩
theorem wd_760 : Cond.methodLink RL 39 yX10_read ∈ am_TB := List.mem_filter.mpr ⟨List.mem_of_getElem? (i := 760) (by decide +kernel), by decide +kernel⟩
theorem wd_763 : Cond.code yX10_read cX10_read 4 (some .long) ∈ am_TB := List.mem_filter.mpr ⟨List.mem_of_getElem? (i := 763) (by decide +kernel), by decide +kernel⟩
theorem wd_1742 : Cond.methodLink RL 43 yX11_read ∈ am_TB := List.mem_filter.mpr ⟨List.mem_of_getElem? (i := 1742) (by decide +kernel), by decide +kernel⟩
theorem wd_1745 : Cond.code yX11_read cX11_read 3 (some .long) ∈ am_TB := List.mem_filter.mpr ⟨List.mem_of_getElem? (i := 1745) (by decide +kernel), by decide +kernel⟩
theorem wd_1743 : Cond.instanceMethod yX11_read ∈ am_TB := List.mem_filter.mpr ⟨List.mem_of_getElem? (i := 1743) (by decide +kernel), by decide +kernel⟩
theorem wd_1744 : Cond.selects RX11 yX11_read yX11_read ∈ am_TB := List.mem_filter.mpr ⟨List.mem_of_getElem? (i := 1744) (by decide +kernel), by decide +kernel⟩
theorem wd_761 : Cond.instanceMethod yX10_read ∈ am_TB := List.mem_filter.mpr ⟨List.mem_of_getElem? (i := 761) (by decide +kernel), by decide +kernel⟩
theorem wd_762 : Cond.selects RX10 yX10_read yX10_read ∈ am_TB := List.mem_filter.mpr ⟨List.mem_of_getElem? (i := 762) (by decide +kernel), by decide +kernel⟩
theorem wd_739 : Cond.methodLink RL 34 yX10_write ∈ am_TB := List.mem_filter.mpr ⟨List.mem_of_getElem? (i := 739) (by decide +kernel), by decide +kernel⟩
theorem wd_742 : Cond.code yX10_write cX10_write 6 (some .boolean) ∈ am_TB := List.mem_filter.mpr ⟨List.mem_of_getElem? (i := 742) (by decide +kernel), by decide +kernel⟩
theorem wd_1727 : Cond.methodLink RL 38 yX11_write ∈ am_TB := List.mem_filter.mpr ⟨List.mem_of_getElem? (i := 1727) (by decide +kernel), by decide +kernel⟩
theorem wd_1730 : Cond.code yX11_write cX11_write 5 (some .boolean) ∈ am_TB := List.mem_filter.mpr ⟨List.mem_of_getElem? (i := 1730) (by decide +kernel), by decide +kernel⟩
theorem wd_1728 : Cond.instanceMethod yX11_write ∈ am_TB := List.mem_filter.mpr ⟨List.mem_of_getElem? (i := 1728) (by decide +kernel), by decide +kernel⟩
theorem wd_1729 : Cond.selects RX11 yX11_write yX11_write ∈ am_TB := List.mem_filter.mpr ⟨List.mem_of_getElem? (i := 1729) (by decide +kernel), by decide +kernel⟩
theorem wd_2356 : Cond.constantLong RL 32 4294967295 ∈ am_TB := List.mem_filter.mpr ⟨List.mem_of_getElem? (i := 2356) (by decide +kernel), by decide +kernel⟩
theorem wd_740 : Cond.instanceMethod yX10_write ∈ am_TB := List.mem_filter.mpr ⟨List.mem_of_getElem? (i := 740) (by decide +kernel), by decide +kernel⟩
theorem wd_741 : Cond.selects RX10 yX10_write yX10_write ∈ am_TB := List.mem_filter.mpr ⟨List.mem_of_getElem? (i := 741) (by decide +kernel), by decide +kernel⟩
theorem wd_717 : Cond.methodLink RL 27 yX10_tray ∈ am_TB := List.mem_filter.mpr ⟨List.mem_of_getElem? (i := 717) (by decide +kernel), by decide +kernel⟩
theorem wd_720 : Cond.code yX10_tray cX10_tray 4 (some .boolean) ∈ am_TB := List.mem_filter.mpr ⟨List.mem_of_getElem? (i := 720) (by decide +kernel), by decide +kernel⟩
theorem wd_1719 : Cond.methodLink RL 31 yX11_tray ∈ am_TB := List.mem_filter.mpr ⟨List.mem_of_getElem? (i := 1719) (by decide +kernel), by decide +kernel⟩
theorem wd_1722 : Cond.code yX11_tray cX11_tray 5 (some .boolean) ∈ am_TB := List.mem_filter.mpr ⟨List.mem_of_getElem? (i := 1722) (by decide +kernel), by decide +kernel⟩
theorem wd_1720 : Cond.instanceMethod yX11_tray ∈ am_TB := List.mem_filter.mpr ⟨List.mem_of_getElem? (i := 1720) (by decide +kernel), by decide +kernel⟩
theorem wd_1721 : Cond.selects RX11 yX11_tray yX11_tray ∈ am_TB := List.mem_filter.mpr ⟨List.mem_of_getElem? (i := 1721) (by decide +kernel), by decide +kernel⟩
theorem wd_718 : Cond.instanceMethod yX10_tray ∈ am_TB := List.mem_filter.mpr ⟨List.mem_of_getElem? (i := 718) (by decide +kernel), by decide +kernel⟩
theorem wd_719 : Cond.selects RX10 yX10_tray yX10_tray ∈ am_TB := List.mem_filter.mpr ⟨List.mem_of_getElem? (i := 719) (by decide +kernel), by decide +kernel⟩
theorem wd_713 : Cond.methodLink RL 23 yX10_bottom ∈ am_TB := List.mem_filter.mpr ⟨List.mem_of_getElem? (i := 713) (by decide +kernel), by decide +kernel⟩
theorem wd_716 : Cond.code yX10_bottom cX10_bottom 1 (some .long) ∈ am_TB := List.mem_filter.mpr ⟨List.mem_of_getElem? (i := 716) (by decide +kernel), by decide +kernel⟩
theorem wd_1715 : Cond.methodLink RL 26 yX11_bottom ∈ am_TB := List.mem_filter.mpr ⟨List.mem_of_getElem? (i := 1715) (by decide +kernel), by decide +kernel⟩
theorem wd_1718 : Cond.code yX11_bottom cX11_bottom 1 (some .long) ∈ am_TB := List.mem_filter.mpr ⟨List.mem_of_getElem? (i := 1718) (by decide +kernel), by decide +kernel⟩
theorem wd_1716 : Cond.instanceMethod yX11_bottom ∈ am_TB := List.mem_filter.mpr ⟨List.mem_of_getElem? (i := 1716) (by decide +kernel), by decide +kernel⟩
theorem wd_1717 : Cond.selects RX11 yX11_bottom yX11_bottom ∈ am_TB := List.mem_filter.mpr ⟨List.mem_of_getElem? (i := 1717) (by decide +kernel), by decide +kernel⟩
theorem wd_714 : Cond.instanceMethod yX10_bottom ∈ am_TB := List.mem_filter.mpr ⟨List.mem_of_getElem? (i := 714) (by decide +kernel), by decide +kernel⟩
theorem wd_715 : Cond.selects RX10 yX10_bottom yX10_bottom ∈ am_TB := List.mem_filter.mpr ⟨List.mem_of_getElem? (i := 715) (by decide +kernel), by decide +kernel⟩
theorem wd_709 : Cond.methodLink RL 18 yX10_top ∈ am_TB := List.mem_filter.mpr ⟨List.mem_of_getElem? (i := 709) (by decide +kernel), by decide +kernel⟩
theorem wd_712 : Cond.code yX10_top cX10_top 1 (some .long) ∈ am_TB := List.mem_filter.mpr ⟨List.mem_of_getElem? (i := 712) (by decide +kernel), by decide +kernel⟩
theorem wd_1711 : Cond.methodLink RL 22 yX11_top ∈ am_TB := List.mem_filter.mpr ⟨List.mem_of_getElem? (i := 1711) (by decide +kernel), by decide +kernel⟩
theorem wd_1714 : Cond.code yX11_top cX11_top 1 (some .long) ∈ am_TB := List.mem_filter.mpr ⟨List.mem_of_getElem? (i := 1714) (by decide +kernel), by decide +kernel⟩
theorem wd_1712 : Cond.instanceMethod yX11_top ∈ am_TB := List.mem_filter.mpr ⟨List.mem_of_getElem? (i := 1712) (by decide +kernel), by decide +kernel⟩
theorem wd_1713 : Cond.selects RX11 yX11_top yX11_top ∈ am_TB := List.mem_filter.mpr ⟨List.mem_of_getElem? (i := 1713) (by decide +kernel), by decide +kernel⟩
theorem wd_710 : Cond.instanceMethod yX10_top ∈ am_TB := List.mem_filter.mpr ⟨List.mem_of_getElem? (i := 710) (by decide +kernel), by decide +kernel⟩
theorem wd_711 : Cond.selects RX10 yX10_top yX10_top ∈ am_TB := List.mem_filter.mpr ⟨List.mem_of_getElem? (i := 711) (by decide +kernel), by decide +kernel⟩
theorem wd_705 : Cond.methodLink RL 13 yX10_status ∈ am_TB := List.mem_filter.mpr ⟨List.mem_of_getElem? (i := 705) (by decide +kernel), by decide +kernel⟩
theorem wd_708 : Cond.code yX10_status cX10_status 1 (some .int) ∈ am_TB := List.mem_filter.mpr ⟨List.mem_of_getElem? (i := 708) (by decide +kernel), by decide +kernel⟩
theorem wd_1707 : Cond.methodLink RL 17 yX11_status ∈ am_TB := List.mem_filter.mpr ⟨List.mem_of_getElem? (i := 1707) (by decide +kernel), by decide +kernel⟩
theorem wd_1710 : Cond.code yX11_status cX11_status 1 (some .int) ∈ am_TB := List.mem_filter.mpr ⟨List.mem_of_getElem? (i := 1710) (by decide +kernel), by decide +kernel⟩
theorem wd_1708 : Cond.instanceMethod yX11_status ∈ am_TB := List.mem_filter.mpr ⟨List.mem_of_getElem? (i := 1708) (by decide +kernel), by decide +kernel⟩
theorem wd_1709 : Cond.selects RX11 yX11_status yX11_status ∈ am_TB := List.mem_filter.mpr ⟨List.mem_of_getElem? (i := 1709) (by decide +kernel), by decide +kernel⟩
theorem wd_706 : Cond.instanceMethod yX10_status ∈ am_TB := List.mem_filter.mpr ⟨List.mem_of_getElem? (i := 706) (by decide +kernel), by decide +kernel⟩
theorem wd_707 : Cond.selects RX10 yX10_status yX10_status ∈ am_TB := List.mem_filter.mpr ⟨List.mem_of_getElem? (i := 707) (by decide +kernel), by decide +kernel⟩
theorem fl_RX4_11 : am_FL RX4 11 4 0 (.array .int) := ⟨vwCl.getD 4 (RX0, TX0, 9), rfl, by decide, by decide, rfl, by decide +kernel, Or.inl wd_475⟩
theorem fl_RX0_11 : am_FL RX0 11 0 0 (.array .int) := ⟨vwCl.getD 0 (RX0, TX0, 9), rfl, by decide, by decide, rfl, by decide +kernel, Or.inl wd_550⟩
theorem lk_RX0_53 : am_Lk RX0 53 yX4_part := Or.inr ⟨_, wd_1475⟩
theorem yy_X4_part : am_Y yX4_part cX4_part 3 (some .int) 2 := ⟨wd_1478, wd_229, by decide +kernel, by decide +kernel, by decide⟩
theorem yi_X4_part : am_Yi yX4_part 4 := ⟨wd_1477, wd_110, _, rfl, rfl⟩
theorem fl_RX6_40 : am_FL RX6 40 6 8 .int := ⟨vwCl.getD 6 (RX0, TX0, 9), rfl, by decide, by decide, rfl, by decide +kernel, Or.inl wd_423⟩
theorem fl_RX6_15 : am_FL RX6 15 6 1 (.array .int) := ⟨vwCl.getD 6 (RX0, TX0, 9), rfl, by decide, by decide, rfl, by decide +kernel, Or.inl wd_403⟩
theorem fl_RX6_9 : am_FL RX6 9 6 0 (.array .int) := ⟨vwCl.getD 6 (RX0, TX0, 9), rfl, by decide, by decide, rfl, by decide +kernel, Or.inl wd_402⟩
theorem fl_RX6_43 : am_FL RX6 43 6 9 .int := ⟨vwCl.getD 6 (RX0, TX0, 9), rfl, by decide, by decide, rfl, by decide +kernel, Or.inl wd_426⟩
theorem lk_RX6_90 : am_Lk RX6 90 yX10_suitOf := Or.inr ⟨_, wd_1133⟩
theorem yy_X10_suitOf : am_Y yX10_suitOf cX10_suitOf 1 (some .int) 1 := ⟨wd_1135, wd_219, by decide +kernel, by decide +kernel, by decide⟩
theorem lk_RX6_96 : am_Lk RX6 96 yX6_isRed := Or.inl wd_1136
theorem yy_X6_isRed : am_Y yX6_isRed cX6_isRed 2 (some .boolean) 1 := ⟨wd_1139, wd_228, by decide +kernel, by decide +kernel, by decide⟩
theorem yi_X6_isRed : am_Yi yX6_isRed 6 := ⟨wd_1138, wd_70, _, rfl, rfl⟩
theorem lk_RX6_93 : am_Lk RX6 93 yX10_rankOf := Or.inr ⟨_, wd_1130⟩
theorem yy_X10_rankOf : am_Y yX10_rankOf cX10_rankOf 1 (some .int) 1 := ⟨wd_1132, wd_219, by decide +kernel, by decide +kernel, by decide⟩
theorem lk_RX6_78 : am_Lk RX6 78 yX6_topCard := Or.inl wd_1124
theorem yy_X6_topCard : am_Y yX6_topCard cX6_topCard 2 (some .int) 1 := ⟨wd_1074, wd_228, by decide +kernel, by decide +kernel, by decide⟩
theorem yi_X6_topCard : am_Yi yX6_topCard 6 := ⟨wd_1073, wd_61, _, rfl, rfl⟩
theorem fl_RX6_49 : am_FL RX6 49 6 11 .int := ⟨vwCl.getD 6 (RX0, TX0, 9), rfl, by decide, by decide, rfl, by decide +kernel, Or.inl wd_433⟩
theorem fl_RX6_21 : am_FL RX6 21 6 5 (.array .int) := ⟨vwCl.getD 6 (RX0, TX0, 9), rfl, by decide, by decide, rfl, by decide +kernel, Or.inl wd_410⟩
theorem lk_RX6_86 : am_Lk RX6 86 yX6_bears := Or.inl wd_1126
theorem yy_X6_bears : am_Y yX6_bears cX6_bears 4 (some .boolean) 2 := ⟨wd_1129, wd_228, by decide +kernel, by decide +kernel, by decide⟩
theorem yi_X6_bears : am_Yi yX6_bears 6 := ⟨wd_1128, wd_69, _, rfl, rfl⟩
theorem lk_RX6_82 : am_Lk RX6 82 yX6_isTarget := Or.inl wd_1125
theorem yy_X6_isTarget : am_Y yX6_isTarget cX6_isTarget 2 (some .boolean) 1 := ⟨wd_1119, wd_228, by decide +kernel, by decide +kernel, by decide⟩
theorem yi_X6_isTarget : am_Yi yX6_isTarget 6 := ⟨wd_1118, wd_67, _, rfl, rfl⟩
theorem lk_RX6_109 : am_Lk RX6 109 yX6_allows := Or.inl wd_1265
theorem yy_X6_allows : am_Y yX6_allows cX6_allows 5 (some .boolean) 2 := ⟨wd_1123, wd_228, by decide +kernel, by decide +kernel, by decide⟩
theorem yi_X6_allows : am_Yi yX6_allows 6 := ⟨wd_1122, wd_68, _, rfl, rfl⟩
theorem fl_RX0_43 : am_FL RX0 43 8 1 (.object "WaterPatience$Seasons") := ⟨vwCl.getD 8 (RX0, TX0, 9), rfl, by decide, by decide, rfl, by decide +kernel, Or.inr ⟨_, wd_498⟩⟩
theorem fl_RX0_80 : am_FL RX0 80 8 0 (.object "WaterPatience$Table") := ⟨vwCl.getD 8 (RX0, TX0, 9), rfl, by decide, by decide, rfl, by decide +kernel, Or.inr ⟨_, wd_495⟩⟩
theorem fl_RX0_134 : am_FL RX0 134 6 5 (.array .int) := ⟨vwCl.getD 6 (RX0, TX0, 9), rfl, by decide, by decide, rfl, by decide +kernel, Or.inr ⟨_, wd_412⟩⟩
theorem fl_RX0_141 : am_FL RX0 141 8 8 (.array .int) := ⟨vwCl.getD 8 (RX0, TX0, 9), rfl, by decide, by decide, rfl, by decide +kernel, Or.inr ⟨_, wd_513⟩⟩
theorem fl_RX0_17 : am_FL RX0 17 0 1 (.array .int) := ⟨vwCl.getD 0 (RX0, TX0, 9), rfl, by decide, by decide, rfl, by decide +kernel, Or.inl wd_551⟩
theorem lk_RX0_126 : am_Lk RX0 126 yX6_listMoves := Or.inr ⟨_, wd_1494⟩
theorem yy_X6_listMoves : am_Y yX6_listMoves cX6_listMoves 7 (some .int) 2 := ⟨wd_1264, wd_228, by decide +kernel, by decide +kernel, by decide⟩
theorem yi_X6_listMoves : am_Yi yX6_listMoves 6 := ⟨wd_1263, wd_88, _, rfl, rfl⟩
theorem lk_RX0_137 : am_Lk RX0 137 yX0_compares := Or.inl wd_1491
theorem yy_X0_compares : am_Y yX0_compares cX0_compares 4 (some .boolean) 3 := ⟨wd_1493, wd_230, by decide +kernel, by decide +kernel, by decide⟩
theorem fl_RX8_39 : am_FL RX8 39 8 8 (.array .int) := ⟨vwCl.getD 8 (RX0, TX0, 9), rfl, by decide, by decide, rfl, by decide +kernel, Or.inl wd_511⟩
theorem fl_RX8_45 : am_FL RX8 45 8 10 (.array .int) := ⟨vwCl.getD 8 (RX0, TX0, 9), rfl, by decide, by decide, rfl, by decide +kernel, Or.inl wd_518⟩
theorem fl_RX8_56 : am_FL RX8 56 8 5 .int := ⟨vwCl.getD 8 (RX0, TX0, 9), rfl, by decide, by decide, rfl, by decide +kernel, Or.inl wd_505⟩
theorem fl_RX8_52 : am_FL RX8 52 8 4 .int := ⟨vwCl.getD 8 (RX0, TX0, 9), rfl, by decide, by decide, rfl, by decide +kernel, Or.inl wd_502⟩
theorem fl_RX8_36 : am_FL RX8 36 8 7 (.array .int) := ⟨vwCl.getD 8 (RX0, TX0, 9), rfl, by decide, by decide, rfl, by decide +kernel, Or.inl wd_509⟩
theorem lk_RX8_109 : am_Lk RX8 109 yX8_dry := Or.inl wd_1214
theorem yy_X8_dry : am_Y yX8_dry cX8_dry 3 none 2 := ⟨wd_1217, wd_227, by decide +kernel, by decide +kernel, by decide⟩
theorem yi_X8_dry : am_Yi yX8_dry 8 := ⟨wd_1216, wd_85, _, rfl, rfl⟩
theorem nf_8_5 : am_nofin 8 5 := fun q h => by obtain rfl := Option.some.inj h; rfl
theorem fl_RX0_30 : am_FL RX0 30 0 5 .int := ⟨vwCl.getD 0 (RX0, TX0, 9), rfl, by decide, by decide, rfl, by decide +kernel, Or.inl wd_557⟩
theorem nf_0_5 : am_nofin 0 5 := fun q h => by obtain rfl := Option.some.inj h; rfl
theorem lk_RX0_95 : am_Lk RX0 95 yX8_passDays := Or.inr ⟨_, wd_1503⟩
theorem yy_X8_passDays : am_Y yX8_passDays cX8_passDays 3 (some .boolean) 1 := ⟨wd_1213, wd_227, by decide +kernel, by decide +kernel, by decide⟩
theorem yi_X8_passDays : am_Yi yX8_passDays 8 := ⟨wd_1212, wd_84, _, rfl, rfl⟩
theorem lk_RX6_106 : am_Lk RX6 106 yX6_lay := Or.inl wd_1156
theorem yy_X6_lay : am_Y yX6_lay cX6_lay 3 none 2 := ⟨wd_928, wd_228, by decide +kernel, by decide +kernel, by decide⟩
theorem yi_X6_lay : am_Yi yX6_lay 6 := ⟨wd_927, wd_37, _, rfl, rfl⟩
theorem lk_RX6_102 : am_Lk RX6 102 yX6_raise := Or.inl wd_1152
theorem yy_X6_raise : am_Y yX6_raise cX6_raise 3 none 2 := ⟨wd_1155, wd_228, by decide +kernel, by decide +kernel, by decide⟩
theorem yi_X6_raise : am_Yi yX6_raise 6 := ⟨wd_1154, wd_74, _, rfl, rfl⟩
theorem lk_RX6_99 : am_Lk RX6 99 yX6_lift := Or.inl wd_1148
theorem yy_X6_lift : am_Y yX6_lift cX6_lift 2 (some .int) 1 := ⟨wd_1151, wd_228, by decide +kernel, by decide +kernel, by decide⟩
theorem yi_X6_lift : am_Yi yX6_lift 6 := ⟨wd_1150, wd_73, _, rfl, rfl⟩
theorem fl_RX8_42 : am_FL RX8 42 8 9 (.array .int) := ⟨vwCl.getD 8 (RX0, TX0, 9), rfl, by decide, by decide, rfl, by decide +kernel, Or.inl wd_515⟩
theorem fl_RX8_32 : am_FL RX8 32 8 6 (.array .int) := ⟨vwCl.getD 8 (RX0, TX0, 9), rfl, by decide, by decide, rfl, by decide +kernel, Or.inl wd_507⟩
theorem lk_RX8_75 : am_Lk RX8 75 yX8_wet := Or.inl wd_1163
theorem yy_X8_wet : am_Y yX8_wet cX8_wet 3 none 2 := ⟨wd_1166, wd_227, by decide +kernel, by decide +kernel, by decide⟩
theorem yi_X8_wet : am_Yi yX8_wet 8 := ⟨wd_1165, wd_76, _, rfl, rfl⟩
theorem fl_RX8_12 : am_FL RX8 12 8 0 (.object "WaterPatience$Table") := ⟨vwCl.getD 8 (RX0, TX0, 9), rfl, by decide, by decide, rfl, by decide +kernel, Or.inl wd_493⟩
theorem lk_RX8_79 : am_Lk RX8 79 yX6_shift := Or.inr ⟨_, wd_1144⟩
theorem yy_X6_shift : am_Y yX6_shift cX6_shift 4 (some .int) 2 := ⟨wd_1147, wd_228, by decide +kernel, by decide +kernel, by decide⟩
theorem lk_RX8_83 : am_Lk RX8 83 yX10_suitOf := Or.inr ⟨_, wd_1157⟩
theorem lk_RX8_87 : am_Lk RX8 87 yX10_rankOf := Or.inr ⟨_, wd_1158⟩
theorem lk_RX8_90 : am_Lk RX8 90 yX8_wetSuit := Or.inl wd_1159
theorem yy_X8_wetSuit : am_Y yX8_wetSuit cX8_wetSuit 4 none 2 := ⟨wd_1162, wd_227, by decide +kernel, by decide +kernel, by decide⟩
theorem yi_X8_wetSuit : am_Yi yX8_wetSuit 8 := ⟨wd_1161, wd_75, _, rfl, rfl⟩
theorem yi_X6_shift : am_Yi yX6_shift 6 := ⟨wd_1146, wd_72, _, rfl, rfl⟩
theorem fl_RX0_36 : am_FL RX0 36 0 7 .int := ⟨vwCl.getD 0 (RX0, TX0, 9), rfl, by decide, by decide, rfl, by decide +kernel, Or.inl wd_561⟩
theorem fl_RX0_33 : am_FL RX0 33 0 6 .int := ⟨vwCl.getD 0 (RX0, TX0, 9), rfl, by decide, by decide, rfl, by decide +kernel, Or.inl wd_559⟩
theorem lk_RX0_112 : am_Lk RX0 112 yX8_play := Or.inr ⟨_, wd_1514⟩
theorem yy_X8_play : am_Y yX8_play cX8_play 4 (some .int) 2 := ⟨wd_1143, wd_227, by decide +kernel, by decide +kernel, by decide⟩
theorem nf_0_6 : am_nofin 0 6 := fun q h => by obtain rfl := Option.some.inj h; rfl
theorem nf_0_7 : am_nofin 0 7 := fun q h => by obtain rfl := Option.some.inj h; rfl
theorem yi_X8_play : am_Yi yX8_play 8 := ⟨wd_1142, wd_71, _, rfl, rfl⟩
theorem fl_RX0_20 : am_FL RX0 20 0 2 .int := ⟨vwCl.getD 0 (RX0, TX0, 9), rfl, by decide, by decide, rfl, by decide +kernel, Or.inl wd_552⟩
theorem lk_RX0_108 : am_Lk RX0 108 yX0_carry := Or.inl wd_1510
theorem yy_X0_carry : am_Y yX0_carry cX0_carry 4 none 3 := ⟨wd_1513, wd_230, by decide +kernel, by decide +kernel, by decide⟩
theorem yi_X0_carry : am_Yi yX0_carry 0 := ⟨wd_1512, wd_117, _, rfl, rfl⟩
theorem lk_RX0_130 : am_Lk RX0 130 yX10_stir := Or.inr ⟨_, wd_1529⟩
theorem yy_X10_stir : am_Y yX10_stir cX10_stir 1 (some .int) 1 := ⟨wd_1248, wd_219, by decide +kernel, by decide +kernel, by decide⟩
theorem nf_0_2 : am_nofin 0 2 := fun q h => by obtain rfl := Option.some.inj h; rfl
theorem lk_RX0_99 : am_Lk RX0 99 yX6_isSource := Or.inr ⟨_, wd_1508⟩
theorem yy_X6_isSource : am_Y yX6_isSource cX6_isSource 2 (some .boolean) 1 := ⟨wd_1115, wd_228, by decide +kernel, by decide +kernel, by decide⟩
theorem lk_RX0_104 : am_Lk RX0 104 yX6_allows := Or.inr ⟨_, wd_1509⟩
theorem yi_X6_isSource : am_Yi yX6_isSource 6 := ⟨wd_1114, wd_66, _, rfl, rfl⟩
theorem fl_RX6_28 : am_FL RX6 28 6 12 (.array .int) := ⟨vwCl.getD 6 (RX0, TX0, 9), rfl, by decide, by decide, rfl, by decide +kernel, Or.inl wd_437⟩
theorem fl_RX6_31 : am_FL RX6 31 6 13 (.array .int) := ⟨vwCl.getD 6 (RX0, TX0, 9), rfl, by decide, by decide, rfl, by decide +kernel, Or.inl wd_438⟩
theorem lk_RX6_115 : am_Lk RX6 115 yX6_cardAt := Or.inl wd_1180
theorem yy_X6_cardAt : am_Y yX6_cardAt cX6_cardAt 3 (some .int) 2 := ⟨wd_1058, wd_228, by decide +kernel, by decide +kernel, by decide⟩
theorem yi_X6_cardAt : am_Yi yX6_cardAt 6 := ⟨wd_1057, wd_59, _, rfl, rfl⟩
theorem lk_RX6_123 : am_Lk RX6 123 yX6_ripenPile := Or.inl wd_1194
theorem yy_X6_ripenPile : am_Y yX6_ripenPile cX6_ripenPile 6 (some .boolean) 1 := ⟨wd_1197, wd_228, by decide +kernel, by decide +kernel, by decide⟩
theorem yi_X6_ripenPile : am_Yi yX6_ripenPile 6 := ⟨wd_1196, wd_81, _, rfl, rfl⟩
theorem fl_RX8_100 : am_FL RX8 100 6 5 (.array .int) := ⟨vwCl.getD 6 (RX0, TX0, 9), rfl, by decide, by decide, rfl, by decide +kernel, Or.inr ⟨_, wd_411⟩⟩
theorem fl_RX8_103 : am_FL RX8 103 6 13 (.array .int) := ⟨vwCl.getD 6 (RX0, TX0, 9), rfl, by decide, by decide, rfl, by decide +kernel, Or.inr ⟨_, wd_439⟩⟩
theorem lk_RX8_106 : am_Lk RX8 106 yX6_settle := Or.inr ⟨_, wd_1202⟩
theorem yy_X6_settle : am_Y yX6_settle cX6_settle 1 none 0 := ⟨wd_1205, wd_228, by decide +kernel, by decide +kernel, by decide⟩
theorem yi_X6_settle : am_Yi yX6_settle 6 := ⟨wd_1204, wd_83, _, rfl, rfl⟩
theorem lk_RX8_93 : am_Lk RX8 93 yX6_ripen := Or.inr ⟨_, wd_1190⟩
theorem yy_X6_ripen : am_Y yX6_ripen cX6_ripen 4 none 0 := ⟨wd_1193, wd_228, by decide +kernel, by decide +kernel, by decide⟩
theorem lk_RX8_96 : am_Lk RX8 96 yX6_riseMany := Or.inr ⟨_, wd_1198⟩
theorem yy_X6_riseMany : am_Y yX6_riseMany cX6_riseMany 3 (some .int) 0 := ⟨wd_1201, wd_228, by decide +kernel, by decide +kernel, by decide⟩
theorem yi_X6_riseMany : am_Yi yX6_riseMany 6 := ⟨wd_1200, wd_82, _, rfl, rfl⟩
theorem yi_X6_ripen : am_Yi yX6_ripen 6 := ⟨wd_1192, wd_80, _, rfl, rfl⟩
theorem lk_RX0_123 : am_Lk RX0 123 yX8_bringHome := Or.inr ⟨_, wd_1524⟩
theorem yy_X8_bringHome : am_Y yX8_bringHome cX8_bringHome 4 (some .int) 0 := ⟨wd_1189, wd_227, by decide +kernel, by decide +kernel, by decide⟩
theorem yi_X8_bringHome : am_Yi yX8_bringHome 8 := ⟨wd_1188, wd_79, _, rfl, rfl⟩
theorem fl_RX6_61 : am_FL RX6 61 6 4 .int := ⟨vwCl.getD 6 (RX0, TX0, 9), rfl, by decide, by decide, rfl, by decide +kernel, Or.inl wd_409⟩
theorem fl_RX6_58 : am_FL RX6 58 6 3 .int := ⟨vwCl.getD 6 (RX0, TX0, 9), rfl, by decide, by decide, rfl, by decide +kernel, Or.inl wd_408⟩
theorem fl_RX6_46 : am_FL RX6 46 6 10 .int := ⟨vwCl.getD 6 (RX0, TX0, 9), rfl, by decide, by decide, rfl, by decide +kernel, Or.inl wd_429⟩
theorem lk_RX6_74 : am_Lk RX6 74 yX6_stockMany := Or.inl wd_1083
theorem yy_X6_stockMany : am_Y yX6_stockMany cX6_stockMany 1 (some .int) 0 := ⟨wd_1034, wd_228, by decide +kernel, by decide +kernel, by decide⟩
theorem yi_X6_stockMany : am_Yi yX6_stockMany 6 := ⟨wd_1033, wd_54, _, rfl, rfl⟩
theorem fl_RX6_18 : am_FL RX6 18 6 2 (.array .int) := ⟨vwCl.getD 6 (RX0, TX0, 9), rfl, by decide, by decide, rfl, by decide +kernel, Or.inl wd_407⟩
theorem nf_6_4 : am_nofin 6 4 := fun q h => by obtain rfl := Option.some.inj h; rfl
theorem nf_6_10 : am_nofin 6 10 := fun q h => by obtain rfl := Option.some.inj h; rfl
theorem lk_RX6_119 : am_Lk RX6 119 yX6_layInStock := Or.inl wd_1181
theorem yy_X6_layInStock : am_Y yX6_layInStock cX6_layInStock 2 none 1 := ⟨wd_932, wd_228, by decide +kernel, by decide +kernel, by decide⟩
theorem yi_X6_layInStock : am_Yi yX6_layInStock 6 := ⟨wd_931, wd_38, _, rfl, rfl⟩
theorem nf_6_3 : am_nofin 6 3 := fun q h => by obtain rfl := Option.some.inj h; rfl
theorem lk_RX6_112 : am_Lk RX6 112 yX6_stockCard := Or.inl wd_1179
theorem yy_X6_stockCard : am_Y yX6_stockCard cX6_stockCard 3 (some .int) 1 := ⟨wd_1082, wd_228, by decide +kernel, by decide +kernel, by decide⟩
theorem yi_X6_stockCard : am_Yi yX6_stockCard 6 := ⟨wd_1081, wd_62, _, rfl, rfl⟩
theorem lk_RX0_119 : am_Lk RX0 119 yX6_turnUp := Or.inr ⟨_, wd_1519⟩
theorem yy_X6_turnUp : am_Y yX6_turnUp cX6_turnUp 2 (some .int) 0 := ⟨wd_1178, wd_228, by decide +kernel, by decide +kernel, by decide⟩
theorem yi_X6_turnUp : am_Yi yX6_turnUp 6 := ⟨wd_1177, wd_78, _, rfl, rfl⟩
theorem lk_RX0_115 : am_Lk RX0 115 yX6_hasDeal := Or.inr ⟨_, wd_1518⟩
theorem yy_X6_hasDeal : am_Y yX6_hasDeal cX6_hasDeal 1 (some .boolean) 0 := ⟨wd_1174, wd_228, by decide +kernel, by decide +kernel, by decide⟩
theorem yi_X6_hasDeal : am_Yi yX6_hasDeal 6 := ⟨wd_1173, wd_77, _, rfl, rfl⟩
theorem fl_RX0_50 : am_FL RX0 50 4 1 .int := ⟨vwCl.getD 4 (RX0, TX0, 9), rfl, by decide, by decide, rfl, by decide +kernel, Or.inr ⟨_, wd_477⟩⟩
theorem fl_RX0_27 : am_FL RX0 27 0 4 .int := ⟨vwCl.getD 0 (RX0, TX0, 9), rfl, by decide, by decide, rfl, by decide +kernel, Or.inl wd_555⟩
theorem nf_0_4 : am_nofin 0 4 := fun q h => by obtain rfl := Option.some.inj h; rfl
theorem lk_RX0_92 : am_Lk RX0 92 yX0_makeAny := Or.inl wd_1525
theorem yy_X0_makeAny : am_Y yX0_makeAny cX0_makeAny 4 (some .boolean) 1 := ⟨wd_1528, wd_230, by decide +kernel, by decide +kernel, by decide⟩
theorem yi_X0_makeAny : am_Yi yX0_makeAny 0 := ⟨wd_1527, wd_119, _, rfl, rfl⟩
theorem lk_RX0_88 : am_Lk RX0 88 yX0_makeRun := Or.inl wd_1520
theorem yy_X0_makeRun : am_Y yX0_makeRun cX0_makeRun 3 (some .boolean) 1 := ⟨wd_1523, wd_230, by decide +kernel, by decide +kernel, by decide⟩
theorem yi_X0_makeRun : am_Yi yX0_makeRun 0 := ⟨wd_1522, wd_118, _, rfl, rfl⟩
theorem lk_RX0_84 : am_Lk RX0 84 yX0_turnCard := Or.inl wd_1515
theorem yy_X0_turnCard : am_Y yX0_turnCard cX0_turnCard 1 (some .boolean) 1 := ⟨wd_1517, wd_230, by decide +kernel, by decide +kernel, by decide⟩
theorem lk_RX0_76 : am_Lk RX0 76 yX0_makeMove := Or.inl wd_1504
theorem yy_X0_makeMove : am_Y yX0_makeMove cX0_makeMove 4 (some .boolean) 3 := ⟨wd_1507, wd_230, by decide +kernel, by decide +kernel, by decide⟩
theorem yi_X0_makeMove : am_Yi yX0_makeMove 0 := ⟨wd_1506, wd_116, _, rfl, rfl⟩
theorem lk_RX0_73 : am_Lk RX0 73 yX0_letPass := Or.inl wd_1499
theorem yy_X0_letPass : am_Y yX0_letPass cX0_letPass 3 (some .boolean) 2 := ⟨wd_1502, wd_230, by decide +kernel, by decide +kernel, by decide⟩
theorem yi_X0_letPass : am_Yi yX0_letPass 0 := ⟨wd_1501, wd_115, _, rfl, rfl⟩
theorem lk_RX0_69 : am_Lk RX0 69 yX0_startRounds := Or.inl wd_1495
theorem yy_X0_startRounds : am_Y yX0_startRounds cX0_startRounds 3 none 2 := ⟨wd_1498, wd_230, by decide +kernel, by decide +kernel, by decide⟩
theorem yi_X0_startRounds : am_Yi yX0_startRounds 0 := ⟨wd_1497, wd_114, _, rfl, rfl⟩
theorem lk_RX0_65 : am_Lk RX0 65 yX0_holds := Or.inl wd_1487
theorem yy_X0_holds : am_Y yX0_holds cX0_holds 5 (some .boolean) 2 := ⟨wd_1490, wd_230, by decide +kernel, by decide +kernel, by decide⟩
theorem yi_X0_holds : am_Yi yX0_holds 0 := ⟨wd_1489, wd_113, _, rfl, rfl⟩
theorem fl_RX0_24 : am_FL RX0 24 0 3 .int := ⟨vwCl.getD 0 (RX0, TX0, 9), rfl, by decide, by decide, rfl, by decide +kernel, Or.inl wd_553⟩
theorem fl_RX0_39 : am_FL RX0 39 0 8 .boolean := ⟨vwCl.getD 0 (RX0, TX0, 9), rfl, by decide, by decide, rfl, by decide +kernel, Or.inl wd_563⟩
theorem nf_0_8 : am_nofin 0 8 := fun q h => by obtain rfl := Option.some.inj h; rfl
theorem lk_RX0_61 : am_Lk RX0 61 yX0_afterStep := Or.inl wd_1483
theorem yy_X0_afterStep : am_Y yX0_afterStep cX0_afterStep 6 (some .int) 2 := ⟨wd_1486, wd_230, by decide +kernel, by decide +kernel, by decide⟩
theorem yi_X0_afterStep : am_Yi yX0_afterStep 0 := ⟨wd_1485, wd_112, _, rfl, rfl⟩
theorem nf_0_3 : am_nofin 0 3 := fun q h => by obtain rfl := Option.some.inj h; rfl
theorem lk_RX0_57 : am_Lk RX0 57 yX0_afterEnd := Or.inl wd_1479
theorem yy_X0_afterEnd : am_Y yX0_afterEnd cX0_afterEnd 4 (some .int) 2 := ⟨wd_1482, wd_230, by decide +kernel, by decide +kernel, by decide⟩
theorem yi_X0_afterEnd : am_Yi yX0_afterEnd 0 := ⟨wd_1481, wd_111, _, rfl, rfl⟩
theorem fl_RX1_44 : am_FL RX1 44 6 7 .int := ⟨vwCl.getD 6 (RX0, TX0, 9), rfl, by decide, by decide, rfl, by decide +kernel, Or.inr ⟨_, wd_419⟩⟩
theorem fl_RX1_47 : am_FL RX1 47 6 6 .int := ⟨vwCl.getD 6 (RX0, TX0, 9), rfl, by decide, by decide, rfl, by decide +kernel, Or.inr ⟨_, wd_415⟩⟩
theorem fl_RX1_18 : am_FL RX1 18 1 1 (.array .int) := ⟨vwCl.getD 1 (RX0, TX0, 9), rfl, by decide, by decide, rfl, by decide +kernel, Or.inl wd_615⟩
theorem lk_RX1_50 : am_Lk RX1 50 yX10_stir := Or.inr ⟨_, wd_1246⟩
theorem lk_RX6_52 : am_Lk RX6 52 yJ7_fill_53178 := Or.inl wd_818
theorem yy_J7_fill_53178 : am_Y yJ7_fill_53178 cJ7_fill_53178 4 none 2 := ⟨wd_820, wd_235, by decide +kernel, by decide +kernel, by decide⟩
theorem fl_RX1_32 : am_FL RX1 32 6 11 .int := ⟨vwCl.getD 6 (RX0, TX0, 9), rfl, by decide, by decide, rfl, by decide +kernel, Or.inr ⟨_, wd_432⟩⟩
theorem lk_RX1_40 : am_Lk RX1 40 yX6_layInStock := Or.inr ⟨_, wd_1252⟩
theorem lk_RX1_36 : am_Lk RX1 36 yX6_lay := Or.inr ⟨_, wd_1251⟩
theorem lk_RX1_25 : am_Lk RX1 25 yX1_mix := Or.inl wd_1242
theorem yy_X1_mix : am_Y yX1_mix cX1_mix 8 (some .int) 2 := ⟨wd_1245, wd_232, by decide +kernel, by decide +kernel, by decide⟩
theorem lk_RX1_29 : am_Lk RX1 29 yX6_sweep := Or.inr ⟨_, wd_1250⟩
theorem yy_X6_sweep : am_Y yX6_sweep cX6_sweep 1 none 0 := ⟨wd_817, wd_228, by decide +kernel, by decide +kernel, by decide⟩
theorem yi_X6_sweep : am_Yi yX6_sweep 6 := ⟨wd_816, wd_14, _, rfl, rfl⟩
theorem yi_X1_mix : am_Yi yX1_mix 1 := ⟨wd_1244, wd_87, _, rfl, rfl⟩
theorem fl_RX6_24 : am_FL RX6 24 6 6 .int := ⟨vwCl.getD 6 (RX0, TX0, 9), rfl, by decide, by decide, rfl, by decide +kernel, Or.inl wd_414⟩
theorem fl_RX6_37 : am_FL RX6 37 6 7 .int := ⟨vwCl.getD 6 (RX0, TX0, 9), rfl, by decide, by decide, rfl, by decide +kernel, Or.inl wd_418⟩
theorem nf_6_11 : am_nofin 6 11 := fun q h => by obtain rfl := Option.some.inj h; rfl
theorem nf_6_7 : am_nofin 6 7 := fun q h => by obtain rfl := Option.some.inj h; rfl
theorem nf_6_6 : am_nofin 6 6 := fun q h => by obtain rfl := Option.some.inj h; rfl
theorem fl_RX1_12 : am_FL RX1 12 1 0 (.object "WaterPatience$Table") := ⟨vwCl.getD 1 (RX0, TX0, 9), rfl, by decide, by decide, rfl, by decide +kernel, Or.inl wd_613⟩
theorem lk_RX1_54 : am_Lk RX1 54 yX6_copyShape := Or.inr ⟨_, wd_1413⟩
theorem yy_X6_copyShape : am_Y yX6_copyShape cX6_copyShape 2 none 1 := ⟨wd_961, wd_228, by decide +kernel, by decide +kernel, by decide⟩
theorem lk_RX1_58 : am_Lk RX1 58 yX1_dealOut := Or.inl wd_1414
theorem yy_X1_dealOut : am_Y yX1_dealOut cX1_dealOut 7 none 2 := ⟨wd_1241, wd_232, by decide +kernel, by decide +kernel, by decide⟩
theorem lk_RX1_62 : am_Lk RX1 62 yX6_ripen := Or.inr ⟨_, wd_1415⟩
theorem yi_X1_dealOut : am_Yi yX1_dealOut 1 := ⟨wd_1240, wd_86, _, rfl, rfl⟩
theorem yi_X6_copyShape : am_Yi yX6_copyShape 6 := ⟨wd_960, wd_45, _, rfl, rfl⟩
theorem lk_RX6_126 : am_Lk RX6 126 yX10_ranksUpTo := Or.inr ⟨_, wd_1284⟩
theorem yy_X10_ranksUpTo : am_Y yX10_ranksUpTo cX10_ranksUpTo 1 (some .int) 1 := ⟨wd_1286, wd_219, by decide +kernel, by decide +kernel, by decide⟩
theorem lk_RX1_65 : am_Lk RX1 65 yX6_riseRanks := Or.inr ⟨_, wd_1420⟩
theorem yy_X6_riseRanks : am_Y yX6_riseRanks cX6_riseRanks 2 (some .int) 1 := ⟨wd_1283, wd_228, by decide +kernel, by decide +kernel, by decide⟩
theorem yi_X6_riseRanks : am_Yi yX6_riseRanks 6 := ⟨wd_1282, wd_89, _, rfl, rfl⟩
theorem fl_RX1_22 : am_FL RX1 22 1 2 (.array .int) := ⟨vwCl.getD 1 (RX0, TX0, 9), rfl, by decide, by decide, rfl, by decide +kernel, Or.inl wd_616⟩
theorem lk_RX1_77 : am_Lk RX1 77 yX1_wetsOf := Or.inl wd_1434
theorem yy_X1_wetsOf : am_Y yX1_wetsOf cX1_wetsOf 2 (some .int) 1 := ⟨wd_1419, wd_232, by decide +kernel, by decide +kernel, by decide⟩
theorem yi_X1_wetsOf : am_Yi yX1_wetsOf 1 := ⟨wd_1418, wd_104, _, rfl, rfl⟩
theorem lk_RX1_74 : am_Lk RX1 74 yX1_tryOut := Or.inl wd_1433
theorem yy_X1_tryOut : am_Y yX1_tryOut cX1_tryOut 3 none 2 := ⟨wd_1412, wd_232, by decide +kernel, by decide +kernel, by decide⟩
theorem yi_X1_tryOut : am_Yi yX1_tryOut 1 := ⟨wd_1411, wd_103, _, rfl, rfl⟩
theorem lk_RX1_68 : am_Lk RX1 68 yJ7_fill_53178 := Or.inl wd_1432
theorem lk_RX2_56 : am_Lk RX2 56 yX10_rankOf := Or.inr ⟨_, wd_1360⟩
theorem lk_RX2_52 : am_Lk RX2 52 yX10_suitOf := Or.inr ⟨_, wd_1359⟩
theorem yy_X2_reach : am_Y yX2_reach cX2_reach 10 (some .int) 4 := ⟨wd_1353, wd_231, by decide +kernel, by decide +kernel, by decide⟩
theorem fl_RX2_9 : am_FL RX2 9 2 0 (.array .int) := ⟨vwCl.getD 2 (RX0, TX0, 9), rfl, by decide, by decide, rfl, by decide +kernel, Or.inl wd_590⟩
theorem fl_RX2_15 : am_FL RX2 15 2 1 (.array .int) := ⟨vwCl.getD 2 (RX0, TX0, 9), rfl, by decide, by decide, rfl, by decide +kernel, Or.inl wd_591⟩
theorem lk_RX2_31 : am_Lk RX2 31 yX6_shift := Or.inr ⟨_, wd_1355⟩
theorem lk_RX2_35 : am_Lk RX2 35 yX2_gain := Or.inl wd_1356
theorem yy_X2_gain : am_Y yX2_gain cX2_gain 3 (some .int) 3 := ⟨wd_1358, wd_231, by decide +kernel, by decide +kernel, by decide⟩
theorem lk_RX2_44 : am_Lk RX2 44 yX2_reach := Or.inl wd_1362
theorem lk_RX2_48 : am_Lk RX2 48 yX6_unshift := Or.inr ⟨_, wd_1363⟩
theorem yy_X6_unshift : am_Y yX6_unshift cX6_unshift 4 none 3 := ⟨wd_1366, wd_228, by decide +kernel, by decide +kernel, by decide⟩
theorem yi_X6_unshift : am_Yi yX6_unshift 6 := ⟨wd_1365, wd_98, _, rfl, rfl⟩
theorem lk_RX2_25 : am_Lk RX2 25 yX6_listMoves := Or.inr ⟨_, wd_1354⟩
theorem yy_X2_duel : am_Y yX2_duel cX2_duel 11 (some .int) 5 := ⟨wd_1381, wd_231, by decide +kernel, by decide +kernel, by decide⟩
theorem lk_RX2_59 : am_Lk RX2 59 yX2_duel := Or.inl wd_1382
theorem fl_RX2_69 : am_FL RX2 69 6 11 .int := ⟨vwCl.getD 6 (RX0, TX0, 9), rfl, by decide, by decide, rfl, by decide +kernel, Or.inr ⟨_, wd_435⟩⟩
theorem fl_RX2_72 : am_FL RX2 72 6 1 (.array .int) := ⟨vwCl.getD 6 (RX0, TX0, 9), rfl, by decide, by decide, rfl, by decide +kernel, Or.inr ⟨_, wd_404⟩⟩
theorem lk_RX2_79 : am_Lk RX2 79 yX6_swap := Or.inr ⟨_, wd_1397⟩
theorem yy_X6_swap : am_Y yX6_swap cX6_swap 7 none 4 := ⟨wd_1400, wd_228, by decide +kernel, by decide +kernel, by decide⟩
theorem lk_RX2_63 : am_Lk RX2 63 yX6_ripen := Or.inr ⟨_, wd_1391⟩
theorem lk_RX2_66 : am_Lk RX2 66 yX6_riseRanks := Or.inr ⟨_, wd_1392⟩
theorem fl_RX2_18 : am_FL RX2 18 2 2 .int := ⟨vwCl.getD 2 (RX0, TX0, 9), rfl, by decide, by decide, rfl, by decide +kernel, Or.inl wd_592⟩
theorem fl_RX2_22 : am_FL RX2 22 2 3 .int := ⟨vwCl.getD 2 (RX0, TX0, 9), rfl, by decide, by decide, rfl, by decide +kernel, Or.inl wd_594⟩
theorem nf_2_3 : am_nofin 2 3 := fun q h => by obtain rfl := Option.some.inj h; rfl
theorem nf_2_2 : am_nofin 2 2 := fun q h => by obtain rfl := Option.some.inj h; rfl
theorem yi_X6_swap : am_Yi yX6_swap 6 := ⟨wd_1399, wd_102, _, rfl, rfl⟩
theorem lk_RX2_75 : am_Lk RX2 75 yX2_swapsOf := Or.inl wd_1393
theorem yy_X2_swapsOf : am_Y yX2_swapsOf cX2_swapsOf 10 (some .int) 5 := ⟨wd_1396, wd_231, by decide +kernel, by decide +kernel, by decide⟩
theorem yi_X2_swapsOf : am_Yi yX2_swapsOf 2 := ⟨wd_1395, wd_101, _, rfl, rfl⟩
theorem fl_RX3_15 : am_FL RX3 15 3 1 (.array .byte) := ⟨vwCl.getD 3 (RX0, TX0, 9), rfl, by decide, by decide, rfl, by decide +kernel, Or.inl wd_308⟩
theorem fl_RX3_53 : am_FL RX3 53 3 2 .int := ⟨vwCl.getD 3 (RX0, TX0, 9), rfl, by decide, by decide, rfl, by decide +kernel, Or.inl wd_309⟩
theorem fl_RX3_56 : am_FL RX3 56 3 3 .int := ⟨vwCl.getD 3 (RX0, TX0, 9), rfl, by decide, by decide, rfl, by decide +kernel, Or.inl wd_310⟩
theorem fl_RX3_19 : am_FL RX3 19 3 10 .int := ⟨vwCl.getD 3 (RX0, TX0, 9), rfl, by decide, by decide, rfl, by decide +kernel, Or.inl wd_323⟩
theorem fl_RX3_23 : am_FL RX3 23 3 11 .int := ⟨vwCl.getD 3 (RX0, TX0, 9), rfl, by decide, by decide, rfl, by decide +kernel, Or.inl wd_325⟩
theorem nf_3_11 : am_nofin 3 11 := fun q h => by obtain rfl := Option.some.inj h; rfl
theorem nf_3_10 : am_nofin 3 10 := fun q h => by obtain rfl := Option.some.inj h; rfl
theorem nf_3_3 : am_nofin 3 3 := fun q h => by obtain rfl := Option.some.inj h; rfl
theorem nf_3_2 : am_nofin 3 2 := fun q h => by obtain rfl := Option.some.inj h; rfl
theorem nf_3_1 : am_nofin 3 1 := fun q h => by obtain rfl := Option.some.inj h; rfl
theorem fl_RX3_59 : am_FL RX3 59 3 5 .int := ⟨vwCl.getD 3 (RX0, TX0, 9), rfl, by decide, by decide, rfl, by decide +kernel, Or.inl wd_312⟩
theorem fl_RX3_91 : am_FL RX3 91 3 6 .int := ⟨vwCl.getD 3 (RX0, TX0, 9), rfl, by decide, by decide, rfl, by decide +kernel, Or.inl wd_315⟩
theorem lk_RX3_88 : am_Lk RX3 88 yX3_blame := Or.inl wd_850
theorem yy_X3_blame : am_Y yX3_blame cX3_blame 2 (some .boolean) 1 := ⟨wd_853, wd_220, by decide +kernel, by decide +kernel, by decide⟩
theorem yi_X3_blame : am_Yi yX3_blame 3 := ⟨wd_852, wd_20, _, rfl, rfl⟩
theorem lk_RX3_62 : am_Lk RX3 62 yX3_byteHere := Or.inl wd_829
theorem yy_X3_byteHere : am_Y yX3_byteHere cX3_byteHere 1 (some .int) 0 := ⟨wd_832, wd_220, by decide +kernel, by decide +kernel, by decide⟩
theorem lk_RX3_81 : am_Lk RX3 81 yX3_isDigit := Or.inl wd_843
theorem yy_X3_isDigit : am_Y yX3_isDigit cX3_isDigit 1 (some .boolean) 1 := ⟨wd_845, wd_220, by decide +kernel, by decide +kernel, by decide⟩
theorem nf_3_6 : am_nofin 3 6 := fun q h => by obtain rfl := Option.some.inj h; rfl
theorem yi_X3_byteHere : am_Yi yX3_byteHere 3 := ⟨wd_831, wd_17, _, rfl, rfl⟩
theorem fl_RX3_72 : am_FL RX3 72 3 4 .int := ⟨vwCl.getD 3 (RX0, TX0, 9), rfl, by decide, by decide, rfl, by decide +kernel, Or.inl wd_311⟩
theorem nf_3_4 : am_nofin 3 4 := fun q h => by obtain rfl := Option.some.inj h; rfl
theorem fl_RX3_94 : am_FL RX3 94 3 7 .long := ⟨vwCl.getD 3 (RX0, TX0, 9), rfl, by decide, by decide, rfl, by decide +kernel, Or.inl wd_318⟩
theorem fl_RX3_98 : am_FL RX3 98 3 8 .int := ⟨vwCl.getD 3 (RX0, TX0, 9), rfl, by decide, by decide, rfl, by decide +kernel, Or.inl wd_319⟩
theorem fl_RX3_9 : am_FL RX3 9 3 0 (.array .long) := ⟨vwCl.getD 3 (RX0, TX0, 9), rfl, by decide, by decide, rfl, by decide +kernel, Or.inl wd_307⟩
theorem fl_RX3_69 : am_FL RX3 69 3 9 .int := ⟨vwCl.getD 3 (RX0, TX0, 9), rfl, by decide, by decide, rfl, by decide +kernel, Or.inl wd_322⟩
theorem nf_3_9 : am_nofin 3 9 := fun q h => by obtain rfl := Option.some.inj h; rfl
theorem nf_3_8 : am_nofin 3 8 := fun q h => by obtain rfl := Option.some.inj h; rfl
theorem lk_RX3_75 : am_Lk RX3 75 yX3_isLetter := Or.inl wd_836
theorem yy_X3_isLetter : am_Y yX3_isLetter cX3_isLetter 1 (some .boolean) 1 := ⟨wd_838, wd_220, by decide +kernel, by decide +kernel, by decide⟩
theorem lk_RX3_38 : am_Lk RX3 38 yX3_withLetter := Or.inl wd_303
theorem yy_X3_withLetter : am_Y yX3_withLetter cX3_withLetter 3 (some .long) 2 := ⟨wd_305, wd_220, by decide +kernel, by decide +kernel, by decide⟩
theorem nf_3_7 : am_nofin 3 7 := fun q h => by obtain rfl := Option.some.inj h; rfl
theorem lk_RX3_84 : am_Lk RX3 84 yX3_readNumber := Or.inl wd_846
theorem yy_X3_readNumber : am_Y yX3_readNumber cX3_readNumber 1 (some .boolean) 0 := ⟨wd_849, wd_220, by decide +kernel, by decide +kernel, by decide⟩
theorem yi_X3_readNumber : am_Yi yX3_readNumber 3 := ⟨wd_848, wd_19, _, rfl, rfl⟩
theorem lk_RX3_78 : am_Lk RX3 78 yX3_readWord := Or.inl wd_839
theorem yy_X3_readWord : am_Y yX3_readWord cX3_readWord 2 none 0 := ⟨wd_842, wd_220, by decide +kernel, by decide +kernel, by decide⟩
theorem yi_X3_readWord : am_Yi yX3_readWord 3 := ⟨wd_841, wd_18, _, rfl, rfl⟩
theorem nf_3_5 : am_nofin 3 5 := fun q h => by obtain rfl := Option.some.inj h; rfl
theorem lk_RX3_65 : am_Lk RX3 65 yX3_isBlank := Or.inl wd_833
theorem yy_X3_isBlank : am_Y yX3_isBlank cX3_isBlank 1 (some .boolean) 1 := ⟨wd_835, wd_220, by decide +kernel, by decide +kernel, by decide⟩
theorem lk_RX3_104 : am_Lk RX3 104 yX3_isSign := Or.inl wd_872
theorem yy_X3_isSign : am_Y yX3_isSign cX3_isSign 2 (some .boolean) 1 := ⟨wd_875, wd_220, by decide +kernel, by decide +kernel, by decide⟩
theorem yi_X3_isSign : am_Yi yX3_isSign 3 := ⟨wd_874, wd_25, _, rfl, rfl⟩
theorem lk_RX3_101 : am_Lk RX3 101 yX3_step := Or.inl wd_867
theorem yy_X3_step : am_Y yX3_step cX3_step 2 (some .boolean) 0 := ⟨wd_828, wd_220, by decide +kernel, by decide +kernel, by decide⟩
theorem yi_X3_step : am_Yi yX3_step 3 := ⟨wd_827, wd_16, _, rfl, rfl⟩
theorem lk_RX3_107 : am_Lk RX3 107 yX3_isName := Or.inl wd_888
theorem yy_X3_isName : am_Y yX3_isName cX3_isName 1 (some .boolean) 0 := ⟨wd_891, wd_220, by decide +kernel, by decide +kernel, by decide⟩
theorem yi_X3_isName : am_Yi yX3_isName 3 := ⟨wd_890, wd_29, _, rfl, rfl⟩
theorem fl_RX4_15 : am_FL RX4 15 4 1 .int := ⟨vwCl.getD 4 (RX0, TX0, 9), rfl, by decide, by decide, rfl, by decide +kernel, Or.inl wd_476⟩
theorem fl_RX4_19 : am_FL RX4 19 4 2 .int := ⟨vwCl.getD 4 (RX0, TX0, 9), rfl, by decide, by decide, rfl, by decide +kernel, Or.inl wd_478⟩
theorem fl_RX4_22 : am_FL RX4 22 4 3 .boolean := ⟨vwCl.getD 4 (RX0, TX0, 9), rfl, by decide, by decide, rfl, by decide +kernel, Or.inl wd_482⟩
theorem nf_4_3 : am_nofin 4 3 := fun q h => by obtain rfl := Option.some.inj h; rfl
theorem nf_4_2 : am_nofin 4 2 := fun q h => by obtain rfl := Option.some.inj h; rfl
theorem nf_4_1 : am_nofin 4 1 := fun q h => by obtain rfl := Option.some.inj h; rfl
theorem lk_RX4_32 : am_Lk RX4 32 yX4_setPart := Or.inl wd_992
theorem yy_X4_setPart : am_Y yX4_setPart cX4_setPart 4 none 3 := ⟨wd_995, wd_229, by decide +kernel, by decide +kernel, by decide⟩
theorem yi_X4_setPart : am_Yi yX4_setPart 4 := ⟨wd_994, wd_51, _, rfl, rfl⟩
theorem fl_RX5_24 : am_FL RX5 24 5 1 .int := ⟨vwCl.getD 5 (RX0, TX0, 9), rfl, by decide, by decide, rfl, by decide +kernel, Or.inl wd_383⟩
theorem fl_RX5_11 : am_FL RX5 11 5 0 (.array .int) := ⟨vwCl.getD 5 (RX0, TX0, 9), rfl, by decide, by decide, rfl, by decide +kernel, Or.inl wd_382⟩
theorem lk_RX5_52 : am_Lk RX5 52 yX4_addLine := Or.inr ⟨_, wd_988⟩
theorem yy_X4_addLine : am_Y yX4_addLine cX4_addLine 3 (some .int) 1 := ⟨wd_991, wd_229, by decide +kernel, by decide +kernel, by decide⟩
theorem lk_RX5_56 : am_Lk RX5 56 yX4_setPart := Or.inr ⟨_, wd_996⟩
theorem lk_RX5_60 : am_Lk RX5 60 yX3_wantSign := Or.inr ⟨_, wd_997⟩
theorem yy_X3_wantSign : am_Y yX3_wantSign cX3_wantSign 2 (some .boolean) 1 := ⟨wd_871, wd_220, by decide +kernel, by decide +kernel, by decide⟩
theorem yi_X3_wantSign : am_Yi yX3_wantSign 3 := ⟨wd_870, wd_24, _, rfl, rfl⟩
theorem yi_X4_addLine : am_Yi yX4_addLine 4 := ⟨wd_990, wd_50, _, rfl, rfl⟩
theorem nf_5_1 : am_nofin 5 1 := fun q h => by obtain rfl := Option.some.inj h; rfl
theorem lk_RX5_37 : am_Lk RX5 37 yX3_blame := Or.inr ⟨_, wd_983⟩
theorem fl_RX5_85 : am_FL RX5 85 3 6 .int := ⟨vwCl.getD 3 (RX0, TX0, 9), rfl, by decide, by decide, rfl, by decide +kernel, Or.inr ⟨_, wd_314⟩⟩
theorem lk_RX5_81 : am_Lk RX5 81 yX3_wantNumber := Or.inr ⟨_, wd_1008⟩
theorem yy_X3_wantNumber : am_Y yX3_wantNumber cX3_wantNumber 3 (some .boolean) 2 := ⟨wd_866, wd_220, by decide +kernel, by decide +kernel, by decide⟩
theorem yi_X3_wantNumber : am_Yi yX3_wantNumber 3 := ⟨wd_865, wd_23, _, rfl, rfl⟩
theorem fl_RX8_29 : am_FL RX8 29 8 3 (.array .long) := ⟨vwCl.getD 8 (RX0, TX0, 9), rfl, by decide, by decide, rfl, by decide +kernel, Or.inl wd_501⟩
theorem fl_RX8_72 : am_FL RX8 72 6 7 .int := ⟨vwCl.getD 6 (RX0, TX0, 9), rfl, by decide, by decide, rfl, by decide +kernel, Or.inr ⟨_, wd_420⟩⟩
theorem fl_RX8_25 : am_FL RX8 25 8 2 (.array .long) := ⟨vwCl.getD 8 (RX0, TX0, 9), rfl, by decide, by decide, rfl, by decide +kernel, Or.inl wd_500⟩
theorem fl_RX5_41 : am_FL RX5 41 3 9 .int := ⟨vwCl.getD 3 (RX0, TX0, 9), rfl, by decide, by decide, rfl, by decide +kernel, Or.inr ⟨_, wd_321⟩⟩
theorem fl_RX5_91 : am_FL RX5 91 3 7 .long := ⟨vwCl.getD 3 (RX0, TX0, 9), rfl, by decide, by decide, rfl, by decide +kernel, Or.inr ⟨_, wd_317⟩⟩
theorem lk_RX5_104 : am_Lk RX5 104 yX3_wantCompare := Or.inr ⟨_, wd_1018⟩
theorem yy_X3_wantCompare : am_Y yX3_wantCompare cX3_wantCompare 1 (some .boolean) 0 := ⟨wd_1021, wd_220, by decide +kernel, by decide +kernel, by decide⟩
theorem yi_X3_wantCompare : am_Yi yX3_wantCompare 3 := ⟨wd_1020, wd_53, _, rfl, rfl⟩
theorem lk_RX5_101 : am_Lk RX5 101 yX8_fieldNamed := Or.inr ⟨_, wd_1017⟩
theorem yy_X8_fieldNamed : am_Y yX8_fieldNamed cX8_fieldNamed 4 (some .int) 1 := ⟨wd_899, wd_227, by decide +kernel, by decide +kernel, by decide⟩
theorem yi_X8_fieldNamed : am_Yi yX8_fieldNamed 8 := ⟨wd_898, wd_31, _, rfl, rfl⟩
theorem lk_RX5_95 : am_Lk RX5 95 yX8_suitNamed := Or.inr ⟨_, wd_1016⟩
theorem yy_X8_suitNamed : am_Y yX8_suitNamed cX8_suitNamed 4 (some .int) 1 := ⟨wd_895, wd_227, by decide +kernel, by decide +kernel, by decide⟩
theorem yi_X8_suitNamed : am_Yi yX8_suitNamed 8 := ⟨wd_894, wd_30, _, rfl, rfl⟩
theorem lk_RX5_88 : am_Lk RX5 88 yX3_wantName := Or.inr ⟨_, wd_1015⟩
theorem yy_X3_wantName : am_Y yX3_wantName cX3_wantName 1 (some .boolean) 0 := ⟨wd_887, wd_220, by decide +kernel, by decide +kernel, by decide⟩
theorem yi_X3_wantName : am_Yi yX3_wantName 3 := ⟨wd_886, wd_28, _, rfl, rfl⟩
theorem lk_RX5_28 : am_Lk RX5 28 yX3_step := Or.inr ⟨_, wd_981⟩
theorem fl_RX5_66 : am_FL RX5 66 4 2 .int := ⟨vwCl.getD 4 (RX0, TX0, 9), rfl, by decide, by decide, rfl, by decide +kernel, Or.inr ⟨_, wd_479⟩⟩
theorem lk_RX5_77 : am_Lk RX5 77 yX5_takeTest := Or.inl wd_1012
theorem yy_X5_takeTest : am_Y yX5_takeTest cX5_takeTest 6 (some .boolean) 4 := ⟨wd_1014, wd_226, by decide +kernel, by decide +kernel, by decide⟩
theorem lk_RX5_73 : am_Lk RX5 73 yX5_takePlaces := Or.inl wd_1009
theorem yy_X5_takePlaces : am_Y yX5_takePlaces cX5_takePlaces 3 (some .boolean) 3 := ⟨wd_1011, wd_226, by decide +kernel, by decide +kernel, by decide⟩
theorem lk_RX5_69 : am_Lk RX5 69 yX5_takeNumber := Or.inl wd_1005
theorem yy_X5_takeNumber : am_Y yX5_takeNumber cX5_takeNumber 4 (some .boolean) 4 := ⟨wd_1007, wd_226, by decide +kernel, by decide +kernel, by decide⟩
theorem lk_RX5_63 : am_Lk RX5 63 yX5_isStep := Or.inl wd_1002
theorem yy_X5_isStep : am_Y yX5_isStep cX5_isStep 1 (some .boolean) 1 := ⟨wd_1004, wd_226, by decide +kernel, by decide +kernel, by decide⟩
theorem lk_RX5_48 : am_Lk RX5 48 yX5_takeStep := Or.inl wd_998
theorem yy_X5_takeStep : am_Y yX5_takeStep cX5_takeStep 8 (some .boolean) 3 := ⟨wd_1001, wd_226, by decide +kernel, by decide +kernel, by decide⟩
theorem yi_X5_takeStep : am_Yi yX5_takeStep 5 := ⟨wd_1000, wd_52, _, rfl, rfl⟩
theorem lk_RX5_44 : am_Lk RX5 44 yX5_takeEnd := Or.inl wd_984
theorem yy_X5_takeEnd : am_Y yX5_takeEnd cX5_takeEnd 4 (some .boolean) 2 := ⟨wd_987, wd_226, by decide +kernel, by decide +kernel, by decide⟩
theorem yi_X5_takeEnd : am_Yi yX5_takeEnd 5 := ⟨wd_986, wd_49, _, rfl, rfl⟩
theorem lk_RX5_34 : am_Lk RX5 34 yX3_isEnd := Or.inr ⟨_, wd_982⟩
theorem yy_X3_isEnd : am_Y yX3_isEnd cX3_isEnd 1 (some .boolean) 0 := ⟨wd_857, wd_220, by decide +kernel, by decide +kernel, by decide⟩
theorem yi_X3_isEnd : am_Yi yX3_isEnd 3 := ⟨wd_856, wd_21, _, rfl, rfl⟩
theorem lk_RX5_15 : am_Lk RX5 15 yX4_clear := Or.inr ⟨_, wd_980⟩
theorem yy_X4_clear : am_Y yX4_clear cX4_clear 1 none 0 := ⟨wd_824, wd_229, by decide +kernel, by decide +kernel, by decide⟩
theorem fl_RX5_20 : am_FL RX5 20 4 3 .boolean := ⟨vwCl.getD 4 (RX0, TX0, 9), rfl, by decide, by decide, rfl, by decide +kernel, Or.inr ⟨_, wd_481⟩⟩
theorem yi_X4_clear : am_Yi yX4_clear 4 := ⟨wd_823, wd_15, _, rfl, rfl⟩
theorem lk_RX6_34 : am_Lk RX6 34 yX6_sweep := Or.inl wd_814
theorem nf_6_9 : am_nofin 6 9 := fun q h => by obtain rfl := Option.some.inj h; rfl
theorem nf_6_8 : am_nofin 6 8 := fun q h => by obtain rfl := Option.some.inj h; rfl
theorem lk_RX6_70 : am_Lk RX6 70 yX6_copyShape := Or.inl wd_958
theorem lk_RX6_135 : am_Lk RX6 135 yX6_placeInStock := Or.inl wd_1307
theorem yy_X6_placeInStock : am_Y yX6_placeInStock cX6_placeInStock 3 (some .int) 1 := ⟨wd_1310, wd_228, by decide +kernel, by decide +kernel, by decide⟩
theorem yi_X6_placeInStock : am_Yi yX6_placeInStock 6 := ⟨wd_1309, wd_94, _, rfl, rfl⟩
theorem lk_RX6_132 : am_Lk RX6 132 yX6_placeIn := Or.inl wd_1303
theorem yy_X6_placeIn : am_Y yX6_placeIn cX6_placeIn 4 (some .int) 2 := ⟨wd_1306, wd_228, by decide +kernel, by decide +kernel, by decide⟩
theorem yi_X6_placeIn : am_Yi yX6_placeIn 6 := ⟨wd_1305, wd_93, _, rfl, rfl⟩
theorem lk_RX6_129 : am_Lk RX6 129 yX6_whereIs := Or.inl wd_1299
theorem yy_X6_whereIs : am_Y yX6_whereIs cX6_whereIs 3 (some .int) 1 := ⟨wd_1302, wd_228, by decide +kernel, by decide +kernel, by decide⟩
theorem yi_X6_whereIs : am_Yi yX6_whereIs 6 := ⟨wd_1301, wd_92, _, rfl, rfl⟩
theorem fl_RX7_9 : am_FL RX7 9 7 0 (.array .long) := ⟨vwCl.getD 7 (RX0, TX0, 9), rfl, by decide, by decide, rfl, by decide +kernel, Or.inl wd_630⟩
theorem fl_RX7_15 : am_FL RX7 15 7 1 .boolean := ⟨vwCl.getD 7 (RX0, TX0, 9), rfl, by decide, by decide, rfl, by decide +kernel, Or.inl wd_632⟩
theorem fl_RX7_19 : am_FL RX7 19 7 2 .int := ⟨vwCl.getD 7 (RX0, TX0, 9), rfl, by decide, by decide, rfl, by decide +kernel, Or.inl wd_634⟩
theorem fl_RX7_23 : am_FL RX7 23 7 3 .int := ⟨vwCl.getD 7 (RX0, TX0, 9), rfl, by decide, by decide, rfl, by decide +kernel, Or.inl wd_636⟩
theorem lk_RX7_26 : am_Lk RX7 26 yJ7_fill_d0a16 := Or.inl wd_732
theorem yy_J7_fill_d0a16 : am_Y yJ7_fill_d0a16 cJ7_fill_d0a16 5 none 2 := ⟨wd_734, wd_235, by decide +kernel, by decide +kernel, by decide⟩
theorem nf_7_3 : am_nofin 7 3 := fun q h => by obtain rfl := Option.some.inj h; rfl
theorem nf_7_2 : am_nofin 7 2 := fun q h => by obtain rfl := Option.some.inj h; rfl
theorem nf_7_1 : am_nofin 7 1 := fun q h => by obtain rfl := Option.some.inj h; rfl
theorem lk_RX7_32 : am_Lk RX7 32 yX7_has := Or.inl wd_755
theorem yy_X7_has : am_Y yX7_has cX7_has 3 (some .boolean) 2 := ⟨wd_750, wd_233, by decide +kernel, by decide +kernel, by decide⟩
theorem lk_RX7_36 : am_Lk RX7 36 yX7_cut := Or.inl wd_756
theorem yy_X7_cut : am_Y yX7_cut cX7_cut 3 (some .long) 1 := ⟨wd_759, wd_233, by decide +kernel, by decide +kernel, by decide⟩
theorem yi_X7_cut : am_Yi yX7_cut 7 := ⟨wd_758, wd_6, _, rfl, rfl⟩
theorem yi_X7_has : am_Yi yX7_has 7 := ⟨wd_749, wd_4, _, rfl, rfl⟩
theorem fl_RX8_21 : am_FL RX8 21 8 1 (.object "WaterPatience$Seasons") := ⟨vwCl.getD 8 (RX0, TX0, 9), rfl, by decide, by decide, rfl, by decide +kernel, Or.inl wd_497⟩
theorem lk_RX8_48 : am_Lk RX8 48 yX6_clear := Or.inr ⟨_, wd_810⟩
theorem yy_X6_clear : am_Y yX6_clear cX6_clear 1 none 0 := ⟨wd_813, wd_228, by decide +kernel, by decide +kernel, by decide⟩
theorem lk_RX8_51 : am_Lk RX8 51 yX4_clear := Or.inr ⟨_, wd_821⟩
theorem nf_8_4 : am_nofin 8 4 := fun q h => by obtain rfl := Option.some.inj h; rfl
theorem yi_X6_clear : am_Yi yX6_clear 6 := ⟨wd_812, wd_13, _, rfl, rfl⟩
theorem lk_RX8_59 : am_Lk RX8 59 yX6_copyFrom := Or.inr ⟨_, wd_953⟩
theorem yy_X6_copyFrom : am_Y yX6_copyFrom cX6_copyFrom 2 none 1 := ⟨wd_956, wd_228, by decide +kernel, by decide +kernel, by decide⟩
theorem lk_RX8_63 : am_Lk RX8 63 yX4_copyFrom := Or.inr ⟨_, wd_962⟩
theorem yy_X4_copyFrom : am_Y yX4_copyFrom cX4_copyFrom 2 none 1 := ⟨wd_965, wd_229, by decide +kernel, by decide +kernel, by decide⟩
theorem yi_X4_copyFrom : am_Yi yX4_copyFrom 4 := ⟨wd_964, wd_46, _, rfl, rfl⟩
theorem yi_X6_copyFrom : am_Yi yX6_copyFrom 6 := ⟨wd_955, wd_44, _, rfl, rfl⟩
theorem fl_RX9_66 : am_FL RX9 66 6 11 .int := ⟨vwCl.getD 6 (RX0, TX0, 9), rfl, by decide, by decide, rfl, by decide +kernel, Or.inr ⟨_, wd_434⟩⟩
theorem lk_RX9_78 : am_Lk RX9 78 yX3_blame := Or.inr ⟨_, wd_862⟩
theorem fl_RX9_107 : am_FL RX9 107 3 7 .long := ⟨vwCl.getD 3 (RX0, TX0, 9), rfl, by decide, by decide, rfl, by decide +kernel, Or.inr ⟨_, wd_316⟩⟩
theorem fl_RX9_45 : am_FL RX9 45 8 0 (.object "WaterPatience$Table") := ⟨vwCl.getD 8 (RX0, TX0, 9), rfl, by decide, by decide, rfl, by decide +kernel, Or.inr ⟨_, wd_494⟩⟩
theorem fl_RX9_137 : am_FL RX9 137 6 1 (.array .int) := ⟨vwCl.getD 6 (RX0, TX0, 9), rfl, by decide, by decide, rfl, by decide +kernel, Or.inr ⟨_, wd_405⟩⟩
theorem fl_RX9_89 : am_FL RX9 89 6 6 .int := ⟨vwCl.getD 6 (RX0, TX0, 9), rfl, by decide, by decide, rfl, by decide +kernel, Or.inr ⟨_, wd_416⟩⟩
theorem fl_RX9_86 : am_FL RX9 86 3 6 .int := ⟨vwCl.getD 3 (RX0, TX0, 9), rfl, by decide, by decide, rfl, by decide +kernel, Or.inr ⟨_, wd_313⟩⟩
theorem fl_RX9_29 : am_FL RX9 29 9 4 .int := ⟨vwCl.getD 9 (RX0, TX0, 9), rfl, by decide, by decide, rfl, by decide +kernel, Or.inl wd_364⟩
theorem lk_RX9_145 : am_Lk RX9 145 yX6_layInStock := Or.inr ⟨_, wd_929⟩
theorem lk_RX9_141 : am_Lk RX9 141 yX6_lay := Or.inr ⟨_, wd_925⟩
theorem nf_9_4 : am_nofin 9 4 := fun q h => by obtain rfl := Option.some.inj h; rfl
theorem lk_RX9_82 : am_Lk RX9 82 yX3_wantNumber := Or.inr ⟨_, wd_863⟩
theorem lk_RX9_124 : am_Lk RX9 124 yX8_suitNamed := Or.inr ⟨_, wd_892⟩
theorem lk_RX9_134 : am_Lk RX9 134 yX3_isName := Or.inr ⟨_, wd_924⟩
theorem lk_RX9_131 : am_Lk RX9 131 yX9_takeCard := Or.inl wd_920
theorem yy_X9_takeCard : am_Y yX9_takeCard cX9_takeCard 7 (some .boolean) 3 := ⟨wd_923, wd_225, by decide +kernel, by decide +kernel, by decide⟩
theorem yi_X9_takeCard : am_Yi yX9_takeCard 9 := ⟨wd_922, wd_36, _, rfl, rfl⟩
theorem lk_RX9_118 : am_Lk RX9 118 yX3_isSign := Or.inr ⟨_, wd_904⟩
theorem lk_RX9_33 : am_Lk RX9 33 yX3_step := Or.inr ⟨_, wd_825⟩
theorem fl_RX9_26 : am_FL RX9 26 9 3 .boolean := ⟨vwCl.getD 9 (RX0, TX0, 9), rfl, by decide, by decide, rfl, by decide +kernel, Or.inl wd_363⟩
theorem nf_9_3 : am_nofin 9 3 := fun q h => by obtain rfl := Option.some.inj h; rfl
theorem fl_RX9_42 : am_FL RX9 42 3 9 .int := ⟨vwCl.getD 3 (RX0, TX0, 9), rfl, by decide, by decide, rfl, by decide +kernel, Or.inr ⟨_, wd_320⟩⟩
theorem fl_RX9_162 : am_FL RX9 162 8 8 (.array .int) := ⟨vwCl.getD 8 (RX0, TX0, 9), rfl, by decide, by decide, rfl, by decide +kernel, Or.inr ⟨_, wd_512⟩⟩
theorem fl_RX9_165 : am_FL RX9 165 8 9 (.array .int) := ⟨vwCl.getD 8 (RX0, TX0, 9), rfl, by decide, by decide, rfl, by decide +kernel, Or.inr ⟨_, wd_516⟩⟩
theorem lk_RX9_92 : am_Lk RX9 92 yX3_wantSign := Or.inr ⟨_, wd_868⟩
theorem lk_RX9_128 : am_Lk RX9 128 yX8_fieldNamed := Or.inr ⟨_, wd_896⟩
theorem lk_RX9_121 : am_Lk RX9 121 yX3_wantName := Or.inr ⟨_, wd_884⟩
theorem fl_RX9_149 : am_FL RX9 149 8 4 .int := ⟨vwCl.getD 8 (RX0, TX0, 9), rfl, by decide, by decide, rfl, by decide +kernel, Or.inr ⟨_, wd_504⟩⟩
theorem lk_RX9_155 : am_Lk RX9 155 yX8_addField := Or.inr ⟨_, wd_941⟩
theorem yy_X8_addField : am_Y yX8_addField cX8_addField 5 none 3 := ⟨wd_944, wd_227, by decide +kernel, by decide +kernel, by decide⟩
theorem lk_RX9_159 : am_Lk RX9 159 yX9_takeWater := Or.inl wd_945
theorem yy_X9_takeWater : am_Y yX9_takeWater cX9_takeWater 4 (some .boolean) 3 := ⟨wd_948, wd_225, by decide +kernel, by decide +kernel, by decide⟩
theorem yi_X9_takeWater : am_Yi yX9_takeWater 9 := ⟨wd_947, wd_42, _, rfl, rfl⟩
theorem yi_X8_addField : am_Yi yX8_addField 8 := ⟨wd_943, wd_41, _, rfl, rfl⟩
theorem lk_RX9_152 : am_Lk RX9 152 yX3_wantWord := Or.inr ⟨_, wd_937⟩
theorem yy_X3_wantWord : am_Y yX3_wantWord cX3_wantWord 2 (some .boolean) 1 := ⟨wd_940, wd_220, by decide +kernel, by decide +kernel, by decide⟩
theorem yi_X3_wantWord : am_Yi yX3_wantWord 3 := ⟨wd_939, wd_40, _, rfl, rfl⟩
theorem lk_RX9_104 : am_Lk RX9 104 yX9_wantNewName := Or.inl wd_880
theorem yy_X9_wantNewName : am_Y yX9_wantNewName cX9_wantNewName 4 (some .boolean) 2 := ⟨wd_883, wd_225, by decide +kernel, by decide +kernel, by decide⟩
theorem yi_X9_wantNewName : am_Yi yX9_wantNewName 9 := ⟨wd_882, wd_27, _, rfl, rfl⟩
theorem fl_RX9_20 : am_FL RX9 20 9 1 .boolean := ⟨vwCl.getD 9 (RX0, TX0, 9), rfl, by decide, by decide, rfl, by decide +kernel, Or.inl wd_361⟩
theorem fl_RX9_95 : am_FL RX9 95 6 9 .int := ⟨vwCl.getD 6 (RX0, TX0, 9), rfl, by decide, by decide, rfl, by decide +kernel, Or.inr ⟨_, wd_427⟩⟩
theorem nf_9_1 : am_nofin 9 1 := fun q h => by obtain rfl := Option.some.inj h; rfl
theorem fl_RX9_14 : am_FL RX9 14 9 0 .boolean := ⟨vwCl.getD 9 (RX0, TX0, 9), rfl, by decide, by decide, rfl, by decide +kernel, Or.inl wd_360⟩
theorem nf_9_0 : am_nofin 9 0 := fun q h => by obtain rfl := Option.some.inj h; rfl
theorem fl_RX9_23 : am_FL RX9 23 9 2 .boolean := ⟨vwCl.getD 9 (RX0, TX0, 9), rfl, by decide, by decide, rfl, by decide +kernel, Or.inl wd_362⟩
theorem fl_RX9_98 : am_FL RX9 98 6 10 .int := ⟨vwCl.getD 6 (RX0, TX0, 9), rfl, by decide, by decide, rfl, by decide +kernel, Or.inr ⟨_, wd_430⟩⟩
theorem nf_9_2 : am_nofin 9 2 := fun q h => by obtain rfl := Option.some.inj h; rfl
theorem fl_RX9_101 : am_FL RX9 101 6 7 .int := ⟨vwCl.getD 6 (RX0, TX0, 9), rfl, by decide, by decide, rfl, by decide +kernel, Or.inr ⟨_, wd_421⟩⟩
theorem fl_RX9_115 : am_FL RX9 115 6 8 .int := ⟨vwCl.getD 6 (RX0, TX0, 9), rfl, by decide, by decide, rfl, by decide +kernel, Or.inr ⟨_, wd_424⟩⟩
theorem lk_RX9_111 : am_Lk RX9 111 yX8_addSuit := Or.inr ⟨_, wd_900⟩
theorem yy_X8_addSuit : am_Y yX8_addSuit cX8_addSuit 3 none 1 := ⟨wd_903, wd_227, by decide +kernel, by decide +kernel, by decide⟩
theorem yi_X8_addSuit : am_Yi yX8_addSuit 8 := ⟨wd_902, wd_32, _, rfl, rfl⟩
theorem lk_RX9_75 : am_Lk RX9 75 yX9_takeField := Or.inl wd_933
theorem yy_X9_takeField : am_Y yX9_takeField cX9_takeField 7 (some .boolean) 2 := ⟨wd_936, wd_225, by decide +kernel, by decide +kernel, by decide⟩
theorem yi_X9_takeField : am_Yi yX9_takeField 9 := ⟨wd_935, wd_39, _, rfl, rfl⟩
theorem lk_RX9_71 : am_Lk RX9 71 yX9_takeCards := Or.inl wd_916
theorem yy_X9_takeCards : am_Y yX9_takeCards cX9_takeCards 5 (some .boolean) 3 := ⟨wd_919, wd_225, by decide +kernel, by decide +kernel, by decide⟩
theorem yi_X9_takeCards : am_Yi yX9_takeCards 9 := ⟨wd_918, wd_35, _, rfl, rfl⟩
theorem lk_RX9_63 : am_Lk RX9 63 yX9_addRow := Or.inl wd_913
theorem yy_X9_addRow : am_Y yX9_addRow cX9_addRow 2 (some .boolean) 2 := ⟨wd_915, wd_225, by decide +kernel, by decide +kernel, by decide⟩
theorem lk_RX9_60 : am_Lk RX9 60 yX9_takeRedeals := Or.inl wd_909
theorem yy_X9_takeRedeals : am_Y yX9_takeRedeals cX9_takeRedeals 3 (some .boolean) 2 := ⟨wd_912, wd_225, by decide +kernel, by decide +kernel, by decide⟩
theorem yi_X9_takeRedeals : am_Yi yX9_takeRedeals 9 := ⟨wd_911, wd_34, _, rfl, rfl⟩
theorem lk_RX9_57 : am_Lk RX9 57 yX9_takeLaw := Or.inl wd_905
theorem yy_X9_takeLaw : am_Y yX9_takeLaw cX9_takeLaw 3 (some .boolean) 2 := ⟨wd_908, wd_225, by decide +kernel, by decide +kernel, by decide⟩
theorem yi_X9_takeLaw : am_Yi yX9_takeLaw 9 := ⟨wd_907, wd_33, _, rfl, rfl⟩
theorem lk_RX9_53 : am_Lk RX9 53 yX9_takeSuit := Or.inl wd_876
theorem yy_X9_takeSuit : am_Y yX9_takeSuit cX9_takeSuit 4 (some .boolean) 2 := ⟨wd_879, wd_225, by decide +kernel, by decide +kernel, by decide⟩
theorem yi_X9_takeSuit : am_Yi yX9_takeSuit 9 := ⟨wd_878, wd_26, _, rfl, rfl⟩
theorem lk_RX9_49 : am_Lk RX9 49 yX9_takeRanks := Or.inl wd_858
theorem yy_X9_takeRanks : am_Y yX9_takeRanks cX9_takeRanks 3 (some .boolean) 2 := ⟨wd_861, wd_225, by decide +kernel, by decide +kernel, by decide⟩
theorem yi_X9_takeRanks : am_Yi yX9_takeRanks 9 := ⟨wd_860, wd_22, _, rfl, rfl⟩
theorem lk_RX9_39 : am_Lk RX9 39 yX3_isEnd := Or.inr ⟨_, wd_854⟩
theorem lk_RX9_9 : am_Lk RX9 9 yX8_clear := Or.inr ⟨_, wd_806⟩
theorem yy_X8_clear : am_Y yX8_clear cX8_clear 1 none 0 := ⟨wd_809, wd_227, by decide +kernel, by decide +kernel, by decide⟩
theorem yi_X8_clear : am_Yi yX8_clear 8 := ⟨wd_808, wd_12, _, rfl, rfl⟩
theorem fl_RX10_87 : am_FL RX10 87 10 0 .int := ⟨vwCl.getD 10 (RX0, TX0, 9), rfl, by decide, by decide, rfl, by decide +kernel, Or.inl wd_647⟩
theorem fl_RX10_91 : am_FL RX10 91 10 1 .long := ⟨vwCl.getD 10 (RX0, TX0, 9), rfl, by decide, by decide, rfl, by decide +kernel, Or.inl wd_648⟩
theorem fl_RX10_9 : am_FL RX10 9 10 2 .long := ⟨vwCl.getD 10 (RX0, TX0, 9), rfl, by decide, by decide, rfl, by decide +kernel, Or.inl wd_649⟩
theorem nf_10_0 : am_nofin 10 0 := fun q h => by obtain rfl := Option.some.inj h; rfl
theorem fl_RX10_15 : am_FL RX10 15 10 3 (.array (.object "WaterPatience$Tray")) := ⟨vwCl.getD 10 (RX0, TX0, 9), rfl, by decide, by decide, rfl, by decide +kernel, Or.inl wd_650⟩
theorem lk_RX10_101 : am_Lk RX10 101 yX7_lay := Or.inr ⟨_, wd_728⟩
theorem yy_X7_lay : am_Y yX7_lay cX7_lay 3 none 2 := ⟨wd_731, wd_233, by decide +kernel, by decide +kernel, by decide⟩
theorem lk_RX10_105 : am_Lk RX10 105 yX10_accept := Or.inl wd_735
theorem yy_X10_accept : am_Y yX10_accept cX10_accept 1 (some .boolean) 0 := ⟨wd_738, wd_219, by decide +kernel, by decide +kernel, by decide⟩
theorem yi_X10_accept : am_Yi yX10_accept 10 := ⟨wd_737, wd_2, _, rfl, rfl⟩
theorem yi_X7_lay : am_Yi yX7_lay 7 := ⟨wd_730, wd_1, _, rfl, rfl⟩
theorem lk_RX10_98 : am_Lk RX10 98 yX10_refuse := Or.inl wd_724
theorem yy_X10_refuse : am_Y yX10_refuse cX10_refuse 2 (some .boolean) 1 := ⟨wd_727, wd_219, by decide +kernel, by decide +kernel, by decide⟩
theorem yi_X10_refuse : am_Yi yX10_refuse 10 := ⟨wd_726, wd_0, _, rfl, rfl⟩
theorem lk_RX10_94 : am_Lk RX10 94 yX10_isTray := Or.inl wd_721
theorem yy_X10_isTray : am_Y yX10_isTray cX10_isTray 1 (some .boolean) 1 := ⟨wd_723, wd_219, by decide +kernel, by decide +kernel, by decide⟩
theorem fl_RX10_125 : am_FL RX10 125 7 1 .boolean := ⟨vwCl.getD 7 (RX0, TX0, 9), rfl, by decide, by decide, rfl, by decide +kernel, Or.inr ⟨_, wd_633⟩⟩
theorem lk_RX10_132 : am_Lk RX10 132 yX7_has := Or.inr ⟨_, wd_747⟩
theorem lk_RX10_113 : am_Lk RX10 113 yX7_put := Or.inr ⟨_, wd_751⟩
theorem yy_X7_put : am_Y yX7_put cX7_put 4 none 2 := ⟨wd_754, wd_233, by decide +kernel, by decide +kernel, by decide⟩
theorem yi_X7_put : am_Yi yX7_put 7 := ⟨wd_753, wd_5, _, rfl, rfl⟩
theorem lk_RX10_109 : am_Lk RX10 109 yX10_placeWrong := Or.inl wd_743
theorem yy_X10_placeWrong : am_Y yX10_placeWrong cX10_placeWrong 3 (some .int) 2 := ⟨wd_746, wd_219, by decide +kernel, by decide +kernel, by decide⟩
theorem yi_X10_placeWrong : am_Yi yX10_placeWrong 10 := ⟨wd_745, wd_3, _, rfl, rfl⟩
theorem lk_RX10_121 : am_Lk RX10 121 yX7_at := Or.inr ⟨_, wd_768⟩
theorem yy_X7_at : am_Y yX7_at cX7_at 2 (some .long) 1 := ⟨wd_771, wd_233, by decide +kernel, by decide +kernel, by decide⟩
theorem yi_X7_at : am_Yi yX7_at 7 := ⟨wd_770, wd_8, _, rfl, rfl⟩
theorem lk_RX10_117 : am_Lk RX10 117 yX10_fail := Or.inl wd_764
theorem yy_X10_fail : am_Y yX10_fail cX10_fail 2 (some .int) 1 := ⟨wd_767, wd_219, by decide +kernel, by decide +kernel, by decide⟩
theorem yi_X10_fail : am_Yi yX10_fail 10 := ⟨wd_766, wd_7, _, rfl, rfl⟩
theorem fl_RX10_129 : am_FL RX10 129 7 2 .int := ⟨vwCl.getD 7 (RX0, TX0, 9), rfl, by decide, by decide, rfl, by decide +kernel, Or.inr ⟨_, wd_635⟩⟩
theorem fl_RX10_136 : am_FL RX10 136 7 0 (.array .long) := ⟨vwCl.getD 7 (RX0, TX0, 9), rfl, by decide, by decide, rfl, by decide +kernel, Or.inr ⟨_, wd_631⟩⟩
theorem fl_RX10_146 : am_FL RX10 146 10 5 .int := ⟨vwCl.getD 10 (RX0, TX0, 9), rfl, by decide, by decide, rfl, by decide +kernel, Or.inl wd_652⟩
theorem fl_RX10_19 : am_FL RX10 19 10 4 (.array .byte) := ⟨vwCl.getD 10 (RX0, TX0, 9), rfl, by decide, by decide, rfl, by decide +kernel, Or.inl wd_651⟩
theorem nf_10_5 : am_nofin 10 5 := fun q h => by obtain rfl := Option.some.inj h; rfl
theorem lk_RX10_149 : am_Lk RX10 149 yX10_tapeInt := Or.inl wd_784
theorem yy_X10_tapeInt : am_Y yX10_tapeInt cX10_tapeInt 3 none 1 := ⟨wd_787, wd_219, by decide +kernel, by decide +kernel, by decide⟩
theorem yi_X10_tapeInt : am_Yi yX10_tapeInt 10 := ⟨wd_786, wd_9, _, rfl, rfl⟩
theorem fl_RX10_26 : am_FL RX10 26 10 6 (.object "WaterPatience$Reader") := ⟨vwCl.getD 10 (RX0, TX0, 9), rfl, by decide, by decide, rfl, by decide +kernel, Or.inl wd_653⟩
theorem fl_RX10_33 : am_FL RX10 33 10 7 (.object "WaterPatience$ValleyText") := ⟨vwCl.getD 10 (RX0, TX0, 9), rfl, by decide, by decide, rfl, by decide +kernel, Or.inl wd_654⟩
theorem fl_RX10_51 : am_FL RX10 51 10 10 (.object "WaterPatience$Valley") := ⟨vwCl.getD 10 (RX0, TX0, 9), rfl, by decide, by decide, rfl, by decide +kernel, Or.inl wd_657⟩
theorem fl_RX10_47 : am_FL RX10 47 10 9 (.object "WaterPatience$Valley") := ⟨vwCl.getD 10 (RX0, TX0, 9), rfl, by decide, by decide, rfl, by decide +kernel, Or.inl wd_656⟩
theorem fl_RX10_165 : am_FL RX10 165 8 4 .int := ⟨vwCl.getD 8 (RX0, TX0, 9), rfl, by decide, by decide, rfl, by decide +kernel, Or.inr ⟨_, wd_503⟩⟩
theorem lk_RX10_161 : am_Lk RX10 161 yX8_copyFrom := Or.inr ⟨_, wd_949⟩
theorem yy_X8_copyFrom : am_Y yX8_copyFrom cX8_copyFrom 2 none 1 := ⟨wd_952, wd_227, by decide +kernel, by decide +kernel, by decide⟩
theorem lk_RX10_168 : am_Lk RX10 168 yX10_give := Or.inl wd_968
theorem yy_X10_give : am_Y yX10_give cX10_give 2 (some .int) 1 := ⟨wd_971, wd_219, by decide +kernel, by decide +kernel, by decide⟩
theorem yi_X10_give : am_Yi yX10_give 10 := ⟨wd_970, wd_47, _, rfl, rfl⟩
theorem yi_X8_copyFrom : am_Yi yX8_copyFrom 8 := ⟨wd_951, wd_43, _, rfl, rfl⟩
theorem lk_RX10_153 : am_Lk RX10 153 yX3_open := Or.inr ⟨_, wd_792⟩
theorem yy_X3_open : am_Y yX3_open cX3_open 3 none 2 := ⟨wd_795, wd_220, by decide +kernel, by decide +kernel, by decide⟩
theorem lk_RX10_157 : am_Lk RX10 157 yX9_take := Or.inr ⟨_, wd_802⟩
theorem yy_X9_take : am_Y yX9_take cX9_take 5 (some .boolean) 2 := ⟨wd_805, wd_225, by decide +kernel, by decide +kernel, by decide⟩
theorem yi_X9_take : am_Yi yX9_take 9 := ⟨wd_804, wd_11, _, rfl, rfl⟩
theorem yi_X3_open : am_Yi yX3_open 3 := ⟨wd_794, wd_10, _, rfl, rfl⟩
theorem fl_RX10_40 : am_FL RX10 40 10 8 (.object "WaterPatience$SeasonsText") := ⟨vwCl.getD 10 (RX0, TX0, 9), rfl, by decide, by decide, rfl, by decide +kernel, Or.inl wd_655⟩
theorem fl_RX10_171 : am_FL RX10 171 8 1 (.object "WaterPatience$Seasons") := ⟨vwCl.getD 8 (RX0, TX0, 9), rfl, by decide, by decide, rfl, by decide +kernel, Or.inr ⟨_, wd_499⟩⟩
theorem fl_RX10_183 : am_FL RX10 183 4 2 .int := ⟨vwCl.getD 4 (RX0, TX0, 9), rfl, by decide, by decide, rfl, by decide +kernel, Or.inr ⟨_, wd_480⟩⟩
theorem lk_RX10_178 : am_Lk RX10 178 yX4_copyFrom := Or.inr ⟨_, wd_1022⟩
theorem lk_RX10_175 : am_Lk RX10 175 yX5_take := Or.inr ⟨_, wd_976⟩
theorem yy_X5_take : am_Y yX5_take cX5_take 6 (some .boolean) 3 := ⟨wd_979, wd_226, by decide +kernel, by decide +kernel, by decide⟩
theorem yi_X5_take : am_Yi yX5_take 5 := ⟨wd_978, wd_48, _, rfl, rfl⟩
theorem fl_RX10_186 : am_FL RX10 186 3 10 .int := ⟨vwCl.getD 3 (RX0, TX0, 9), rfl, by decide, by decide, rfl, by decide +kernel, Or.inr ⟨_, wd_324⟩⟩
theorem fl_RX10_189 : am_FL RX10 189 3 11 .int := ⟨vwCl.getD 3 (RX0, TX0, 9), rfl, by decide, by decide, rfl, by decide +kernel, Or.inr ⟨_, wd_326⟩⟩
theorem fl_RX10_192 : am_FL RX10 192 8 0 (.object "WaterPatience$Table") := ⟨vwCl.getD 8 (RX0, TX0, 9), rfl, by decide, by decide, rfl, by decide +kernel, Or.inr ⟨_, wd_496⟩⟩
theorem fl_RX10_196 : am_FL RX10 196 6 6 .int := ⟨vwCl.getD 6 (RX0, TX0, 9), rfl, by decide, by decide, rfl, by decide +kernel, Or.inr ⟨_, wd_417⟩⟩
theorem fl_RX10_201 : am_FL RX10 201 6 7 .int := ⟨vwCl.getD 6 (RX0, TX0, 9), rfl, by decide, by decide, rfl, by decide +kernel, Or.inr ⟨_, wd_422⟩⟩
theorem fl_RX10_204 : am_FL RX10 204 6 9 .int := ⟨vwCl.getD 6 (RX0, TX0, 9), rfl, by decide, by decide, rfl, by decide +kernel, Or.inr ⟨_, wd_428⟩⟩
theorem fl_RX10_207 : am_FL RX10 207 6 10 .int := ⟨vwCl.getD 6 (RX0, TX0, 9), rfl, by decide, by decide, rfl, by decide +kernel, Or.inr ⟨_, wd_431⟩⟩
theorem fl_RX10_210 : am_FL RX10 210 6 11 .int := ⟨vwCl.getD 6 (RX0, TX0, 9), rfl, by decide, by decide, rfl, by decide +kernel, Or.inr ⟨_, wd_436⟩⟩
theorem fl_RX10_213 : am_FL RX10 213 8 5 .int := ⟨vwCl.getD 8 (RX0, TX0, 9), rfl, by decide, by decide, rfl, by decide +kernel, Or.inr ⟨_, wd_506⟩⟩
theorem fl_RX10_220 : am_FL RX10 220 6 1 (.array .int) := ⟨vwCl.getD 6 (RX0, TX0, 9), rfl, by decide, by decide, rfl, by decide +kernel, Or.inr ⟨_, wd_406⟩⟩
theorem fl_RX10_232 : am_FL RX10 232 6 8 .int := ⟨vwCl.getD 6 (RX0, TX0, 9), rfl, by decide, by decide, rfl, by decide +kernel, Or.inr ⟨_, wd_425⟩⟩
theorem lk_RX10_229 : am_Lk RX10 229 yX8_setOf := Or.inr ⟨_, wd_1043⟩
theorem yy_X8_setOf : am_Y yX8_setOf cX8_setOf 4 (some .int) 1 := ⟨wd_1046, wd_227, by decide +kernel, by decide +kernel, by decide⟩
theorem yi_X8_setOf : am_Yi yX8_setOf 8 := ⟨wd_1045, wd_57, _, rfl, rfl⟩
theorem lk_RX10_226 : am_Lk RX10 226 yX6_rowsMany := Or.inr ⟨_, wd_1039⟩
theorem yy_X6_rowsMany : am_Y yX6_rowsMany cX6_rowsMany 3 (some .int) 0 := ⟨wd_1042, wd_228, by decide +kernel, by decide +kernel, by decide⟩
theorem yi_X6_rowsMany : am_Yi yX6_rowsMany 6 := ⟨wd_1041, wd_56, _, rfl, rfl⟩
theorem lk_RX10_223 : am_Lk RX10 223 yX6_homeMany := Or.inr ⟨_, wd_1035⟩
theorem yy_X6_homeMany : am_Y yX6_homeMany cX6_homeMany 3 (some .int) 0 := ⟨wd_1038, wd_228, by decide +kernel, by decide +kernel, by decide⟩
theorem yi_X6_homeMany : am_Yi yX6_homeMany 6 := ⟨wd_1037, wd_55, _, rfl, rfl⟩
theorem lk_RX10_216 : am_Lk RX10 216 yX6_stockMany := Or.inr ⟨_, wd_1031⟩
theorem lk_RX10_238 : am_Lk RX10 238 yX6_cardAt := Or.inr ⟨_, wd_1055⟩
theorem lk_RX10_241 : am_Lk RX10 241 yX10_giveCard := Or.inl wd_1059
theorem yy_X10_giveCard : am_Y yX10_giveCard cX10_giveCard 2 (some .int) 1 := ⟨wd_1062, wd_219, by decide +kernel, by decide +kernel, by decide⟩
theorem yi_X10_giveCard : am_Yi yX10_giveCard 10 := ⟨wd_1061, wd_60, _, rfl, rfl⟩
theorem lk_RX10_235 : am_Lk RX10 235 yX10_isRow := Or.inl wd_1051
theorem yy_X10_isRow : am_Y yX10_isRow cX10_isRow 2 (some .boolean) 1 := ⟨wd_1054, wd_219, by decide +kernel, by decide +kernel, by decide⟩
theorem yi_X10_isRow : am_Yi yX10_isRow 10 := ⟨wd_1053, wd_58, _, rfl, rfl⟩
theorem lk_RX10_244 : am_Lk RX10 244 yX6_topCard := Or.inr ⟨_, wd_1071⟩
theorem lk_RX10_247 : am_Lk RX10 247 yX6_stockCard := Or.inr ⟨_, wd_1079⟩
theorem fl_RX10_253 : am_FL RX10 253 6 5 (.array .int) := ⟨vwCl.getD 6 (RX0, TX0, 9), rfl, by decide, by decide, rfl, by decide +kernel, Or.inr ⟨_, wd_413⟩⟩
theorem lk_RX10_250 : am_Lk RX10 250 yX10_isSuit := Or.inl wd_1088
theorem yy_X10_isSuit : am_Y yX10_isSuit cX10_isSuit 2 (some .boolean) 1 := ⟨wd_1091, wd_219, by decide +kernel, by decide +kernel, by decide⟩
theorem yi_X10_isSuit : am_Yi yX10_isSuit 10 := ⟨wd_1090, wd_63, _, rfl, rfl⟩
theorem fl_RX10_259 : am_FL RX10 259 8 6 (.array .int) := ⟨vwCl.getD 8 (RX0, TX0, 9), rfl, by decide, by decide, rfl, by decide +kernel, Or.inr ⟨_, wd_508⟩⟩
theorem fl_RX10_262 : am_FL RX10 262 8 7 (.array .int) := ⟨vwCl.getD 8 (RX0, TX0, 9), rfl, by decide, by decide, rfl, by decide +kernel, Or.inr ⟨_, wd_510⟩⟩
theorem fl_RX10_265 : am_FL RX10 265 8 8 (.array .int) := ⟨vwCl.getD 8 (RX0, TX0, 9), rfl, by decide, by decide, rfl, by decide +kernel, Or.inr ⟨_, wd_514⟩⟩
theorem fl_RX10_268 : am_FL RX10 268 8 9 (.array .int) := ⟨vwCl.getD 8 (RX0, TX0, 9), rfl, by decide, by decide, rfl, by decide +kernel, Or.inr ⟨_, wd_517⟩⟩
theorem fl_RX10_271 : am_FL RX10 271 8 10 (.array .int) := ⟨vwCl.getD 8 (RX0, TX0, 9), rfl, by decide, by decide, rfl, by decide +kernel, Or.inr ⟨_, wd_519⟩⟩
theorem lk_RX10_256 : am_Lk RX10 256 yX10_isField := Or.inl wd_1096
theorem yy_X10_isField : am_Y yX10_isField cX10_isField 2 (some .boolean) 1 := ⟨wd_1099, wd_219, by decide +kernel, by decide +kernel, by decide⟩
theorem yi_X10_isField : am_Yi yX10_isField 10 := ⟨wd_1098, wd_64, _, rfl, rfl⟩
theorem fl_RX10_274 : am_FL RX10 274 7 3 .int := ⟨vwCl.getD 7 (RX0, TX0, 9), rfl, by decide, by decide, rfl, by decide +kernel, Or.inr ⟨_, wd_637⟩⟩
theorem lk_RX10_429 : am_Lk RX10 429 yX6_isSource := Or.inr ⟨_, wd_1112⟩
theorem lk_RX10_432 : am_Lk RX10 432 yX6_isTarget := Or.inr ⟨_, wd_1116⟩
theorem lk_RX10_283 : am_Lk RX10 283 yX8_play := Or.inr ⟨_, wd_1140⟩
theorem lk_RX10_280 : am_Lk RX10 280 yX6_allows := Or.inr ⟨_, wd_1120⟩
theorem lk_RX10_277 : am_Lk RX10 277 yX10_arePlaces := Or.inl wd_1108
theorem yy_X10_arePlaces : am_Y yX10_arePlaces cX10_arePlaces 3 (some .boolean) 2 := ⟨wd_1111, wd_219, by decide +kernel, by decide +kernel, by decide⟩
theorem yi_X10_arePlaces : am_Yi yX10_arePlaces 10 := ⟨wd_1110, wd_65, _, rfl, rfl⟩
theorem lk_RX10_289 : am_Lk RX10 289 yX6_turnUp := Or.inr ⟨_, wd_1175⟩
theorem lk_RX10_286 : am_Lk RX10 286 yX6_hasDeal := Or.inr ⟨_, wd_1171⟩
theorem lk_RX10_292 : am_Lk RX10 292 yX8_bringHome := Or.inr ⟨_, wd_1186⟩
theorem lk_RX10_295 : am_Lk RX10 295 yX8_passDays := Or.inr ⟨_, wd_1210⟩
theorem lk_RX10_298 : am_Lk RX10 298 yX8_wet := Or.inr ⟨_, wd_1222⟩
theorem fl_RX10_78 : am_FL RX10 78 10 17 (.object "WaterPatience$Packs") := ⟨vwCl.getD 10 (RX0, TX0, 9), rfl, by decide, by decide, rfl, by decide +kernel, Or.inl wd_664⟩
theorem lk_RX10_304 : am_Lk RX10 304 yX1_dealOut := Or.inr ⟨_, wd_1238⟩
theorem lk_RX10_301 : am_Lk RX10 301 yX10_isSeed := Or.inl wd_1235
theorem yy_X10_isSeed : am_Y yX10_isSeed cX10_isSeed 1 (some .boolean) 1 := ⟨wd_1237, wd_219, by decide +kernel, by decide +kernel, by decide⟩
theorem fl_RX10_82 : am_FL RX10 82 10 18 (.array .int) := ⟨vwCl.getD 10 (RX0, TX0, 9), rfl, by decide, by decide, rfl, by decide +kernel, Or.inl wd_665⟩
theorem lk_RX10_308 : am_Lk RX10 308 yX6_listMoves := Or.inr ⟨_, wd_1261⟩
theorem lk_RX10_312 : am_Lk RX10 312 yX6_ripen := Or.inr ⟨_, wd_1274⟩
theorem lk_RX10_315 : am_Lk RX10 315 yX6_riseMany := Or.inr ⟨_, wd_1275⟩
theorem lk_RX10_318 : am_Lk RX10 318 yX6_riseRanks := Or.inr ⟨_, wd_1280⟩
theorem lk_RX10_324 : am_Lk RX10 324 yX6_nextCard := Or.inr ⟨_, wd_1295⟩
theorem yy_X6_nextCard : am_Y yX6_nextCard cX6_nextCard 3 (some .int) 1 := ⟨wd_1298, wd_228, by decide +kernel, by decide +kernel, by decide⟩
theorem yi_X6_nextCard : am_Yi yX6_nextCard 6 := ⟨wd_1297, wd_91, _, rfl, rfl⟩
theorem lk_RX10_321 : am_Lk RX10 321 yX10_nextWrong := Or.inl wd_1291
theorem yy_X10_nextWrong : am_Y yX10_nextWrong cX10_nextWrong 2 (some .int) 1 := ⟨wd_1294, wd_219, by decide +kernel, by decide +kernel, by decide⟩
theorem yi_X10_nextWrong : am_Yi yX10_nextWrong 10 := ⟨wd_1293, wd_90, _, rfl, rfl⟩
theorem lk_RX10_327 : am_Lk RX10 327 yX6_whereIs := Or.inr ⟨_, wd_1315⟩
theorem lk_RX10_330 : am_Lk RX10 330 yX6_cardsOver := Or.inr ⟨_, wd_1320⟩
theorem yy_X6_cardsOver : am_Y yX6_cardsOver cX6_cardsOver 3 (some .int) 1 := ⟨wd_1323, wd_228, by decide +kernel, by decide +kernel, by decide⟩
theorem yi_X6_cardsOver : am_Yi yX6_cardsOver 6 := ⟨wd_1322, wd_95, _, rfl, rfl⟩
theorem lk_RX10_333 : am_Lk RX10 333 yX8_daysLeft := Or.inr ⟨_, wd_1332⟩
theorem yy_X8_daysLeft : am_Y yX8_daysLeft cX8_daysLeft 2 (some .int) 1 := ⟨wd_1335, wd_227, by decide +kernel, by decide +kernel, by decide⟩
theorem yi_X8_daysLeft : am_Yi yX8_daysLeft 8 := ⟨wd_1334, wd_96, _, rfl, rfl⟩
theorem fl_RX10_71 : am_FL RX10 71 10 16 (.object "WaterPatience$Plans") := ⟨vwCl.getD 10 (RX0, TX0, 9), rfl, by decide, by decide, rfl, by decide +kernel, Or.inl wd_663⟩
theorem lk_RX10_342 : am_Lk RX10 342 yX2_reach := Or.inr ⟨_, wd_1351⟩
theorem lk_RX10_336 : am_Lk RX10 336 yX10_isSet := Or.inl wd_1344
theorem yy_X10_isSet : am_Y yX10_isSet cX10_isSet 2 (some .boolean) 1 := ⟨wd_1347, wd_219, by decide +kernel, by decide +kernel, by decide⟩
theorem lk_RX10_339 : am_Lk RX10 339 yX10_areTurns := Or.inl wd_1348
theorem yy_X10_areTurns : am_Y yX10_areTurns cX10_areTurns 1 (some .boolean) 1 := ⟨wd_1350, wd_219, by decide +kernel, by decide +kernel, by decide⟩
theorem yi_X10_isSet : am_Yi yX10_isSet 10 := ⟨wd_1346, wd_97, _, rfl, rfl⟩
theorem lk_RX10_346 : am_Lk RX10 346 yX2_openingOf := Or.inr ⟨_, wd_1371⟩
theorem yy_X2_openingOf : am_Y yX2_openingOf cX2_openingOf 2 (some .int) 1 := ⟨wd_1374, wd_231, by decide +kernel, by decide +kernel, by decide⟩
theorem yi_X2_openingOf : am_Yi yX2_openingOf 2 := ⟨wd_1373, wd_99, _, rfl, rfl⟩
theorem lk_RX10_349 : am_Lk RX10 349 yX2_duel := Or.inr ⟨_, wd_1379⟩
theorem lk_RX10_353 : am_Lk RX10 353 yX2_bestSwap := Or.inr ⟨_, wd_1387⟩
theorem yy_X2_bestSwap : am_Y yX2_bestSwap cX2_bestSwap 6 (some .int) 2 := ⟨wd_1390, wd_231, by decide +kernel, by decide +kernel, by decide⟩
theorem yi_X2_bestSwap : am_Yi yX2_bestSwap 2 := ⟨wd_1389, wd_100, _, rfl, rfl⟩
theorem fl_RX10_357 : am_FL RX10 357 2 2 .int := ⟨vwCl.getD 2 (RX0, TX0, 9), rfl, by decide, by decide, rfl, by decide +kernel, Or.inr ⟨_, wd_593⟩⟩
theorem fl_RX10_360 : am_FL RX10 360 2 3 .int := ⟨vwCl.getD 2 (RX0, TX0, 9), rfl, by decide, by decide, rfl, by decide +kernel, Or.inr ⟨_, wd_595⟩⟩
theorem lk_RX10_363 : am_Lk RX10 363 yX1_tryOut := Or.inr ⟨_, wd_1409⟩
theorem lk_RX10_366 : am_Lk RX10 366 yX1_wetsOf := Or.inr ⟨_, wd_1416⟩
theorem nf_10_2 : am_nofin 10 2 := fun q h => by obtain rfl := Option.some.inj h; rfl
theorem nf_10_1 : am_nofin 10 1 := fun q h => by obtain rfl := Option.some.inj h; rfl
theorem lk_RX10_425 : am_Lk RX10 425 yX10_commonDivisor := Or.inl wd_1439
theorem yy_X10_commonDivisor : am_Y yX10_commonDivisor cX10_commonDivisor 11 (some .long) 2 := ⟨wd_1441, wd_219, by decide +kernel, by decide +kernel, by decide⟩
theorem fl_RX10_377 : am_FL RX10 377 1 2 (.array .int) := ⟨vwCl.getD 1 (RX0, TX0, 9), rfl, by decide, by decide, rfl, by decide +kernel, Or.inr ⟨_, wd_617⟩⟩
theorem lk_RX10_373 : am_Lk RX10 373 yX1_sumUp := Or.inr ⟨_, wd_1428⟩
theorem yy_X1_sumUp : am_Y yX1_sumUp cX1_sumUp 6 none 3 := ⟨wd_1431, wd_232, by decide +kernel, by decide +kernel, by decide⟩
theorem lk_RX10_380 : am_Lk RX10 380 yX10_tellFraction := Or.inl wd_1435
theorem yy_X10_tellFraction : am_Y yX10_tellFraction cX10_tellFraction 7 none 2 := ⟨wd_1438, wd_219, by decide +kernel, by decide +kernel, by decide⟩
theorem yi_X10_tellFraction : am_Yi yX10_tellFraction 10 := ⟨wd_1437, wd_106, _, rfl, rfl⟩
theorem yi_X1_sumUp : am_Yi yX1_sumUp 1 := ⟨wd_1430, wd_105, _, rfl, rfl⟩
theorem lk_RX10_369 : am_Lk RX10 369 yX10_areSeeds := Or.inl wd_1425
theorem yy_X10_areSeeds : am_Y yX10_areSeeds cX10_areSeeds 3 (some .boolean) 3 := ⟨wd_1427, wd_219, by decide +kernel, by decide +kernel, by decide⟩
theorem lk_RX10_388 : am_Lk RX10 388 yX10_isLike := Or.inl wd_1454
theorem yy_X10_isLike : am_Y yX10_isLike cX10_isLike 4 (some .boolean) 2 := ⟨wd_1457, wd_219, by decide +kernel, by decide +kernel, by decide⟩
theorem yi_X10_isLike : am_Yi yX10_isLike 10 := ⟨wd_1456, wd_108, _, rfl, rfl⟩
theorem lk_RX10_384 : am_Lk RX10 384 yX10_likeWrong := Or.inl wd_1450
theorem yy_X10_likeWrong : am_Y yX10_likeWrong cX10_likeWrong 4 (some .int) 3 := ⟨wd_1453, wd_219, by decide +kernel, by decide +kernel, by decide⟩
theorem yi_X10_likeWrong : am_Yi yX10_likeWrong 10 := ⟨wd_1452, wd_107, _, rfl, rfl⟩
theorem fl_RX10_392 : am_FL RX10 392 1 0 (.object "WaterPatience$Table") := ⟨vwCl.getD 1 (RX0, TX0, 9), rfl, by decide, by decide, rfl, by decide +kernel, Or.inr ⟨_, wd_614⟩⟩
theorem fl_RX10_393 : am_FL RX10 393 4 3 .boolean := ⟨vwCl.getD 4 (RX0, TX0, 9), rfl, by decide, by decide, rfl, by decide +kernel, Or.inr ⟨_, wd_483⟩⟩
theorem fl_RX10_61 : am_FL RX10 61 10 13 (.object "WaterPatience$Life") := ⟨vwCl.getD 10 (RX0, TX0, 9), rfl, by decide, by decide, rfl, by decide +kernel, Or.inl wd_660⟩
theorem fl_RX10_401 : am_FL RX10 401 0 3 .int := ⟨vwCl.getD 0 (RX0, TX0, 9), rfl, by decide, by decide, rfl, by decide +kernel, Or.inr ⟨_, wd_554⟩⟩
theorem lk_RX10_394 : am_Lk RX10 394 yX0_pass := Or.inr ⟨_, wd_1470⟩
theorem yy_X0_pass : am_Y yX0_pass cX0_pass 6 none 2 := ⟨wd_1473, wd_230, by decide +kernel, by decide +kernel, by decide⟩
theorem fl_RX10_398 : am_FL RX10 398 10 15 .boolean := ⟨vwCl.getD 10 (RX0, TX0, 9), rfl, by decide, by decide, rfl, by decide +kernel, Or.inl wd_662⟩
theorem nf_10_15 : am_nofin 10 15 := fun q h => by obtain rfl := Option.some.inj h; rfl
theorem yi_X0_pass : am_Yi yX0_pass 0 := ⟨wd_1472, wd_109, _, rfl, rfl⟩
theorem fl_RX10_404 : am_FL RX10 404 0 4 .int := ⟨vwCl.getD 0 (RX0, TX0, 9), rfl, by decide, by decide, rfl, by decide +kernel, Or.inr ⟨_, wd_556⟩⟩
theorem fl_RX10_407 : am_FL RX10 407 0 5 .int := ⟨vwCl.getD 0 (RX0, TX0, 9), rfl, by decide, by decide, rfl, by decide +kernel, Or.inr ⟨_, wd_558⟩⟩
theorem fl_RX10_410 : am_FL RX10 410 0 6 .int := ⟨vwCl.getD 0 (RX0, TX0, 9), rfl, by decide, by decide, rfl, by decide +kernel, Or.inr ⟨_, wd_560⟩⟩
theorem fl_RX10_413 : am_FL RX10 413 0 7 .int := ⟨vwCl.getD 0 (RX0, TX0, 9), rfl, by decide, by decide, rfl, by decide +kernel, Or.inr ⟨_, wd_562⟩⟩
theorem fl_RX10_416 : am_FL RX10 416 0 8 .boolean := ⟨vwCl.getD 0 (RX0, TX0, 9), rfl, by decide, by decide, rfl, by decide +kernel, Or.inr ⟨_, wd_564⟩⟩
theorem fl_RX10_65 : am_FL RX10 65 10 14 (.object "WaterPatience$Life") := ⟨vwCl.getD 10 (RX0, TX0, 9), rfl, by decide, by decide, rfl, by decide +kernel, Or.inl wd_661⟩
theorem lk_RX10_419 : am_Lk RX10 419 yX8_allWater := Or.inr ⟨_, wd_1538⟩
theorem yy_X8_allWater : am_Y yX8_allWater cX8_allWater 3 (some .int) 0 := ⟨wd_1541, wd_227, by decide +kernel, by decide +kernel, by decide⟩
theorem yi_X8_allWater : am_Yi yX8_allWater 8 := ⟨wd_1540, wd_120, _, rfl, rfl⟩
theorem fl_RX10_422 : am_FL RX10 422 10 12 .int := ⟨vwCl.getD 10 (RX0, TX0, 9), rfl, by decide, by decide, rfl, by decide +kernel, Or.inl wd_659⟩
theorem fl_RX10_54 : am_FL RX10 54 10 11 (.array (.object "WaterPatience$Valley")) := ⟨vwCl.getD 10 (RX0, TX0, 9), rfl, by decide, by decide, rfl, by decide +kernel, Or.inl wd_658⟩
theorem nf_10_12 : am_nofin 10 12 := fun q h => by obtain rfl := Option.some.inj h; rfl
theorem fl_RX11_62 : am_FL RX11 62 11 0 .int := ⟨vwCl.getD 11 (RX0, TX0, 9), rfl, by decide, by decide, rfl, by decide +kernel, Or.inl wd_1556⟩
theorem fl_RX11_59 : am_FL RX11 59 11 1 .int := ⟨vwCl.getD 11 (RX0, TX0, 9), rfl, by decide, by decide, rfl, by decide +kernel, Or.inl wd_1557⟩
theorem nf_11_1 : am_nofin 11 1 := fun q h => by obtain rfl := Option.some.inj h; rfl
theorem fl_RX11_65 : am_FL RX11 65 11 2 .long := ⟨vwCl.getD 11 (RX0, TX0, 9), rfl, by decide, by decide, rfl, by decide +kernel, Or.inl wd_1558⟩
theorem fl_RX11_7 : am_FL RX11 7 11 3 .long := ⟨vwCl.getD 11 (RX0, TX0, 9), rfl, by decide, by decide, rfl, by decide +kernel, Or.inl wd_1559⟩
theorem nf_11_0 : am_nofin 11 0 := fun q h => by obtain rfl := Option.some.inj h; rfl
theorem nf_11_3 : am_nofin 11 3 := fun q h => by obtain rfl := Option.some.inj h; rfl
theorem nf_11_2 : am_nofin 11 2 := fun q h => by obtain rfl := Option.some.inj h; rfl
theorem fl_RX11_13 : am_FL RX11 13 11 4 (.array .int) := ⟨vwCl.getD 11 (RX0, TX0, 9), rfl, by decide, by decide, rfl, by decide +kernel, Or.inl wd_1560⟩
theorem fl_RX11_17 : am_FL RX11 17 11 5 (.array .int) := ⟨vwCl.getD 11 (RX0, TX0, 9), rfl, by decide, by decide, rfl, by decide +kernel, Or.inl wd_1561⟩
theorem fl_RX11_20 : am_FL RX11 20 11 6 (.array .long) := ⟨vwCl.getD 11 (RX0, TX0, 9), rfl, by decide, by decide, rfl, by decide +kernel, Or.inl wd_1562⟩
theorem lk_RX11_74 : am_Lk RX11 74 yX11_no := Or.inl wd_1723
theorem yy_X11_no : am_Y yX11_no cX11_no 2 (some .boolean) 1 := ⟨wd_1726, wd_234, by decide +kernel, by decide +kernel, by decide⟩
theorem yi_X11_no : am_Yi yX11_no 11 := ⟨wd_1725, wd_121, _, rfl, rfl⟩
theorem lk_RX11_78 : am_Lk RX11 78 yX11_trayed := Or.inl wd_1735
theorem yy_X11_trayed : am_Y yX11_trayed cX11_trayed 2 (some .int) 1 := ⟨wd_1738, wd_234, by decide +kernel, by decide +kernel, by decide⟩
theorem yi_X11_trayed : am_Yi yX11_trayed 11 := ⟨wd_1737, wd_123, _, rfl, rfl⟩
theorem lk_RX11_86 : am_Lk RX11 86 yX11_cut := Or.inl wd_1739
theorem yy_X11_cut : am_Y yX11_cut cX11_cut 3 (some .long) 2 := ⟨wd_1741, wd_234, by decide +kernel, by decide +kernel, by decide⟩
theorem lk_RX11_82 : am_Lk RX11 82 yX11_placed := Or.inl wd_1731
theorem yy_X11_placed : am_Y yX11_placed cX11_placed 4 (some .int) 2 := ⟨wd_1734, wd_234, by decide +kernel, by decide +kernel, by decide⟩
theorem yi_X11_placed : am_Yi yX11_placed 11 := ⟨wd_1733, wd_122, _, rfl, rfl⟩
theorem lk_RX11_94 : am_Lk RX11 94 yX11_isIn := Or.inl wd_1825
theorem yy_X11_isIn : am_Y yX11_isIn cX11_isIn 6 (some .boolean) 3 := ⟨wd_1827, wd_234, by decide +kernel, by decide +kernel, by decide⟩
theorem fl_RX11_98 : am_FL RX11 98 11 9 .int := ⟨vwCl.getD 11 (RX0, TX0, 9), rfl, by decide, by decide, rfl, by decide +kernel, Or.inl wd_1565⟩
theorem fl_RX11_24 : am_FL RX11 24 11 7 (.array .byte) := ⟨vwCl.getD 11 (RX0, TX0, 9), rfl, by decide, by decide, rfl, by decide +kernel, Or.inl wd_1563⟩
theorem fl_RX11_101 : am_FL RX11 101 11 16 .int := ⟨vwCl.getD 11 (RX0, TX0, 9), rfl, by decide, by decide, rfl, by decide +kernel, Or.inl wd_1572⟩
theorem fl_RX11_104 : am_FL RX11 104 11 15 .int := ⟨vwCl.getD 11 (RX0, TX0, 9), rfl, by decide, by decide, rfl, by decide +kernel, Or.inl wd_1571⟩
theorem fl_RX11_116 : am_FL RX11 116 11 19 .long := ⟨vwCl.getD 11 (RX0, TX0, 9), rfl, by decide, by decide, rfl, by decide +kernel, Or.inl wd_1575⟩
theorem fl_RX11_129 : am_FL RX11 129 11 17 .int := ⟨vwCl.getD 11 (RX0, TX0, 9), rfl, by decide, by decide, rfl, by decide +kernel, Or.inl wd_1573⟩
theorem fl_RX11_110 : am_FL RX11 110 11 14 .int := ⟨vwCl.getD 11 (RX0, TX0, 9), rfl, by decide, by decide, rfl, by decide +kernel, Or.inl wd_1570⟩
theorem nf_11_14 : am_nofin 11 14 := fun q h => by obtain rfl := Option.some.inj h; rfl
theorem lk_RX11_132 : am_Lk RX11 132 yX11_isSignByte := Or.inl wd_1787
theorem yy_X11_isSignByte : am_Y yX11_isSignByte cX11_isSignByte 2 (some .boolean) 1 := ⟨wd_1790, wd_234, by decide +kernel, by decide +kernel, by decide⟩
theorem yi_X11_isSignByte : am_Yi yX11_isSignByte 11 := ⟨wd_1789, wd_128, _, rfl, rfl⟩
theorem nf_11_17 : am_nofin 11 17 := fun q h => by obtain rfl := Option.some.inj h; rfl
theorem nf_11_16 : am_nofin 11 16 := fun q h => by obtain rfl := Option.some.inj h; rfl
theorem lk_RX11_107 : am_Lk RX11 107 yX11_look2 := Or.inl wd_1775
theorem yy_X11_look2 : am_Y yX11_look2 cX11_look2 2 (some .int) 1 := ⟨wd_1778, wd_234, by decide +kernel, by decide +kernel, by decide⟩
theorem lk_RX11_126 : am_Lk RX11 126 yX11_isDigit := Or.inl wd_1784
theorem yy_X11_isDigit : am_Y yX11_isDigit cX11_isDigit 1 (some .boolean) 1 := ⟨wd_1786, wd_234, by decide +kernel, by decide +kernel, by decide⟩
theorem yi_X11_look2 : am_Yi yX11_look2 11 := ⟨wd_1777, wd_127, _, rfl, rfl⟩
theorem fl_RX11_123 : am_FL RX11 123 11 18 .int := ⟨vwCl.getD 11 (RX0, TX0, 9), rfl, by decide, by decide, rfl, by decide +kernel, Or.inl wd_1574⟩
theorem nf_11_18 : am_nofin 11 18 := fun q h => by obtain rfl := Option.some.inj h; rfl
theorem nf_11_19 : am_nofin 11 19 := fun q h => by obtain rfl := Option.some.inj h; rfl
theorem lk_RX11_113 : am_Lk RX11 113 yX11_isLetter := Or.inl wd_1779
theorem yy_X11_isLetter : am_Y yX11_isLetter cX11_isLetter 1 (some .boolean) 1 := ⟨wd_1781, wd_234, by decide +kernel, by decide +kernel, by decide⟩
theorem nf_11_15 : am_nofin 11 15 := fun q h => by obtain rfl := Option.some.inj h; rfl
theorem lk_RX11_135 : am_Lk RX11 135 yX11_spelled := Or.inl wd_1799
theorem yy_X11_spelled : am_Y yX11_spelled cX11_spelled 8 (some .long) 6 := ⟨wd_1801, wd_234, by decide +kernel, by decide +kernel, by decide⟩
theorem lk_RX11_139 : am_Lk RX11 139 yX11_isWord := Or.inl wd_1802
theorem yy_X11_isWord : am_Y yX11_isWord cX11_isWord 3 (some .boolean) 1 := ⟨wd_1805, wd_234, by decide +kernel, by decide +kernel, by decide⟩
theorem yi_X11_isWord : am_Yi yX11_isWord 11 := ⟨wd_1804, wd_131, _, rfl, rfl⟩
theorem lk_RX11_145 : am_Lk RX11 145 yX11_isWater := Or.inl wd_1893
theorem yy_X11_isWater : am_Y yX11_isWater cX11_isWater 1 (some .boolean) 0 := ⟨wd_1896, wd_234, by decide +kernel, by decide +kernel, by decide⟩
theorem yi_X11_isWater : am_Yi yX11_isWater 11 := ⟨wd_1895, wd_152, _, rfl, rfl⟩
theorem lk_RX11_182 : am_Lk RX11 182 yX11_stepWord := Or.inl wd_1885
theorem yy_X11_stepWord : am_Y yX11_stepWord cX11_stepWord 1 (some .int) 0 := ⟨wd_1888, wd_234, by decide +kernel, by decide +kernel, by decide⟩
theorem lk_RX11_186 : am_Lk RX11 186 yX11_testWord := Or.inl wd_1889
theorem yy_X11_testWord : am_Y yX11_testWord cX11_testWord 1 (some .int) 0 := ⟨wd_1892, wd_234, by decide +kernel, by decide +kernel, by decide⟩
theorem lk_RX11_189 : am_Lk RX11 189 yX11_isEnd := Or.inl wd_1897
theorem yy_X11_isEnd : am_Y yX11_isEnd cX11_isEnd 1 (some .boolean) 0 := ⟨wd_1900, wd_234, by decide +kernel, by decide +kernel, by decide⟩
theorem yi_X11_isEnd : am_Yi yX11_isEnd 11 := ⟨wd_1899, wd_153, _, rfl, rfl⟩
theorem yi_X11_testWord : am_Yi yX11_testWord 11 := ⟨wd_1891, wd_151, _, rfl, rfl⟩
theorem yi_X11_stepWord : am_Yi yX11_stepWord 11 := ⟨wd_1887, wd_150, _, rfl, rfl⟩
theorem lk_RX11_149 : am_Lk RX11 149 yX11_isRanks := Or.inl wd_1795
theorem yy_X11_isRanks : am_Y yX11_isRanks cX11_isRanks 1 (some .boolean) 0 := ⟨wd_1798, wd_234, by decide +kernel, by decide +kernel, by decide⟩
theorem lk_RX11_152 : am_Lk RX11 152 yX11_isSuit := Or.inl wd_1837
theorem yy_X11_isSuit : am_Y yX11_isSuit cX11_isSuit 1 (some .boolean) 0 := ⟨wd_1840, wd_234, by decide +kernel, by decide +kernel, by decide⟩
theorem lk_RX11_155 : am_Lk RX11 155 yX11_isRed := Or.inl wd_1857
theorem yy_X11_isRed : am_Y yX11_isRed cX11_isRed 1 (some .boolean) 0 := ⟨wd_1860, wd_234, by decide +kernel, by decide +kernel, by decide⟩
theorem lk_RX11_158 : am_Lk RX11 158 yX11_isLaw := Or.inl wd_1828
theorem yy_X11_isLaw : am_Y yX11_isLaw cX11_isLaw 1 (some .boolean) 0 := ⟨wd_1831, wd_234, by decide +kernel, by decide +kernel, by decide⟩
theorem lk_RX11_161 : am_Lk RX11 161 yX11_isRedeals := Or.inl wd_1832
theorem yy_X11_isRedeals : am_Y yX11_isRedeals cX11_isRedeals 1 (some .boolean) 0 := ⟨wd_1835, wd_234, by decide +kernel, by decide +kernel, by decide⟩
theorem lk_RX11_164 : am_Lk RX11 164 yX11_isRow := Or.inl wd_1861
theorem yy_X11_isRow : am_Y yX11_isRow cX11_isRow 1 (some .boolean) 0 := ⟨wd_1864, wd_234, by decide +kernel, by decide +kernel, by decide⟩
theorem lk_RX11_167 : am_Lk RX11 167 yX11_isStock := Or.inl wd_1865
theorem yy_X11_isStock : am_Y yX11_isStock cX11_isStock 1 (some .boolean) 0 := ⟨wd_1868, wd_234, by decide +kernel, by decide +kernel, by decide⟩
theorem lk_RX11_170 : am_Lk RX11 170 yX11_isField := Or.inl wd_1869
theorem yy_X11_isField : am_Y yX11_isField cX11_isField 1 (some .boolean) 0 := ⟨wd_1872, wd_234, by decide +kernel, by decide +kernel, by decide⟩
theorem lk_RX11_173 : am_Lk RX11 173 yX11_isOf := Or.inl wd_1873
theorem yy_X11_isOf : am_Y yX11_isOf cX11_isOf 1 (some .boolean) 0 := ⟨wd_1876, wd_234, by decide +kernel, by decide +kernel, by decide⟩
theorem lk_RX11_176 : am_Lk RX11 176 yX11_isDries := Or.inl wd_1877
theorem yy_X11_isDries : am_Y yX11_isDries cX11_isDries 1 (some .boolean) 0 := ⟨wd_1880, wd_234, by decide +kernel, by decide +kernel, by decide⟩
theorem lk_RX11_179 : am_Lk RX11 179 yX11_isHigh := Or.inl wd_1881
theorem yy_X11_isHigh : am_Y yX11_isHigh cX11_isHigh 1 (some .boolean) 0 := ⟨wd_1884, wd_234, by decide +kernel, by decide +kernel, by decide⟩
theorem yi_X11_isHigh : am_Yi yX11_isHigh 11 := ⟨wd_1883, wd_149, _, rfl, rfl⟩
theorem yi_X11_isDries : am_Yi yX11_isDries 11 := ⟨wd_1879, wd_148, _, rfl, rfl⟩
theorem yi_X11_isOf : am_Yi yX11_isOf 11 := ⟨wd_1875, wd_147, _, rfl, rfl⟩
theorem yi_X11_isField : am_Yi yX11_isField 11 := ⟨wd_1871, wd_146, _, rfl, rfl⟩
theorem yi_X11_isStock : am_Yi yX11_isStock 11 := ⟨wd_1867, wd_145, _, rfl, rfl⟩
theorem yi_X11_isRow : am_Yi yX11_isRow 11 := ⟨wd_1863, wd_144, _, rfl, rfl⟩
theorem yi_X11_isRedeals : am_Yi yX11_isRedeals 11 := ⟨wd_1834, wd_137, _, rfl, rfl⟩
theorem yi_X11_isLaw : am_Yi yX11_isLaw 11 := ⟨wd_1830, wd_136, _, rfl, rfl⟩
theorem yi_X11_isRed : am_Yi yX11_isRed 11 := ⟨wd_1859, wd_143, _, rfl, rfl⟩
theorem yi_X11_isSuit : am_Yi yX11_isSuit 11 := ⟨wd_1839, wd_138, _, rfl, rfl⟩
theorem yi_X11_isRanks : am_Yi yX11_isRanks 11 := ⟨wd_1797, wd_130, _, rfl, rfl⟩
theorem lk_RX11_192 : am_Lk RX11 192 yX11_isKept := Or.inl wd_1853
theorem yy_X11_isKept : am_Y yX11_isKept cX11_isKept 1 (some .boolean) 0 := ⟨wd_1856, wd_234, by decide +kernel, by decide +kernel, by decide⟩
theorem yi_X11_isKept : am_Yi yX11_isKept 11 := ⟨wd_1855, wd_142, _, rfl, rfl⟩
theorem fl_RX11_195 : am_FL RX11 195 11 12 .int := ⟨vwCl.getD 11 (RX0, TX0, 9), rfl, by decide, by decide, rfl, by decide +kernel, Or.inl wd_1568⟩
theorem fl_RX11_198 : am_FL RX11 198 11 13 .int := ⟨vwCl.getD 11 (RX0, TX0, 9), rfl, by decide, by decide, rfl, by decide +kernel, Or.inl wd_1569⟩
theorem nf_11_13 : am_nofin 11 13 := fun q h => by obtain rfl := Option.some.inj h; rfl
theorem nf_11_12 : am_nofin 11 12 := fun q h => by obtain rfl := Option.some.inj h; rfl
theorem lk_RX11_201 : am_Lk RX11 201 yX11_fail := Or.inl wd_1814
theorem yy_X11_fail : am_Y yX11_fail cX11_fail 3 none 2 := ⟨wd_1817, wd_234, by decide +kernel, by decide +kernel, by decide⟩
theorem yi_X11_fail : am_Yi yX11_fail 11 := ⟨wd_1816, wd_134, _, rfl, rfl⟩
theorem lk_RX11_208 : am_Lk RX11 208 yX11_amiss := Or.inl wd_1810
theorem yy_X11_amiss : am_Y yX11_amiss cX11_amiss 1 none 0 := ⟨wd_1813, wd_234, by decide +kernel, by decide +kernel, by decide⟩
theorem yi_X11_amiss : am_Yi yX11_amiss 11 := ⟨wd_1812, wd_133, _, rfl, rfl⟩
theorem lk_RX11_205 : am_Lk RX11 205 yX11_advance := Or.inl wd_1771
theorem yy_X11_advance : am_Y yX11_advance cX11_advance 2 none 0 := ⟨wd_1774, wd_234, by decide +kernel, by decide +kernel, by decide⟩
theorem yi_X11_advance : am_Yi yX11_advance 11 := ⟨wd_1773, wd_126, _, rfl, rfl⟩
theorem lk_RX11_211 : am_Lk RX11 211 yX11_must := Or.inl wd_1918
theorem yy_X11_must : am_Y yX11_must cX11_must 2 none 1 := ⟨wd_1921, wd_234, by decide +kernel, by decide +kernel, by decide⟩
theorem lk_RX11_215 : am_Lk RX11 215 yX11_count := Or.inl wd_1821
theorem yy_X11_count : am_Y yX11_count cX11_count 4 (some .int) 2 := ⟨wd_1824, wd_234, by decide +kernel, by decide +kernel, by decide⟩
theorem yi_X11_count : am_Yi yX11_count 11 := ⟨wd_1823, wd_135, _, rfl, rfl⟩
theorem yi_X11_must : am_Yi yX11_must 11 := ⟨wd_1920, wd_158, _, rfl, rfl⟩
theorem fl_RX11_218 : am_FL RX11 218 11 8 .int := ⟨vwCl.getD 11 (RX0, TX0, 9), rfl, by decide, by decide, rfl, by decide +kernel, Or.inl wd_1564⟩
theorem nf_11_8 : am_nofin 11 8 := fun q h => by obtain rfl := Option.some.inj h; rfl
theorem lk_RX11_221 : am_Lk RX11 221 yX11_lay := Or.inl wd_1755
theorem yy_X11_lay : am_Y yX11_lay cX11_lay 3 none 1 := ⟨wd_1758, wd_234, by decide +kernel, by decide +kernel, by decide⟩
theorem yi_X11_lay : am_Yi yX11_lay 11 := ⟨wd_1757, wd_124, _, rfl, rfl⟩
theorem nf_11_9 : am_nofin 11 9 := fun q h => by obtain rfl := Option.some.inj h; rfl
theorem fl_RX11_32 : am_FL RX11 32 11 11 .int := ⟨vwCl.getD 11 (RX0, TX0, 9), rfl, by decide, by decide, rfl, by decide +kernel, Or.inl wd_1567⟩
theorem nf_11_11 : am_nofin 11 11 := fun q h => by obtain rfl := Option.some.inj h; rfl
theorem fl_RX11_28 : am_FL RX11 28 11 10 .int := ⟨vwCl.getD 11 (RX0, TX0, 9), rfl, by decide, by decide, rfl, by decide +kernel, Or.inl wd_1566⟩
theorem nf_11_10 : am_nofin 11 10 := fun q h => by obtain rfl := Option.some.inj h; rfl
theorem fl_RX11_35 : am_FL RX11 35 11 20 (.array .int) := ⟨vwCl.getD 11 (RX0, TX0, 9), rfl, by decide, by decide, rfl, by decide +kernel, Or.inl wd_1576⟩
theorem fl_RX11_44 : am_FL RX11 44 11 23 (.array .long) := ⟨vwCl.getD 11 (RX0, TX0, 9), rfl, by decide, by decide, rfl, by decide +kernel, Or.inl wd_1579⟩
theorem lk_RX11_228 : am_Lk RX11 228 yX11_named := Or.inl wd_1901
theorem yy_X11_named : am_Y yX11_named cX11_named 5 (some .int) 2 := ⟨wd_1904, wd_234, by decide +kernel, by decide +kernel, by decide⟩
theorem yi_X11_named : am_Yi yX11_named 11 := ⟨wd_1903, wd_154, _, rfl, rfl⟩
theorem lk_RX11_225 : am_Lk RX11 225 yX11_isName := Or.inl wd_1849
theorem yy_X11_isName : am_Y yX11_isName cX11_isName 1 (some .boolean) 0 := ⟨wd_1852, wd_234, by decide +kernel, by decide +kernel, by decide⟩
theorem yi_X11_isName : am_Yi yX11_isName 11 := ⟨wd_1851, wd_141, _, rfl, rfl⟩
theorem lk_RX11_234 : am_Lk RX11 234 yX11_told := Or.inl wd_1913
theorem yy_X11_told : am_Y yX11_told cX11_told 4 (some .int) 2 := ⟨wd_1916, wd_234, by decide +kernel, by decide +kernel, by decide⟩
theorem yi_X11_told : am_Yi yX11_told 11 := ⟨wd_1915, wd_157, _, rfl, rfl⟩
theorem fl_RX11_237 : am_FL RX11 237 11 27 .boolean := ⟨vwCl.getD 11 (RX0, TX0, 9), rfl, by decide, by decide, rfl, by decide +kernel, Or.inl wd_1583⟩
theorem fl_RX11_241 : am_FL RX11 241 11 25 .int := ⟨vwCl.getD 11 (RX0, TX0, 9), rfl, by decide, by decide, rfl, by decide +kernel, Or.inl wd_1581⟩
theorem nf_11_25 : am_nofin 11 25 := fun q h => by obtain rfl := Option.some.inj h; rfl
theorem lk_RX11_244 : am_Lk RX11 244 yX11_has := Or.inl wd_1818
theorem yy_X11_has : am_Y yX11_has cX11_has 2 (some .boolean) 2 := ⟨wd_1820, wd_234, by decide +kernel, by decide +kernel, by decide⟩
theorem lk_RX11_248 : am_Lk RX11 248 yX11_readNew := Or.inl wd_1845
theorem yy_X11_readNew : am_Y yX11_readNew cX11_readNew 4 (some .int) 2 := ⟨wd_1848, wd_234, by decide +kernel, by decide +kernel, by decide⟩
theorem yi_X11_readNew : am_Yi yX11_readNew 11 := ⟨wd_1847, wd_140, _, rfl, rfl⟩
theorem fl_RX11_251 : am_FL RX11 251 11 26 .int := ⟨vwCl.getD 11 (RX0, TX0, 9), rfl, by decide, by decide, rfl, by decide +kernel, Or.inl wd_1582⟩
theorem nf_11_26 : am_nofin 11 26 := fun q h => by obtain rfl := Option.some.inj h; rfl
theorem nf_11_27 : am_nofin 11 27 := fun q h => by obtain rfl := Option.some.inj h; rfl
theorem lk_RX11_254 : am_Lk RX11 254 yX11_readCards := Or.inl wd_1909
theorem yy_X11_readCards : am_Y yX11_readCards cX11_readCards 7 (some .int) 2 := ⟨wd_1912, wd_234, by decide +kernel, by decide +kernel, by decide⟩
theorem yi_X11_readCards : am_Yi yX11_readCards 11 := ⟨wd_1911, wd_156, _, rfl, rfl⟩
theorem lk_RX11_260 : am_Lk RX11 260 yX11_behindWord := Or.inl wd_1934
theorem yy_X11_behindWord : am_Y yX11_behindWord cX11_behindWord 4 (some .int) 3 := ⟨wd_1937, wd_234, by decide +kernel, by decide +kernel, by decide⟩
theorem yi_X11_behindWord : am_Yi yX11_behindWord 11 := ⟨wd_1936, wd_162, _, rfl, rfl⟩
theorem lk_RX11_257 : am_Lk RX11 257 yX11_readTold := Or.inl wd_1930
theorem yy_X11_readTold : am_Y yX11_readTold cX11_readTold 4 (some .int) 2 := ⟨wd_1933, wd_234, by decide +kernel, by decide +kernel, by decide⟩
theorem yi_X11_readTold : am_Yi yX11_readTold 11 := ⟨wd_1932, wd_161, _, rfl, rfl⟩
theorem lk_RX11_277 : am_Lk RX11 277 yX11_readField := Or.inl wd_1926
theorem yy_X11_readField : am_Y yX11_readField cX11_readField 3 none 0 := ⟨wd_1929, wd_234, by decide +kernel, by decide +kernel, by decide⟩
theorem yi_X11_readField : am_Yi yX11_readField 11 := ⟨wd_1928, wd_160, _, rfl, rfl⟩
theorem lk_RX11_274 : am_Lk RX11 274 yX11_readStock := Or.inl wd_1922
theorem yy_X11_readStock : am_Y yX11_readStock cX11_readStock 1 none 0 := ⟨wd_1925, wd_234, by decide +kernel, by decide +kernel, by decide⟩
theorem yi_X11_readStock : am_Yi yX11_readStock 11 := ⟨wd_1924, wd_159, _, rfl, rfl⟩
theorem lk_RX11_271 : am_Lk RX11 271 yX11_readRow := Or.inl wd_1905
theorem yy_X11_readRow : am_Y yX11_readRow cX11_readRow 2 none 0 := ⟨wd_1908, wd_234, by decide +kernel, by decide +kernel, by decide⟩
theorem yi_X11_readRow : am_Yi yX11_readRow 11 := ⟨wd_1907, wd_155, _, rfl, rfl⟩
theorem lk_RX11_268 : am_Lk RX11 268 yX11_readSuit := Or.inl wd_1841
theorem yy_X11_readSuit : am_Y yX11_readSuit cX11_readSuit 2 none 0 := ⟨wd_1844, wd_234, by decide +kernel, by decide +kernel, by decide⟩
theorem yi_X11_readSuit : am_Yi yX11_readSuit 11 := ⟨wd_1843, wd_139, _, rfl, rfl⟩
theorem lk_RX11_264 : am_Lk RX11 264 yX11_readOnce := Or.inl wd_1806
theorem yy_X11_readOnce : am_Y yX11_readOnce cX11_readOnce 5 none 4 := ⟨wd_1809, wd_234, by decide +kernel, by decide +kernel, by decide⟩
theorem yi_X11_readOnce : am_Yi yX11_readOnce 11 := ⟨wd_1808, wd_132, _, rfl, rfl⟩
theorem lk_RX11_292 : am_Lk RX11 292 yX11_copy := Or.inl wd_1946
theorem yy_X11_copy : am_Y yX11_copy cX11_copy 4 none 2 := ⟨wd_1949, wd_234, by decide +kernel, by decide +kernel, by decide⟩
theorem yi_X11_copy : am_Yi yX11_copy 11 := ⟨wd_1948, wd_165, _, rfl, rfl⟩
theorem lk_RX11_289 : am_Lk RX11 289 yX11_isWell := Or.inl wd_1942
theorem yy_X11_isWell : am_Y yX11_isWell cX11_isWell 1 (some .boolean) 0 := ⟨wd_1945, wd_234, by decide +kernel, by decide +kernel, by decide⟩
theorem yi_X11_isWell : am_Yi yX11_isWell 11 := ⟨wd_1944, wd_164, _, rfl, rfl⟩
theorem lk_RX11_283 : am_Lk RX11 283 yX11_readPart := Or.inl wd_1791
theorem yy_X11_readPart : am_Y yX11_readPart cX11_readPart 1 none 0 := ⟨wd_1794, wd_234, by decide +kernel, by decide +kernel, by decide⟩
theorem lk_RX11_286 : am_Lk RX11 286 yX11_isSign := Or.inl wd_1938
theorem yy_X11_isSign : am_Y yX11_isSign cX11_isSign 2 (some .boolean) 1 := ⟨wd_1941, wd_234, by decide +kernel, by decide +kernel, by decide⟩
theorem yi_X11_isSign : am_Yi yX11_isSign 11 := ⟨wd_1940, wd_163, _, rfl, rfl⟩
theorem yi_X11_readPart : am_Yi yX11_readPart 11 := ⟨wd_1793, wd_129, _, rfl, rfl⟩
theorem lk_RX11_280 : am_Lk RX11 280 yX11_starts := Or.inl wd_1767
theorem yy_X11_starts : am_Y yX11_starts cX11_starts 3 (some .boolean) 2 := ⟨wd_1770, wd_234, by decide +kernel, by decide +kernel, by decide⟩
theorem yi_X11_starts : am_Yi yX11_starts 11 := ⟨wd_1769, wd_125, _, rfl, rfl⟩
theorem lk_RX11_295 : am_Lk RX11 295 yX11_readTest := Or.inl wd_1962
theorem yy_X11_readTest : am_Y yX11_readTest cX11_readTest 3 none 1 := ⟨wd_1965, wd_234, by decide +kernel, by decide +kernel, by decide⟩
theorem yi_X11_readTest : am_Yi yX11_readTest 11 := ⟨wd_1964, wd_168, _, rfl, rfl⟩
theorem yy_X11_readStep : am_Y yX11_readStep cX11_readStep 5 none 1 := ⟨wd_1957, wd_234, by decide +kernel, by decide +kernel, by decide⟩
theorem fl_RX11_298 : am_FL RX11 298 11 28 .int := ⟨vwCl.getD 11 (RX0, TX0, 9), rfl, by decide, by decide, rfl, by decide +kernel, Or.inl wd_1584⟩
theorem lk_RX11_304 : am_Lk RX11 304 yX11_readStep := Or.inl wd_1954
theorem yi_X11_readStep : am_Yi yX11_readStep 11 := ⟨wd_1956, wd_166, _, rfl, rfl⟩
theorem lk_RX11_301 : am_Lk RX11 301 yX11_readRest := Or.inl wd_1958
theorem yy_X11_readRest : am_Y yX11_readRest cX11_readRest 3 none 1 := ⟨wd_1961, wd_234, by decide +kernel, by decide +kernel, by decide⟩
theorem yi_X11_readRest : am_Yi yX11_readRest 11 := ⟨wd_1960, wd_167, _, rfl, rfl⟩
theorem nf_11_28 : am_nofin 11 28 := fun q h => by obtain rfl := Option.some.inj h; rfl
theorem lk_RX11_307 : am_Lk RX11 307 yX11_isRowAt := Or.inl wd_1987
theorem yy_X11_isRowAt : am_Y yX11_isRowAt cX11_isRowAt 2 (some .boolean) 1 := ⟨wd_1990, wd_234, by decide +kernel, by decide +kernel, by decide⟩
theorem yi_X11_isRowAt : am_Yi yX11_isRowAt 11 := ⟨wd_1989, wd_172, _, rfl, rfl⟩
theorem lk_RX11_318 : am_Lk RX11 318 yX11_fieldsThat := Or.inl wd_1979
theorem yy_X11_fieldsThat : am_Y yX11_fieldsThat cX11_fieldsThat 4 (some .int) 1 := ⟨wd_1982, wd_234, by decide +kernel, by decide +kernel, by decide⟩
theorem yi_X11_fieldsThat : am_Yi yX11_fieldsThat 11 := ⟨wd_1981, wd_171, _, rfl, rfl⟩
theorem lk_RX11_315 : am_Lk RX11 315 yX11_sum := Or.inl wd_1975
theorem yy_X11_sum : am_Y yX11_sum cX11_sum 5 (some .int) 2 := ⟨wd_1978, wd_234, by decide +kernel, by decide +kernel, by decide⟩
theorem yi_X11_sum : am_Yi yX11_sum 11 := ⟨wd_1977, wd_170, _, rfl, rfl⟩
theorem lk_RX11_312 : am_Lk RX11 312 yX11_refuse := Or.inl wd_1971
theorem yy_X11_refuse : am_Y yX11_refuse cX11_refuse 2 (some .int) 1 := ⟨wd_1974, wd_234, by decide +kernel, by decide +kernel, by decide⟩
theorem yi_X11_refuse : am_Yi yX11_refuse 11 := ⟨wd_1973, wd_169, _, rfl, rfl⟩
theorem lk_RX11_321 : am_Lk RX11 321 yX11_cardAt := Or.inl wd_1991
theorem yy_X11_cardAt : am_Y yX11_cardAt cX11_cardAt 3 (some .int) 2 := ⟨wd_1994, wd_234, by decide +kernel, by decide +kernel, by decide⟩
theorem yi_X11_cardAt : am_Yi yX11_cardAt 11 := ⟨wd_1993, wd_173, _, rfl, rfl⟩
theorem lk_RX11_327 : am_Lk RX11 327 yX11_topCard := Or.inl wd_2007
theorem yy_X11_topCard : am_Y yX11_topCard cX11_topCard 2 (some .int) 1 := ⟨wd_2010, wd_234, by decide +kernel, by decide +kernel, by decide⟩
theorem yi_X11_topCard : am_Yi yX11_topCard 11 := ⟨wd_2009, wd_175, _, rfl, rfl⟩
theorem lk_RX11_324 : am_Lk RX11 324 yX11_isFrom := Or.inl wd_2003
theorem yy_X11_isFrom : am_Y yX11_isFrom cX11_isFrom 2 (some .boolean) 1 := ⟨wd_2006, wd_234, by decide +kernel, by decide +kernel, by decide⟩
theorem yi_X11_isFrom : am_Yi yX11_isFrom 11 := ⟨wd_2005, wd_174, _, rfl, rfl⟩
theorem lk_RX11_330 : am_Lk RX11 330 yX11_isSuitAt := Or.inl wd_2019
theorem yy_X11_isSuitAt : am_Y yX11_isSuitAt cX11_isSuitAt 2 (some .boolean) 1 := ⟨wd_2022, wd_234, by decide +kernel, by decide +kernel, by decide⟩
theorem yi_X11_isSuitAt : am_Yi yX11_isSuitAt 11 := ⟨wd_2021, wd_176, _, rfl, rfl⟩
theorem lk_RX11_333 : am_Lk RX11 333 yX11_isFieldAt := Or.inl wd_2027
theorem yy_X11_isFieldAt : am_Y yX11_isFieldAt cX11_isFieldAt 2 (some .boolean) 1 := ⟨wd_2030, wd_234, by decide +kernel, by decide +kernel, by decide⟩
theorem yi_X11_isFieldAt : am_Yi yX11_isFieldAt 11 := ⟨wd_2029, wd_177, _, rfl, rfl⟩
theorem lk_RX11_338 : am_Lk RX11 338 yX11_isTray := Or.inl wd_2036
theorem yy_X11_isTray : am_Y yX11_isTray cX11_isTray 2 (some .boolean) 1 := ⟨wd_2039, wd_234, by decide +kernel, by decide +kernel, by decide⟩
theorem yi_X11_isTray : am_Yi yX11_isTray 11 := ⟨wd_2038, wd_178, _, rfl, rfl⟩
theorem lk_RX11_341 : am_Lk RX11 341 yX11_rankOf := Or.inl wd_2057
theorem yy_X11_rankOf : am_Y yX11_rankOf cX11_rankOf 1 (some .int) 1 := ⟨wd_2059, wd_234, by decide +kernel, by decide +kernel, by decide⟩
theorem lk_RX11_344 : am_Lk RX11 344 yX11_suitOf := Or.inl wd_2060
theorem yy_X11_suitOf : am_Y yX11_suitOf cX11_suitOf 1 (some .int) 1 := ⟨wd_2062, wd_234, by decide +kernel, by decide +kernel, by decide⟩
theorem lk_RX11_350 : am_Lk RX11 350 yX11_fits := Or.inl wd_2063
theorem yy_X11_fits : am_Y yX11_fits cX11_fits 3 (some .boolean) 2 := ⟨wd_2066, wd_234, by decide +kernel, by decide +kernel, by decide⟩
theorem yi_X11_fits : am_Yi yX11_fits 11 := ⟨wd_2065, wd_182, _, rfl, rfl⟩
theorem lk_RX11_347 : am_Lk RX11 347 yX11_goesHome := Or.inl wd_2053
theorem yy_X11_goesHome : am_Y yX11_goesHome cX11_goesHome 2 (some .boolean) 1 := ⟨wd_2056, wd_234, by decide +kernel, by decide +kernel, by decide⟩
theorem yi_X11_goesHome : am_Yi yX11_goesHome 11 := ⟨wd_2055, wd_181, _, rfl, rfl⟩
theorem lk_RX11_353 : am_Lk RX11 353 yX11_waters := Or.inl wd_2071
theorem yy_X11_waters : am_Y yX11_waters cX11_waters 4 none 2 := ⟨wd_2074, wd_234, by decide +kernel, by decide +kernel, by decide⟩
theorem yi_X11_waters : am_Yi yX11_waters 11 := ⟨wd_2073, wd_184, _, rfl, rfl⟩
theorem lk_RX11_359 : am_Lk RX11 359 yX11_isMove := Or.inl wd_2049
theorem yy_X11_isMove : am_Y yX11_isMove cX11_isMove 4 (some .boolean) 2 := ⟨wd_2052, wd_234, by decide +kernel, by decide +kernel, by decide⟩
theorem lk_RX11_362 : am_Lk RX11 362 yX11_goes := Or.inl wd_2067
theorem yy_X11_goes : am_Y yX11_goes cX11_goes 5 (some .int) 2 := ⟨wd_2070, wd_234, by decide +kernel, by decide +kernel, by decide⟩
theorem yi_X11_goes : am_Yi yX11_goes 11 := ⟨wd_2069, wd_183, _, rfl, rfl⟩
theorem yi_X11_isMove : am_Yi yX11_isMove 11 := ⟨wd_2051, wd_180, _, rfl, rfl⟩
theorem lk_RX11_356 : am_Lk RX11 356 yX11_isTo := Or.inl wd_2045
theorem yy_X11_isTo : am_Y yX11_isTo cX11_isTo 2 (some .boolean) 1 := ⟨wd_2048, wd_234, by decide +kernel, by decide +kernel, by decide⟩
theorem yi_X11_isTo : am_Yi yX11_isTo 11 := ⟨wd_2047, wd_179, _, rfl, rfl⟩
theorem fl_RX11_365 : am_FL RX11 365 11 29 .int := ⟨vwCl.getD 11 (RX0, TX0, 9), rfl, by decide, by decide, rfl, by decide +kernel, Or.inl wd_1585⟩
theorem nf_11_29 : am_nofin 11 29 := fun q h => by obtain rfl := Option.some.inj h; rfl
theorem lk_RX11_368 : am_Lk RX11 368 yX11_deals := Or.inl wd_2079
theorem yy_X11_deals : am_Y yX11_deals cX11_deals 2 (some .boolean) 0 := ⟨wd_2082, wd_234, by decide +kernel, by decide +kernel, by decide⟩
theorem yi_X11_deals : am_Yi yX11_deals 11 := ⟨wd_2081, wd_185, _, rfl, rfl⟩
theorem fl_RX11_47 : am_FL RX11 47 11 30 (.array .int) := ⟨vwCl.getD 11 (RX0, TX0, 9), rfl, by decide, by decide, rfl, by decide +kernel, Or.inl wd_1586⟩
theorem lk_RX11_371 : am_Lk RX11 371 yX11_runsAll := Or.inl wd_2087
theorem yy_X11_runsAll : am_Y yX11_runsAll cX11_runsAll 5 (some .int) 0 := ⟨wd_2090, wd_234, by decide +kernel, by decide +kernel, by decide⟩
theorem yi_X11_runsAll : am_Yi yX11_runsAll 11 := ⟨wd_2089, wd_186, _, rfl, rfl⟩
theorem lk_RX11_376 : am_Lk RX11 376 yX11_goesDay := Or.inl wd_2096
theorem yy_X11_goesDay : am_Y yX11_goesDay cX11_goesDay 3 none 0 := ⟨wd_2099, wd_234, by decide +kernel, by decide +kernel, by decide⟩
theorem yi_X11_goesDay : am_Yi yX11_goesDay 11 := ⟨wd_2098, wd_187, _, rfl, rfl⟩
theorem fl_RX11_381 : am_FL RX11 381 11 31 .int := ⟨vwCl.getD 11 (RX0, TX0, 9), rfl, by decide, by decide, rfl, by decide +kernel, Or.inl wd_1587⟩
theorem nf_11_31 : am_nofin 11 31 := fun q h => by obtain rfl := Option.some.inj h; rfl
theorem fl_RX11_50 : am_FL RX11 50 11 32 (.array .int) := ⟨vwCl.getD 11 (RX0, TX0, 9), rfl, by decide, by decide, rfl, by decide +kernel, Or.inl wd_1588⟩
theorem lk_RX11_385 : am_Lk RX11 385 yX11_mix := Or.inl wd_2122
theorem yy_X11_mix : am_Y yX11_mix cX11_mix 2 (some .int) 1 := ⟨wd_2125, wd_234, by decide +kernel, by decide +kernel, by decide⟩
theorem yi_X11_mix : am_Yi yX11_mix 11 := ⟨wd_2124, wd_189, _, rfl, rfl⟩
theorem lk_RX11_393 : am_Lk RX11 393 yX11_packs := Or.inl wd_2118
theorem yy_X11_packs : am_Y yX11_packs cX11_packs 6 (some .int) 1 := ⟨wd_2121, wd_234, by decide +kernel, by decide +kernel, by decide⟩
theorem yi_X11_packs : am_Yi yX11_packs 11 := ⟨wd_2120, wd_188, _, rfl, rfl⟩
theorem lk_RX11_396 : am_Lk RX11 396 yX11_moveBy := Or.inl wd_2136
theorem yy_X11_moveBy : am_Y yX11_moveBy cX11_moveBy 5 (some .int) 1 := ⟨wd_2139, wd_234, by decide +kernel, by decide +kernel, by decide⟩
theorem yi_X11_moveBy : am_Yi yX11_moveBy 11 := ⟨wd_2138, wd_190, _, rfl, rfl⟩
theorem fl_RX11_38 : am_FL RX11 38 11 21 (.array .int) := ⟨vwCl.getD 11 (RX0, TX0, 9), rfl, by decide, by decide, rfl, by decide +kernel, Or.inl wd_1577⟩
theorem lk_RX11_399 : am_Lk RX11 399 yX11_keeps := Or.inl wd_2148
theorem yy_X11_keeps : am_Y yX11_keeps cX11_keeps 3 none 1 := ⟨wd_2151, wd_234, by decide +kernel, by decide +kernel, by decide⟩
theorem lk_RX11_402 : am_Lk RX11 402 yX11_gives := Or.inl wd_2152
theorem yy_X11_gives : am_Y yX11_gives cX11_gives 3 none 1 := ⟨wd_2155, wd_234, by decide +kernel, by decide +kernel, by decide⟩
theorem yi_X11_gives : am_Yi yX11_gives 11 := ⟨wd_2154, wd_192, _, rfl, rfl⟩
theorem yi_X11_keeps : am_Yi yX11_keeps 11 := ⟨wd_2150, wd_191, _, rfl, rfl⟩
theorem fl_RX11_405 : am_FL RX11 405 11 33 .int := ⟨vwCl.getD 11 (RX0, TX0, 9), rfl, by decide, by decide, rfl, by decide +kernel, Or.inl wd_1589⟩
theorem fl_RX11_408 : am_FL RX11 408 11 34 .int := ⟨vwCl.getD 11 (RX0, TX0, 9), rfl, by decide, by decide, rfl, by decide +kernel, Or.inl wd_1590⟩
theorem nf_11_34 : am_nofin 11 34 := fun q h => by obtain rfl := Option.some.inj h; rfl
theorem nf_11_33 : am_nofin 11 33 := fun q h => by obtain rfl := Option.some.inj h; rfl
theorem lk_RX11_411 : am_Lk RX11 411 yX11_finds := Or.inl wd_2168
theorem yy_X11_finds : am_Y yX11_finds cX11_finds 4 (some .boolean) 1 := ⟨wd_2171, wd_234, by decide +kernel, by decide +kernel, by decide⟩
theorem yi_X11_finds : am_Yi yX11_finds 11 := ⟨wd_2170, wd_194, _, rfl, rfl⟩
theorem lk_RX11_414 : am_Lk RX11 414 yX11_findsNext := Or.inl wd_2164
theorem yy_X11_findsNext : am_Y yX11_findsNext cX11_findsNext 2 (some .boolean) 1 := ⟨wd_2167, wd_234, by decide +kernel, by decide +kernel, by decide⟩
theorem yi_X11_findsNext : am_Yi yX11_findsNext 11 := ⟨wd_2166, wd_193, _, rfl, rfl⟩
theorem lk_RX11_417 : am_Lk RX11 417 yX11_withers := Or.inl wd_2188
theorem yy_X11_withers : am_Y yX11_withers cX11_withers 3 (some .int) 1 := ⟨wd_2191, wd_234, by decide +kernel, by decide +kernel, by decide⟩
theorem yi_X11_withers : am_Yi yX11_withers 11 := ⟨wd_2190, wd_195, _, rfl, rfl⟩
theorem yy_X11_most : am_Y yX11_most cX11_most 11 (some .int) 3 := ⟨wd_2207, wd_234, by decide +kernel, by decide +kernel, by decide⟩
theorem fl_RX11_424 : am_FL RX11 424 11 35 .int := ⟨vwCl.getD 11 (RX0, TX0, 9), rfl, by decide, by decide, rfl, by decide +kernel, Or.inl wd_1591⟩
theorem nf_11_35 : am_nofin 11 35 := fun q h => by obtain rfl := Option.some.inj h; rfl
theorem lk_RX11_420 : am_Lk RX11 420 yX11_most := Or.inl wd_2204
theorem yi_X11_most : am_Yi yX11_most 11 := ⟨wd_2206, wd_197, _, rfl, rfl⟩
theorem lk_RX11_427 : am_Lk RX11 427 yX11_isAsked := Or.inl wd_2200
theorem yy_X11_isAsked : am_Y yX11_isAsked cX11_isAsked 3 (some .boolean) 2 := ⟨wd_2203, wd_234, by decide +kernel, by decide +kernel, by decide⟩
theorem yi_X11_isAsked : am_Yi yX11_isAsked 11 := ⟨wd_2202, wd_196, _, rfl, rfl⟩
theorem yy_X11_plays : am_Y yX11_plays cX11_plays 10 (some .int) 3 := ⟨wd_2219, wd_234, by decide +kernel, by decide +kernel, by decide⟩
theorem lk_RX11_430 : am_Lk RX11 430 yX11_plays := Or.inl wd_2216
theorem yi_X11_plays : am_Yi yX11_plays 11 := ⟨wd_2218, wd_198, _, rfl, rfl⟩
theorem fl_RX11_436 : am_FL RX11 436 11 36 .int := ⟨vwCl.getD 11 (RX0, TX0, 9), rfl, by decide, by decide, rfl, by decide +kernel, Or.inl wd_1592⟩
theorem fl_RX11_445 : am_FL RX11 445 11 37 .int := ⟨vwCl.getD 11 (RX0, TX0, 9), rfl, by decide, by decide, rfl, by decide +kernel, Or.inl wd_1593⟩
theorem nf_11_37 : am_nofin 11 37 := fun q h => by obtain rfl := Option.some.inj h; rfl
theorem nf_11_36 : am_nofin 11 36 := fun q h => by obtain rfl := Option.some.inj h; rfl
theorem lk_RX11_442 : am_Lk RX11 442 yX11_exchanges := Or.inl wd_2236
theorem yy_X11_exchanges : am_Y yX11_exchanges cX11_exchanges 6 none 2 := ⟨wd_2239, wd_234, by decide +kernel, by decide +kernel, by decide⟩
theorem lk_RX11_433 : am_Lk RX11 433 yX11_runFor := Or.inl wd_2228
theorem yy_X11_runFor : am_Y yX11_runFor cX11_runFor 2 (some .int) 1 := ⟨wd_2231, wd_234, by decide +kernel, by decide +kernel, by decide⟩
theorem yi_X11_exchanges : am_Yi yX11_exchanges 11 := ⟨wd_2238, wd_202, _, rfl, rfl⟩
theorem yi_X11_runFor : am_Yi yX11_runFor 11 := ⟨wd_2230, wd_200, _, rfl, rfl⟩
theorem lk_RX11_439 : am_Lk RX11 439 yX11_isPlace := Or.inl wd_2232
theorem yy_X11_isPlace : am_Y yX11_isPlace cX11_isPlace 2 (some .boolean) 1 := ⟨wd_2235, wd_234, by decide +kernel, by decide +kernel, by decide⟩
theorem yi_X11_isPlace : am_Yi yX11_isPlace 11 := ⟨wd_2234, wd_201, _, rfl, rfl⟩
theorem lk_RX11_448 : am_Lk RX11 448 yX11_cheats := Or.inl wd_2224
theorem yy_X11_cheats : am_Y yX11_cheats cX11_cheats 6 (some .int) 1 := ⟨wd_2227, wd_234, by decide +kernel, by decide +kernel, by decide⟩
theorem yi_X11_cheats : am_Yi yX11_cheats 11 := ⟨wd_2226, wd_199, _, rfl, rfl⟩
theorem lk_RX11_456 : am_Lk RX11 456 yX11_wetsBy := Or.inl wd_2252
theorem yy_X11_wetsBy : am_Y yX11_wetsBy cX11_wetsBy 2 none 1 := ⟨wd_2255, wd_234, by decide +kernel, by decide +kernel, by decide⟩
theorem yi_X11_wetsBy : am_Yi yX11_wetsBy 11 := ⟨wd_2254, wd_203, _, rfl, rfl⟩
theorem lk_RX11_453 : am_Lk RX11 453 yX11_areSeeds := Or.inl wd_2248
theorem yy_X11_areSeeds : am_Y yX11_areSeeds cX11_areSeeds 2 (some .boolean) 2 := ⟨wd_2250, wd_234, by decide +kernel, by decide +kernel, by decide⟩
theorem lk_RX11_459 : am_Lk RX11 459 yX11_fraction := Or.inl wd_2260
theorem yy_X11_fraction : am_Y yX11_fraction cX11_fraction 11 (some .boolean) 2 := ⟨wd_2263, wd_234, by decide +kernel, by decide +kernel, by decide⟩
theorem yi_X11_fraction : am_Yi yX11_fraction 11 := ⟨wd_2262, wd_204, _, rfl, rfl⟩
theorem fl_RX11_53 : am_FL RX11 53 11 38 (.array .int) := ⟨vwCl.getD 11 (RX0, TX0, 9), rfl, by decide, by decide, rfl, by decide +kernel, Or.inl wd_1594⟩
theorem fl_RX11_463 : am_FL RX11 463 11 39 .int := ⟨vwCl.getD 11 (RX0, TX0, 9), rfl, by decide, by decide, rfl, by decide +kernel, Or.inl wd_1595⟩
theorem nf_11_39 : am_nofin 11 39 := fun q h => by obtain rfl := Option.some.inj h; rfl
theorem lk_RX11_466 : am_Lk RX11 466 yX11_numberOf := Or.inl wd_2283
theorem yy_X11_numberOf : am_Y yX11_numberOf cX11_numberOf 3 (some .long) 2 := ⟨wd_2286, wd_234, by decide +kernel, by decide +kernel, by decide⟩
theorem yi_X11_numberOf : am_Yi yX11_numberOf 11 := ⟨wd_2285, wd_207, _, rfl, rfl⟩
theorem lk_RX11_473 : am_Lk RX11 473 yX11_likes := Or.inl wd_2279
theorem yy_X11_likes : am_Y yX11_likes cX11_likes 8 (some .int) 3 := ⟨wd_2282, wd_234, by decide +kernel, by decide +kernel, by decide⟩
theorem yi_X11_likes : am_Yi yX11_likes 11 := ⟨wd_2281, wd_206, _, rfl, rfl⟩
theorem lk_RX11_470 : am_Lk RX11 470 yX11_whyNotLike := Or.inl wd_2275
theorem yy_X11_whyNotLike : am_Y yX11_whyNotLike cX11_whyNotLike 4 (some .int) 3 := ⟨wd_2278, wd_234, by decide +kernel, by decide +kernel, by decide⟩
theorem yi_X11_whyNotLike : am_Yi yX11_whyNotLike 11 := ⟨wd_2277, wd_205, _, rfl, rfl⟩
theorem fl_RX11_476 : am_FL RX11 476 11 43 .int := ⟨vwCl.getD 11 (RX0, TX0, 9), rfl, by decide, by decide, rfl, by decide +kernel, Or.inl wd_1599⟩
theorem nf_11_43 : am_nofin 11 43 := fun q h => by obtain rfl := Option.some.inj h; rfl
theorem fl_RX11_479 : am_FL RX11 479 11 46 .int := ⟨vwCl.getD 11 (RX0, TX0, 9), rfl, by decide, by decide, rfl, by decide +kernel, Or.inl wd_1602⟩
theorem nf_11_46 : am_nofin 11 46 := fun q h => by obtain rfl := Option.some.inj h; rfl
theorem fl_RX11_482 : am_FL RX11 482 11 47 .int := ⟨vwCl.getD 11 (RX0, TX0, 9), rfl, by decide, by decide, rfl, by decide +kernel, Or.inl wd_1603⟩
theorem fl_RX11_485 : am_FL RX11 485 11 48 .int := ⟨vwCl.getD 11 (RX0, TX0, 9), rfl, by decide, by decide, rfl, by decide +kernel, Or.inl wd_1604⟩
theorem nf_11_48 : am_nofin 11 48 := fun q h => by obtain rfl := Option.some.inj h; rfl
theorem nf_11_47 : am_nofin 11 47 := fun q h => by obtain rfl := Option.some.inj h; rfl
theorem lk_RX11_488 : am_Lk RX11 488 yX11_draw := Or.inl wd_2331
theorem yy_X11_draw : am_Y yX11_draw cX11_draw 2 (some .int) 1 := ⟨wd_2334, wd_234, by decide +kernel, by decide +kernel, by decide⟩
theorem lk_RX11_491 : am_Lk RX11 491 yX11_isMoved := Or.inl wd_2319
theorem yy_X11_isMoved : am_Y yX11_isMoved cX11_isMoved 3 (some .boolean) 2 := ⟨wd_2322, wd_234, by decide +kernel, by decide +kernel, by decide⟩
theorem yi_X11_isMoved : am_Yi yX11_isMoved 11 := ⟨wd_2321, wd_213, _, rfl, rfl⟩
theorem yi_X11_draw : am_Yi yX11_draw 11 := ⟨wd_2333, wd_216, _, rfl, rfl⟩
theorem lk_RX11_500 : am_Lk RX11 500 yX11_isAny := Or.inl wd_2327
theorem yy_X11_isAny : am_Y yX11_isAny cX11_isAny 3 (some .boolean) 0 := ⟨wd_2330, wd_234, by decide +kernel, by decide +kernel, by decide⟩
theorem yi_X11_isAny : am_Yi yX11_isAny 11 := ⟨wd_2329, wd_215, _, rfl, rfl⟩
theorem lk_RX11_497 : am_Lk RX11 497 yX11_isRun := Or.inl wd_2323
theorem yy_X11_isRun : am_Y yX11_isRun cX11_isRun 2 (some .boolean) 0 := ⟨wd_2326, wd_234, by decide +kernel, by decide +kernel, by decide⟩
theorem yi_X11_isRun : am_Yi yX11_isRun 11 := ⟨wd_2325, wd_214, _, rfl, rfl⟩
theorem lk_RX11_494 : am_Lk RX11 494 yX11_anyDays := Or.inl wd_2315
theorem yy_X11_anyDays : am_Y yX11_anyDays cX11_anyDays 3 (some .boolean) 1 := ⟨wd_2318, wd_234, by decide +kernel, by decide +kernel, by decide⟩
theorem yi_X11_anyDays : am_Yi yX11_anyDays 11 := ⟨wd_2317, wd_212, _, rfl, rfl⟩
theorem yy_X11_doAll : am_Y yX11_doAll cX11_doAll 4 none 2 := ⟨wd_2306, wd_234, by decide +kernel, by decide +kernel, by decide⟩
theorem fl_RX11_503 : am_FL RX11 503 11 44 .int := ⟨vwCl.getD 11 (RX0, TX0, 9), rfl, by decide, by decide, rfl, by decide +kernel, Or.inl wd_1600⟩
theorem fl_RX11_512 : am_FL RX11 512 11 45 .int := ⟨vwCl.getD 11 (RX0, TX0, 9), rfl, by decide, by decide, rfl, by decide +kernel, Or.inl wd_1601⟩
theorem fl_RX11_506 : am_FL RX11 506 11 42 .boolean := ⟨vwCl.getD 11 (RX0, TX0, 9), rfl, by decide, by decide, rfl, by decide +kernel, Or.inl wd_1598⟩
theorem nf_11_42 : am_nofin 11 42 := fun q h => by obtain rfl := Option.some.inj h; rfl
theorem lk_RX11_521 : am_Lk RX11 521 yX11_doAll := Or.inl wd_2303
theorem yi_X11_doAll : am_Yi yX11_doAll 11 := ⟨wd_2305, wd_209, _, rfl, rfl⟩
theorem lk_RX11_518 : am_Lk RX11 518 yX11_isSo := Or.inl wd_2335
theorem yy_X11_isSo : am_Y yX11_isSo cX11_isSo 4 (some .boolean) 1 := ⟨wd_2338, wd_234, by decide +kernel, by decide +kernel, by decide⟩
theorem yi_X11_isSo : am_Yi yX11_isSo 11 := ⟨wd_2337, wd_217, _, rfl, rfl⟩
theorem nf_11_45 : am_nofin 11 45 := fun q h => by obtain rfl := Option.some.inj h; rfl
theorem lk_RX11_515 : am_Lk RX11 515 yX11_does := Or.inl wd_2311
theorem yy_X11_does : am_Y yX11_does cX11_does 3 (some .boolean) 1 := ⟨wd_2314, wd_234, by decide +kernel, by decide +kernel, by decide⟩
theorem yi_X11_does : am_Yi yX11_does 11 := ⟨wd_2313, wd_211, _, rfl, rfl⟩
theorem nf_11_44 : am_nofin 11 44 := fun q h => by obtain rfl := Option.some.inj h; rfl
theorem fl_RX11_509 : am_FL RX11 509 11 49 .int := ⟨vwCl.getD 11 (RX0, TX0, 9), rfl, by decide, by decide, rfl, by decide +kernel, Or.inl wd_1605⟩
theorem nf_11_49 : am_nofin 11 49 := fun q h => by obtain rfl := Option.some.inj h; rfl
theorem yy_X11_doOne : am_Y yX11_doOne cX11_doOne 5 none 1 := ⟨wd_2310, wd_234, by decide +kernel, by decide +kernel, by decide⟩
theorem lk_RX11_524 : am_Lk RX11 524 yX11_doOne := Or.inl wd_2307
theorem yi_X11_doOne : am_Yi yX11_doOne 11 := ⟨wd_2309, wd_210, _, rfl, rfl⟩
theorem fl_RX11_56 : am_FL RX11 56 11 40 (.array .int) := ⟨vwCl.getD 11 (RX0, TX0, 9), rfl, by decide, by decide, rfl, by decide +kernel, Or.inl wd_1596⟩
theorem lk_RX11_527 : am_Lk RX11 527 yX11_runsSeasons := Or.inl wd_2299
theorem yy_X11_runsSeasons : am_Y yX11_runsSeasons cX11_runsSeasons 2 none 1 := ⟨wd_2302, wd_234, by decide +kernel, by decide +kernel, by decide⟩
theorem fl_RX11_530 : am_FL RX11 530 11 41 .boolean := ⟨vwCl.getD 11 (RX0, TX0, 9), rfl, by decide, by decide, rfl, by decide +kernel, Or.inl wd_1597⟩
theorem nf_11_41 : am_nofin 11 41 := fun q h => by obtain rfl := Option.some.inj h; rfl
theorem yi_X11_runsSeasons : am_Yi yX11_runsSeasons 11 := ⟨wd_2301, wd_208, _, rfl, rfl⟩
theorem fl_RX11_41 : am_FL RX11 41 11 22 (.array .int) := ⟨vwCl.getD 11 (RX0, TX0, 9), rfl, by decide, by decide, rfl, by decide +kernel, Or.inl wd_1578⟩
theorem fl_RX11_535 : am_FL RX11 535 11 24 .int := ⟨vwCl.getD 11 (RX0, TX0, 9), rfl, by decide, by decide, rfl, by decide +kernel, Or.inl wd_1580⟩
theorem nf_11_24 : am_nofin 11 24 := fun q h => by obtain rfl := Option.some.inj h; rfl
theorem lk_RL_239 : am_Lk RL 239 yX10_back := Or.inl wd_1546
theorem yy_X10_back : am_Y yX10_back cX10_back 1 (some .int) 0 := ⟨wd_1549, wd_219, by decide +kernel, by decide +kernel, by decide⟩
theorem lk_RL_242 : am_Lk RL 242 yX11_back := Or.inl wd_2352
theorem yy_X11_back : am_Y yX11_back cX11_back 1 (some .int) 0 := ⟨wd_2355, wd_234, by decide +kernel, by decide +kernel, by decide⟩
theorem yi_X11_back : am_Yi yX11_back 11 := ⟨wd_2353, wd_2354, _, rfl, rfl⟩
theorem yi_X10_back : am_Yi yX10_back 10 := ⟨wd_1547, wd_1548, _, rfl, rfl⟩
theorem lk_RL_235 : am_Lk RL 235 yX10_mark := Or.inl wd_1542
theorem yy_X10_mark : am_Y yX10_mark cX10_mark 1 (some .int) 0 := ⟨wd_1545, wd_219, by decide +kernel, by decide +kernel, by decide⟩
theorem lk_RL_238 : am_Lk RL 238 yX11_mark := Or.inl wd_2348
theorem yy_X11_mark : am_Y yX11_mark cX11_mark 1 (some .int) 0 := ⟨wd_2351, wd_234, by decide +kernel, by decide +kernel, by decide⟩
theorem yi_X11_mark : am_Yi yX11_mark 11 := ⟨wd_2349, wd_2350, _, rfl, rfl⟩
theorem yi_X10_mark : am_Yi yX10_mark 10 := ⟨wd_1543, wd_1544, _, rfl, rfl⟩
theorem lk_RL_231 : am_Lk RL 231 yX10_mean := Or.inl wd_1534
theorem yy_X10_mean : am_Y yX10_mean cX10_mean 6 (some .boolean) 2 := ⟨wd_1537, wd_219, by decide +kernel, by decide +kernel, by decide⟩
theorem lk_RL_234 : am_Lk RL 234 yX11_mean := Or.inl wd_2343
theorem yy_X11_mean : am_Y yX11_mean cX11_mean 7 (some .boolean) 2 := ⟨wd_2346, wd_234, by decide +kernel, by decide +kernel, by decide⟩
theorem yi_X11_mean : am_Yi yX11_mean 11 := ⟨wd_2344, wd_2345, _, rfl, rfl⟩
theorem yi_X10_mean : am_Yi yX10_mean 10 := ⟨wd_1535, wd_1536, _, rfl, rfl⟩
theorem lk_RL_227 : am_Lk RL 227 yX10_lived := Or.inl wd_1530
theorem yy_X10_lived : am_Y yX10_lived cX10_lived 2 (some .int) 1 := ⟨wd_1533, wd_219, by decide +kernel, by decide +kernel, by decide⟩
theorem lk_RL_230 : am_Lk RL 230 yX11_lived := Or.inl wd_2339
theorem yy_X11_lived : am_Y yX11_lived cX11_lived 2 (some .int) 1 := ⟨wd_2342, wd_234, by decide +kernel, by decide +kernel, by decide⟩
theorem yi_X11_lived : am_Yi yX11_lived 11 := ⟨wd_2340, wd_2341, _, rfl, rfl⟩
theorem yi_X10_lived : am_Yi yX10_lived 10 := ⟨wd_1531, wd_1532, _, rfl, rfl⟩
theorem lk_RL_223 : am_Lk RL 223 yX10_live := Or.inl wd_1466
theorem yy_X10_live : am_Y yX10_live cX10_live 2 (some .int) 1 := ⟨wd_1469, wd_219, by decide +kernel, by decide +kernel, by decide⟩
theorem lk_RL_226 : am_Lk RL 226 yX11_live := Or.inl wd_2295
theorem yy_X11_live : am_Y yX11_live cX11_live 2 (some .int) 1 := ⟨wd_2298, wd_234, by decide +kernel, by decide +kernel, by decide⟩
theorem yi_X11_live : am_Yi yX11_live 11 := ⟨wd_2296, wd_2297, _, rfl, rfl⟩
theorem yi_X10_live : am_Yi yX10_live 10 := ⟨wd_1467, wd_1468, _, rfl, rfl⟩
theorem lk_RL_219 : am_Lk RL 219 yX10_packTop := Or.inl wd_1462
theorem yy_X10_packTop : am_Y yX10_packTop cX10_packTop 3 (some .int) 2 := ⟨wd_1465, wd_219, by decide +kernel, by decide +kernel, by decide⟩
theorem lk_RL_222 : am_Lk RL 222 yX11_packTop := Or.inl wd_2291
theorem yy_X11_packTop : am_Y yX11_packTop cX11_packTop 4 (some .int) 2 := ⟨wd_2294, wd_234, by decide +kernel, by decide +kernel, by decide⟩
theorem yi_X11_packTop : am_Yi yX11_packTop 11 := ⟨wd_2292, wd_2293, _, rfl, rfl⟩
theorem yi_X10_packTop : am_Yi yX10_packTop 10 := ⟨wd_1463, wd_1464, _, rfl, rfl⟩
theorem lk_RL_215 : am_Lk RL 215 yX10_likeFirst := Or.inl wd_1458
theorem yy_X10_likeFirst : am_Y yX10_likeFirst cX10_likeFirst 6 (some .int) 3 := ⟨wd_1461, wd_219, by decide +kernel, by decide +kernel, by decide⟩
theorem lk_RL_218 : am_Lk RL 218 yX11_likeFirst := Or.inl wd_2287
theorem yy_X11_likeFirst : am_Y yX11_likeFirst cX11_likeFirst 4 (some .int) 3 := ⟨wd_2290, wd_234, by decide +kernel, by decide +kernel, by decide⟩
theorem yi_X11_likeFirst : am_Yi yX11_likeFirst 11 := ⟨wd_2288, wd_2289, _, rfl, rfl⟩
theorem yi_X10_likeFirst : am_Yi yX10_likeFirst 10 := ⟨wd_1459, wd_1460, _, rfl, rfl⟩
theorem lk_RL_210 : am_Lk RL 210 yX10_like := Or.inl wd_1446
theorem yy_X10_like : am_Y yX10_like cX10_like 7 (some .int) 3 := ⟨wd_1449, wd_219, by decide +kernel, by decide +kernel, by decide⟩
theorem lk_RL_214 : am_Lk RL 214 yX11_like := Or.inl wd_2271
theorem yy_X11_like : am_Y yX11_like cX11_like 4 (some .int) 3 := ⟨wd_2274, wd_234, by decide +kernel, by decide +kernel, by decide⟩
theorem yi_X11_like : am_Yi yX11_like 11 := ⟨wd_2272, wd_2273, _, rfl, rfl⟩
theorem yi_X10_like : am_Yi yX10_like 10 := ⟨wd_1447, wd_1448, _, rfl, rfl⟩
theorem lk_RL_206 : am_Lk RL 206 yX10_bestSuit := Or.inl wd_1442
theorem yy_X10_bestSuit : am_Y yX10_bestSuit cX10_bestSuit 5 (some .int) 2 := ⟨wd_1445, wd_219, by decide +kernel, by decide +kernel, by decide⟩
theorem lk_RL_209 : am_Lk RL 209 yX11_bestSuit := Or.inl wd_2267
theorem yy_X11_bestSuit : am_Y yX11_bestSuit cX11_bestSuit 5 (some .int) 2 := ⟨wd_2270, wd_234, by decide +kernel, by decide +kernel, by decide⟩
theorem yi_X11_bestSuit : am_Yi yX11_bestSuit 11 := ⟨wd_2268, wd_2269, _, rfl, rfl⟩
theorem yi_X10_bestSuit : am_Yi yX10_bestSuit 10 := ⟨wd_1443, wd_1444, _, rfl, rfl⟩
theorem lk_RL_202 : am_Lk RL 202 yX10_meanWets := Or.inl wd_1421
theorem yy_X10_meanWets : am_Y yX10_meanWets cX10_meanWets 4 (some .boolean) 3 := ⟨wd_1424, wd_219, by decide +kernel, by decide +kernel, by decide⟩
theorem lk_RL_205 : am_Lk RL 205 yX11_meanWets := Or.inl wd_2256
theorem yy_X11_meanWets : am_Y yX11_meanWets cX11_meanWets 7 (some .boolean) 3 := ⟨wd_2259, wd_234, by decide +kernel, by decide +kernel, by decide⟩
theorem yi_X11_meanWets : am_Yi yX11_meanWets 11 := ⟨wd_2257, wd_2258, _, rfl, rfl⟩
theorem yi_X10_meanWets : am_Yi yX10_meanWets 10 := ⟨wd_1422, wd_1423, _, rfl, rfl⟩
theorem lk_RL_198 : am_Lk RL 198 yX10_wets := Or.inl wd_1405
theorem yy_X10_wets : am_Y yX10_wets cX10_wets 3 (some .int) 2 := ⟨wd_1408, wd_219, by decide +kernel, by decide +kernel, by decide⟩
theorem lk_RL_201 : am_Lk RL 201 yX11_wets := Or.inl wd_2244
theorem yy_X11_wets : am_Y yX11_wets cX11_wets 3 (some .int) 2 := ⟨wd_2247, wd_234, by decide +kernel, by decide +kernel, by decide⟩
theorem yi_X11_wets : am_Yi yX11_wets 11 := ⟨wd_2245, wd_2246, _, rfl, rfl⟩
theorem yi_X10_wets : am_Yi yX10_wets 10 := ⟨wd_1406, wd_1407, _, rfl, rfl⟩
theorem lk_RL_194 : am_Lk RL 194 yX10_cheatAt := Or.inl wd_1401
theorem yy_X10_cheatAt : am_Y yX10_cheatAt cX10_cheatAt 4 (some .int) 2 := ⟨wd_1404, wd_219, by decide +kernel, by decide +kernel, by decide⟩
theorem lk_RL_197 : am_Lk RL 197 yX11_cheatAt := Or.inl wd_2240
theorem yy_X11_cheatAt : am_Y yX11_cheatAt cX11_cheatAt 3 (some .int) 2 := ⟨wd_2243, wd_234, by decide +kernel, by decide +kernel, by decide⟩
theorem yi_X11_cheatAt : am_Yi yX11_cheatAt 11 := ⟨wd_2241, wd_2242, _, rfl, rfl⟩
theorem yi_X10_cheatAt : am_Yi yX10_cheatAt 10 := ⟨wd_1402, wd_1403, _, rfl, rfl⟩
theorem lk_RL_190 : am_Lk RL 190 yX10_cheat := Or.inl wd_1383
theorem yy_X10_cheat : am_Y yX10_cheat cX10_cheat 2 (some .int) 1 := ⟨wd_1386, wd_219, by decide +kernel, by decide +kernel, by decide⟩
theorem lk_RL_193 : am_Lk RL 193 yX11_cheat := Or.inl wd_2220
theorem yy_X11_cheat : am_Y yX11_cheat cX11_cheat 2 (some .int) 1 := ⟨wd_2223, wd_234, by decide +kernel, by decide +kernel, by decide⟩
theorem yi_X11_cheat : am_Yi yX11_cheat 11 := ⟨wd_2221, wd_2222, _, rfl, rfl⟩
theorem yi_X10_cheat : am_Yi yX10_cheat 10 := ⟨wd_1384, wd_1385, _, rfl, rfl⟩
theorem lk_RL_186 : am_Lk RL 186 yX10_game := Or.inl wd_1375
theorem yy_X10_game : am_Y yX10_game cX10_game 3 (some .int) 2 := ⟨wd_1378, wd_219, by decide +kernel, by decide +kernel, by decide⟩
theorem lk_RL_189 : am_Lk RL 189 yX11_game := Or.inl wd_2212
theorem yy_X11_game : am_Y yX11_game cX11_game 3 (some .int) 2 := ⟨wd_2215, wd_234, by decide +kernel, by decide +kernel, by decide⟩
theorem yi_X11_game : am_Yi yX11_game 11 := ⟨wd_2213, wd_2214, _, rfl, rfl⟩
theorem yi_X10_game : am_Yi yX10_game 10 := ⟨wd_1376, wd_1377, _, rfl, rfl⟩
theorem lk_RL_182 : am_Lk RL 182 yX10_first := Or.inl wd_1367
theorem yy_X10_first : am_Y yX10_first cX10_first 4 (some .int) 2 := ⟨wd_1370, wd_219, by decide +kernel, by decide +kernel, by decide⟩
theorem lk_RL_185 : am_Lk RL 185 yX11_first := Or.inl wd_2208
theorem yy_X11_first : am_Y yX11_first cX11_first 3 (some .int) 2 := ⟨wd_2211, wd_234, by decide +kernel, by decide +kernel, by decide⟩
theorem yi_X11_first : am_Yi yX11_first 11 := ⟨wd_2209, wd_2210, _, rfl, rfl⟩
theorem yi_X10_first : am_Yi yX10_first 10 := ⟨wd_1368, wd_1369, _, rfl, rfl⟩
theorem lk_RL_178 : am_Lk RL 178 yX10_yields := Or.inl wd_1340
theorem yy_X10_yields : am_Y yX10_yields cX10_yields 3 (some .int) 2 := ⟨wd_1343, wd_219, by decide +kernel, by decide +kernel, by decide⟩
theorem lk_RL_181 : am_Lk RL 181 yX11_yields := Or.inl wd_2196
theorem yy_X11_yields : am_Y yX11_yields cX11_yields 3 (some .int) 2 := ⟨wd_2199, wd_234, by decide +kernel, by decide +kernel, by decide⟩
theorem yi_X11_yields : am_Yi yX11_yields 11 := ⟨wd_2197, wd_2198, _, rfl, rfl⟩
theorem yi_X10_yields : am_Yi yX10_yields 10 := ⟨wd_1341, wd_1342, _, rfl, rfl⟩
theorem lk_RL_174 : am_Lk RL 174 yX10_thirstiest := Or.inl wd_1336
theorem yy_X10_thirstiest : am_Y yX10_thirstiest cX10_thirstiest 5 (some .int) 0 := ⟨wd_1339, wd_219, by decide +kernel, by decide +kernel, by decide⟩
theorem lk_RL_177 : am_Lk RL 177 yX11_thirstiest := Or.inl wd_2192
theorem yy_X11_thirstiest : am_Y yX11_thirstiest cX11_thirstiest 3 (some .int) 0 := ⟨wd_2195, wd_234, by decide +kernel, by decide +kernel, by decide⟩
theorem yi_X11_thirstiest : am_Yi yX11_thirstiest 11 := ⟨wd_2193, wd_2194, _, rfl, rfl⟩
theorem yi_X10_thirstiest : am_Yi yX10_thirstiest 10 := ⟨wd_1337, wd_1338, _, rfl, rfl⟩
theorem lk_RL_170 : am_Lk RL 170 yX10_wilts := Or.inl wd_1328
theorem yy_X10_wilts : am_Y yX10_wilts cX10_wilts 3 (some .int) 1 := ⟨wd_1331, wd_219, by decide +kernel, by decide +kernel, by decide⟩
theorem lk_RL_173 : am_Lk RL 173 yX11_wilts := Or.inl wd_2184
theorem yy_X11_wilts : am_Y yX11_wilts cX11_wilts 3 (some .int) 1 := ⟨wd_2187, wd_234, by decide +kernel, by decide +kernel, by decide⟩
theorem yi_X11_wilts : am_Yi yX11_wilts 11 := ⟨wd_2185, wd_2186, _, rfl, rfl⟩
theorem yi_X10_wilts : am_Yi yX10_wilts 10 := ⟨wd_1329, wd_1330, _, rfl, rfl⟩
theorem lk_RL_166 : am_Lk RL 166 yX10_easiest := Or.inl wd_1324
theorem yy_X10_easiest : am_Y yX10_easiest cX10_easiest 7 (some .int) 0 := ⟨wd_1327, wd_219, by decide +kernel, by decide +kernel, by decide⟩
theorem lk_RL_169 : am_Lk RL 169 yX11_easiest := Or.inl wd_2180
theorem yy_X11_easiest : am_Y yX11_easiest cX11_easiest 4 (some .int) 0 := ⟨wd_2183, wd_234, by decide +kernel, by decide +kernel, by decide⟩
theorem yi_X11_easiest : am_Yi yX11_easiest 11 := ⟨wd_2181, wd_2182, _, rfl, rfl⟩
theorem yi_X10_easiest : am_Yi yX10_easiest 10 := ⟨wd_1325, wd_1326, _, rfl, rfl⟩
theorem lk_RL_162 : am_Lk RL 162 yX10_over := Or.inl wd_1316
theorem yy_X10_over : am_Y yX10_over cX10_over 3 (some .int) 1 := ⟨wd_1319, wd_219, by decide +kernel, by decide +kernel, by decide⟩
theorem lk_RL_165 : am_Lk RL 165 yX11_over := Or.inl wd_2176
theorem yy_X11_over : am_Y yX11_over cX11_over 2 (some .int) 1 := ⟨wd_2179, wd_234, by decide +kernel, by decide +kernel, by decide⟩
theorem yi_X11_over : am_Yi yX11_over 11 := ⟨wd_2177, wd_2178, _, rfl, rfl⟩
theorem yi_X10_over : am_Yi yX10_over 10 := ⟨wd_1317, wd_1318, _, rfl, rfl⟩
theorem lk_RL_158 : am_Lk RL 158 yX10_nextAt := Or.inl wd_1311
theorem yy_X10_nextAt : am_Y yX10_nextAt cX10_nextAt 3 (some .int) 1 := ⟨wd_1314, wd_219, by decide +kernel, by decide +kernel, by decide⟩
theorem lk_RL_161 : am_Lk RL 161 yX11_nextAt := Or.inl wd_2172
theorem yy_X11_nextAt : am_Y yX11_nextAt cX11_nextAt 2 (some .int) 1 := ⟨wd_2175, wd_234, by decide +kernel, by decide +kernel, by decide⟩
theorem yi_X11_nextAt : am_Yi yX11_nextAt 11 := ⟨wd_2173, wd_2174, _, rfl, rfl⟩
theorem yi_X10_nextAt : am_Yi yX10_nextAt 10 := ⟨wd_1312, wd_1313, _, rfl, rfl⟩
theorem lk_RL_154 : am_Lk RL 154 yX10_next := Or.inl wd_1287
theorem yy_X10_next : am_Y yX10_next cX10_next 3 (some .int) 1 := ⟨wd_1290, wd_219, by decide +kernel, by decide +kernel, by decide⟩
theorem lk_RL_157 : am_Lk RL 157 yX11_next := Or.inl wd_2160
theorem yy_X11_next : am_Y yX11_next cX11_next 2 (some .int) 1 := ⟨wd_2163, wd_234, by decide +kernel, by decide +kernel, by decide⟩
theorem yi_X11_next : am_Yi yX11_next 11 := ⟨wd_2161, wd_2162, _, rfl, rfl⟩
theorem yi_X10_next : am_Yi yX10_next 10 := ⟨wd_1288, wd_1289, _, rfl, rfl⟩
theorem lk_RL_150 : am_Lk RL 150 yX10_runWater := Or.inl wd_1276
theorem yy_X10_runWater : am_Y yX10_runWater cX10_runWater 2 (some .int) 1 := ⟨wd_1279, wd_219, by decide +kernel, by decide +kernel, by decide⟩
theorem lk_RL_153 : am_Lk RL 153 yX11_runWater := Or.inl wd_2156
theorem yy_X11_runWater : am_Y yX11_runWater cX11_runWater 2 (some .int) 1 := ⟨wd_2159, wd_234, by decide +kernel, by decide +kernel, by decide⟩
theorem yi_X11_runWater : am_Yi yX11_runWater 11 := ⟨wd_2157, wd_2158, _, rfl, rfl⟩
theorem yi_X10_runWater : am_Yi yX10_runWater 10 := ⟨wd_1277, wd_1278, _, rfl, rfl⟩
theorem lk_RL_146 : am_Lk RL 146 yX10_runs := Or.inl wd_1270
theorem yy_X10_runs : am_Y yX10_runs cX10_runs 1 (some .int) 0 := ⟨wd_1273, wd_219, by decide +kernel, by decide +kernel, by decide⟩
theorem lk_RL_149 : am_Lk RL 149 yX11_runs := Or.inl wd_2144
theorem yy_X11_runs : am_Y yX11_runs cX11_runs 2 (some .int) 0 := ⟨wd_2147, wd_234, by decide +kernel, by decide +kernel, by decide⟩
theorem yi_X11_runs : am_Yi yX11_runs 11 := ⟨wd_2145, wd_2146, _, rfl, rfl⟩
theorem yi_X10_runs : am_Yi yX10_runs 10 := ⟨wd_1271, wd_1272, _, rfl, rfl⟩
theorem lk_RL_142 : am_Lk RL 142 yX10_moveAt := Or.inl wd_1266
theorem yy_X10_moveAt : am_Y yX10_moveAt cX10_moveAt 3 (some .int) 1 := ⟨wd_1269, wd_219, by decide +kernel, by decide +kernel, by decide⟩
theorem lk_RL_145 : am_Lk RL 145 yX11_moveAt := Or.inl wd_2140
theorem yy_X11_moveAt : am_Y yX11_moveAt cX11_moveAt 3 (some .int) 1 := ⟨wd_2143, wd_234, by decide +kernel, by decide +kernel, by decide⟩
theorem yi_X11_moveAt : am_Yi yX11_moveAt 11 := ⟨wd_2141, wd_2142, _, rfl, rfl⟩
theorem yi_X10_moveAt : am_Yi yX10_moveAt 10 := ⟨wd_1267, wd_1268, _, rfl, rfl⟩
theorem lk_RL_138 : am_Lk RL 138 yX10_moves := Or.inl wd_1257
theorem yy_X10_moves : am_Y yX10_moves cX10_moves 1 (some .int) 0 := ⟨wd_1260, wd_219, by decide +kernel, by decide +kernel, by decide⟩
theorem lk_RL_141 : am_Lk RL 141 yX11_moves := Or.inl wd_2132
theorem yy_X11_moves : am_Y yX11_moves cX11_moves 1 (some .int) 0 := ⟨wd_2135, wd_234, by decide +kernel, by decide +kernel, by decide⟩
theorem yi_X11_moves : am_Yi yX11_moves 11 := ⟨wd_2133, wd_2134, _, rfl, rfl⟩
theorem yi_X10_moves : am_Yi yX10_moves 10 := ⟨wd_1258, wd_1259, _, rfl, rfl⟩
theorem lk_RL_134 : am_Lk RL 134 yX10_canMove := Or.inl wd_1253
theorem yy_X10_canMove : am_Y yX10_canMove cX10_canMove 3 (some .int) 2 := ⟨wd_1256, wd_219, by decide +kernel, by decide +kernel, by decide⟩
theorem lk_RL_137 : am_Lk RL 137 yX11_canMove := Or.inl wd_2128
theorem yy_X11_canMove : am_Y yX11_canMove cX11_canMove 3 (some .int) 2 := ⟨wd_2131, wd_234, by decide +kernel, by decide +kernel, by decide⟩
theorem yi_X11_canMove : am_Yi yX11_canMove 11 := ⟨wd_2129, wd_2130, _, rfl, rfl⟩
theorem yi_X10_canMove : am_Yi yX10_canMove 10 := ⟨wd_1254, wd_1255, _, rfl, rfl⟩
theorem lk_RL_130 : am_Lk RL 130 yX10_shuffle := Or.inl wd_1231
theorem yy_X10_shuffle : am_Y yX10_shuffle cX10_shuffle 2 (some .int) 1 := ⟨wd_1234, wd_219, by decide +kernel, by decide +kernel, by decide⟩
theorem lk_RL_133 : am_Lk RL 133 yX11_shuffle := Or.inl wd_2113
theorem yy_X11_shuffle : am_Y yX11_shuffle cX11_shuffle 2 (some .int) 1 := ⟨wd_2116, wd_234, by decide +kernel, by decide +kernel, by decide⟩
theorem yi_X11_shuffle : am_Yi yX11_shuffle 11 := ⟨wd_2114, wd_2115, _, rfl, rfl⟩
theorem yi_X10_shuffle : am_Yi yX10_shuffle 10 := ⟨wd_1232, wd_1233, _, rfl, rfl⟩
theorem lk_RL_125 : am_Lk RL 125 yX10_sow := Or.inl wd_1227
theorem yy_X10_sow : am_Y yX10_sow cX10_sow 3 (some .boolean) 2 := ⟨wd_1230, wd_219, by decide +kernel, by decide +kernel, by decide⟩
theorem lk_RL_129 : am_Lk RL 129 yX11_sow := Or.inl wd_2109
theorem yy_X11_sow : am_Y yX11_sow cX11_sow 3 (some .boolean) 2 := ⟨wd_2112, wd_234, by decide +kernel, by decide +kernel, by decide⟩
theorem yi_X11_sow : am_Yi yX11_sow 11 := ⟨wd_2110, wd_2111, _, rfl, rfl⟩
theorem yi_X10_sow : am_Yi yX10_sow 10 := ⟨wd_1228, wd_1229, _, rfl, rfl⟩
theorem lk_RL_120 : am_Lk RL 120 yX10_rule := Or.inl wd_1223
theorem yy_X10_rule : am_Y yX10_rule cX10_rule 2 (some .boolean) 1 := ⟨wd_1226, wd_219, by decide +kernel, by decide +kernel, by decide⟩
theorem lk_RL_124 : am_Lk RL 124 yX11_rule := Or.inl wd_2104
theorem yy_X11_rule : am_Y yX11_rule cX11_rule 2 (some .boolean) 1 := ⟨wd_2107, wd_234, by decide +kernel, by decide +kernel, by decide⟩
theorem yi_X11_rule : am_Yi yX11_rule 11 := ⟨wd_2105, wd_2106, _, rfl, rfl⟩
theorem yi_X10_rule : am_Yi yX10_rule 10 := ⟨wd_1224, wd_1225, _, rfl, rfl⟩
theorem lk_RL_116 : am_Lk RL 116 yX10_rain := Or.inl wd_1218
theorem yy_X10_rain : am_Y yX10_rain cX10_rain 3 (some .int) 2 := ⟨wd_1221, wd_219, by decide +kernel, by decide +kernel, by decide⟩
theorem lk_RL_119 : am_Lk RL 119 yX11_rain := Or.inl wd_2100
theorem yy_X11_rain : am_Y yX11_rain cX11_rain 3 (some .int) 2 := ⟨wd_2103, wd_234, by decide +kernel, by decide +kernel, by decide⟩
theorem yi_X11_rain : am_Yi yX11_rain 11 := ⟨wd_2101, wd_2102, _, rfl, rfl⟩
theorem yi_X10_rain : am_Yi yX10_rain 10 := ⟨wd_1219, wd_1220, _, rfl, rfl⟩
theorem lk_RL_112 : am_Lk RL 112 yX10_day := Or.inl wd_1206
theorem yy_X10_day : am_Y yX10_day cX10_day 2 (some .int) 1 := ⟨wd_1209, wd_219, by decide +kernel, by decide +kernel, by decide⟩
theorem lk_RL_115 : am_Lk RL 115 yX11_day := Or.inl wd_2091
theorem yy_X11_day : am_Y yX11_day cX11_day 3 (some .int) 1 := ⟨wd_2094, wd_234, by decide +kernel, by decide +kernel, by decide⟩
theorem yi_X11_day : am_Yi yX11_day 11 := ⟨wd_2092, wd_2093, _, rfl, rfl⟩
theorem yi_X10_day : am_Yi yX10_day 10 := ⟨wd_1207, wd_1208, _, rfl, rfl⟩
theorem lk_RL_108 : am_Lk RL 108 yX10_run := Or.inl wd_1182
theorem yy_X10_run : am_Y yX10_run cX10_run 1 (some .int) 0 := ⟨wd_1185, wd_219, by decide +kernel, by decide +kernel, by decide⟩
theorem lk_RL_111 : am_Lk RL 111 yX11_run := Or.inl wd_2083
theorem yy_X11_run : am_Y yX11_run cX11_run 1 (some .int) 0 := ⟨wd_2086, wd_234, by decide +kernel, by decide +kernel, by decide⟩
theorem yi_X11_run : am_Yi yX11_run 11 := ⟨wd_2084, wd_2085, _, rfl, rfl⟩
theorem yi_X10_run : am_Yi yX10_run 10 := ⟨wd_1183, wd_1184, _, rfl, rfl⟩
theorem lk_RL_104 : am_Lk RL 104 yX10_deal := Or.inl wd_1167
theorem yy_X10_deal : am_Y yX10_deal cX10_deal 1 (some .int) 0 := ⟨wd_1170, wd_219, by decide +kernel, by decide +kernel, by decide⟩
theorem lk_RL_107 : am_Lk RL 107 yX11_deal := Or.inl wd_2075
theorem yy_X11_deal : am_Y yX11_deal cX11_deal 1 (some .int) 0 := ⟨wd_2078, wd_234, by decide +kernel, by decide +kernel, by decide⟩
theorem yi_X11_deal : am_Yi yX11_deal 11 := ⟨wd_2076, wd_2077, _, rfl, rfl⟩
theorem yi_X10_deal : am_Yi yX10_deal 10 := ⟨wd_1168, wd_1169, _, rfl, rfl⟩
theorem lk_RL_100 : am_Lk RL 100 yX10_move := Or.inl wd_1104
theorem yy_X10_move : am_Y yX10_move cX10_move 3 (some .int) 2 := ⟨wd_1107, wd_219, by decide +kernel, by decide +kernel, by decide⟩
theorem lk_RL_103 : am_Lk RL 103 yX11_move := Or.inl wd_2041
theorem yy_X11_move : am_Y yX11_move cX11_move 3 (some .int) 2 := ⟨wd_2044, wd_234, by decide +kernel, by decide +kernel, by decide⟩
theorem yi_X11_move : am_Yi yX11_move 11 := ⟨wd_2042, wd_2043, _, rfl, rfl⟩
theorem yi_X10_move : am_Yi yX10_move 10 := ⟨wd_1105, wd_1106, _, rfl, rfl⟩
theorem lk_RL_96 : am_Lk RL 96 yX10_copyRow := Or.inl wd_1100
theorem yy_X10_copyRow : am_Y yX10_copyRow cX10_copyRow 6 (some .int) 2 := ⟨wd_1103, wd_219, by decide +kernel, by decide +kernel, by decide⟩
theorem lk_RL_99 : am_Lk RL 99 yX11_copyRow := Or.inl wd_2032
theorem yy_X11_copyRow : am_Y yX11_copyRow cX11_copyRow 4 (some .int) 2 := ⟨wd_2035, wd_234, by decide +kernel, by decide +kernel, by decide⟩
theorem yi_X11_copyRow : am_Yi yX11_copyRow 11 := ⟨wd_2033, wd_2034, _, rfl, rfl⟩
theorem yi_X10_copyRow : am_Yi yX10_copyRow 10 := ⟨wd_1101, wd_1102, _, rfl, rfl⟩
theorem lk_RL_92 : am_Lk RL 92 yX10_field := Or.inl wd_1092
theorem yy_X10_field : am_Y yX10_field cX10_field 3 (some .int) 2 := ⟨wd_1095, wd_219, by decide +kernel, by decide +kernel, by decide⟩
theorem lk_RL_95 : am_Lk RL 95 yX11_field := Or.inl wd_2023
theorem yy_X11_field : am_Y yX11_field cX11_field 3 (some .int) 2 := ⟨wd_2026, wd_234, by decide +kernel, by decide +kernel, by decide⟩
theorem yi_X11_field : am_Yi yX11_field 11 := ⟨wd_2024, wd_2025, _, rfl, rfl⟩
theorem yi_X10_field : am_Yi yX10_field 10 := ⟨wd_1093, wd_1094, _, rfl, rfl⟩
theorem lk_RL_88 : am_Lk RL 88 yX10_homeOf := Or.inl wd_1084
theorem yy_X10_homeOf : am_Y yX10_homeOf cX10_homeOf 2 (some .int) 1 := ⟨wd_1087, wd_219, by decide +kernel, by decide +kernel, by decide⟩
theorem lk_RL_91 : am_Lk RL 91 yX11_homeOf := Or.inl wd_2015
theorem yy_X11_homeOf : am_Y yX11_homeOf cX11_homeOf 2 (some .int) 1 := ⟨wd_2018, wd_234, by decide +kernel, by decide +kernel, by decide⟩
theorem yi_X11_homeOf : am_Yi yX11_homeOf 11 := ⟨wd_2016, wd_2017, _, rfl, rfl⟩
theorem yi_X10_homeOf : am_Yi yX10_homeOf 10 := ⟨wd_1085, wd_1086, _, rfl, rfl⟩
theorem lk_RL_84 : am_Lk RL 84 yX10_stockAt := Or.inl wd_1075
theorem yy_X10_stockAt : am_Y yX10_stockAt cX10_stockAt 2 (some .int) 1 := ⟨wd_1078, wd_219, by decide +kernel, by decide +kernel, by decide⟩
theorem lk_RL_87 : am_Lk RL 87 yX11_stockAt := Or.inl wd_2011
theorem yy_X11_stockAt : am_Y yX11_stockAt cX11_stockAt 2 (some .int) 1 := ⟨wd_2014, wd_234, by decide +kernel, by decide +kernel, by decide⟩
theorem yi_X11_stockAt : am_Yi yX11_stockAt 11 := ⟨wd_2012, wd_2013, _, rfl, rfl⟩
theorem yi_X10_stockAt : am_Yi yX10_stockAt 10 := ⟨wd_1076, wd_1077, _, rfl, rfl⟩
theorem lk_RL_80 : am_Lk RL 80 yX10_topOf := Or.inl wd_1067
theorem yy_X10_topOf : am_Y yX10_topOf cX10_topOf 2 (some .int) 1 := ⟨wd_1070, wd_219, by decide +kernel, by decide +kernel, by decide⟩
theorem lk_RL_83 : am_Lk RL 83 yX11_topOf := Or.inl wd_1999
theorem yy_X11_topOf : am_Y yX11_topOf cX11_topOf 3 (some .int) 1 := ⟨wd_2002, wd_234, by decide +kernel, by decide +kernel, by decide⟩
theorem yi_X11_topOf : am_Yi yX11_topOf 11 := ⟨wd_2000, wd_2001, _, rfl, rfl⟩
theorem yi_X10_topOf : am_Yi yX10_topOf 10 := ⟨wd_1068, wd_1069, _, rfl, rfl⟩
theorem lk_RL_76 : am_Lk RL 76 yX10_length := Or.inl wd_1063
theorem yy_X10_length : am_Y yX10_length cX10_length 2 (some .int) 1 := ⟨wd_1066, wd_219, by decide +kernel, by decide +kernel, by decide⟩
theorem lk_RL_79 : am_Lk RL 79 yX11_length := Or.inl wd_1995
theorem yy_X11_length : am_Y yX11_length cX11_length 2 (some .int) 1 := ⟨wd_1998, wd_234, by decide +kernel, by decide +kernel, by decide⟩
theorem yi_X11_length : am_Yi yX11_length 11 := ⟨wd_1996, wd_1997, _, rfl, rfl⟩
theorem yi_X10_length : am_Yi yX10_length 10 := ⟨wd_1064, wd_1065, _, rfl, rfl⟩
theorem lk_RL_71 : am_Lk RL 71 yX10_card := Or.inl wd_1047
theorem yy_X10_card : am_Y yX10_card cX10_card 3 (some .int) 2 := ⟨wd_1050, wd_219, by decide +kernel, by decide +kernel, by decide⟩
theorem lk_RL_75 : am_Lk RL 75 yX11_card := Or.inl wd_1983
theorem yy_X11_card : am_Y yX11_card cX11_card 3 (some .int) 2 := ⟨wd_1986, wd_234, by decide +kernel, by decide +kernel, by decide⟩
theorem yi_X11_card : am_Yi yX11_card 11 := ⟨wd_1984, wd_1985, _, rfl, rfl⟩
theorem yi_X10_card : am_Yi yX10_card 10 := ⟨wd_1048, wd_1049, _, rfl, rfl⟩
theorem lk_RL_67 : am_Lk RL 67 yX10_many := Or.inl wd_1027
theorem yy_X10_many : am_Y yX10_many cX10_many 3 (some .int) 1 := ⟨wd_1030, wd_219, by decide +kernel, by decide +kernel, by decide⟩
theorem lk_RL_70 : am_Lk RL 70 yX11_many := Or.inl wd_1966
theorem yy_X11_many : am_Y yX11_many cX11_many 2 (some .int) 1 := ⟨wd_1969, wd_234, by decide +kernel, by decide +kernel, by decide⟩
theorem yi_X11_many : am_Yi yX11_many 11 := ⟨wd_1967, wd_1968, _, rfl, rfl⟩
theorem yi_X10_many : am_Yi yX10_many 10 := ⟨wd_1028, wd_1029, _, rfl, rfl⟩
theorem lk_RL_63 : am_Lk RL 63 yX10_fault := Or.inl wd_1023
theorem yy_X10_fault : am_Y yX10_fault cX10_fault 2 (some .int) 1 := ⟨wd_1026, wd_219, by decide +kernel, by decide +kernel, by decide⟩
theorem lk_RL_66 : am_Lk RL 66 yX11_fault := Or.inl wd_1759
theorem yy_X11_fault : am_Y yX11_fault cX11_fault 2 (some .int) 1 := ⟨wd_1762, wd_234, by decide +kernel, by decide +kernel, by decide⟩
theorem yi_X11_fault : am_Yi yX11_fault 11 := ⟨wd_1760, wd_1761, _, rfl, rfl⟩
theorem yi_X10_fault : am_Yi yX10_fault 10 := ⟨wd_1024, wd_1025, _, rfl, rfl⟩
theorem lk_RL_59 : am_Lk RL 59 yX10_seasons := Or.inl wd_972
theorem yy_X10_seasons : am_Y yX10_seasons cX10_seasons 2 (some .int) 1 := ⟨wd_975, wd_219, by decide +kernel, by decide +kernel, by decide⟩
theorem lk_RL_62 : am_Lk RL 62 yX11_seasons := Or.inl wd_1950
theorem yy_X11_seasons : am_Y yX11_seasons cX11_seasons 3 (some .int) 1 := ⟨wd_1953, wd_234, by decide +kernel, by decide +kernel, by decide⟩
theorem yi_X11_seasons : am_Yi yX11_seasons 11 := ⟨wd_1951, wd_1952, _, rfl, rfl⟩
theorem yi_X10_seasons : am_Yi yX10_seasons 10 := ⟨wd_973, wd_974, _, rfl, rfl⟩
theorem lk_RL_54 : am_Lk RL 54 yX10_valley := Or.inl wd_788
theorem yy_X10_valley : am_Y yX10_valley cX10_valley 2 (some .int) 1 := ⟨wd_791, wd_219, by decide +kernel, by decide +kernel, by decide⟩
theorem lk_RL_58 : am_Lk RL 58 yX11_valley := Or.inl wd_1763
theorem yy_X11_valley : am_Y yX11_valley cX11_valley 3 (some .int) 1 := ⟨wd_1766, wd_234, by decide +kernel, by decide +kernel, by decide⟩
theorem yi_X11_valley : am_Yi yX11_valley 11 := ⟨wd_1764, wd_1765, _, rfl, rfl⟩
theorem yi_X10_valley : am_Yi yX10_valley 10 := ⟨wd_789, wd_790, _, rfl, rfl⟩
theorem lk_RL_49 : am_Lk RL 49 yX10_feed := Or.inl wd_780
theorem yy_X10_feed : am_Y yX10_feed cX10_feed 6 (some .int) 5 := ⟨wd_783, wd_219, by decide +kernel, by decide +kernel, by decide⟩
theorem lk_RL_53 : am_Lk RL 53 yX11_feed := Or.inl wd_1751
theorem yy_X11_feed : am_Y yX11_feed cX11_feed 6 (some .int) 5 := ⟨wd_1754, wd_234, by decide +kernel, by decide +kernel, by decide⟩
theorem yi_X11_feed : am_Yi yX11_feed 11 := ⟨wd_1752, wd_1753, _, rfl, rfl⟩
theorem yi_X10_feed : am_Yi yX10_feed 10 := ⟨wd_781, wd_782, _, rfl, rfl⟩
theorem lk_RL_44 : am_Lk RL 44 yX10_pour := Or.inl wd_773
theorem yy_X10_pour : am_Y yX10_pour cX10_pour 8 (some .boolean) 5 := ⟨wd_776, wd_219, by decide +kernel, by decide +kernel, by decide⟩
theorem lk_RL_48 : am_Lk RL 48 yX11_pour := Or.inl wd_1747
theorem yy_X11_pour : am_Y yX11_pour cX11_pour 9 (some .boolean) 5 := ⟨wd_1750, wd_234, by decide +kernel, by decide +kernel, by decide⟩
theorem yi_X11_pour : am_Yi yX11_pour 11 := ⟨wd_1748, wd_1749, _, rfl, rfl⟩
theorem yi_X10_pour : am_Yi yX10_pour 10 := ⟨wd_774, wd_775, _, rfl, rfl⟩
theorem lk_RL_39 : am_Lk RL 39 yX10_read := Or.inl wd_760
theorem yy_X10_read : am_Y yX10_read cX10_read 4 (some .long) 2 := ⟨wd_763, wd_219, by decide +kernel, by decide +kernel, by decide⟩
theorem lk_RL_43 : am_Lk RL 43 yX11_read := Or.inl wd_1742
theorem yy_X11_read : am_Y yX11_read cX11_read 3 (some .long) 2 := ⟨wd_1745, wd_234, by decide +kernel, by decide +kernel, by decide⟩
theorem yi_X11_read : am_Yi yX11_read 11 := ⟨wd_1743, wd_1744, _, rfl, rfl⟩
theorem yi_X10_read : am_Yi yX10_read 10 := ⟨wd_761, wd_762, _, rfl, rfl⟩
theorem lk_RL_34 : am_Lk RL 34 yX10_write := Or.inl wd_739
theorem yy_X10_write : am_Y yX10_write cX10_write 6 (some .boolean) 3 := ⟨wd_742, wd_219, by decide +kernel, by decide +kernel, by decide⟩
theorem lk_RL_38 : am_Lk RL 38 yX11_write := Or.inl wd_1727
theorem yy_X11_write : am_Y yX11_write cX11_write 5 (some .boolean) 3 := ⟨wd_1730, wd_234, by decide +kernel, by decide +kernel, by decide⟩
theorem yi_X11_write : am_Yi yX11_write 11 := ⟨wd_1728, wd_1729, _, rfl, rfl⟩
theorem yi_X10_write : am_Yi yX10_write 10 := ⟨wd_740, wd_741, _, rfl, rfl⟩
theorem lk_RL_27 : am_Lk RL 27 yX10_tray := Or.inl wd_717
theorem yy_X10_tray : am_Y yX10_tray cX10_tray 4 (some .boolean) 3 := ⟨wd_720, wd_219, by decide +kernel, by decide +kernel, by decide⟩
theorem lk_RL_31 : am_Lk RL 31 yX11_tray := Or.inl wd_1719
theorem yy_X11_tray : am_Y yX11_tray cX11_tray 5 (some .boolean) 3 := ⟨wd_1722, wd_234, by decide +kernel, by decide +kernel, by decide⟩
theorem yi_X11_tray : am_Yi yX11_tray 11 := ⟨wd_1720, wd_1721, _, rfl, rfl⟩
theorem yi_X10_tray : am_Yi yX10_tray 10 := ⟨wd_718, wd_719, _, rfl, rfl⟩
theorem lk_RL_23 : am_Lk RL 23 yX10_bottom := Or.inl wd_713
theorem yy_X10_bottom : am_Y yX10_bottom cX10_bottom 1 (some .long) 0 := ⟨wd_716, wd_219, by decide +kernel, by decide +kernel, by decide⟩
theorem lk_RL_26 : am_Lk RL 26 yX11_bottom := Or.inl wd_1715
theorem yy_X11_bottom : am_Y yX11_bottom cX11_bottom 1 (some .long) 0 := ⟨wd_1718, wd_234, by decide +kernel, by decide +kernel, by decide⟩
theorem yi_X11_bottom : am_Yi yX11_bottom 11 := ⟨wd_1716, wd_1717, _, rfl, rfl⟩
theorem yi_X10_bottom : am_Yi yX10_bottom 10 := ⟨wd_714, wd_715, _, rfl, rfl⟩
theorem lk_RL_18 : am_Lk RL 18 yX10_top := Or.inl wd_709
theorem yy_X10_top : am_Y yX10_top cX10_top 1 (some .long) 0 := ⟨wd_712, wd_219, by decide +kernel, by decide +kernel, by decide⟩
theorem lk_RL_22 : am_Lk RL 22 yX11_top := Or.inl wd_1711
theorem yy_X11_top : am_Y yX11_top cX11_top 1 (some .long) 0 := ⟨wd_1714, wd_234, by decide +kernel, by decide +kernel, by decide⟩
theorem yi_X11_top : am_Yi yX11_top 11 := ⟨wd_1712, wd_1713, _, rfl, rfl⟩
theorem yi_X10_top : am_Yi yX10_top 10 := ⟨wd_710, wd_711, _, rfl, rfl⟩
theorem lk_RL_13 : am_Lk RL 13 yX10_status := Or.inl wd_705
theorem yy_X10_status : am_Y yX10_status cX10_status 1 (some .int) 0 := ⟨wd_708, wd_219, by decide +kernel, by decide +kernel, by decide⟩
theorem lk_RL_17 : am_Lk RL 17 yX11_status := Or.inl wd_1707
theorem yy_X11_status : am_Y yX11_status cX11_status 1 (some .int) 0 := ⟨wd_1710, wd_234, by decide +kernel, by decide +kernel, by decide⟩
theorem yi_X11_status : am_Yi yX11_status 11 := ⟨wd_1708, wd_1709, _, rfl, rfl⟩
theorem yi_X10_status : am_Yi yX10_status 10 := ⟨wd_706, wd_707, _, rfl, rfl⟩
