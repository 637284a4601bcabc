theorem uX0 : ∀ w ∈ u_ws RX0 TX0 10, w ∈ gws := in_pl [141, 143, 145, 147, 149, 151, 153, 155, 157, 159] (by decide +kernel) (by decide +kernel)
theorem fdX0 : ∀ j, j < 10 → fty 0 j ≠ .float ∧ fty 0 j ≠ .double := by decide +kernel
theorem uX1 : ∀ w ∈ u_ws RX1 TX1 8, w ∈ gws := in_pl [210, 212, 214, 216, 218, 220, 222, 224] (by decide +kernel) (by decide +kernel)
theorem fdX1 : ∀ j, j < 8 → fty 1 j ≠ .float ∧ fty 1 j ≠ .double := by decide +kernel
theorem uX2 : ∀ w ∈ u_ws RX2 TX2 5, w ∈ gws := in_pl [371, 373, 375, 377, 379] (by decide +kernel) (by decide +kernel)
theorem fdX2 : ∀ j, j < 5 → fty 2 j ≠ .float ∧ fty 2 j ≠ .double := by decide +kernel
theorem uX3 : ∀ w ∈ u_ws RX3 TX3 8, w ∈ gws := in_pl [322, 324, 326, 328, 330, 332, 334, 336] (by decide +kernel) (by decide +kernel)
theorem fdX3 : ∀ j, j < 8 → fty 3 j ≠ .float ∧ fty 3 j ≠ .double := by decide +kernel
theorem uX4 : ∀ w ∈ u_ws RX4 TX4 2, w ∈ gws := in_pl [351, 353] (by decide +kernel) (by decide +kernel)
theorem fdX4 : ∀ j, j < 2 → fty 4 j ≠ .float ∧ fty 4 j ≠ .double := by decide +kernel
theorem uX5 : ∀ w ∈ u_ws RX5 TX5 8, w ∈ gws := in_pl [172, 174, 176, 178, 180, 182, 184, 186] (by decide +kernel) (by decide +kernel)
theorem fdX5 : ∀ j, j < 8 → fty 5 j ≠ .float ∧ fty 5 j ≠ .double := by decide +kernel
theorem uX6 : ∀ w ∈ u_ws RX6 TX6 15, w ∈ gws := in_pl [260, 262, 264, 266, 268, 270, 272, 274, 276, 278, 280, 282, 284, 286, 288] (by decide +kernel) (by decide +kernel)
theorem fdX6 : ∀ j, j < 15 → fty 6 j ≠ .float ∧ fty 6 j ≠ .double := by decide +kernel
theorem uX7 : ∀ w ∈ u_ws RX7 TX7 6, w ∈ gws := in_pl [109, 111, 113, 115, 117, 119] (by decide +kernel) (by decide +kernel)
theorem fdX7 : ∀ j, j < 6 → fty 7 j ≠ .float ∧ fty 7 j ≠ .double := by decide +kernel
theorem uX8 : ∀ w ∈ u_ws RX8 TX8 4, w ∈ gws := in_pl [393, 395, 397, 399] (by decide +kernel) (by decide +kernel)
theorem fdX8 : ∀ j, j < 4 → fty 8 j ≠ .float ∧ fty 8 j ≠ .double := by decide +kernel
theorem uX9 : ∀ w ∈ u_ws RX9 TX9 11, w ∈ gws := in_pl [414, 416, 418, 420, 422, 424, 426, 428, 430, 432, 434] (by decide +kernel) (by decide +kernel)
theorem fdX9 : ∀ j, j < 11 → fty 9 j ≠ .float ∧ fty 9 j ≠ .double := by decide +kernel
theorem uX10 : ∀ w ∈ u_ws RX10 TX10 68, w ∈ gws := in_pl [1214, 1216, 1218, 1220, 1222, 1224, 1226, 1228, 1230, 1232, 1234, 1236, 1238, 1240, 1242, 1244, 1246, 1248, 1250, 1252, 1254, 1256, 1258, 1260, 1262, 1264, 1266, 1268, 1270, 1272, 1274, 1276, 1278, 1280, 1282, 1284, 1286, 1288, 1290, 1292, 1294, 1296, 1298, 1300, 1302, 1304, 1306, 1308, 1310, 1312, 1314, 1316, 1318, 1320, 1322, 1324, 1326, 1328, 1330, 1332, 1334, 1336, 1338, 1340, 1342, 1344, 1346, 1348] (by decide +kernel) (by decide +kernel)
theorem fdX10 : ∀ j, j < 68 → fty 10 j ≠ .float ∧ fty 10 j ≠ .double := by decide +kernel
theorem nb_m100 : (Int8.ofInt (-100)).toInt32 = (-100 : Int32) := by decide +kernel
theorem nb_m99 : (Int8.ofInt (-99)).toInt32 = (-99 : Int32) := by decide +kernel
theorem nb_m2 : (Int8.ofInt (-2)).toInt32 = (-2 : Int32) := by decide +kernel
theorem nb_6 : (Int8.ofInt (6)).toInt32 = (6 : Int32) := by decide +kernel
theorem nb_7 : (Int8.ofInt (7)).toInt32 = (7 : Int32) := by decide +kernel
theorem nb_8 : (Int8.ofInt (8)).toInt32 = (8 : Int32) := by decide +kernel
theorem nb_9 : (Int8.ofInt (9)).toInt32 = (9 : Int32) := by decide +kernel
theorem nb_10 : (Int8.ofInt (10)).toInt32 = (10 : Int32) := by decide +kernel
theorem nb_11 : (Int8.ofInt (11)).toInt32 = (11 : Int32) := by decide +kernel
theorem nb_12 : (Int8.ofInt (12)).toInt32 = (12 : Int32) := by decide +kernel
theorem nb_13 : (Int8.ofInt (13)).toInt32 = (13 : Int32) := by decide +kernel
theorem nb_14 : (Int8.ofInt (14)).toInt32 = (14 : Int32) := by decide +kernel
theorem nb_15 : (Int8.ofInt (15)).toInt32 = (15 : Int32) := by decide +kernel
theorem nb_16 : (Int8.ofInt (16)).toInt32 = (16 : Int32) := by decide +kernel
theorem nb_17 : (Int8.ofInt (17)).toInt32 = (17 : Int32) := by decide +kernel
theorem nb_18 : (Int8.ofInt (18)).toInt32 = (18 : Int32) := by decide +kernel
theorem nb_19 : (Int8.ofInt (19)).toInt32 = (19 : Int32) := by decide +kernel
theorem nb_20 : (Int8.ofInt (20)).toInt32 = (20 : Int32) := by decide +kernel
theorem nb_21 : (Int8.ofInt (21)).toInt32 = (21 : Int32) := by decide +kernel
theorem nb_22 : (Int8.ofInt (22)).toInt32 = (22 : Int32) := by decide +kernel
theorem nb_23 : (Int8.ofInt (23)).toInt32 = (23 : Int32) := by decide +kernel
theorem nb_24 : (Int8.ofInt (24)).toInt32 = (24 : Int32) := by decide +kernel
theorem nb_26 : (Int8.ofInt (26)).toInt32 = (26 : Int32) := by decide +kernel
theorem nb_30 : (Int8.ofInt (30)).toInt32 = (30 : Int32) := by decide +kernel
theorem nb_31 : (Int8.ofInt (31)).toInt32 = (31 : Int32) := by decide +kernel
theorem nb_32 : (Int8.ofInt (32)).toInt32 = (32 : Int32) := by decide +kernel
theorem nb_33 : (Int8.ofInt (33)).toInt32 = (33 : Int32) := by decide +kernel
theorem nb_36 : (Int8.ofInt (36)).toInt32 = (36 : Int32) := by decide +kernel
theorem nb_40 : (Int8.ofInt (40)).toInt32 = (40 : Int32) := by decide +kernel
theorem nb_41 : (Int8.ofInt (41)).toInt32 = (41 : Int32) := by decide +kernel
theorem nb_42 : (Int8.ofInt (42)).toInt32 = (42 : Int32) := by decide +kernel
theorem nb_43 : (Int8.ofInt (43)).toInt32 = (43 : Int32) := by decide +kernel
theorem nb_45 : (Int8.ofInt (45)).toInt32 = (45 : Int32) := by decide +kernel
theorem nb_47 : (Int8.ofInt (47)).toInt32 = (47 : Int32) := by decide +kernel
theorem nb_48 : (Int8.ofInt (48)).toInt32 = (48 : Int32) := by decide +kernel
theorem nb_52 : (Int8.ofInt (52)).toInt32 = (52 : Int32) := by decide +kernel
theorem nb_57 : (Int8.ofInt (57)).toInt32 = (57 : Int32) := by decide +kernel
theorem nb_59 : (Int8.ofInt (59)).toInt32 = (59 : Int32) := by decide +kernel
theorem nb_60 : (Int8.ofInt (60)).toInt32 = (60 : Int32) := by decide +kernel
theorem nb_61 : (Int8.ofInt (61)).toInt32 = (61 : Int32) := by decide +kernel
theorem nb_63 : (Int8.ofInt (63)).toInt32 = (63 : Int32) := by decide +kernel
theorem nb_64 : (Int8.ofInt (64)).toInt32 = (64 : Int32) := by decide +kernel
theorem nb_97 : (Int8.ofInt (97)).toInt32 = (97 : Int32) := by decide +kernel
theorem nb_98 : (Int8.ofInt (98)).toInt32 = (98 : Int32) := by decide +kernel
theorem nb_99 : (Int8.ofInt (99)).toInt32 = (99 : Int32) := by decide +kernel
theorem nb_100 : (Int8.ofInt (100)).toInt32 = (100 : Int32) := by decide +kernel
theorem nb_101 : (Int8.ofInt (101)).toInt32 = (101 : Int32) := by decide +kernel
theorem nb_102 : (Int8.ofInt (102)).toInt32 = (102 : Int32) := by decide +kernel
theorem nb_103 : (Int8.ofInt (103)).toInt32 = (103 : Int32) := by decide +kernel
theorem nb_104 : (Int8.ofInt (104)).toInt32 = (104 : Int32) := by decide +kernel
theorem nb_105 : (Int8.ofInt (105)).toInt32 = (105 : Int32) := by decide +kernel
theorem nb_107 : (Int8.ofInt (107)).toInt32 = (107 : Int32) := by decide +kernel
theorem nb_108 : (Int8.ofInt (108)).toInt32 = (108 : Int32) := by decide +kernel
theorem nb_109 : (Int8.ofInt (109)).toInt32 = (109 : Int32) := by decide +kernel
theorem nb_110 : (Int8.ofInt (110)).toInt32 = (110 : Int32) := by decide +kernel
theorem nb_111 : (Int8.ofInt (111)).toInt32 = (111 : Int32) := by decide +kernel
theorem nb_112 : (Int8.ofInt (112)).toInt32 = (112 : Int32) := by decide +kernel
theorem nb_113 : (Int8.ofInt (113)).toInt32 = (113 : Int32) := by decide +kernel
theorem nb_114 : (Int8.ofInt (114)).toInt32 = (114 : Int32) := by decide +kernel
theorem nb_115 : (Int8.ofInt (115)).toInt32 = (115 : Int32) := by decide +kernel
theorem nb_116 : (Int8.ofInt (116)).toInt32 = (116 : Int32) := by decide +kernel
theorem nb_117 : (Int8.ofInt (117)).toInt32 = (117 : Int32) := by decide +kernel
theorem nb_118 : (Int8.ofInt (118)).toInt32 = (118 : Int32) := by decide +kernel
theorem nb_119 : (Int8.ofInt (119)).toInt32 = (119 : Int32) := by decide +kernel
theorem nb_121 : (Int8.ofInt (121)).toInt32 = (121 : Int32) := by decide +kernel
theorem nb_122 : (Int8.ofInt (122)).toInt32 = (122 : Int32) := by decide +kernel
theorem ni_m8 : Int32.ofInt (-8) = (-8 : Int32) := by decide +kernel
theorem ni_m1 : Int32.ofInt (-1) = (-1 : Int32) := by decide +kernel
theorem ni_0 : Int32.ofInt (0) = (0 : Int32) := by decide +kernel
theorem ni_1 : Int32.ofInt (1) = (1 : Int32) := by decide +kernel
theorem ni_2 : Int32.ofInt (2) = (2 : Int32) := by decide +kernel
theorem ni_3 : Int32.ofInt (3) = (3 : Int32) := by decide +kernel
theorem ni_4 : Int32.ofInt (4) = (4 : Int32) := by decide +kernel
theorem ni_5 : Int32.ofInt (5) = (5 : Int32) := by decide +kernel
theorem ni_6 : Int32.ofInt (6) = (6 : Int32) := by decide +kernel
theorem ni_7 : Int32.ofInt (7) = (7 : Int32) := by decide +kernel
theorem ni_8 : Int32.ofInt (8) = (8 : Int32) := by decide +kernel
theorem ni_9 : Int32.ofInt (9) = (9 : Int32) := by decide +kernel
theorem ni_10 : Int32.ofInt (10) = (10 : Int32) := by decide +kernel
theorem ni_11 : Int32.ofInt (11) = (11 : Int32) := by decide +kernel
theorem ni_12 : Int32.ofInt (12) = (12 : Int32) := by decide +kernel
theorem ni_13 : Int32.ofInt (13) = (13 : Int32) := by decide +kernel
theorem ni_14 : Int32.ofInt (14) = (14 : Int32) := by decide +kernel
theorem ni_15 : Int32.ofInt (15) = (15 : Int32) := by decide +kernel
theorem ni_16 : Int32.ofInt (16) = (16 : Int32) := by decide +kernel
theorem ni_17 : Int32.ofInt (17) = (17 : Int32) := by decide +kernel
theorem ni_20 : Int32.ofInt (20) = (20 : Int32) := by decide +kernel
theorem ni_21 : Int32.ofInt (21) = (21 : Int32) := by decide +kernel
theorem ni_22 : Int32.ofInt (22) = (22 : Int32) := by decide +kernel
theorem ni_23 : Int32.ofInt (23) = (23 : Int32) := by decide +kernel
theorem ni_24 : Int32.ofInt (24) = (24 : Int32) := by decide +kernel
theorem ni_25 : Int32.ofInt (25) = (25 : Int32) := by decide +kernel
theorem ni_26 : Int32.ofInt (26) = (26 : Int32) := by decide +kernel
theorem ni_27 : Int32.ofInt (27) = (27 : Int32) := by decide +kernel
theorem ni_28 : Int32.ofInt (28) = (28 : Int32) := by decide +kernel
theorem ni_29 : Int32.ofInt (29) = (29 : Int32) := by decide +kernel
theorem ni_42 : Int32.ofInt (42) = (42 : Int32) := by decide +kernel
theorem ni_43 : Int32.ofInt (43) = (43 : Int32) := by decide +kernel
theorem ni_44 : Int32.ofInt (44) = (44 : Int32) := by decide +kernel
theorem ni_45 : Int32.ofInt (45) = (45 : Int32) := by decide +kernel
theorem ni_46 : Int32.ofInt (46) = (46 : Int32) := by decide +kernel
theorem ni_47 : Int32.ofInt (47) = (47 : Int32) := by decide +kernel
theorem ns_130 : (Int16.ofInt (130)).toInt32 = (130 : Int32) := by decide +kernel
theorem ns_141 : (Int16.ofInt (141)).toInt32 = (141 : Int32) := by decide +kernel
theorem ns_255 : (Int16.ofInt (255)).toInt32 = (255 : Int32) := by decide +kernel
theorem ns_256 : (Int16.ofInt (256)).toInt32 = (256 : Int32) := by decide +kernel
theorem ns_260 : (Int16.ofInt (260)).toInt32 = (260 : Int32) := by decide +kernel
theorem ns_400 : (Int16.ofInt (400)).toInt32 = (400 : Int32) := by decide +kernel
theorem ns_403 : (Int16.ofInt (403)).toInt32 = (403 : Int32) := by decide +kernel
theorem ns_420 : (Int16.ofInt (420)).toInt32 = (420 : Int32) := by decide +kernel
theorem ns_840 : (Int16.ofInt (840)).toInt32 = (840 : Int32) := by decide +kernel
theorem ns_1287 : (Int16.ofInt (1287)).toInt32 = (1287 : Int32) := by decide +kernel
theorem ns_1320 : (Int16.ofInt (1320)).toInt32 = (1320 : Int32) := by decide +kernel
theorem ns_2000 : (Int16.ofInt (2000)).toInt32 = (2000 : Int32) := by decide +kernel
theorem ns_9999 : (Int16.ofInt (9999)).toInt32 = (9999 : Int32) := by decide +kernel
theorem ns_10000 : (Int16.ofInt (10000)).toInt32 = (10000 : Int32) := by decide +kernel
theorem ns_12345 : (Int16.ofInt (12345)).toInt32 = (12345 : Int32) := by decide +kernel
theorem k_X0_9 : fk RX0 9 0 0 := ⟨(RX0, TX0, 10), rfl, by decide, rfl, tyX0_ok, rfl, uX0, nmX0, Or.inl (wi 130 (by decide +kernel) rfl)⟩
theorem k_X0_15 : fk RX0 15 0 1 := ⟨(RX0, TX0, 10), rfl, by decide, rfl, tyX0_ok, rfl, uX0, nmX0, Or.inl (wi 131 (by decide +kernel) rfl)⟩
theorem k_X0_18 : fk RX0 18 0 2 := ⟨(RX0, TX0, 10), rfl, by decide, rfl, tyX0_ok, rfl, uX0, nmX0, Or.inl (wi 132 (by decide +kernel) rfl)⟩
theorem k_X0_21 : fk RX0 21 0 3 := ⟨(RX0, TX0, 10), rfl, by decide, rfl, tyX0_ok, rfl, uX0, nmX0, Or.inl (wi 133 (by decide +kernel) rfl)⟩
theorem k_X0_24 : fk RX0 24 0 4 := ⟨(RX0, TX0, 10), rfl, by decide, rfl, tyX0_ok, rfl, uX0, nmX0, Or.inl (wi 134 (by decide +kernel) rfl)⟩
theorem k_X0_28 : fk RX0 28 0 5 := ⟨(RX0, TX0, 10), rfl, by decide, rfl, tyX0_ok, rfl, uX0, nmX0, Or.inl (wi 135 (by decide +kernel) rfl)⟩
theorem k_X0_31 : fk RX0 31 0 6 := ⟨(RX0, TX0, 10), rfl, by decide, rfl, tyX0_ok, rfl, uX0, nmX0, Or.inl (wi 136 (by decide +kernel) rfl)⟩
theorem k_X0_34 : fk RX0 34 0 7 := ⟨(RX0, TX0, 10), rfl, by decide, rfl, tyX0_ok, rfl, uX0, nmX0, Or.inl (wi 138 (by decide +kernel) rfl)⟩
theorem k_X0_37 : fk RX0 37 0 8 := ⟨(RX0, TX0, 10), rfl, by decide, rfl, tyX0_ok, rfl, uX0, nmX0, Or.inl (wi 139 (by decide +kernel) rfl)⟩
theorem k_X0_41 : fk RX0 41 0 9 := ⟨(RX0, TX0, 10), rfl, by decide, rfl, tyX0_ok, rfl, uX0, nmX0, Or.inl (wi 140 (by decide +kernel) rfl)⟩
theorem k_X0_44 : fk RX0 44 7 3 := ⟨(RX7, TX7, 6), rfl, by decide, rfl, tyX7_ok, rfl, uX7, nmX7, Or.inr ⟨"VoiceTonight", ni 102 (by decide +kernel) rfl⟩⟩
theorem k_X0_71 : fk RX0 71 7 4 := ⟨(RX7, TX7, 6), rfl, by decide, rfl, tyX7_ok, rfl, uX7, nmX7, Or.inr ⟨"VoiceTonight", ni 105 (by decide +kernel) rfl⟩⟩
theorem k_X1_11 : fk RX1 11 1 0 := ⟨(RX1, TX1, 8), rfl, by decide, rfl, tyX1_ok, rfl, uX1, nmX1, Or.inl (wi 201 (by decide +kernel) rfl)⟩
theorem k_X1_15 : fk RX1 15 1 1 := ⟨(RX1, TX1, 8), rfl, by decide, rfl, tyX1_ok, rfl, uX1, nmX1, Or.inl (wi 202 (by decide +kernel) rfl)⟩
theorem k_X1_19 : fk RX1 19 1 2 := ⟨(RX1, TX1, 8), rfl, by decide, rfl, tyX1_ok, rfl, uX1, nmX1, Or.inl (wi 203 (by decide +kernel) rfl)⟩
theorem k_X1_22 : fk RX1 22 1 3 := ⟨(RX1, TX1, 8), rfl, by decide, rfl, tyX1_ok, rfl, uX1, nmX1, Or.inl (wi 204 (by decide +kernel) rfl)⟩
theorem k_X1_25 : fk RX1 25 1 4 := ⟨(RX1, TX1, 8), rfl, by decide, rfl, tyX1_ok, rfl, uX1, nmX1, Or.inl (wi 205 (by decide +kernel) rfl)⟩
theorem k_X1_28 : fk RX1 28 1 5 := ⟨(RX1, TX1, 8), rfl, by decide, rfl, tyX1_ok, rfl, uX1, nmX1, Or.inl (wi 206 (by decide +kernel) rfl)⟩
theorem k_X1_31 : fk RX1 31 1 6 := ⟨(RX1, TX1, 8), rfl, by decide, rfl, tyX1_ok, rfl, uX1, nmX1, Or.inl (wi 208 (by decide +kernel) rfl)⟩
theorem k_X1_34 : fk RX1 34 1 7 := ⟨(RX1, TX1, 8), rfl, by decide, rfl, tyX1_ok, rfl, uX1, nmX1, Or.inl (wi 209 (by decide +kernel) rfl)⟩
theorem k_X10_13 : fk RX10 13 10 1 := ⟨(RX10, TX10, 68), rfl, by decide, rfl, tyX10_ok, rfl, uX10, nmX10, Or.inl (wi 1147 (by decide +kernel) rfl)⟩
theorem k_X10_17 : fk RX10 17 10 3 := ⟨(RX10, TX10, 68), rfl, by decide, rfl, tyX10_ok, rfl, uX10, nmX10, Or.inl (wi 1149 (by decide +kernel) rfl)⟩
theorem k_X10_20 : fk RX10 20 10 5 := ⟨(RX10, TX10, 68), rfl, by decide, rfl, tyX10_ok, rfl, uX10, nmX10, Or.inl (wi 1151 (by decide +kernel) rfl)⟩
theorem k_X10_24 : fk RX10 24 10 6 := ⟨(RX10, TX10, 68), rfl, by decide, rfl, tyX10_ok, rfl, uX10, nmX10, Or.inl (wi 1152 (by decide +kernel) rfl)⟩
theorem k_X10_27 : fk RX10 27 10 7 := ⟨(RX10, TX10, 68), rfl, by decide, rfl, tyX10_ok, rfl, uX10, nmX10, Or.inl (wi 1153 (by decide +kernel) rfl)⟩
theorem k_X10_30 : fk RX10 30 10 8 := ⟨(RX10, TX10, 68), rfl, by decide, rfl, tyX10_ok, rfl, uX10, nmX10, Or.inl (wi 1154 (by decide +kernel) rfl)⟩
theorem k_X10_34 : fk RX10 34 10 9 := ⟨(RX10, TX10, 68), rfl, by decide, rfl, tyX10_ok, rfl, uX10, nmX10, Or.inl (wi 1155 (by decide +kernel) rfl)⟩
theorem k_X10_37 : fk RX10 37 10 17 := ⟨(RX10, TX10, 68), rfl, by decide, rfl, tyX10_ok, rfl, uX10, nmX10, Or.inl (wi 1163 (by decide +kernel) rfl)⟩
theorem k_X10_40 : fk RX10 40 10 21 := ⟨(RX10, TX10, 68), rfl, by decide, rfl, tyX10_ok, rfl, uX10, nmX10, Or.inl (wi 1167 (by decide +kernel) rfl)⟩
theorem k_X10_43 : fk RX10 43 10 22 := ⟨(RX10, TX10, 68), rfl, by decide, rfl, tyX10_ok, rfl, uX10, nmX10, Or.inl (wi 1168 (by decide +kernel) rfl)⟩
theorem k_X10_46 : fk RX10 46 10 23 := ⟨(RX10, TX10, 68), rfl, by decide, rfl, tyX10_ok, rfl, uX10, nmX10, Or.inl (wi 1169 (by decide +kernel) rfl)⟩
theorem k_X10_49 : fk RX10 49 10 24 := ⟨(RX10, TX10, 68), rfl, by decide, rfl, tyX10_ok, rfl, uX10, nmX10, Or.inl (wi 1170 (by decide +kernel) rfl)⟩
theorem k_X10_52 : fk RX10 52 10 25 := ⟨(RX10, TX10, 68), rfl, by decide, rfl, tyX10_ok, rfl, uX10, nmX10, Or.inl (wi 1171 (by decide +kernel) rfl)⟩
theorem k_X10_55 : fk RX10 55 10 26 := ⟨(RX10, TX10, 68), rfl, by decide, rfl, tyX10_ok, rfl, uX10, nmX10, Or.inl (wi 1172 (by decide +kernel) rfl)⟩
theorem k_X10_58 : fk RX10 58 10 27 := ⟨(RX10, TX10, 68), rfl, by decide, rfl, tyX10_ok, rfl, uX10, nmX10, Or.inl (wi 1173 (by decide +kernel) rfl)⟩
theorem k_X10_61 : fk RX10 61 10 28 := ⟨(RX10, TX10, 68), rfl, by decide, rfl, tyX10_ok, rfl, uX10, nmX10, Or.inl (wi 1174 (by decide +kernel) rfl)⟩
theorem k_X10_64 : fk RX10 64 10 29 := ⟨(RX10, TX10, 68), rfl, by decide, rfl, tyX10_ok, rfl, uX10, nmX10, Or.inl (wi 1175 (by decide +kernel) rfl)⟩
theorem k_X10_67 : fk RX10 67 10 30 := ⟨(RX10, TX10, 68), rfl, by decide, rfl, tyX10_ok, rfl, uX10, nmX10, Or.inl (wi 1176 (by decide +kernel) rfl)⟩
theorem k_X10_70 : fk RX10 70 10 31 := ⟨(RX10, TX10, 68), rfl, by decide, rfl, tyX10_ok, rfl, uX10, nmX10, Or.inl (wi 1177 (by decide +kernel) rfl)⟩
theorem k_X10_73 : fk RX10 73 10 32 := ⟨(RX10, TX10, 68), rfl, by decide, rfl, tyX10_ok, rfl, uX10, nmX10, Or.inl (wi 1178 (by decide +kernel) rfl)⟩
theorem k_X10_76 : fk RX10 76 10 33 := ⟨(RX10, TX10, 68), rfl, by decide, rfl, tyX10_ok, rfl, uX10, nmX10, Or.inl (wi 1179 (by decide +kernel) rfl)⟩
theorem k_X10_79 : fk RX10 79 10 34 := ⟨(RX10, TX10, 68), rfl, by decide, rfl, tyX10_ok, rfl, uX10, nmX10, Or.inl (wi 1180 (by decide +kernel) rfl)⟩
theorem k_X10_82 : fk RX10 82 10 35 := ⟨(RX10, TX10, 68), rfl, by decide, rfl, tyX10_ok, rfl, uX10, nmX10, Or.inl (wi 1181 (by decide +kernel) rfl)⟩
theorem k_X10_85 : fk RX10 85 10 36 := ⟨(RX10, TX10, 68), rfl, by decide, rfl, tyX10_ok, rfl, uX10, nmX10, Or.inl (wi 1182 (by decide +kernel) rfl)⟩
theorem k_X10_88 : fk RX10 88 10 38 := ⟨(RX10, TX10, 68), rfl, by decide, rfl, tyX10_ok, rfl, uX10, nmX10, Or.inl (wi 1184 (by decide +kernel) rfl)⟩
theorem k_X10_92 : fk RX10 92 10 39 := ⟨(RX10, TX10, 68), rfl, by decide, rfl, tyX10_ok, rfl, uX10, nmX10, Or.inl (wi 1185 (by decide +kernel) rfl)⟩
theorem k_X10_95 : fk RX10 95 10 40 := ⟨(RX10, TX10, 68), rfl, by decide, rfl, tyX10_ok, rfl, uX10, nmX10, Or.inl (wi 1186 (by decide +kernel) rfl)⟩
theorem k_X10_98 : fk RX10 98 10 41 := ⟨(RX10, TX10, 68), rfl, by decide, rfl, tyX10_ok, rfl, uX10, nmX10, Or.inl (wi 1187 (by decide +kernel) rfl)⟩
theorem k_X10_101 : fk RX10 101 10 42 := ⟨(RX10, TX10, 68), rfl, by decide, rfl, tyX10_ok, rfl, uX10, nmX10, Or.inl (wi 1188 (by decide +kernel) rfl)⟩
theorem k_X10_104 : fk RX10 104 10 44 := ⟨(RX10, TX10, 68), rfl, by decide, rfl, tyX10_ok, rfl, uX10, nmX10, Or.inl (wi 1190 (by decide +kernel) rfl)⟩
theorem k_X10_107 : fk RX10 107 10 45 := ⟨(RX10, TX10, 68), rfl, by decide, rfl, tyX10_ok, rfl, uX10, nmX10, Or.inl (wi 1191 (by decide +kernel) rfl)⟩
theorem k_X10_110 : fk RX10 110 10 46 := ⟨(RX10, TX10, 68), rfl, by decide, rfl, tyX10_ok, rfl, uX10, nmX10, Or.inl (wi 1192 (by decide +kernel) rfl)⟩
theorem k_X10_113 : fk RX10 113 10 48 := ⟨(RX10, TX10, 68), rfl, by decide, rfl, tyX10_ok, rfl, uX10, nmX10, Or.inl (wi 1194 (by decide +kernel) rfl)⟩
theorem k_X10_116 : fk RX10 116 10 49 := ⟨(RX10, TX10, 68), rfl, by decide, rfl, tyX10_ok, rfl, uX10, nmX10, Or.inl (wi 1195 (by decide +kernel) rfl)⟩
theorem k_X10_119 : fk RX10 119 10 51 := ⟨(RX10, TX10, 68), rfl, by decide, rfl, tyX10_ok, rfl, uX10, nmX10, Or.inl (wi 1197 (by decide +kernel) rfl)⟩
theorem k_X10_122 : fk RX10 122 10 52 := ⟨(RX10, TX10, 68), rfl, by decide, rfl, tyX10_ok, rfl, uX10, nmX10, Or.inl (wi 1198 (by decide +kernel) rfl)⟩
theorem k_X10_125 : fk RX10 125 10 55 := ⟨(RX10, TX10, 68), rfl, by decide, rfl, tyX10_ok, rfl, uX10, nmX10, Or.inl (wi 1201 (by decide +kernel) rfl)⟩
theorem k_X10_128 : fk RX10 128 10 56 := ⟨(RX10, TX10, 68), rfl, by decide, rfl, tyX10_ok, rfl, uX10, nmX10, Or.inl (wi 1202 (by decide +kernel) rfl)⟩
theorem k_X10_131 : fk RX10 131 10 59 := ⟨(RX10, TX10, 68), rfl, by decide, rfl, tyX10_ok, rfl, uX10, nmX10, Or.inl (wi 1205 (by decide +kernel) rfl)⟩
theorem k_X10_134 : fk RX10 134 10 62 := ⟨(RX10, TX10, 68), rfl, by decide, rfl, tyX10_ok, rfl, uX10, nmX10, Or.inl (wi 1208 (by decide +kernel) rfl)⟩
theorem k_X10_137 : fk RX10 137 10 64 := ⟨(RX10, TX10, 68), rfl, by decide, rfl, tyX10_ok, rfl, uX10, nmX10, Or.inl (wi 1210 (by decide +kernel) rfl)⟩
theorem k_X10_140 : fk RX10 140 10 65 := ⟨(RX10, TX10, 68), rfl, by decide, rfl, tyX10_ok, rfl, uX10, nmX10, Or.inl (wi 1211 (by decide +kernel) rfl)⟩
theorem k_X10_143 : fk RX10 143 10 66 := ⟨(RX10, TX10, 68), rfl, by decide, rfl, tyX10_ok, rfl, uX10, nmX10, Or.inl (wi 1212 (by decide +kernel) rfl)⟩
theorem k_X10_146 : fk RX10 146 10 67 := ⟨(RX10, TX10, 68), rfl, by decide, rfl, tyX10_ok, rfl, uX10, nmX10, Or.inl (wi 1213 (by decide +kernel) rfl)⟩
theorem k_X10_167 : fk RX10 167 10 2 := ⟨(RX10, TX10, 68), rfl, by decide, rfl, tyX10_ok, rfl, uX10, nmX10, Or.inl (wi 1148 (by decide +kernel) rfl)⟩
theorem k_X10_173 : fk RX10 173 10 4 := ⟨(RX10, TX10, 68), rfl, by decide, rfl, tyX10_ok, rfl, uX10, nmX10, Or.inl (wi 1150 (by decide +kernel) rfl)⟩
theorem k_X10_178 : fk RX10 178 10 10 := ⟨(RX10, TX10, 68), rfl, by decide, rfl, tyX10_ok, rfl, uX10, nmX10, Or.inl (wi 1156 (by decide +kernel) rfl)⟩
theorem k_X10_200 : fk RX10 200 10 13 := ⟨(RX10, TX10, 68), rfl, by decide, rfl, tyX10_ok, rfl, uX10, nmX10, Or.inl (wi 1159 (by decide +kernel) rfl)⟩
theorem k_X10_203 : fk RX10 203 10 11 := ⟨(RX10, TX10, 68), rfl, by decide, rfl, tyX10_ok, rfl, uX10, nmX10, Or.inl (wi 1157 (by decide +kernel) rfl)⟩
theorem k_X10_206 : fk RX10 206 10 14 := ⟨(RX10, TX10, 68), rfl, by decide, rfl, tyX10_ok, rfl, uX10, nmX10, Or.inl (wi 1160 (by decide +kernel) rfl)⟩
theorem k_X10_209 : fk RX10 209 10 15 := ⟨(RX10, TX10, 68), rfl, by decide, rfl, tyX10_ok, rfl, uX10, nmX10, Or.inl (wi 1161 (by decide +kernel) rfl)⟩
theorem k_X10_212 : fk RX10 212 10 16 := ⟨(RX10, TX10, 68), rfl, by decide, rfl, tyX10_ok, rfl, uX10, nmX10, Or.inl (wi 1162 (by decide +kernel) rfl)⟩
theorem k_X10_227 : fk RX10 227 10 12 := ⟨(RX10, TX10, 68), rfl, by decide, rfl, tyX10_ok, rfl, uX10, nmX10, Or.inl (wi 1158 (by decide +kernel) rfl)⟩
theorem k_X10_230 : fk RX10 230 10 18 := ⟨(RX10, TX10, 68), rfl, by decide, rfl, tyX10_ok, rfl, uX10, nmX10, Or.inl (wi 1164 (by decide +kernel) rfl)⟩
theorem k_X10_233 : fk RX10 233 10 19 := ⟨(RX10, TX10, 68), rfl, by decide, rfl, tyX10_ok, rfl, uX10, nmX10, Or.inl (wi 1165 (by decide +kernel) rfl)⟩
theorem k_X10_236 : fk RX10 236 10 20 := ⟨(RX10, TX10, 68), rfl, by decide, rfl, tyX10_ok, rfl, uX10, nmX10, Or.inl (wi 1166 (by decide +kernel) rfl)⟩
theorem k_X10_239 : fk RX10 239 10 37 := ⟨(RX10, TX10, 68), rfl, by decide, rfl, tyX10_ok, rfl, uX10, nmX10, Or.inl (wi 1183 (by decide +kernel) rfl)⟩
theorem k_X10_242 : fk RX10 242 10 43 := ⟨(RX10, TX10, 68), rfl, by decide, rfl, tyX10_ok, rfl, uX10, nmX10, Or.inl (wi 1189 (by decide +kernel) rfl)⟩
theorem k_X10_248 : fk RX10 248 10 58 := ⟨(RX10, TX10, 68), rfl, by decide, rfl, tyX10_ok, rfl, uX10, nmX10, Or.inl (wi 1204 (by decide +kernel) rfl)⟩
theorem k_X10_251 : fk RX10 251 10 63 := ⟨(RX10, TX10, 68), rfl, by decide, rfl, tyX10_ok, rfl, uX10, nmX10, Or.inl (wi 1209 (by decide +kernel) rfl)⟩
theorem k_X10_293 : fk RX10 293 10 47 := ⟨(RX10, TX10, 68), rfl, by decide, rfl, tyX10_ok, rfl, uX10, nmX10, Or.inl (wi 1193 (by decide +kernel) rfl)⟩
theorem k_X10_306 : fk RX10 306 10 50 := ⟨(RX10, TX10, 68), rfl, by decide, rfl, tyX10_ok, rfl, uX10, nmX10, Or.inl (wi 1196 (by decide +kernel) rfl)⟩
theorem k_X10_314 : fk RX10 314 10 53 := ⟨(RX10, TX10, 68), rfl, by decide, rfl, tyX10_ok, rfl, uX10, nmX10, Or.inl (wi 1199 (by decide +kernel) rfl)⟩
theorem k_X10_317 : fk RX10 317 10 54 := ⟨(RX10, TX10, 68), rfl, by decide, rfl, tyX10_ok, rfl, uX10, nmX10, Or.inl (wi 1200 (by decide +kernel) rfl)⟩
theorem k_X10_356 : fk RX10 356 10 57 := ⟨(RX10, TX10, 68), rfl, by decide, rfl, tyX10_ok, rfl, uX10, nmX10, Or.inl (wi 1203 (by decide +kernel) rfl)⟩
theorem k_X10_423 : fk RX10 423 10 60 := ⟨(RX10, TX10, 68), rfl, by decide, rfl, tyX10_ok, rfl, uX10, nmX10, Or.inl (wi 1206 (by decide +kernel) rfl)⟩
theorem k_X10_426 : fk RX10 426 10 61 := ⟨(RX10, TX10, 68), rfl, by decide, rfl, tyX10_ok, rfl, uX10, nmX10, Or.inl (wi 1207 (by decide +kernel) rfl)⟩
theorem k_X2_11 : fk RX2 11 2 0 := ⟨(RX2, TX2, 5), rfl, by decide, rfl, tyX2_ok, rfl, uX2, nmX2, Or.inl (wi 364 (by decide +kernel) rfl)⟩
theorem k_X2_17 : fk RX2 17 2 1 := ⟨(RX2, TX2, 5), rfl, by decide, rfl, tyX2_ok, rfl, uX2, nmX2, Or.inl (wi 365 (by decide +kernel) rfl)⟩
theorem k_X2_21 : fk RX2 21 2 2 := ⟨(RX2, TX2, 5), rfl, by decide, rfl, tyX2_ok, rfl, uX2, nmX2, Or.inl (wi 366 (by decide +kernel) rfl)⟩
theorem k_X2_24 : fk RX2 24 2 3 := ⟨(RX2, TX2, 5), rfl, by decide, rfl, tyX2_ok, rfl, uX2, nmX2, Or.inl (wi 368 (by decide +kernel) rfl)⟩
theorem k_X2_27 : fk RX2 27 2 4 := ⟨(RX2, TX2, 5), rfl, by decide, rfl, tyX2_ok, rfl, uX2, nmX2, Or.inl (wi 369 (by decide +kernel) rfl)⟩
theorem k_X3_9 : fk RX3 9 3 0 := ⟨(RX3, TX3, 8), rfl, by decide, rfl, tyX3_ok, rfl, uX3, nmX3, Or.inl (wi 297 (by decide +kernel) rfl)⟩
theorem k_X3_15 : fk RX3 15 3 1 := ⟨(RX3, TX3, 8), rfl, by decide, rfl, tyX3_ok, rfl, uX3, nmX3, Or.inl (wi 300 (by decide +kernel) rfl)⟩
theorem k_X3_18 : fk RX3 18 3 2 := ⟨(RX3, TX3, 8), rfl, by decide, rfl, tyX3_ok, rfl, uX3, nmX3, Or.inl (wi 303 (by decide +kernel) rfl)⟩
theorem k_X3_21 : fk RX3 21 3 3 := ⟨(RX3, TX3, 8), rfl, by decide, rfl, tyX3_ok, rfl, uX3, nmX3, Or.inl (wi 306 (by decide +kernel) rfl)⟩
theorem k_X3_24 : fk RX3 24 3 4 := ⟨(RX3, TX3, 8), rfl, by decide, rfl, tyX3_ok, rfl, uX3, nmX3, Or.inl (wi 310 (by decide +kernel) rfl)⟩
theorem k_X3_28 : fk RX3 28 3 5 := ⟨(RX3, TX3, 8), rfl, by decide, rfl, tyX3_ok, rfl, uX3, nmX3, Or.inl (wi 313 (by decide +kernel) rfl)⟩
theorem k_X3_31 : fk RX3 31 3 6 := ⟨(RX3, TX3, 8), rfl, by decide, rfl, tyX3_ok, rfl, uX3, nmX3, Or.inl (wi 316 (by decide +kernel) rfl)⟩
theorem k_X3_34 : fk RX3 34 3 7 := ⟨(RX3, TX3, 8), rfl, by decide, rfl, tyX3_ok, rfl, uX3, nmX3, Or.inl (wi 319 (by decide +kernel) rfl)⟩
theorem k_X4_11 : fk RX4 11 4 0 := ⟨(RX4, TX4, 2), rfl, by decide, rfl, tyX4_ok, rfl, uX4, nmX4, Or.inl (wi 348 (by decide +kernel) rfl)⟩
theorem k_X4_17 : fk RX4 17 4 1 := ⟨(RX4, TX4, 2), rfl, by decide, rfl, tyX4_ok, rfl, uX4, nmX4, Or.inl (wi 349 (by decide +kernel) rfl)⟩
theorem k_X5_12 : fk RX5 12 5 0 := ⟨(RX5, TX5, 8), rfl, by decide, rfl, tyX5_ok, rfl, uX5, nmX5, Or.inl (wi 163 (by decide +kernel) rfl)⟩
theorem k_X5_21 : fk RX5 21 5 1 := ⟨(RX5, TX5, 8), rfl, by decide, rfl, tyX5_ok, rfl, uX5, nmX5, Or.inl (wi 164 (by decide +kernel) rfl)⟩
theorem k_X5_25 : fk RX5 25 5 2 := ⟨(RX5, TX5, 8), rfl, by decide, rfl, tyX5_ok, rfl, uX5, nmX5, Or.inl (wi 165 (by decide +kernel) rfl)⟩
theorem k_X5_29 : fk RX5 29 5 3 := ⟨(RX5, TX5, 8), rfl, by decide, rfl, tyX5_ok, rfl, uX5, nmX5, Or.inl (wi 166 (by decide +kernel) rfl)⟩
theorem k_X5_32 : fk RX5 32 5 4 := ⟨(RX5, TX5, 8), rfl, by decide, rfl, tyX5_ok, rfl, uX5, nmX5, Or.inl (wi 167 (by decide +kernel) rfl)⟩
theorem k_X5_35 : fk RX5 35 5 5 := ⟨(RX5, TX5, 8), rfl, by decide, rfl, tyX5_ok, rfl, uX5, nmX5, Or.inl (wi 168 (by decide +kernel) rfl)⟩
theorem k_X5_38 : fk RX5 38 5 6 := ⟨(RX5, TX5, 8), rfl, by decide, rfl, tyX5_ok, rfl, uX5, nmX5, Or.inl (wi 169 (by decide +kernel) rfl)⟩
theorem k_X5_60 : fk RX5 60 7 2 := ⟨(RX7, TX7, 6), rfl, by decide, rfl, tyX7_ok, rfl, uX7, nmX7, Or.inr ⟨"VoiceTonight", ni 100 (by decide +kernel) rfl⟩⟩
theorem k_X5_84 : fk RX5 84 7 3 := ⟨(RX7, TX7, 6), rfl, by decide, rfl, tyX7_ok, rfl, uX7, nmX7, Or.inr ⟨"VoiceTonight", ni 103 (by decide +kernel) rfl⟩⟩
theorem k_X5_95 : fk RX5 95 6 0 := ⟨(RX6, TX6, 15), rfl, by decide, rfl, tyX6_ok, rfl, uX6, nmX6, Or.inr ⟨"VoiceTonight", ni 229 (by decide +kernel) rfl⟩⟩
theorem k_X5_98 : fk RX5 98 6 4 := ⟨(RX6, TX6, 15), rfl, by decide, rfl, tyX6_ok, rfl, uX6, nmX6, Or.inr ⟨"VoiceTonight", ni 239 (by decide +kernel) rfl⟩⟩
theorem k_X5_101 : fk RX5 101 6 9 := ⟨(RX6, TX6, 15), rfl, by decide, rfl, tyX6_ok, rfl, uX6, nmX6, Or.inr ⟨"VoiceTonight", ni 247 (by decide +kernel) rfl⟩⟩
theorem k_X5_140 : fk RX5 140 7 5 := ⟨(RX7, TX7, 6), rfl, by decide, rfl, tyX7_ok, rfl, uX7, nmX7, Or.inr ⟨"VoiceTonight", ni 108 (by decide +kernel) rfl⟩⟩
theorem k_X5_181 : fk RX5 181 6 12 := ⟨(RX6, TX6, 15), rfl, by decide, rfl, tyX6_ok, rfl, uX6, nmX6, Or.inr ⟨"VoiceTonight", ni 254 (by decide +kernel) rfl⟩⟩
theorem k_X5_184 : fk RX5 184 6 13 := ⟨(RX6, TX6, 15), rfl, by decide, rfl, tyX6_ok, rfl, uX6, nmX6, Or.inr ⟨"VoiceTonight", ni 256 (by decide +kernel) rfl⟩⟩
theorem k_X5_187 : fk RX5 187 6 14 := ⟨(RX6, TX6, 15), rfl, by decide, rfl, tyX6_ok, rfl, uX6, nmX6, Or.inr ⟨"VoiceTonight", ni 259 (by decide +kernel) rfl⟩⟩
theorem k_X6_9 : fk RX6 9 6 0 := ⟨(RX6, TX6, 15), rfl, by decide, rfl, tyX6_ok, rfl, uX6, nmX6, Or.inl (wi 227 (by decide +kernel) rfl)⟩
theorem k_X6_15 : fk RX6 15 6 1 := ⟨(RX6, TX6, 15), rfl, by decide, rfl, tyX6_ok, rfl, uX6, nmX6, Or.inl (wi 231 (by decide +kernel) rfl)⟩
theorem k_X6_19 : fk RX6 19 6 2 := ⟨(RX6, TX6, 15), rfl, by decide, rfl, tyX6_ok, rfl, uX6, nmX6, Or.inl (wi 232 (by decide +kernel) rfl)⟩
theorem k_X6_23 : fk RX6 23 6 3 := ⟨(RX6, TX6, 15), rfl, by decide, rfl, tyX6_ok, rfl, uX6, nmX6, Or.inl (wi 235 (by decide +kernel) rfl)⟩
theorem k_X6_26 : fk RX6 26 6 4 := ⟨(RX6, TX6, 15), rfl, by decide, rfl, tyX6_ok, rfl, uX6, nmX6, Or.inl (wi 237 (by decide +kernel) rfl)⟩
theorem k_X6_29 : fk RX6 29 6 5 := ⟨(RX6, TX6, 15), rfl, by decide, rfl, tyX6_ok, rfl, uX6, nmX6, Or.inl (wi 241 (by decide +kernel) rfl)⟩
theorem k_X6_32 : fk RX6 32 6 6 := ⟨(RX6, TX6, 15), rfl, by decide, rfl, tyX6_ok, rfl, uX6, nmX6, Or.inl (wi 242 (by decide +kernel) rfl)⟩
theorem k_X6_35 : fk RX6 35 6 7 := ⟨(RX6, TX6, 15), rfl, by decide, rfl, tyX6_ok, rfl, uX6, nmX6, Or.inl (wi 243 (by decide +kernel) rfl)⟩
theorem k_X6_38 : fk RX6 38 6 8 := ⟨(RX6, TX6, 15), rfl, by decide, rfl, tyX6_ok, rfl, uX6, nmX6, Or.inl (wi 245 (by decide +kernel) rfl)⟩
theorem k_X6_41 : fk RX6 41 6 9 := ⟨(RX6, TX6, 15), rfl, by decide, rfl, tyX6_ok, rfl, uX6, nmX6, Or.inl (wi 246 (by decide +kernel) rfl)⟩
theorem k_X6_44 : fk RX6 44 6 10 := ⟨(RX6, TX6, 15), rfl, by decide, rfl, tyX6_ok, rfl, uX6, nmX6, Or.inl (wi 248 (by decide +kernel) rfl)⟩
theorem k_X6_50 : fk RX6 50 6 11 := ⟨(RX6, TX6, 15), rfl, by decide, rfl, tyX6_ok, rfl, uX6, nmX6, Or.inl (wi 250 (by decide +kernel) rfl)⟩
theorem k_X6_54 : fk RX6 54 6 12 := ⟨(RX6, TX6, 15), rfl, by decide, rfl, tyX6_ok, rfl, uX6, nmX6, Or.inl (wi 253 (by decide +kernel) rfl)⟩
theorem k_X6_57 : fk RX6 57 6 13 := ⟨(RX6, TX6, 15), rfl, by decide, rfl, tyX6_ok, rfl, uX6, nmX6, Or.inl (wi 255 (by decide +kernel) rfl)⟩
theorem k_X6_60 : fk RX6 60 6 14 := ⟨(RX6, TX6, 15), rfl, by decide, rfl, tyX6_ok, rfl, uX6, nmX6, Or.inl (wi 257 (by decide +kernel) rfl)⟩
theorem k_X6_79 : fk RX6 79 3 0 := ⟨(RX3, TX3, 8), rfl, by decide, rfl, tyX3_ok, rfl, uX3, nmX3, Or.inr ⟨"VoiceTonight", ni 298 (by decide +kernel) rfl⟩⟩
theorem k_X6_90 : fk RX6 90 3 1 := ⟨(RX3, TX3, 8), rfl, by decide, rfl, tyX3_ok, rfl, uX3, nmX3, Or.inr ⟨"VoiceTonight", ni 301 (by decide +kernel) rfl⟩⟩
theorem k_X6_93 : fk RX6 93 3 2 := ⟨(RX3, TX3, 8), rfl, by decide, rfl, tyX3_ok, rfl, uX3, nmX3, Or.inr ⟨"VoiceTonight", ni 305 (by decide +kernel) rfl⟩⟩
theorem k_X6_96 : fk RX6 96 3 3 := ⟨(RX3, TX3, 8), rfl, by decide, rfl, tyX3_ok, rfl, uX3, nmX3, Or.inr ⟨"VoiceTonight", ni 309 (by decide +kernel) rfl⟩⟩
theorem k_X6_98 : fk RX6 98 3 4 := ⟨(RX3, TX3, 8), rfl, by decide, rfl, tyX3_ok, rfl, uX3, nmX3, Or.inr ⟨"VoiceTonight", ni 311 (by decide +kernel) rfl⟩⟩
theorem k_X6_101 : fk RX6 101 3 5 := ⟨(RX3, TX3, 8), rfl, by decide, rfl, tyX3_ok, rfl, uX3, nmX3, Or.inr ⟨"VoiceTonight", ni 314 (by decide +kernel) rfl⟩⟩
theorem k_X6_104 : fk RX6 104 3 6 := ⟨(RX3, TX3, 8), rfl, by decide, rfl, tyX3_ok, rfl, uX3, nmX3, Or.inr ⟨"VoiceTonight", ni 317 (by decide +kernel) rfl⟩⟩
theorem k_X6_107 : fk RX6 107 3 7 := ⟨(RX3, TX3, 8), rfl, by decide, rfl, tyX3_ok, rfl, uX3, nmX3, Or.inr ⟨"VoiceTonight", ni 320 (by decide +kernel) rfl⟩⟩
theorem k_X6_135 : fk RX6 135 1 5 := ⟨(RX1, TX1, 8), rfl, by decide, rfl, tyX1_ok, rfl, uX1, nmX1, Or.inr ⟨"VoiceTonight", ni 207 (by decide +kernel) rfl⟩⟩
theorem k_X7_15 : fk RX7 15 7 0 := ⟨(RX7, TX7, 6), rfl, by decide, rfl, tyX7_ok, rfl, uX7, nmX7, Or.inl (wi 97 (by decide +kernel) rfl)⟩
theorem k_X7_19 : fk RX7 19 7 1 := ⟨(RX7, TX7, 6), rfl, by decide, rfl, tyX7_ok, rfl, uX7, nmX7, Or.inl (wi 98 (by decide +kernel) rfl)⟩
theorem k_X7_23 : fk RX7 23 7 2 := ⟨(RX7, TX7, 6), rfl, by decide, rfl, tyX7_ok, rfl, uX7, nmX7, Or.inl (wi 99 (by decide +kernel) rfl)⟩
theorem k_X7_26 : fk RX7 26 7 3 := ⟨(RX7, TX7, 6), rfl, by decide, rfl, tyX7_ok, rfl, uX7, nmX7, Or.inl (wi 101 (by decide +kernel) rfl)⟩
theorem k_X7_29 : fk RX7 29 7 4 := ⟨(RX7, TX7, 6), rfl, by decide, rfl, tyX7_ok, rfl, uX7, nmX7, Or.inl (wi 104 (by decide +kernel) rfl)⟩
theorem k_X7_32 : fk RX7 32 7 5 := ⟨(RX7, TX7, 6), rfl, by decide, rfl, tyX7_ok, rfl, uX7, nmX7, Or.inl (wi 107 (by decide +kernel) rfl)⟩
theorem k_X8_9 : fk RX8 9 8 0 := ⟨(RX8, TX8, 4), rfl, by decide, rfl, tyX8_ok, rfl, uX8, nmX8, Or.inl (wi 388 (by decide +kernel) rfl)⟩
theorem k_X8_15 : fk RX8 15 8 1 := ⟨(RX8, TX8, 4), rfl, by decide, rfl, tyX8_ok, rfl, uX8, nmX8, Or.inl (wi 389 (by decide +kernel) rfl)⟩
theorem k_X8_19 : fk RX8 19 8 2 := ⟨(RX8, TX8, 4), rfl, by decide, rfl, tyX8_ok, rfl, uX8, nmX8, Or.inl (wi 390 (by decide +kernel) rfl)⟩
theorem k_X8_22 : fk RX8 22 8 3 := ⟨(RX8, TX8, 4), rfl, by decide, rfl, tyX8_ok, rfl, uX8, nmX8, Or.inl (wi 391 (by decide +kernel) rfl)⟩
theorem k_X9_9 : fk RX9 9 9 0 := ⟨(RX9, TX9, 11), rfl, by decide, rfl, tyX9_ok, rfl, uX9, nmX9, Or.inl (wi 403 (by decide +kernel) rfl)⟩
theorem k_X9_13 : fk RX9 13 9 1 := ⟨(RX9, TX9, 11), rfl, by decide, rfl, tyX9_ok, rfl, uX9, nmX9, Or.inl (wi 404 (by decide +kernel) rfl)⟩
theorem k_X9_17 : fk RX9 17 9 2 := ⟨(RX9, TX9, 11), rfl, by decide, rfl, tyX9_ok, rfl, uX9, nmX9, Or.inl (wi 405 (by decide +kernel) rfl)⟩
theorem k_X9_30 : fk RX9 30 9 4 := ⟨(RX9, TX9, 11), rfl, by decide, rfl, tyX9_ok, rfl, uX9, nmX9, Or.inl (wi 407 (by decide +kernel) rfl)⟩
theorem k_X9_40 : fk RX9 40 9 6 := ⟨(RX9, TX9, 11), rfl, by decide, rfl, tyX9_ok, rfl, uX9, nmX9, Or.inl (wi 409 (by decide +kernel) rfl)⟩
theorem k_X9_44 : fk RX9 44 9 7 := ⟨(RX9, TX9, 11), rfl, by decide, rfl, tyX9_ok, rfl, uX9, nmX9, Or.inl (wi 410 (by decide +kernel) rfl)⟩
theorem k_X9_57 : fk RX9 57 9 9 := ⟨(RX9, TX9, 11), rfl, by decide, rfl, tyX9_ok, rfl, uX9, nmX9, Or.inl (wi 412 (by decide +kernel) rfl)⟩
theorem k_X9_64 : fk RX9 64 9 10 := ⟨(RX9, TX9, 11), rfl, by decide, rfl, tyX9_ok, rfl, uX9, nmX9, Or.inl (wi 413 (by decide +kernel) rfl)⟩
theorem k_X9_84 : fk RX9 84 8 3 := ⟨(RX8, TX8, 4), rfl, by decide, rfl, tyX8_ok, rfl, uX8, nmX8, Or.inr ⟨"VoiceTonight", ni 392 (by decide +kernel) rfl⟩⟩
theorem k_X9_91 : fk RX9 91 6 2 := ⟨(RX6, TX6, 15), rfl, by decide, rfl, tyX6_ok, rfl, uX6, nmX6, Or.inr ⟨"VoiceTonight", ni 234 (by decide +kernel) rfl⟩⟩
theorem k_X9_95 : fk RX9 95 6 3 := ⟨(RX6, TX6, 15), rfl, by decide, rfl, tyX6_ok, rfl, uX6, nmX6, Or.inr ⟨"VoiceTonight", ni 236 (by decide +kernel) rfl⟩⟩
theorem k_X9_98 : fk RX9 98 3 2 := ⟨(RX3, TX3, 8), rfl, by decide, rfl, tyX3_ok, rfl, uX3, nmX3, Or.inr ⟨"VoiceTonight", ni 304 (by decide +kernel) rfl⟩⟩
theorem k_X9_101 : fk RX9 101 3 3 := ⟨(RX3, TX3, 8), rfl, by decide, rfl, tyX3_ok, rfl, uX3, nmX3, Or.inr ⟨"VoiceTonight", ni 308 (by decide +kernel) rfl⟩⟩
theorem k_X9_115 : fk RX9 115 3 0 := ⟨(RX3, TX3, 8), rfl, by decide, rfl, tyX3_ok, rfl, uX3, nmX3, Or.inr ⟨"VoiceTonight", ni 299 (by decide +kernel) rfl⟩⟩
theorem k_X9_118 : fk RX9 118 6 7 := ⟨(RX6, TX6, 15), rfl, by decide, rfl, tyX6_ok, rfl, uX6, nmX6, Or.inr ⟨"VoiceTonight", ni 244 (by decide +kernel) rfl⟩⟩
theorem k_X9_121 : fk RX9 121 3 1 := ⟨(RX3, TX3, 8), rfl, by decide, rfl, tyX3_ok, rfl, uX3, nmX3, Or.inr ⟨"VoiceTonight", ni 302 (by decide +kernel) rfl⟩⟩
theorem k_X9_131 : fk RX9 131 6 10 := ⟨(RX6, TX6, 15), rfl, by decide, rfl, tyX6_ok, rfl, uX6, nmX6, Or.inr ⟨"VoiceTonight", ni 249 (by decide +kernel) rfl⟩⟩
theorem k_X9_138 : fk RX9 138 6 11 := ⟨(RX6, TX6, 15), rfl, by decide, rfl, tyX6_ok, rfl, uX6, nmX6, Or.inr ⟨"VoiceTonight", ni 252 (by decide +kernel) rfl⟩⟩
theorem k_X9_147 : fk RX9 147 6 0 := ⟨(RX6, TX6, 15), rfl, by decide, rfl, tyX6_ok, rfl, uX6, nmX6, Or.inr ⟨"VoiceTonight", ni 230 (by decide +kernel) rfl⟩⟩
theorem k_X9_150 : fk RX9 150 6 4 := ⟨(RX6, TX6, 15), rfl, by decide, rfl, tyX6_ok, rfl, uX6, nmX6, Or.inr ⟨"VoiceTonight", ni 240 (by decide +kernel) rfl⟩⟩
theorem k_X9_153 : fk RX9 153 3 5 := ⟨(RX3, TX3, 8), rfl, by decide, rfl, tyX3_ok, rfl, uX3, nmX3, Or.inr ⟨"VoiceTonight", ni 315 (by decide +kernel) rfl⟩⟩
theorem k_X9_156 : fk RX9 156 3 6 := ⟨(RX3, TX3, 8), rfl, by decide, rfl, tyX3_ok, rfl, uX3, nmX3, Or.inr ⟨"VoiceTonight", ni 318 (by decide +kernel) rfl⟩⟩
theorem k_X9_166 : fk RX9 166 3 4 := ⟨(RX3, TX3, 8), rfl, by decide, rfl, tyX3_ok, rfl, uX3, nmX3, Or.inr ⟨"VoiceTonight", ni 312 (by decide +kernel) rfl⟩⟩
theorem k_X9_173 : fk RX9 173 2 2 := ⟨(RX2, TX2, 5), rfl, by decide, rfl, tyX2_ok, rfl, uX2, nmX2, Or.inr ⟨"VoiceTonight", ni 367 (by decide +kernel) rfl⟩⟩
theorem k_X9_174 : fk RX9 174 2 4 := ⟨(RX2, TX2, 5), rfl, by decide, rfl, tyX2_ok, rfl, uX2, nmX2, Or.inr ⟨"VoiceTonight", ni 370 (by decide +kernel) rfl⟩⟩
theorem k_X9_182 : fk RX9 182 6 14 := ⟨(RX6, TX6, 15), rfl, by decide, rfl, tyX6_ok, rfl, uX6, nmX6, Or.inr ⟨"VoiceTonight", ni 258 (by decide +kernel) rfl⟩⟩
theorem k_X9_192 : fk RX9 192 3 7 := ⟨(RX3, TX3, 8), rfl, by decide, rfl, tyX3_ok, rfl, uX3, nmX3, Or.inr ⟨"VoiceTonight", ni 321 (by decide +kernel) rfl⟩⟩
theorem p_X0_9 (y : MethodName) (hy : y.cls = RX0) : fw y 9 0 0 := ⟨by rw [hy]; exact k_X0_9, fun r hr => by cases hr; exact Or.inl rfl⟩
theorem p_X0_15 (y : MethodName) (hy : y.cls = RX0) : fw y 15 0 1 := ⟨by rw [hy]; exact k_X0_15, fun r hr => by cases hr; exact Or.inl rfl⟩
theorem p_X0_18 (y : MethodName) (hy : y.cls = RX0) : fw y 18 0 2 := ⟨by rw [hy]; exact k_X0_18, fun r hr => by cases hr; exact Or.inl rfl⟩
theorem p_X0_21 (y : MethodName) (hy : y.cls = RX0) : fw y 21 0 3 := ⟨by rw [hy]; exact k_X0_21, fun r hr => by cases hr; exact Or.inl rfl⟩
theorem p_X0_24 (y : MethodName) (hy : y.cls = RX0) : fw y 24 0 4 := ⟨by rw [hy]; exact k_X0_24, fun r hr => by cases hr; exact Or.inl rfl⟩
theorem p_X0_28 (y : MethodName) (hy : y.cls = RX0) : fw y 28 0 5 := ⟨by rw [hy]; exact k_X0_28, fun r hr => by cases hr; exact Or.inl rfl⟩
theorem p_X0_31 (y : MethodName) (hy : y.cls = RX0) : fw y 31 0 6 := ⟨by rw [hy]; exact k_X0_31, fun r hr => by cases hr; exact Or.inl rfl⟩
theorem p_X0_34 (y : MethodName) (hy : y.cls = RX0) : fw y 34 0 7 := ⟨by rw [hy]; exact k_X0_34, fun r hr => by cases hr; exact Or.inl rfl⟩
theorem p_X0_37 (y : MethodName) (hy : y.cls = RX0) (hn : y.name = "<init>") : fw y 37 0 8 := ⟨by rw [hy]; exact k_X0_37, fun r hr => by cases hr; exact Or.inr ⟨hn, hy.symm, by rw [hy]; exact wi 139 (by decide +kernel) rfl⟩⟩
theorem p_X0_41 (y : MethodName) (hy : y.cls = RX0) : fw y 41 0 9 := ⟨by rw [hy]; exact k_X0_41, fun r hr => by cases hr; exact Or.inl rfl⟩
theorem p_X1_11 (y : MethodName) (hy : y.cls = RX1) (hn : y.name = "<init>") : fw y 11 1 0 := ⟨by rw [hy]; exact k_X1_11, fun r hr => by cases hr; exact Or.inr ⟨hn, hy.symm, by rw [hy]; exact wi 201 (by decide +kernel) rfl⟩⟩
theorem p_X1_15 (y : MethodName) (hy : y.cls = RX1) : fw y 15 1 1 := ⟨by rw [hy]; exact k_X1_15, fun r hr => by cases hr; exact Or.inl rfl⟩
theorem p_X1_19 (y : MethodName) (hy : y.cls = RX1) (hn : y.name = "<init>") : fw y 19 1 2 := ⟨by rw [hy]; exact k_X1_19, fun r hr => by cases hr; exact Or.inr ⟨hn, hy.symm, by rw [hy]; exact wi 203 (by decide +kernel) rfl⟩⟩
theorem p_X1_22 (y : MethodName) (hy : y.cls = RX1) (hn : y.name = "<init>") : fw y 22 1 3 := ⟨by rw [hy]; exact k_X1_22, fun r hr => by cases hr; exact Or.inr ⟨hn, hy.symm, by rw [hy]; exact wi 204 (by decide +kernel) rfl⟩⟩
theorem p_X1_25 (y : MethodName) (hy : y.cls = RX1) (hn : y.name = "<init>") : fw y 25 1 4 := ⟨by rw [hy]; exact k_X1_25, fun r hr => by cases hr; exact Or.inr ⟨hn, hy.symm, by rw [hy]; exact wi 205 (by decide +kernel) rfl⟩⟩
theorem p_X1_28 (y : MethodName) (hy : y.cls = RX1) (hn : y.name = "<init>") : fw y 28 1 5 := ⟨by rw [hy]; exact k_X1_28, fun r hr => by cases hr; exact Or.inr ⟨hn, hy.symm, by rw [hy]; exact wi 206 (by decide +kernel) rfl⟩⟩
theorem p_X1_31 (y : MethodName) (hy : y.cls = RX1) (hn : y.name = "<init>") : fw y 31 1 6 := ⟨by rw [hy]; exact k_X1_31, fun r hr => by cases hr; exact Or.inr ⟨hn, hy.symm, by rw [hy]; exact wi 208 (by decide +kernel) rfl⟩⟩
theorem p_X1_34 (y : MethodName) (hy : y.cls = RX1) : fw y 34 1 7 := ⟨by rw [hy]; exact k_X1_34, fun r hr => by cases hr; exact Or.inl rfl⟩
theorem p_X10_13 (y : MethodName) (hy : y.cls = RX10) (hn : y.name = "<init>") : fw y 13 10 1 := ⟨by rw [hy]; exact k_X10_13, fun r hr => by cases hr; exact Or.inr ⟨hn, hy.symm, by rw [hy]; exact wi 1147 (by decide +kernel) rfl⟩⟩
theorem p_X10_17 (y : MethodName) (hy : y.cls = RX10) (hn : y.name = "<init>") : fw y 17 10 3 := ⟨by rw [hy]; exact k_X10_17, fun r hr => by cases hr; exact Or.inr ⟨hn, hy.symm, by rw [hy]; exact wi 1149 (by decide +kernel) rfl⟩⟩
theorem p_X10_20 (y : MethodName) (hy : y.cls = RX10) (hn : y.name = "<init>") : fw y 20 10 5 := ⟨by rw [hy]; exact k_X10_20, fun r hr => by cases hr; exact Or.inr ⟨hn, hy.symm, by rw [hy]; exact wi 1151 (by decide +kernel) rfl⟩⟩
theorem p_X10_24 (y : MethodName) (hy : y.cls = RX10) (hn : y.name = "<init>") : fw y 24 10 6 := ⟨by rw [hy]; exact k_X10_24, fun r hr => by cases hr; exact Or.inr ⟨hn, hy.symm, by rw [hy]; exact wi 1152 (by decide +kernel) rfl⟩⟩
theorem p_X10_27 (y : MethodName) (hy : y.cls = RX10) (hn : y.name = "<init>") : fw y 27 10 7 := ⟨by rw [hy]; exact k_X10_27, fun r hr => by cases hr; exact Or.inr ⟨hn, hy.symm, by rw [hy]; exact wi 1153 (by decide +kernel) rfl⟩⟩
theorem p_X10_30 (y : MethodName) (hy : y.cls = RX10) (hn : y.name = "<init>") : fw y 30 10 8 := ⟨by rw [hy]; exact k_X10_30, fun r hr => by cases hr; exact Or.inr ⟨hn, hy.symm, by rw [hy]; exact wi 1154 (by decide +kernel) rfl⟩⟩
theorem p_X10_34 (y : MethodName) (hy : y.cls = RX10) (hn : y.name = "<init>") : fw y 34 10 9 := ⟨by rw [hy]; exact k_X10_34, fun r hr => by cases hr; exact Or.inr ⟨hn, hy.symm, by rw [hy]; exact wi 1155 (by decide +kernel) rfl⟩⟩
theorem p_X10_37 (y : MethodName) (hy : y.cls = RX10) : fw y 37 10 17 := ⟨by rw [hy]; exact k_X10_37, fun r hr => by cases hr; exact Or.inl rfl⟩
theorem p_X10_40 (y : MethodName) (hy : y.cls = RX10) (hn : y.name = "<init>") : fw y 40 10 21 := ⟨by rw [hy]; exact k_X10_40, fun r hr => by cases hr; exact Or.inr ⟨hn, hy.symm, by rw [hy]; exact wi 1167 (by decide +kernel) rfl⟩⟩
theorem p_X10_43 (y : MethodName) (hy : y.cls = RX10) (hn : y.name = "<init>") : fw y 43 10 22 := ⟨by rw [hy]; exact k_X10_43, fun r hr => by cases hr; exact Or.inr ⟨hn, hy.symm, by rw [hy]; exact wi 1168 (by decide +kernel) rfl⟩⟩
theorem p_X10_46 (y : MethodName) (hy : y.cls = RX10) (hn : y.name = "<init>") : fw y 46 10 23 := ⟨by rw [hy]; exact k_X10_46, fun r hr => by cases hr; exact Or.inr ⟨hn, hy.symm, by rw [hy]; exact wi 1169 (by decide +kernel) rfl⟩⟩
theorem p_X10_49 (y : MethodName) (hy : y.cls = RX10) (hn : y.name = "<init>") : fw y 49 10 24 := ⟨by rw [hy]; exact k_X10_49, fun r hr => by cases hr; exact Or.inr ⟨hn, hy.symm, by rw [hy]; exact wi 1170 (by decide +kernel) rfl⟩⟩
theorem p_X10_52 (y : MethodName) (hy : y.cls = RX10) (hn : y.name = "<init>") : fw y 52 10 25 := ⟨by rw [hy]; exact k_X10_52, fun r hr => by cases hr; exact Or.inr ⟨hn, hy.symm, by rw [hy]; exact wi 1171 (by decide +kernel) rfl⟩⟩
theorem p_X10_55 (y : MethodName) (hy : y.cls = RX10) (hn : y.name = "<init>") : fw y 55 10 26 := ⟨by rw [hy]; exact k_X10_55, fun r hr => by cases hr; exact Or.inr ⟨hn, hy.symm, by rw [hy]; exact wi 1172 (by decide +kernel) rfl⟩⟩
theorem p_X10_58 (y : MethodName) (hy : y.cls = RX10) (hn : y.name = "<init>") : fw y 58 10 27 := ⟨by rw [hy]; exact k_X10_58, fun r hr => by cases hr; exact Or.inr ⟨hn, hy.symm, by rw [hy]; exact wi 1173 (by decide +kernel) rfl⟩⟩
theorem p_X10_61 (y : MethodName) (hy : y.cls = RX10) (hn : y.name = "<init>") : fw y 61 10 28 := ⟨by rw [hy]; exact k_X10_61, fun r hr => by cases hr; exact Or.inr ⟨hn, hy.symm, by rw [hy]; exact wi 1174 (by decide +kernel) rfl⟩⟩
theorem p_X10_64 (y : MethodName) (hy : y.cls = RX10) (hn : y.name = "<init>") : fw y 64 10 29 := ⟨by rw [hy]; exact k_X10_64, fun r hr => by cases hr; exact Or.inr ⟨hn, hy.symm, by rw [hy]; exact wi 1175 (by decide +kernel) rfl⟩⟩
theorem p_X10_67 (y : MethodName) (hy : y.cls = RX10) (hn : y.name = "<init>") : fw y 67 10 30 := ⟨by rw [hy]; exact k_X10_67, fun r hr => by cases hr; exact Or.inr ⟨hn, hy.symm, by rw [hy]; exact wi 1176 (by decide +kernel) rfl⟩⟩
theorem p_X10_70 (y : MethodName) (hy : y.cls = RX10) (hn : y.name = "<init>") : fw y 70 10 31 := ⟨by rw [hy]; exact k_X10_70, fun r hr => by cases hr; exact Or.inr ⟨hn, hy.symm, by rw [hy]; exact wi 1177 (by decide +kernel) rfl⟩⟩
theorem p_X10_73 (y : MethodName) (hy : y.cls = RX10) (hn : y.name = "<init>") : fw y 73 10 32 := ⟨by rw [hy]; exact k_X10_73, fun r hr => by cases hr; exact Or.inr ⟨hn, hy.symm, by rw [hy]; exact wi 1178 (by decide +kernel) rfl⟩⟩
theorem p_X10_76 (y : MethodName) (hy : y.cls = RX10) (hn : y.name = "<init>") : fw y 76 10 33 := ⟨by rw [hy]; exact k_X10_76, fun r hr => by cases hr; exact Or.inr ⟨hn, hy.symm, by rw [hy]; exact wi 1179 (by decide +kernel) rfl⟩⟩
theorem p_X10_79 (y : MethodName) (hy : y.cls = RX10) (hn : y.name = "<init>") : fw y 79 10 34 := ⟨by rw [hy]; exact k_X10_79, fun r hr => by cases hr; exact Or.inr ⟨hn, hy.symm, by rw [hy]; exact wi 1180 (by decide +kernel) rfl⟩⟩
theorem p_X10_82 (y : MethodName) (hy : y.cls = RX10) (hn : y.name = "<init>") : fw y 82 10 35 := ⟨by rw [hy]; exact k_X10_82, fun r hr => by cases hr; exact Or.inr ⟨hn, hy.symm, by rw [hy]; exact wi 1181 (by decide +kernel) rfl⟩⟩
theorem p_X10_85 (y : MethodName) (hy : y.cls = RX10) (hn : y.name = "<init>") : fw y 85 10 36 := ⟨by rw [hy]; exact k_X10_85, fun r hr => by cases hr; exact Or.inr ⟨hn, hy.symm, by rw [hy]; exact wi 1182 (by decide +kernel) rfl⟩⟩
theorem p_X10_88 (y : MethodName) (hy : y.cls = RX10) (hn : y.name = "<init>") : fw y 88 10 38 := ⟨by rw [hy]; exact k_X10_88, fun r hr => by cases hr; exact Or.inr ⟨hn, hy.symm, by rw [hy]; exact wi 1184 (by decide +kernel) rfl⟩⟩
theorem p_X10_92 (y : MethodName) (hy : y.cls = RX10) (hn : y.name = "<init>") : fw y 92 10 39 := ⟨by rw [hy]; exact k_X10_92, fun r hr => by cases hr; exact Or.inr ⟨hn, hy.symm, by rw [hy]; exact wi 1185 (by decide +kernel) rfl⟩⟩
theorem p_X10_95 (y : MethodName) (hy : y.cls = RX10) (hn : y.name = "<init>") : fw y 95 10 40 := ⟨by rw [hy]; exact k_X10_95, fun r hr => by cases hr; exact Or.inr ⟨hn, hy.symm, by rw [hy]; exact wi 1186 (by decide +kernel) rfl⟩⟩
theorem p_X10_98 (y : MethodName) (hy : y.cls = RX10) (hn : y.name = "<init>") : fw y 98 10 41 := ⟨by rw [hy]; exact k_X10_98, fun r hr => by cases hr; exact Or.inr ⟨hn, hy.symm, by rw [hy]; exact wi 1187 (by decide +kernel) rfl⟩⟩
theorem p_X10_101 (y : MethodName) (hy : y.cls = RX10) (hn : y.name = "<init>") : fw y 101 10 42 := ⟨by rw [hy]; exact k_X10_101, fun r hr => by cases hr; exact Or.inr ⟨hn, hy.symm, by rw [hy]; exact wi 1188 (by decide +kernel) rfl⟩⟩
theorem p_X10_104 (y : MethodName) (hy : y.cls = RX10) (hn : y.name = "<init>") : fw y 104 10 44 := ⟨by rw [hy]; exact k_X10_104, fun r hr => by cases hr; exact Or.inr ⟨hn, hy.symm, by rw [hy]; exact wi 1190 (by decide +kernel) rfl⟩⟩
theorem p_X10_107 (y : MethodName) (hy : y.cls = RX10) (hn : y.name = "<init>") : fw y 107 10 45 := ⟨by rw [hy]; exact k_X10_107, fun r hr => by cases hr; exact Or.inr ⟨hn, hy.symm, by rw [hy]; exact wi 1191 (by decide +kernel) rfl⟩⟩
theorem p_X10_110 (y : MethodName) (hy : y.cls = RX10) (hn : y.name = "<init>") : fw y 110 10 46 := ⟨by rw [hy]; exact k_X10_110, fun r hr => by cases hr; exact Or.inr ⟨hn, hy.symm, by rw [hy]; exact wi 1192 (by decide +kernel) rfl⟩⟩
theorem p_X10_113 (y : MethodName) (hy : y.cls = RX10) (hn : y.name = "<init>") : fw y 113 10 48 := ⟨by rw [hy]; exact k_X10_113, fun r hr => by cases hr; exact Or.inr ⟨hn, hy.symm, by rw [hy]; exact wi 1194 (by decide +kernel) rfl⟩⟩
theorem p_X10_116 (y : MethodName) (hy : y.cls = RX10) (hn : y.name = "<init>") : fw y 116 10 49 := ⟨by rw [hy]; exact k_X10_116, fun r hr => by cases hr; exact Or.inr ⟨hn, hy.symm, by rw [hy]; exact wi 1195 (by decide +kernel) rfl⟩⟩
theorem p_X10_119 (y : MethodName) (hy : y.cls = RX10) (hn : y.name = "<init>") : fw y 119 10 51 := ⟨by rw [hy]; exact k_X10_119, fun r hr => by cases hr; exact Or.inr ⟨hn, hy.symm, by rw [hy]; exact wi 1197 (by decide +kernel) rfl⟩⟩
theorem p_X10_122 (y : MethodName) (hy : y.cls = RX10) (hn : y.name = "<init>") : fw y 122 10 52 := ⟨by rw [hy]; exact k_X10_122, fun r hr => by cases hr; exact Or.inr ⟨hn, hy.symm, by rw [hy]; exact wi 1198 (by decide +kernel) rfl⟩⟩
theorem p_X10_125 (y : MethodName) (hy : y.cls = RX10) (hn : y.name = "<init>") : fw y 125 10 55 := ⟨by rw [hy]; exact k_X10_125, fun r hr => by cases hr; exact Or.inr ⟨hn, hy.symm, by rw [hy]; exact wi 1201 (by decide +kernel) rfl⟩⟩
theorem p_X10_128 (y : MethodName) (hy : y.cls = RX10) (hn : y.name = "<init>") : fw y 128 10 56 := ⟨by rw [hy]; exact k_X10_128, fun r hr => by cases hr; exact Or.inr ⟨hn, hy.symm, by rw [hy]; exact wi 1202 (by decide +kernel) rfl⟩⟩
theorem p_X10_131 (y : MethodName) (hy : y.cls = RX10) (hn : y.name = "<init>") : fw y 131 10 59 := ⟨by rw [hy]; exact k_X10_131, fun r hr => by cases hr; exact Or.inr ⟨hn, hy.symm, by rw [hy]; exact wi 1205 (by decide +kernel) rfl⟩⟩
theorem p_X10_134 (y : MethodName) (hy : y.cls = RX10) (hn : y.name = "<init>") : fw y 134 10 62 := ⟨by rw [hy]; exact k_X10_134, fun r hr => by cases hr; exact Or.inr ⟨hn, hy.symm, by rw [hy]; exact wi 1208 (by decide +kernel) rfl⟩⟩
theorem p_X10_137 (y : MethodName) (hy : y.cls = RX10) (hn : y.name = "<init>") : fw y 137 10 64 := ⟨by rw [hy]; exact k_X10_137, fun r hr => by cases hr; exact Or.inr ⟨hn, hy.symm, by rw [hy]; exact wi 1210 (by decide +kernel) rfl⟩⟩
theorem p_X10_140 (y : MethodName) (hy : y.cls = RX10) (hn : y.name = "<init>") : fw y 140 10 65 := ⟨by rw [hy]; exact k_X10_140, fun r hr => by cases hr; exact Or.inr ⟨hn, hy.symm, by rw [hy]; exact wi 1211 (by decide +kernel) rfl⟩⟩
theorem p_X10_143 (y : MethodName) (hy : y.cls = RX10) (hn : y.name = "<init>") : fw y 143 10 66 := ⟨by rw [hy]; exact k_X10_143, fun r hr => by cases hr; exact Or.inr ⟨hn, hy.symm, by rw [hy]; exact wi 1212 (by decide +kernel) rfl⟩⟩
theorem p_X10_146 (y : MethodName) (hy : y.cls = RX10) (hn : y.name = "<init>") : fw y 146 10 67 := ⟨by rw [hy]; exact k_X10_146, fun r hr => by cases hr; exact Or.inr ⟨hn, hy.symm, by rw [hy]; exact wi 1213 (by decide +kernel) rfl⟩⟩
theorem p_X10_167 (y : MethodName) (hy : y.cls = RX10) : fw y 167 10 2 := ⟨by rw [hy]; exact k_X10_167, fun r hr => by cases hr; exact Or.inl rfl⟩
theorem p_X10_173 (y : MethodName) (hy : y.cls = RX10) : fw y 173 10 4 := ⟨by rw [hy]; exact k_X10_173, fun r hr => by cases hr; exact Or.inl rfl⟩
theorem p_X10_178 (y : MethodName) (hy : y.cls = RX10) : fw y 178 10 10 := ⟨by rw [hy]; exact k_X10_178, fun r hr => by cases hr; exact Or.inl rfl⟩
theorem p_X10_200 (y : MethodName) (hy : y.cls = RX10) : fw y 200 10 13 := ⟨by rw [hy]; exact k_X10_200, fun r hr => by cases hr; exact Or.inl rfl⟩
theorem p_X10_203 (y : MethodName) (hy : y.cls = RX10) : fw y 203 10 11 := ⟨by rw [hy]; exact k_X10_203, fun r hr => by cases hr; exact Or.inl rfl⟩
theorem p_X10_206 (y : MethodName) (hy : y.cls = RX10) : fw y 206 10 14 := ⟨by rw [hy]; exact k_X10_206, fun r hr => by cases hr; exact Or.inl rfl⟩
theorem p_X10_209 (y : MethodName) (hy : y.cls = RX10) : fw y 209 10 15 := ⟨by rw [hy]; exact k_X10_209, fun r hr => by cases hr; exact Or.inl rfl⟩
theorem p_X10_212 (y : MethodName) (hy : y.cls = RX10) : fw y 212 10 16 := ⟨by rw [hy]; exact k_X10_212, fun r hr => by cases hr; exact Or.inl rfl⟩
theorem p_X10_227 (y : MethodName) (hy : y.cls = RX10) : fw y 227 10 12 := ⟨by rw [hy]; exact k_X10_227, fun r hr => by cases hr; exact Or.inl rfl⟩
theorem p_X10_230 (y : MethodName) (hy : y.cls = RX10) : fw y 230 10 18 := ⟨by rw [hy]; exact k_X10_230, fun r hr => by cases hr; exact Or.inl rfl⟩
theorem p_X10_233 (y : MethodName) (hy : y.cls = RX10) : fw y 233 10 19 := ⟨by rw [hy]; exact k_X10_233, fun r hr => by cases hr; exact Or.inl rfl⟩
theorem p_X10_236 (y : MethodName) (hy : y.cls = RX10) : fw y 236 10 20 := ⟨by rw [hy]; exact k_X10_236, fun r hr => by cases hr; exact Or.inl rfl⟩
theorem p_X10_239 (y : MethodName) (hy : y.cls = RX10) : fw y 239 10 37 := ⟨by rw [hy]; exact k_X10_239, fun r hr => by cases hr; exact Or.inl rfl⟩
theorem p_X10_242 (y : MethodName) (hy : y.cls = RX10) : fw y 242 10 43 := ⟨by rw [hy]; exact k_X10_242, fun r hr => by cases hr; exact Or.inl rfl⟩
theorem p_X10_248 (y : MethodName) (hy : y.cls = RX10) : fw y 248 10 58 := ⟨by rw [hy]; exact k_X10_248, fun r hr => by cases hr; exact Or.inl rfl⟩
theorem p_X10_251 (y : MethodName) (hy : y.cls = RX10) : fw y 251 10 63 := ⟨by rw [hy]; exact k_X10_251, fun r hr => by cases hr; exact Or.inl rfl⟩
theorem p_X10_293 (y : MethodName) (hy : y.cls = RX10) : fw y 293 10 47 := ⟨by rw [hy]; exact k_X10_293, fun r hr => by cases hr; exact Or.inl rfl⟩
theorem p_X10_306 (y : MethodName) (hy : y.cls = RX10) : fw y 306 10 50 := ⟨by rw [hy]; exact k_X10_306, fun r hr => by cases hr; exact Or.inl rfl⟩
theorem p_X10_314 (y : MethodName) (hy : y.cls = RX10) : fw y 314 10 53 := ⟨by rw [hy]; exact k_X10_314, fun r hr => by cases hr; exact Or.inl rfl⟩
theorem p_X10_317 (y : MethodName) (hy : y.cls = RX10) : fw y 317 10 54 := ⟨by rw [hy]; exact k_X10_317, fun r hr => by cases hr; exact Or.inl rfl⟩
theorem p_X10_356 (y : MethodName) (hy : y.cls = RX10) : fw y 356 10 57 := ⟨by rw [hy]; exact k_X10_356, fun r hr => by cases hr; exact Or.inl rfl⟩
theorem p_X10_423 (y : MethodName) (hy : y.cls = RX10) : fw y 423 10 60 := ⟨by rw [hy]; exact k_X10_423, fun r hr => by cases hr; exact Or.inl rfl⟩
theorem p_X10_426 (y : MethodName) (hy : y.cls = RX10) : fw y 426 10 61 := ⟨by rw [hy]; exact k_X10_426, fun r hr => by cases hr; exact Or.inl rfl⟩
theorem p_X2_11 (y : MethodName) (hy : y.cls = RX2) (hn : y.name = "<init>") : fw y 11 2 0 := ⟨by rw [hy]; exact k_X2_11, fun r hr => by cases hr; exact Or.inr ⟨hn, hy.symm, by rw [hy]; exact wi 364 (by decide +kernel) rfl⟩⟩
theorem p_X2_17 (y : MethodName) (hy : y.cls = RX2) : fw y 17 2 1 := ⟨by rw [hy]; exact k_X2_17, fun r hr => by cases hr; exact Or.inl rfl⟩
theorem p_X2_21 (y : MethodName) (hy : y.cls = RX2) : fw y 21 2 2 := ⟨by rw [hy]; exact k_X2_21, fun r hr => by cases hr; exact Or.inl rfl⟩
theorem p_X2_24 (y : MethodName) (hy : y.cls = RX2) (hn : y.name = "<init>") : fw y 24 2 3 := ⟨by rw [hy]; exact k_X2_24, fun r hr => by cases hr; exact Or.inr ⟨hn, hy.symm, by rw [hy]; exact wi 368 (by decide +kernel) rfl⟩⟩
theorem p_X2_27 (y : MethodName) (hy : y.cls = RX2) : fw y 27 2 4 := ⟨by rw [hy]; exact k_X2_27, fun r hr => by cases hr; exact Or.inl rfl⟩
theorem p_X3_9 (y : MethodName) (hy : y.cls = RX3) (hn : y.name = "<init>") : fw y 9 3 0 := ⟨by rw [hy]; exact k_X3_9, fun r hr => by cases hr; exact Or.inr ⟨hn, hy.symm, by rw [hy]; exact wi 297 (by decide +kernel) rfl⟩⟩
theorem p_X3_15 (y : MethodName) (hy : y.cls = RX3) (hn : y.name = "<init>") : fw y 15 3 1 := ⟨by rw [hy]; exact k_X3_15, fun r hr => by cases hr; exact Or.inr ⟨hn, hy.symm, by rw [hy]; exact wi 300 (by decide +kernel) rfl⟩⟩
theorem p_X3_18 (y : MethodName) (hy : y.cls = RX3) (hn : y.name = "<init>") : fw y 18 3 2 := ⟨by rw [hy]; exact k_X3_18, fun r hr => by cases hr; exact Or.inr ⟨hn, hy.symm, by rw [hy]; exact wi 303 (by decide +kernel) rfl⟩⟩
theorem p_X3_21 (y : MethodName) (hy : y.cls = RX3) (hn : y.name = "<init>") : fw y 21 3 3 := ⟨by rw [hy]; exact k_X3_21, fun r hr => by cases hr; exact Or.inr ⟨hn, hy.symm, by rw [hy]; exact wi 306 (by decide +kernel) rfl⟩⟩
theorem p_X3_24 (y : MethodName) (hy : y.cls = RX3) : fw y 24 3 4 := ⟨by rw [hy]; exact k_X3_24, fun r hr => by cases hr; exact Or.inl rfl⟩
theorem p_X3_28 (y : MethodName) (hy : y.cls = RX3) : fw y 28 3 5 := ⟨by rw [hy]; exact k_X3_28, fun r hr => by cases hr; exact Or.inl rfl⟩
theorem p_X3_31 (y : MethodName) (hy : y.cls = RX3) : fw y 31 3 6 := ⟨by rw [hy]; exact k_X3_31, fun r hr => by cases hr; exact Or.inl rfl⟩
theorem p_X3_34 (y : MethodName) (hy : y.cls = RX3) : fw y 34 3 7 := ⟨by rw [hy]; exact k_X3_34, fun r hr => by cases hr; exact Or.inl rfl⟩
theorem p_X4_11 (y : MethodName) (hy : y.cls = RX4) (hn : y.name = "<init>") : fw y 11 4 0 := ⟨by rw [hy]; exact k_X4_11, fun r hr => by cases hr; exact Or.inr ⟨hn, hy.symm, by rw [hy]; exact wi 348 (by decide +kernel) rfl⟩⟩
theorem p_X4_17 (y : MethodName) (hy : y.cls = RX4) (hn : y.name = "<init>") : fw y 17 4 1 := ⟨by rw [hy]; exact k_X4_17, fun r hr => by cases hr; exact Or.inr ⟨hn, hy.symm, by rw [hy]; exact wi 349 (by decide +kernel) rfl⟩⟩
theorem p_X5_25 (y : MethodName) (hy : y.cls = RX5) : fw y 25 5 2 := ⟨by rw [hy]; exact k_X5_25, fun r hr => by cases hr; exact Or.inl rfl⟩
theorem p_X5_29 (y : MethodName) (hy : y.cls = RX5) : fw y 29 5 3 := ⟨by rw [hy]; exact k_X5_29, fun r hr => by cases hr; exact Or.inl rfl⟩
theorem p_X5_32 (y : MethodName) (hy : y.cls = RX5) : fw y 32 5 4 := ⟨by rw [hy]; exact k_X5_32, fun r hr => by cases hr; exact Or.inl rfl⟩
theorem p_X5_35 (y : MethodName) (hy : y.cls = RX5) : fw y 35 5 5 := ⟨by rw [hy]; exact k_X5_35, fun r hr => by cases hr; exact Or.inl rfl⟩
theorem p_X5_38 (y : MethodName) (hy : y.cls = RX5) : fw y 38 5 6 := ⟨by rw [hy]; exact k_X5_38, fun r hr => by cases hr; exact Or.inl rfl⟩
theorem p_X5_181 (y : MethodName) (hy : y.cls = RX5) : fw y 181 6 12 := ⟨by rw [hy]; exact k_X5_181, fun r hr => by cases hr; exact Or.inl rfl⟩
theorem p_X5_184 (y : MethodName) (hy : y.cls = RX5) : fw y 184 6 13 := ⟨by rw [hy]; exact k_X5_184, fun r hr => by cases hr; exact Or.inl rfl⟩
theorem p_X5_187 (y : MethodName) (hy : y.cls = RX5) : fw y 187 6 14 := ⟨by rw [hy]; exact k_X5_187, fun r hr => by cases hr; exact Or.inl rfl⟩
theorem p_X6_9 (y : MethodName) (hy : y.cls = RX6) : fw y 9 6 0 := ⟨by rw [hy]; exact k_X6_9, fun r hr => by cases hr; exact Or.inl rfl⟩
theorem p_X6_15 (y : MethodName) (hy : y.cls = RX6) (hn : y.name = "<init>") : fw y 15 6 1 := ⟨by rw [hy]; exact k_X6_15, fun r hr => by cases hr; exact Or.inr ⟨hn, hy.symm, by rw [hy]; exact wi 231 (by decide +kernel) rfl⟩⟩
theorem p_X6_19 (y : MethodName) (hy : y.cls = RX6) (hn : y.name = "<init>") : fw y 19 6 2 := ⟨by rw [hy]; exact k_X6_19, fun r hr => by cases hr; exact Or.inr ⟨hn, hy.symm, by rw [hy]; exact wi 232 (by decide +kernel) rfl⟩⟩
theorem p_X6_23 (y : MethodName) (hy : y.cls = RX6) (hn : y.name = "<init>") : fw y 23 6 3 := ⟨by rw [hy]; exact k_X6_23, fun r hr => by cases hr; exact Or.inr ⟨hn, hy.symm, by rw [hy]; exact wi 235 (by decide +kernel) rfl⟩⟩
theorem p_X6_26 (y : MethodName) (hy : y.cls = RX6) : fw y 26 6 4 := ⟨by rw [hy]; exact k_X6_26, fun r hr => by cases hr; exact Or.inl rfl⟩
theorem p_X6_29 (y : MethodName) (hy : y.cls = RX6) (hn : y.name = "<init>") : fw y 29 6 5 := ⟨by rw [hy]; exact k_X6_29, fun r hr => by cases hr; exact Or.inr ⟨hn, hy.symm, by rw [hy]; exact wi 241 (by decide +kernel) rfl⟩⟩
theorem p_X6_32 (y : MethodName) (hy : y.cls = RX6) (hn : y.name = "<init>") : fw y 32 6 6 := ⟨by rw [hy]; exact k_X6_32, fun r hr => by cases hr; exact Or.inr ⟨hn, hy.symm, by rw [hy]; exact wi 242 (by decide +kernel) rfl⟩⟩
theorem p_X6_35 (y : MethodName) (hy : y.cls = RX6) (hn : y.name = "<init>") : fw y 35 6 7 := ⟨by rw [hy]; exact k_X6_35, fun r hr => by cases hr; exact Or.inr ⟨hn, hy.symm, by rw [hy]; exact wi 243 (by decide +kernel) rfl⟩⟩
theorem p_X6_38 (y : MethodName) (hy : y.cls = RX6) (hn : y.name = "<init>") : fw y 38 6 8 := ⟨by rw [hy]; exact k_X6_38, fun r hr => by cases hr; exact Or.inr ⟨hn, hy.symm, by rw [hy]; exact wi 245 (by decide +kernel) rfl⟩⟩
theorem p_X6_41 (y : MethodName) (hy : y.cls = RX6) : fw y 41 6 9 := ⟨by rw [hy]; exact k_X6_41, fun r hr => by cases hr; exact Or.inl rfl⟩
theorem p_X6_44 (y : MethodName) (hy : y.cls = RX6) (hn : y.name = "<init>") : fw y 44 6 10 := ⟨by rw [hy]; exact k_X6_44, fun r hr => by cases hr; exact Or.inr ⟨hn, hy.symm, by rw [hy]; exact wi 248 (by decide +kernel) rfl⟩⟩
theorem p_X6_50 (y : MethodName) (hy : y.cls = RX6) (hn : y.name = "<init>") : fw y 50 6 11 := ⟨by rw [hy]; exact k_X6_50, fun r hr => by cases hr; exact Or.inr ⟨hn, hy.symm, by rw [hy]; exact wi 250 (by decide +kernel) rfl⟩⟩
theorem p_X6_54 (y : MethodName) (hy : y.cls = RX6) : fw y 54 6 12 := ⟨by rw [hy]; exact k_X6_54, fun r hr => by cases hr; exact Or.inl rfl⟩
theorem p_X6_57 (y : MethodName) (hy : y.cls = RX6) : fw y 57 6 13 := ⟨by rw [hy]; exact k_X6_57, fun r hr => by cases hr; exact Or.inl rfl⟩
theorem p_X6_60 (y : MethodName) (hy : y.cls = RX6) : fw y 60 6 14 := ⟨by rw [hy]; exact k_X6_60, fun r hr => by cases hr; exact Or.inl rfl⟩
theorem p_X6_98 (y : MethodName) (hy : y.cls = RX6) : fw y 98 3 4 := ⟨by rw [hy]; exact k_X6_98, fun r hr => by cases hr; exact Or.inl rfl⟩
theorem p_X6_101 (y : MethodName) (hy : y.cls = RX6) : fw y 101 3 5 := ⟨by rw [hy]; exact k_X6_101, fun r hr => by cases hr; exact Or.inl rfl⟩
theorem p_X6_104 (y : MethodName) (hy : y.cls = RX6) : fw y 104 3 6 := ⟨by rw [hy]; exact k_X6_104, fun r hr => by cases hr; exact Or.inl rfl⟩
theorem p_X6_107 (y : MethodName) (hy : y.cls = RX6) : fw y 107 3 7 := ⟨by rw [hy]; exact k_X6_107, fun r hr => by cases hr; exact Or.inl rfl⟩
theorem p_X7_19 (y : MethodName) (hy : y.cls = RX7) : fw y 19 7 1 := ⟨by rw [hy]; exact k_X7_19, fun r hr => by cases hr; exact Or.inl rfl⟩
theorem p_X7_26 (y : MethodName) (hy : y.cls = RX7) : fw y 26 7 3 := ⟨by rw [hy]; exact k_X7_26, fun r hr => by cases hr; exact Or.inl rfl⟩
theorem p_X7_29 (y : MethodName) (hy : y.cls = RX7) : fw y 29 7 4 := ⟨by rw [hy]; exact k_X7_29, fun r hr => by cases hr; exact Or.inl rfl⟩
theorem p_X7_32 (y : MethodName) (hy : y.cls = RX7) : fw y 32 7 5 := ⟨by rw [hy]; exact k_X7_32, fun r hr => by cases hr; exact Or.inl rfl⟩
theorem p_X8_9 (y : MethodName) (hy : y.cls = RX8) (hn : y.name = "<init>") : fw y 9 8 0 := ⟨by rw [hy]; exact k_X8_9, fun r hr => by cases hr; exact Or.inr ⟨hn, hy.symm, by rw [hy]; exact wi 388 (by decide +kernel) rfl⟩⟩
theorem p_X8_15 (y : MethodName) (hy : y.cls = RX8) (hn : y.name = "<init>") : fw y 15 8 1 := ⟨by rw [hy]; exact k_X8_15, fun r hr => by cases hr; exact Or.inr ⟨hn, hy.symm, by rw [hy]; exact wi 389 (by decide +kernel) rfl⟩⟩
theorem p_X8_19 (y : MethodName) (hy : y.cls = RX8) (hn : y.name = "<init>") : fw y 19 8 2 := ⟨by rw [hy]; exact k_X8_19, fun r hr => by cases hr; exact Or.inr ⟨hn, hy.symm, by rw [hy]; exact wi 390 (by decide +kernel) rfl⟩⟩
theorem p_X8_22 (y : MethodName) (hy : y.cls = RX8) : fw y 22 8 3 := ⟨by rw [hy]; exact k_X8_22, fun r hr => by cases hr; exact Or.inl rfl⟩
theorem p_X9_13 (y : MethodName) (hy : y.cls = RX9) : fw y 13 9 1 := ⟨by rw [hy]; exact k_X9_13, fun r hr => by cases hr; exact Or.inl rfl⟩
theorem p_X9_84 (y : MethodName) (hy : y.cls = RX9) : fw y 84 8 3 := ⟨by rw [hy]; exact k_X9_84, fun r hr => by cases hr; exact Or.inl rfl⟩
theorem p_X9_156 (y : MethodName) (hy : y.cls = RX9) : fw y 156 3 6 := ⟨by rw [hy]; exact k_X9_156, fun r hr => by cases hr; exact Or.inl rfl⟩
theorem p_X9_166 (y : MethodName) (hy : y.cls = RX9) : fw y 166 3 4 := ⟨by rw [hy]; exact k_X9_166, fun r hr => by cases hr; exact Or.inl rfl⟩
theorem cc_X9_257 : Cond.constant RX9 257 (-100000 : Int32) ∈ gws := wi 965 (by decide +kernel) rfl
theorem cc_X6_155 : Cond.constant RX6 155 (1103515245 : Int32) ∈ gws := wi 821 (by decide +kernel) rfl
theorem cc_X7_52 : Cond.constantLong RX7 52 (32 : Int64) ∈ gws := wi 96 (by decide +kernel) rfl
theorem cc_X10_176 : Cond.constantLong RX10 176 (27 : Int64) ∈ gws := wi 1138 (by decide +kernel) rfl
theorem cc_X10_323 : Cond.constant RX10 323 (1103515245 : Int32) ∈ gws := wi 1591 (by decide +kernel) rfl
theorem cc_X10_441 : Cond.constant RX10 441 (-100000 : Int32) ∈ gws := wi 1695 (by decide +kernel) rfl
theorem cc_J6_265 : Cond.constant RJ6 265 (1431655765 : Int32) ∈ gws := wi 788 (by decide +kernel) rfl
theorem cc_J6_266 : Cond.constant RJ6 266 (858993459 : Int32) ∈ gws := wi 789 (by decide +kernel) rfl
theorem cc_J6_267 : Cond.constant RJ6 267 (252645135 : Int32) ∈ gws := wi 790 (by decide +kernel) rfl
theorem ac_byte : Cond.arrayClass (newarray.typeOf .byte) ∈ gws := wi 122 (by decide +kernel) rfl
theorem ac_long : Cond.arrayClass (newarray.typeOf .long) ∈ gws := wi 123 (by decide +kernel) rfl
theorem ac_int : Cond.arrayClass (newarray.typeOf .int) ∈ gws := wi 162 (by decide +kernel) rfl
theorem ac_boolean : Cond.arrayClass (newarray.typeOf .boolean) ∈ gws := wi 402 (by decide +kernel) rfl
theorem n_X2_9 : nk RX2 9 3 := ⟨(RX3, TX3, 8), rfl, rfl, tyX3_ok, uX3, fdX3, wi 362 (by decide +kernel) rfl, wi 292 (by decide +kernel) rfl, wi 11 (by decide +kernel) rfl⟩
theorem n_X4_9 : nk RX4 9 3 := ⟨(RX3, TX3, 8), rfl, rfl, tyX3_ok, uX3, fdX3, wi 345 (by decide +kernel) rfl, wi 292 (by decide +kernel) rfl, wi 11 (by decide +kernel) rfl⟩
theorem n_X6_47 : nk RX6 47 1 := ⟨(RX1, TX1, 8), rfl, rfl, tyX1_ok, uX1, fdX1, wi 195 (by decide +kernel) rfl, wi 196 (by decide +kernel) rfl, wi 10 (by decide +kernel) rfl⟩
theorem q_X2_9 : Cond.classLink RX2 9 "VoiceTonight$Night" ∈ gws := wi 362 (by decide +kernel) rfl
theorem q_X4_9 : Cond.classLink RX4 9 "VoiceTonight$Night" ∈ gws := wi 345 (by decide +kernel) rfl
theorem o_X0_3 : Cond.methodLink RX0 3 objectInit ∈ gws ∧ Cond.instanceMethod objectInit ∈ gws ∧ Cond.code objectInit ⟨#[0xb1]⟩ 1 none ∈ gws := ⟨wi 129 (by decide +kernel) rfl, wi 27 (by decide +kernel) rfl, wi 28 (by decide +kernel) rfl⟩
theorem o_X1_5 : Cond.methodLink RX1 5 objectInit ∈ gws ∧ Cond.instanceMethod objectInit ∈ gws ∧ Cond.code objectInit ⟨#[0xb1]⟩ 1 none ∈ gws := ⟨wi 200 (by decide +kernel) rfl, wi 27 (by decide +kernel) rfl, wi 28 (by decide +kernel) rfl⟩
theorem o_X10_7 : Cond.methodLink RX10 7 objectInit ∈ gws ∧ Cond.instanceMethod objectInit ∈ gws ∧ Cond.code objectInit ⟨#[0xb1]⟩ 1 none ∈ gws := ⟨wi 1127 (by decide +kernel) rfl, wi 27 (by decide +kernel) rfl, wi 28 (by decide +kernel) rfl⟩
theorem o_X2_3 : Cond.methodLink RX2 3 objectInit ∈ gws ∧ Cond.instanceMethod objectInit ∈ gws ∧ Cond.code objectInit ⟨#[0xb1]⟩ 1 none ∈ gws := ⟨wi 361 (by decide +kernel) rfl, wi 27 (by decide +kernel) rfl, wi 28 (by decide +kernel) rfl⟩
theorem o_X3_3 : Cond.methodLink RX3 3 objectInit ∈ gws ∧ Cond.instanceMethod objectInit ∈ gws ∧ Cond.code objectInit ⟨#[0xb1]⟩ 1 none ∈ gws := ⟨wi 296 (by decide +kernel) rfl, wi 27 (by decide +kernel) rfl, wi 28 (by decide +kernel) rfl⟩
theorem o_X4_3 : Cond.methodLink RX4 3 objectInit ∈ gws ∧ Cond.instanceMethod objectInit ∈ gws ∧ Cond.code objectInit ⟨#[0xb1]⟩ 1 none ∈ gws := ⟨wi 344 (by decide +kernel) rfl, wi 27 (by decide +kernel) rfl, wi 28 (by decide +kernel) rfl⟩
theorem o_X6_3 : Cond.methodLink RX6 3 objectInit ∈ gws ∧ Cond.instanceMethod objectInit ∈ gws ∧ Cond.code objectInit ⟨#[0xb1]⟩ 1 none ∈ gws := ⟨wi 194 (by decide +kernel) rfl, wi 27 (by decide +kernel) rfl, wi 28 (by decide +kernel) rfl⟩
theorem o_X8_3 : Cond.methodLink RX8 3 objectInit ∈ gws ∧ Cond.instanceMethod objectInit ∈ gws ∧ Cond.code objectInit ⟨#[0xb1]⟩ 1 none ∈ gws := ⟨wi 387 (by decide +kernel) rfl, wi 27 (by decide +kernel) rfl, wi 28 (by decide +kernel) rfl⟩
theorem y_X3_37 : Cond.methodLink RX3 37 arraycopyName ∈ gws ∧ Cond.native arraycopyName ∈ gws ∧ Cond.static arraycopyName ∈ gws ∧ Cond.initialized "java/lang/System" ∈ gws := ⟨wi 850 (by decide +kernel) rfl, wi 715 (by decide +kernel) rfl, wi 714 (by decide +kernel) rfl, wi 19 (by decide +kernel) rfl⟩
theorem y_X6_84 : Cond.methodLink RX6 84 arraycopyName ∈ gws ∧ Cond.native arraycopyName ∈ gws ∧ Cond.static arraycopyName ∈ gws ∧ Cond.initialized "java/lang/System" ∈ gws := ⟨wi 713 (by decide +kernel) rfl, wi 715 (by decide +kernel) rfl, wi 714 (by decide +kernel) rfl, wi 19 (by decide +kernel) rfl⟩
theorem m_J6_bitCount_0f7a4 : mk9 yJ6_bitCount_0f7a4 cJ6_bitCount_0f7a4 1 (some .int) 1 := ⟨wi 787 (by decide +kernel) rfl, wi 20 (by decide +kernel) rfl, ⟨by decide +kernel, by decide +kernel⟩, by decide +kernel⟩
theorem z_J6_bitCount_0f7a4 : Cond.static yJ6_bitCount_0f7a4 ∈ gws := wi 786 (by decide +kernel) rfl
theorem m_J7_fill_53178 : mk9 yJ7_fill_53178 cJ7_fill_53178 4 (none) 2 := ⟨wi 463 (by decide +kernel) rfl, wi 16 (by decide +kernel) rfl, ⟨by decide +kernel, by decide +kernel⟩, by decide +kernel⟩
theorem z_J7_fill_53178 : Cond.static yJ7_fill_53178 ∈ gws := wi 462 (by decide +kernel) rfl
theorem m_J9_max_7cf53 : mk9 yJ9_max_7cf53 cJ9_max_7cf53 2 (some .int) 2 := ⟨wi 516 (by decide +kernel) rfl, wi 17 (by decide +kernel) rfl, ⟨by decide +kernel, by decide +kernel⟩, by decide +kernel⟩
theorem z_J9_max_7cf53 : Cond.static yJ9_max_7cf53 ∈ gws := wi 515 (by decide +kernel) rfl
theorem m_J9_min_7cf53 : mk9 yJ9_min_7cf53 cJ9_min_7cf53 2 (some .int) 2 := ⟨wi 519 (by decide +kernel) rfl, wi 17 (by decide +kernel) rfl, ⟨by decide +kernel, by decide +kernel⟩, by decide +kernel⟩
theorem z_J9_min_7cf53 : Cond.static yJ9_min_7cf53 ∈ gws := wi 518 (by decide +kernel) rfl
theorem m_X0_begin : mk9 yX0_begin cX0_begin 3 (some .int) 2 := ⟨wi 583 (by decide +kernel) rfl, wi 8 (by decide +kernel) rfl, ⟨by decide +kernel, by decide +kernel⟩, by decide +kernel⟩
theorem i_X0_begin : Cond.instanceMethod yX0_begin ∈ gws := wi 582 (by decide +kernel) rfl
theorem e_X0_begin : Cond.selects RX0 yX0_begin yX0_begin ∈ gws := vi (q := (yX0_begin, 10)) 6 (by decide +kernel)
theorem m_X0_endOfPart : mk9 yX0_endOfPart cX0_endOfPart 1 (some .int) 0 := ⟨wi 619 (by decide +kernel) rfl, wi 8 (by decide +kernel) rfl, ⟨by decide +kernel, by decide +kernel⟩, by decide +kernel⟩
theorem i_X0_endOfPart : Cond.instanceMethod yX0_endOfPart ∈ gws := wi 618 (by decide +kernel) rfl
theorem e_X0_endOfPart : Cond.selects RX0 yX0_endOfPart yX0_endOfPart ∈ gws := vi (q := (yX0_endOfPart, 10)) 12 (by decide +kernel)
theorem m_X0_endPart : mk9 yX0_endPart cX0_endPart 2 (none) 1 := ⟨wi 623 (by decide +kernel) rfl, wi 8 (by decide +kernel) rfl, ⟨by decide +kernel, by decide +kernel⟩, by decide +kernel⟩
theorem i_X0_endPart : Cond.instanceMethod yX0_endPart ∈ gws := wi 622 (by decide +kernel) rfl
theorem e_X0_endPart : Cond.selects RX0 yX0_endPart yX0_endPart ∈ gws := vi (q := (yX0_endPart, 10)) 13 (by decide +kernel)
theorem m_X0_hang : mk9 yX0_hang cX0_hang 2 (none) 1 := ⟨wi 595 (by decide +kernel) rfl, wi 8 (by decide +kernel) rfl, ⟨by decide +kernel, by decide +kernel⟩, by decide +kernel⟩
theorem i_X0_hang : Cond.instanceMethod yX0_hang ∈ gws := wi 594 (by decide +kernel) rfl
theorem e_X0_hang : Cond.selects RX0 yX0_hang yX0_hang ∈ gws := vi (q := (yX0_hang, 10)) 8 (by decide +kernel)
theorem m_X0_open : mk9 yX0_open cX0_open 2 (none) 1 := ⟨wi 572 (by decide +kernel) rfl, wi 8 (by decide +kernel) rfl, ⟨by decide +kernel, by decide +kernel⟩, by decide +kernel⟩
theorem i_X0_open : Cond.instanceMethod yX0_open ∈ gws := wi 570 (by decide +kernel) rfl
theorem e_X0_open : Cond.selects RX0 yX0_open yX0_open ∈ gws := wi 571 (by decide +kernel) rfl
theorem m_X0_putHanging : mk9 yX0_putHanging cX0_putHanging 3 (none) 2 := ⟨wi 610 (by decide +kernel) rfl, wi 8 (by decide +kernel) rfl, ⟨by decide +kernel, by decide +kernel⟩, by decide +kernel⟩
theorem i_X0_putHanging : Cond.instanceMethod yX0_putHanging ∈ gws := wi 609 (by decide +kernel) rfl
theorem e_X0_putHanging : Cond.selects RX0 yX0_putHanging yX0_putHanging ∈ gws := vi (q := (yX0_putHanging, 10)) 10 (by decide +kernel)
theorem m_X0_takeBehindUnit : mk9 yX0_takeBehindUnit cX0_takeBehindUnit 4 (some .int) 2 := ⟨wi 603 (by decide +kernel) rfl, wi 8 (by decide +kernel) rfl, ⟨by decide +kernel, by decide +kernel⟩, by decide +kernel⟩
theorem i_X0_takeBehindUnit : Cond.instanceMethod yX0_takeBehindUnit ∈ gws := wi 602 (by decide +kernel) rfl
theorem e_X0_takeBehindUnit : Cond.selects RX0 yX0_takeBehindUnit yX0_takeBehindUnit ∈ gws := vi (q := (yX0_takeBehindUnit, 10)) 9 (by decide +kernel)
theorem m_X0_takeClosing : mk9 yX0_takeClosing cX0_takeClosing 3 (some .int) 2 := ⟨wi 614 (by decide +kernel) rfl, wi 8 (by decide +kernel) rfl, ⟨by decide +kernel, by decide +kernel⟩, by decide +kernel⟩
theorem i_X0_takeClosing : Cond.instanceMethod yX0_takeClosing ∈ gws := wi 613 (by decide +kernel) rfl
theorem e_X0_takeClosing : Cond.selects RX0 yX0_takeClosing yX0_takeClosing ∈ gws := vi (q := (yX0_takeClosing, 10)) 11 (by decide +kernel)
theorem m_X0_takeUnit : mk9 yX0_takeUnit cX0_takeUnit 5 (some .int) 2 := ⟨wi 591 (by decide +kernel) rfl, wi 8 (by decide +kernel) rfl, ⟨by decide +kernel, by decide +kernel⟩, by decide +kernel⟩
theorem i_X0_takeUnit : Cond.instanceMethod yX0_takeUnit ∈ gws := wi 590 (by decide +kernel) rfl
theorem e_X0_takeUnit : Cond.selects RX0 yX0_takeUnit yX0_takeUnit ∈ gws := vi (q := (yX0_takeUnit, 10)) 7 (by decide +kernel)
theorem m_X0_tightnessOf : mk9 yX0_tightnessOf cX0_tightnessOf 1 (some .int) 1 := ⟨wi 606 (by decide +kernel) rfl, wi 8 (by decide +kernel) rfl, ⟨by decide +kernel, by decide +kernel⟩, by decide +kernel⟩
theorem z_X0_tightnessOf : Cond.static yX0_tightnessOf ∈ gws := wi 605 (by decide +kernel) rfl
theorem m_X10_appends : mk9 yX10_appends cX10_appends 3 (some .long) 2 := ⟨wi 1137 (by decide +kernel) rfl, wi 15 (by decide +kernel) rfl, ⟨by decide +kernel, by decide +kernel⟩, by decide +kernel⟩
theorem z_X10_appends : Cond.static yX10_appends ∈ gws := wi 1136 (by decide +kernel) rfl
theorem m_X10_begins : mk9 yX10_begins cX10_begins 2 (none) 0 := ⟨wi 1142 (by decide +kernel) rfl, wi 15 (by decide +kernel) rfl, ⟨by decide +kernel, by decide +kernel⟩, by decide +kernel⟩
theorem i_X10_begins : Cond.instanceMethod yX10_begins ∈ gws := wi 1141 (by decide +kernel) rfl
theorem e_X10_begins : Cond.selects RX10 yX10_begins yX10_begins ∈ gws := vi (q := (yX10_begins, 68)) 37 (by decide +kernel)
theorem m_X10_bits : mk9 yX10_bits cX10_bits 3 (some .int) 1 := ⟨wi 1530 (by decide +kernel) rfl, wi 15 (by decide +kernel) rfl, ⟨by decide +kernel, by decide +kernel⟩, by decide +kernel⟩
theorem z_X10_bits : Cond.static yX10_bits ∈ gws := wi 1529 (by decide +kernel) rfl
theorem m_X10_bounded : mk9 yX10_bounded cX10_bounded 4 (some .int) 2 := ⟨wi 1424 (by decide +kernel) rfl, wi 15 (by decide +kernel) rfl, ⟨by decide +kernel, by decide +kernel⟩, by decide +kernel⟩
theorem i_X10_bounded : Cond.instanceMethod yX10_bounded ∈ gws := wi 1423 (by decide +kernel) rfl
theorem e_X10_bounded : Cond.selects RX10 yX10_bounded yX10_bounded ∈ gws := vi (q := (yX10_bounded, 68)) 52 (by decide +kernel)
theorem m_X10_byteAt : mk9 yX10_byteAt cX10_byteAt 2 (some .int) 1 := ⟨wi 1374 (by decide +kernel) rfl, wi 15 (by decide +kernel) rfl, ⟨by decide +kernel, by decide +kernel⟩, by decide +kernel⟩
theorem i_X10_byteAt : Cond.instanceMethod yX10_byteAt ∈ gws := wi 1373 (by decide +kernel) rfl
theorem e_X10_byteAt : Cond.selects RX10 yX10_byteAt yX10_byteAt ∈ gws := vi (q := (yX10_byteAt, 68)) 41 (by decide +kernel)
theorem m_X10_comesOut : mk9 yX10_comesOut cX10_comesOut 3 (none) 1 := ⟨wi 1460 (by decide +kernel) rfl, wi 15 (by decide +kernel) rfl, ⟨by decide +kernel, by decide +kernel⟩, by decide +kernel⟩
theorem i_X10_comesOut : Cond.instanceMethod yX10_comesOut ∈ gws := wi 1459 (by decide +kernel) rfl
theorem e_X10_comesOut : Cond.selects RX10 yX10_comesOut yX10_comesOut ∈ gws := vi (q := (yX10_comesOut, 68)) 61 (by decide +kernel)
theorem m_X10_copies : mk9 yX10_copies cX10_copies 2 (none) 0 := ⟨wi 1483 (by decide +kernel) rfl, wi 15 (by decide +kernel) rfl, ⟨by decide +kernel, by decide +kernel⟩, by decide +kernel⟩
theorem i_X10_copies : Cond.instanceMethod yX10_copies ∈ gws := wi 1482 (by decide +kernel) rfl
theorem e_X10_copies : Cond.selects RX10 yX10_copies yX10_copies ∈ gws := vi (q := (yX10_copies, 68)) 64 (by decide +kernel)
theorem m_X10_copiesStill : mk9 yX10_copiesStill cX10_copiesStill 1 (none) 0 := ⟨wi 1611 (by decide +kernel) rfl, wi 15 (by decide +kernel) rfl, ⟨by decide +kernel, by decide +kernel⟩, by decide +kernel⟩
theorem i_X10_copiesStill : Cond.instanceMethod yX10_copiesStill ∈ gws := wi 1610 (by decide +kernel) rfl
theorem e_X10_copiesStill : Cond.selects RX10 yX10_copiesStill yX10_copiesStill ∈ gws := vi (q := (yX10_copiesStill, 68)) 83 (by decide +kernel)
theorem m_X10_cut : mk9 yX10_cut cX10_cut 8 (none) 0 := ⟨wi 1370 (by decide +kernel) rfl, wi 15 (by decide +kernel) rfl, ⟨by decide +kernel, by decide +kernel⟩, by decide +kernel⟩
theorem i_X10_cut : Cond.instanceMethod yX10_cut ∈ gws := wi 1369 (by decide +kernel) rfl
theorem e_X10_cut : Cond.selects RX10 yX10_cut yX10_cut ∈ gws := vi (q := (yX10_cut, 68)) 40 (by decide +kernel)
theorem m_X10_doTalks : mk9 yX10_doTalks cX10_doTalks 8 (some .boolean) 3 := ⟨wi 1739 (by decide +kernel) rfl, wi 15 (by decide +kernel) rfl, ⟨by decide +kernel, by decide +kernel⟩, by decide +kernel⟩
theorem i_X10_doTalks : Cond.instanceMethod yX10_doTalks ∈ gws := wi 1738 (by decide +kernel) rfl
theorem e_X10_doTalks : Cond.selects RX10 yX10_doTalks yX10_doTalks ∈ gws := vi (q := (yX10_doTalks, 68)) 95 (by decide +kernel)
theorem m_X10_doesRing : mk9 yX10_doesRing cX10_doesRing 4 (some .boolean) 3 := ⟨wi 1541 (by decide +kernel) rfl, wi 15 (by decide +kernel) rfl, ⟨by decide +kernel, by decide +kernel⟩, by decide +kernel⟩
theorem i_X10_doesRing : Cond.instanceMethod yX10_doesRing ∈ gws := wi 1540 (by decide +kernel) rfl
theorem e_X10_doesRing : Cond.selects RX10 yX10_doesRing yX10_doesRing ∈ gws := vi (q := (yX10_doesRing, 68)) 75 (by decide +kernel)
theorem m_X10_doesTrust : mk9 yX10_doesTrust cX10_doesTrust 4 (some .boolean) 3 := ⟨wi 1537 (by decide +kernel) rfl, wi 15 (by decide +kernel) rfl, ⟨by decide +kernel, by decide +kernel⟩, by decide +kernel⟩
theorem i_X10_doesTrust : Cond.instanceMethod yX10_doesTrust ∈ gws := wi 1536 (by decide +kernel) rfl
theorem e_X10_doesTrust : Cond.selects RX10 yX10_doesTrust yX10_doesTrust ∈ gws := vi (q := (yX10_doesTrust, 68)) 74 (by decide +kernel)
theorem m_X10_doesWay : mk9 yX10_doesWay cX10_doesWay 6 (some .boolean) 3 := ⟨wi 1650 (by decide +kernel) rfl, wi 15 (by decide +kernel) rfl, ⟨by decide +kernel, by decide +kernel⟩, by decide +kernel⟩
theorem i_X10_doesWay : Cond.instanceMethod yX10_doesWay ∈ gws := wi 1649 (by decide +kernel) rfl
theorem e_X10_doesWay : Cond.selects RX10 yX10_doesWay yX10_doesWay ∈ gws := vi (q := (yX10_doesWay, 68)) 90 (by decide +kernel)
theorem m_X10_doneBits : mk9 yX10_doneBits cX10_doneBits 3 (some .int) 0 := ⟨wi 1627 (by decide +kernel) rfl, wi 15 (by decide +kernel) rfl, ⟨by decide +kernel, by decide +kernel⟩, by decide +kernel⟩
theorem i_X10_doneBits : Cond.instanceMethod yX10_doneBits ∈ gws := wi 1626 (by decide +kernel) rfl
theorem e_X10_doneBits : Cond.selects RX10 yX10_doneBits yX10_doneBits ∈ gws := vi (q := (yX10_doneBits, 68)) 87 (by decide +kernel)
theorem m_X10_emit : mk9 yX10_emit cX10_emit 3 (none) 2 := ⟨wi 1456 (by decide +kernel) rfl, wi 15 (by decide +kernel) rfl, ⟨by decide +kernel, by decide +kernel⟩, by decide +kernel⟩
theorem i_X10_emit : Cond.instanceMethod yX10_emit ∈ gws := wi 1455 (by decide +kernel) rfl
theorem e_X10_emit : Cond.selects RX10 yX10_emit yX10_emit ∈ gws := vi (q := (yX10_emit, 68)) 60 (by decide +kernel)
theorem m_X10_endsName : mk9 yX10_endsName cX10_endsName 3 (none) 2 := ⟨wi 1428 (by decide +kernel) rfl, wi 15 (by decide +kernel) rfl, ⟨by decide +kernel, by decide +kernel⟩, by decide +kernel⟩
theorem i_X10_endsName : Cond.instanceMethod yX10_endsName ∈ gws := wi 1427 (by decide +kernel) rfl
theorem e_X10_endsName : Cond.selects RX10 yX10_endsName yX10_endsName ∈ gws := vi (q := (yX10_endsName, 68)) 53 (by decide +kernel)
theorem m_X10_eveningGoes : mk9 yX10_eveningGoes cX10_eveningGoes 4 (none) 0 := ⟨wi 1583 (by decide +kernel) rfl, wi 15 (by decide +kernel) rfl, ⟨by decide +kernel, by decide +kernel⟩, by decide +kernel⟩
theorem i_X10_eveningGoes : Cond.instanceMethod yX10_eveningGoes ∈ gws := wi 1582 (by decide +kernel) rfl
theorem e_X10_eveningGoes : Cond.selects RX10 yX10_eveningGoes yX10_eveningGoes ∈ gws := vi (q := (yX10_eveningGoes, 68)) 79 (by decide +kernel)
theorem m_X10_expression : mk9 yX10_expression cX10_expression 3 (none) 0 := ⟨wi 1448 (by decide +kernel) rfl, wi 15 (by decide +kernel) rfl, ⟨by decide +kernel, by decide +kernel⟩, by decide +kernel⟩
theorem i_X10_expression : Cond.instanceMethod yX10_expression ∈ gws := wi 1447 (by decide +kernel) rfl
theorem e_X10_expression : Cond.selects RX10 yX10_expression yX10_expression ∈ gws := vi (q := (yX10_expression, 68)) 58 (by decide +kernel)
theorem m_X10_fail : mk9 yX10_fail cX10_fail 2 (none) 1 := ⟨wi 1404 (by decide +kernel) rfl, wi 15 (by decide +kernel) rfl, ⟨by decide +kernel, by decide +kernel⟩, by decide +kernel⟩
theorem i_X10_fail : Cond.instanceMethod yX10_fail ∈ gws := wi 1403 (by decide +kernel) rfl
theorem e_X10_fail : Cond.selects RX10 yX10_fail yX10_fail ∈ gws := vi (q := (yX10_fail, 68)) 47 (by decide +kernel)
theorem m_X10_findsPlan : mk9 yX10_findsPlan cX10_findsPlan 2 (none) 1 := ⟨wi 1639 (by decide +kernel) rfl, wi 15 (by decide +kernel) rfl, ⟨by decide +kernel, by decide +kernel⟩, by decide +kernel⟩
theorem i_X10_findsPlan : Cond.instanceMethod yX10_findsPlan ∈ gws := wi 1638 (by decide +kernel) rfl
theorem e_X10_findsPlan : Cond.selects RX10 yX10_findsPlan yX10_findsPlan ∈ gws := vi (q := (yX10_findsPlan, 68)) 88 (by decide +kernel)
theorem m_X10_goes : mk9 yX10_goes cX10_goes 3 (none) 1 := ⟨wi 1579 (by decide +kernel) rfl, wi 15 (by decide +kernel) rfl, ⟨by decide +kernel, by decide +kernel⟩, by decide +kernel⟩
theorem i_X10_goes : Cond.instanceMethod yX10_goes ∈ gws := wi 1578 (by decide +kernel) rfl
theorem e_X10_goes : Cond.selects RX10 yX10_goes yX10_goes ∈ gws := vi (q := (yX10_goes, 68)) 78 (by decide +kernel)
theorem m_X10_goesOn : mk9 yX10_goesOn cX10_goesOn 1 (none) 0 := ⟨wi 1408 (by decide +kernel) rfl, wi 15 (by decide +kernel) rfl, ⟨by decide +kernel, by decide +kernel⟩, by decide +kernel⟩
theorem i_X10_goesOn : Cond.instanceMethod yX10_goesOn ∈ gws := wi 1407 (by decide +kernel) rfl
theorem e_X10_goesOn : Cond.selects RX10 yX10_goesOn yX10_goesOn ∈ gws := vi (q := (yX10_goesOn, 68)) 48 (by decide +kernel)
theorem m_X10_goesWith : mk9 yX10_goesWith cX10_goesWith 2 (none) 1 := ⟨wi 1682 (by decide +kernel) rfl, wi 15 (by decide +kernel) rfl, ⟨by decide +kernel, by decide +kernel⟩, by decide +kernel⟩
theorem i_X10_goesWith : Cond.instanceMethod yX10_goesWith ∈ gws := wi 1681 (by decide +kernel) rfl
theorem e_X10_goesWith : Cond.selects RX10 yX10_goesWith yX10_goesWith ∈ gws := vi (q := (yX10_goesWith, 68)) 92 (by decide +kernel)
theorem m_X10_hasDone : mk9 yX10_hasDone cX10_hasDone 2 (some .boolean) 1 := ⟨wi 1515 (by decide +kernel) rfl, wi 15 (by decide +kernel) rfl, ⟨by decide +kernel, by decide +kernel⟩, by decide +kernel⟩
theorem i_X10_hasDone : Cond.instanceMethod yX10_hasDone ∈ gws := wi 1514 (by decide +kernel) rfl
theorem e_X10_hasDone : Cond.selects RX10 yX10_hasDone yX10_hasDone ∈ gws := vi (q := (yX10_hasDone, 68)) 71 (by decide +kernel)
theorem m_X10_holderBits : mk9 yX10_holderBits cX10_holderBits 4 (some .int) 1 := ⟨wi 1670 (by decide +kernel) rfl, wi 15 (by decide +kernel) rfl, ⟨by decide +kernel, by decide +kernel⟩, by decide +kernel⟩
theorem i_X10_holderBits : Cond.instanceMethod yX10_holderBits ∈ gws := wi 1669 (by decide +kernel) rfl
theorem e_X10_holderBits : Cond.selects RX10 yX10_holderBits yX10_holderBits ∈ gws := vi (q := (yX10_holderBits, 68)) 91 (by decide +kernel)
theorem m_X10_in : mk9 yX10_in cX10_in 3 (some .boolean) 3 := ⟨wi 1479 (by decide +kernel) rfl, wi 15 (by decide +kernel) rfl, ⟨by decide +kernel, by decide +kernel⟩, by decide +kernel⟩
theorem z_X10_in : Cond.static yX10_in ∈ gws := wi 1478 (by decide +kernel) rfl
theorem m_X10_is : mk9 yX10_is cX10_is 2 (some .boolean) 1 := ⟨wi 1392 (by decide +kernel) rfl, wi 15 (by decide +kernel) rfl, ⟨by decide +kernel, by decide +kernel⟩, by decide +kernel⟩
theorem i_X10_is : Cond.instanceMethod yX10_is ∈ gws := wi 1391 (by decide +kernel) rfl
theorem e_X10_is : Cond.selects RX10 yX10_is yX10_is ∈ gws := vi (q := (yX10_is, 68)) 44 (by decide +kernel)
theorem m_X10_isCrackle : mk9 yX10_isCrackle cX10_isCrackle 1 (some .boolean) 0 := ⟨wi 1587 (by decide +kernel) rfl, wi 15 (by decide +kernel) rfl, ⟨by decide +kernel, by decide +kernel⟩, by decide +kernel⟩
theorem i_X10_isCrackle : Cond.instanceMethod yX10_isCrackle ∈ gws := wi 1586 (by decide +kernel) rfl
theorem e_X10_isCrackle : Cond.selects RX10 yX10_isCrackle yX10_isCrackle ∈ gws := vi (q := (yX10_isCrackle, 68)) 80 (by decide +kernel)
theorem m_X10_isDigit : mk9 yX10_isDigit cX10_isDigit 1 (some .boolean) 1 := ⟨wi 1384 (by decide +kernel) rfl, wi 15 (by decide +kernel) rfl, ⟨by decide +kernel, by decide +kernel⟩, by decide +kernel⟩
theorem z_X10_isDigit : Cond.static yX10_isDigit ∈ gws := wi 1383 (by decide +kernel) rfl
theorem m_X10_isEnough : mk9 yX10_isEnough cX10_isEnough 2 (some .boolean) 1 := ⟨wi 1643 (by decide +kernel) rfl, wi 15 (by decide +kernel) rfl, ⟨by decide +kernel, by decide +kernel⟩, by decide +kernel⟩
theorem i_X10_isEnough : Cond.instanceMethod yX10_isEnough ∈ gws := wi 1642 (by decide +kernel) rfl
theorem e_X10_isEnough : Cond.selects RX10 yX10_isEnough yX10_isEnough ∈ gws := vi (q := (yX10_isEnough, 68)) 89 (by decide +kernel)
theorem m_X10_isFact : mk9 yX10_isFact cX10_isFact 1 (some .boolean) 1 := ⟨wi 1560 (by decide +kernel) rfl, wi 15 (by decide +kernel) rfl, ⟨by decide +kernel, by decide +kernel⟩, by decide +kernel⟩
theorem z_X10_isFact : Cond.static yX10_isFact ∈ gws := wi 1559 (by decide +kernel) rfl
theorem m_X10_isHeard : mk9 yX10_isHeard cX10_isHeard 4 (none) 1 := ⟨wi 1595 (by decide +kernel) rfl, wi 15 (by decide +kernel) rfl, ⟨by decide +kernel, by decide +kernel⟩, by decide +kernel⟩
theorem i_X10_isHeard : Cond.instanceMethod yX10_isHeard ∈ gws := wi 1594 (by decide +kernel) rfl
theorem e_X10_isHeard : Cond.selects RX10 yX10_isHeard yX10_isHeard ∈ gws := vi (q := (yX10_isHeard, 68)) 81 (by decide +kernel)
theorem m_X10_isLetter : mk9 yX10_isLetter cX10_isLetter 1 (some .boolean) 1 := ⟨wi 1381 (by decide +kernel) rfl, wi 15 (by decide +kernel) rfl, ⟨by decide +kernel, by decide +kernel⟩, by decide +kernel⟩
theorem z_X10_isLetter : Cond.static yX10_isLetter ∈ gws := wi 1380 (by decide +kernel) rfl
theorem m_X10_isListener : mk9 yX10_isListener cX10_isListener 2 (some .boolean) 1 := ⟨wi 1511 (by decide +kernel) rfl, wi 15 (by decide +kernel) rfl, ⟨by decide +kernel, by decide +kernel⟩, by decide +kernel⟩
theorem i_X10_isListener : Cond.instanceMethod yX10_isListener ∈ gws := wi 1510 (by decide +kernel) rfl
theorem e_X10_isListener : Cond.selects RX10 yX10_isListener yX10_isListener ∈ gws := vi (q := (yX10_isListener, 68)) 70 (by decide +kernel)
theorem m_X10_isLong : mk9 yX10_isLong cX10_isLong 1 (some .boolean) 1 := ⟨wi 1575 (by decide +kernel) rfl, wi 15 (by decide +kernel) rfl, ⟨by decide +kernel, by decide +kernel⟩, by decide +kernel⟩
theorem z_X10_isLong : Cond.static yX10_isLong ∈ gws := wi 1574 (by decide +kernel) rfl
theorem m_X10_isOn : mk9 yX10_isOn cX10_isOn 2 (some .boolean) 1 := ⟨wi 1599 (by decide +kernel) rfl, wi 15 (by decide +kernel) rfl, ⟨by decide +kernel, by decide +kernel⟩, by decide +kernel⟩
theorem i_X10_isOn : Cond.instanceMethod yX10_isOn ∈ gws := wi 1598 (by decide +kernel) rfl
theorem e_X10_isOn : Cond.selects RX10 yX10_isOn yX10_isOn ∈ gws := vi (q := (yX10_isOn, 68)) 82 (by decide +kernel)
theorem m_X10_isReally : mk9 yX10_isReally cX10_isReally 3 (some .boolean) 2 := ⟨wi 1487 (by decide +kernel) rfl, wi 15 (by decide +kernel) rfl, ⟨by decide +kernel, by decide +kernel⟩, by decide +kernel⟩
theorem i_X10_isReally : Cond.instanceMethod yX10_isReally ∈ gws := wi 1486 (by decide +kernel) rfl
theorem e_X10_isReally : Cond.selects RX10 yX10_isReally yX10_isReally ∈ gws := vi (q := (yX10_isReally, 68)) 65 (by decide +kernel)
theorem m_X10_isRole : mk9 yX10_isRole cX10_isRole 2 (some .boolean) 1 := ⟨wi 1476 (by decide +kernel) rfl, wi 15 (by decide +kernel) rfl, ⟨by decide +kernel, by decide +kernel⟩, by decide +kernel⟩
theorem i_X10_isRole : Cond.instanceMethod yX10_isRole ∈ gws := wi 1475 (by decide +kernel) rfl
theorem e_X10_isRole : Cond.selects RX10 yX10_isRole yX10_isRole ∈ gws := vi (q := (yX10_isRole, 68)) 63 (by decide +kernel)
theorem m_X10_isTonight : mk9 yX10_isTonight cX10_isTonight 3 (some .int) 1 := ⟨wi 1619 (by decide +kernel) rfl, wi 15 (by decide +kernel) rfl, ⟨by decide +kernel, by decide +kernel⟩, by decide +kernel⟩
theorem i_X10_isTonight : Cond.instanceMethod yX10_isTonight ∈ gws := wi 1618 (by decide +kernel) rfl
theorem e_X10_isTonight : Cond.selects RX10 yX10_isTonight yX10_isTonight ∈ gws := vi (q := (yX10_isTonight, 68)) 85 (by decide +kernel)
theorem m_X10_keepsRow : mk9 yX10_keepsRow cX10_keepsRow 2 (none) 0 := ⟨wi 1146 (by decide +kernel) rfl, wi 15 (by decide +kernel) rfl, ⟨by decide +kernel, by decide +kernel⟩, by decide +kernel⟩
theorem i_X10_keepsRow : Cond.instanceMethod yX10_keepsRow ∈ gws := wi 1145 (by decide +kernel) rfl
theorem e_X10_keepsRow : Cond.selects RX10 yX10_keepsRow yX10_keepsRow ∈ gws := vi (q := (yX10_keepsRow, 68)) 38 (by decide +kernel)
theorem m_X10_knownMany : mk9 yX10_knownMany cX10_knownMany 3 (some .int) 0 := ⟨wi 1623 (by decide +kernel) rfl, wi 15 (by decide +kernel) rfl, ⟨by decide +kernel, by decide +kernel⟩, by decide +kernel⟩
theorem i_X10_knownMany : Cond.instanceMethod yX10_knownMany ∈ gws := wi 1622 (by decide +kernel) rfl
theorem e_X10_knownMany : Cond.selects RX10 yX10_knownMany yX10_knownMany ∈ gws := vi (q := (yX10_knownMany, 68)) 86 (by decide +kernel)
theorem m_X10_knownName : mk9 yX10_knownName cX10_knownName 4 (some .int) 1 := ⟨wi 1436 (by decide +kernel) rfl, wi 15 (by decide +kernel) rfl, ⟨by decide +kernel, by decide +kernel⟩, by decide +kernel⟩
theorem i_X10_knownName : Cond.instanceMethod yX10_knownName ∈ gws := wi 1435 (by decide +kernel) rfl
theorem e_X10_knownName : Cond.selects RX10 yX10_knownName yX10_knownName ∈ gws := vi (q := (yX10_knownName, 68)) 55 (by decide +kernel)
theorem m_X10_lawTells : mk9 yX10_lawTells cX10_lawTells 7 (some .int) 2 := ⟨wi 1499 (by decide +kernel) rfl, wi 15 (by decide +kernel) rfl, ⟨by decide +kernel, by decide +kernel⟩, by decide +kernel⟩
theorem i_X10_lawTells : Cond.instanceMethod yX10_lawTells ∈ gws := wi 1498 (by decide +kernel) rfl
theorem e_X10_lawTells : Cond.selects RX10 yX10_lawTells yX10_lawTells ∈ gws := vi (q := (yX10_lawTells, 68)) 68 (by decide +kernel)
theorem m_X10_looks : mk9 yX10_looks cX10_looks 3 (none) 1 := ⟨wi 1495 (by decide +kernel) rfl, wi 15 (by decide +kernel) rfl, ⟨by decide +kernel, by decide +kernel⟩, by decide +kernel⟩
theorem i_X10_looks : Cond.instanceMethod yX10_looks ∈ gws := wi 1494 (by decide +kernel) rfl
theorem e_X10_looks : Cond.selects RX10 yX10_looks yX10_looks ∈ gws := vi (q := (yX10_looks, 68)) 67 (by decide +kernel)
theorem m_X10_looksFor : mk9 yX10_looksFor cX10_looksFor 4 (none) 3 := ⟨wi 1527 (by decide +kernel) rfl, wi 15 (by decide +kernel) rfl, ⟨by decide +kernel, by decide +kernel⟩, by decide +kernel⟩
theorem i_X10_looksFor : Cond.instanceMethod yX10_looksFor ∈ gws := wi 1526 (by decide +kernel) rfl
theorem e_X10_looksFor : Cond.selects RX10 yX10_looksFor yX10_looksFor ∈ gws := vi (q := (yX10_looksFor, 68)) 73 (by decide +kernel)
theorem m_X10_mixed : mk9 yX10_mixed cX10_mixed 3 (some .int) 2 := ⟨wi 1590 (by decide +kernel) rfl, wi 15 (by decide +kernel) rfl, ⟨by decide +kernel, by decide +kernel⟩, by decide +kernel⟩
theorem z_X10_mixed : Cond.static yX10_mixed ∈ gws := wi 1589 (by decide +kernel) rfl
theorem m_X10_moreBy : mk9 yX10_moreBy cX10_moreBy 4 (some .int) 2 := ⟨wi 1568 (by decide +kernel) rfl, wi 15 (by decide +kernel) rfl, ⟨by decide +kernel, by decide +kernel⟩, by decide +kernel⟩
theorem i_X10_moreBy : Cond.instanceMethod yX10_moreBy ∈ gws := wi 1567 (by decide +kernel) rfl
theorem e_X10_moreBy : Cond.selects RX10 yX10_moreBy yX10_moreBy ∈ gws := vi (q := (yX10_moreBy, 68)) 77 (by decide +kernel)
theorem m_X10_movesBy : mk9 yX10_movesBy cX10_movesBy 4 (some .int) 3 := ⟨wi 1523 (by decide +kernel) rfl, wi 15 (by decide +kernel) rfl, ⟨by decide +kernel, by decide +kernel⟩, by decide +kernel⟩
theorem i_X10_movesBy : Cond.instanceMethod yX10_movesBy ∈ gws := wi 1522 (by decide +kernel) rfl
theorem e_X10_movesBy : Cond.selects RX10 yX10_movesBy yX10_movesBy ∈ gws := vi (q := (yX10_movesBy, 68)) 72 (by decide +kernel)
theorem m_X10_must : mk9 yX10_must cX10_must 2 (none) 1 := ⟨wi 1416 (by decide +kernel) rfl, wi 15 (by decide +kernel) rfl, ⟨by decide +kernel, by decide +kernel⟩, by decide +kernel⟩
theorem i_X10_must : Cond.instanceMethod yX10_must ∈ gws := wi 1415 (by decide +kernel) rfl
theorem e_X10_must : Cond.selects RX10 yX10_must yX10_must ∈ gws := vi (q := (yX10_must, 68)) 50 (by decide +kernel)
theorem m_X10_named : mk9 yX10_named cX10_named 3 (some .int) 0 := ⟨wi 1412 (by decide +kernel) rfl, wi 15 (by decide +kernel) rfl, ⟨by decide +kernel, by decide +kernel⟩, by decide +kernel⟩
theorem i_X10_named : Cond.instanceMethod yX10_named ∈ gws := wi 1411 (by decide +kernel) rfl
theorem e_X10_named : Cond.selects RX10 yX10_named yX10_named ∈ gws := vi (q := (yX10_named, 68)) 49 (by decide +kernel)
theorem m_X10_plain : mk9 yX10_plain cX10_plain 3 (none) 1 := ⟨wi 1131 (by decide +kernel) rfl, wi 15 (by decide +kernel) rfl, ⟨by decide +kernel, by decide +kernel⟩, by decide +kernel⟩
theorem i_X10_plain : Cond.instanceMethod yX10_plain ∈ gws := wi 1130 (by decide +kernel) rfl
theorem e_X10_plain : Cond.selects RX10 yX10_plain yX10_plain ∈ gws := vi (q := (yX10_plain, 68)) 36 (by decide +kernel)
theorem m_X10_power : mk9 yX10_power cX10_power 4 (some .int) 2 := ⟨wi 1646 (by decide +kernel) rfl, wi 15 (by decide +kernel) rfl, ⟨by decide +kernel, by decide +kernel⟩, by decide +kernel⟩
theorem z_X10_power : Cond.static yX10_power ∈ gws := wi 1645 (by decide +kernel) rfl
theorem m_X10_put : mk9 yX10_put cX10_put 3 (none) 1 := ⟨wi 1358 (by decide +kernel) rfl, wi 15 (by decide +kernel) rfl, ⟨by decide +kernel, by decide +kernel⟩, by decide +kernel⟩
theorem i_X10_put : Cond.instanceMethod yX10_put ∈ gws := wi 1357 (by decide +kernel) rfl
theorem e_X10_put : Cond.selects RX10 yX10_put yX10_put ∈ gws := vi (q := (yX10_put, 68)) 39 (by decide +kernel)
theorem m_X10_records : mk9 yX10_records cX10_records 2 (none) 0 := ⟨wi 1549 (by decide +kernel) rfl, wi 15 (by decide +kernel) rfl, ⟨by decide +kernel, by decide +kernel⟩, by decide +kernel⟩
theorem i_X10_records : Cond.instanceMethod yX10_records ∈ gws := wi 1548 (by decide +kernel) rfl
theorem e_X10_records : Cond.selects RX10 yX10_records yX10_records ∈ gws := vi (q := (yX10_records, 68)) 76 (by decide +kernel)
theorem m_X10_roomFor : mk9 yX10_roomFor cX10_roomFor 3 (none) 2 := ⟨wi 1400 (by decide +kernel) rfl, wi 15 (by decide +kernel) rfl, ⟨by decide +kernel, by decide +kernel⟩, by decide +kernel⟩
theorem i_X10_roomFor : Cond.instanceMethod yX10_roomFor ∈ gws := wi 1399 (by decide +kernel) rfl
theorem e_X10_roomFor : Cond.selects RX10 yX10_roomFor yX10_roomFor ∈ gws := vi (q := (yX10_roomFor, 68)) 46 (by decide +kernel)
theorem m_X10_saidBy : mk9 yX10_saidBy cX10_saidBy 4 (some .int) 1 := ⟨wi 1491 (by decide +kernel) rfl, wi 15 (by decide +kernel) rfl, ⟨by decide +kernel, by decide +kernel⟩, by decide +kernel⟩
theorem i_X10_saidBy : Cond.instanceMethod yX10_saidBy ∈ gws := wi 1490 (by decide +kernel) rfl
theorem e_X10_saidBy : Cond.selects RX10 yX10_saidBy yX10_saidBy ∈ gws := vi (q := (yX10_saidBy, 68)) 66 (by decide +kernel)
theorem m_X10_sign : mk9 yX10_sign cX10_sign 5 (some .int) 3 := ⟨wi 1388 (by decide +kernel) rfl, wi 15 (by decide +kernel) rfl, ⟨by decide +kernel, by decide +kernel⟩, by decide +kernel⟩
theorem i_X10_sign : Cond.instanceMethod yX10_sign ∈ gws := wi 1387 (by decide +kernel) rfl
theorem e_X10_sign : Cond.selects RX10 yX10_sign yX10_sign ∈ gws := vi (q := (yX10_sign, 68)) 43 (by decide +kernel)
theorem m_X10_someBits : mk9 yX10_someBits cX10_someBits 6 (some .int) 3 := ⟨wi 1795 (by decide +kernel) rfl, wi 15 (by decide +kernel) rfl, ⟨by decide +kernel, by decide +kernel⟩, by decide +kernel⟩
theorem i_X10_someBits : Cond.instanceMethod yX10_someBits ∈ gws := wi 1794 (by decide +kernel) rfl
theorem e_X10_someBits : Cond.selects RX10 yX10_someBits yX10_someBits ∈ gws := vi (q := (yX10_someBits, 68)) 98 (by decide +kernel)
theorem m_X10_sumOf : mk9 yX10_sumOf cX10_sumOf 4 (some .int) 1 := ⟨wi 1699 (by decide +kernel) rfl, wi 15 (by decide +kernel) rfl, ⟨by decide +kernel, by decide +kernel⟩, by decide +kernel⟩
theorem i_X10_sumOf : Cond.instanceMethod yX10_sumOf ∈ gws := wi 1698 (by decide +kernel) rfl
theorem e_X10_sumOf : Cond.selects RX10 yX10_sumOf yX10_sumOf ∈ gws := vi (q := (yX10_sumOf, 68)) 93 (by decide +kernel)
theorem m_X10_tellLaw : mk9 yX10_tellLaw cX10_tellLaw 4 (none) 1 := ⟨wi 1444 (by decide +kernel) rfl, wi 15 (by decide +kernel) rfl, ⟨by decide +kernel, by decide +kernel⟩, by decide +kernel⟩
theorem i_X10_tellLaw : Cond.instanceMethod yX10_tellLaw ∈ gws := wi 1443 (by decide +kernel) rfl
theorem e_X10_tellLaw : Cond.selects RX10 yX10_tellLaw yX10_tellLaw ∈ gws := vi (q := (yX10_tellLaw, 68)) 57 (by decide +kernel)
theorem m_X10_tellOne : mk9 yX10_tellOne cX10_tellOne 3 (none) 0 := ⟨wi 1396 (by decide +kernel) rfl, wi 15 (by decide +kernel) rfl, ⟨by decide +kernel, by decide +kernel⟩, by decide +kernel⟩
theorem i_X10_tellOne : Cond.instanceMethod yX10_tellOne ∈ gws := wi 1395 (by decide +kernel) rfl
theorem e_X10_tellOne : Cond.selects RX10 yX10_tellOne yX10_tellOne ∈ gws := vi (q := (yX10_tellOne, 68)) 45 (by decide +kernel)
theorem m_X10_tellReally : mk9 yX10_tellReally cX10_tellReally 5 (none) 0 := ⟨wi 1432 (by decide +kernel) rfl, wi 15 (by decide +kernel) rfl, ⟨by decide +kernel, by decide +kernel⟩, by decide +kernel⟩
theorem i_X10_tellReally : Cond.instanceMethod yX10_tellReally ∈ gws := wi 1431 (by decide +kernel) rfl
theorem e_X10_tellReally : Cond.selects RX10 yX10_tellReally yX10_tellReally ∈ gws := vi (q := (yX10_tellReally, 68)) 54 (by decide +kernel)
theorem m_X10_tellsApart : mk9 yX10_tellsApart cX10_tellsApart 4 (some .boolean) 1 := ⟨wi 1723 (by decide +kernel) rfl, wi 15 (by decide +kernel) rfl, ⟨by decide +kernel, by decide +kernel⟩, by decide +kernel⟩
theorem i_X10_tellsApart : Cond.instanceMethod yX10_tellsApart ∈ gws := wi 1722 (by decide +kernel) rfl
theorem e_X10_tellsApart : Cond.selects RX10 yX10_tellsApart yX10_tellsApart ∈ gws := vi (q := (yX10_tellsApart, 68)) 94 (by decide +kernel)
theorem m_X10_tellsOne : mk9 yX10_tellsOne cX10_tellsOne 3 (some .int) 2 := ⟨wi 1759 (by decide +kernel) rfl, wi 15 (by decide +kernel) rfl, ⟨by decide +kernel, by decide +kernel⟩, by decide +kernel⟩
theorem i_X10_tellsOne : Cond.instanceMethod yX10_tellsOne ∈ gws := wi 1758 (by decide +kernel) rfl
theorem e_X10_tellsOne : Cond.selects RX10 yX10_tellsOne yX10_tellsOne ∈ gws := vi (q := (yX10_tellsOne, 68)) 96 (by decide +kernel)
theorem m_X10_term : mk9 yX10_term cX10_term 1 (none) 0 := ⟨wi 1464 (by decide +kernel) rfl, wi 15 (by decide +kernel) rfl, ⟨by decide +kernel, by decide +kernel⟩, by decide +kernel⟩
theorem i_X10_term : Cond.instanceMethod yX10_term ∈ gws := wi 1463 (by decide +kernel) rfl
theorem e_X10_term : Cond.selects RX10 yX10_term yX10_term ∈ gws := vi (q := (yX10_term, 68)) 62 (by decide +kernel)
theorem m_X10_termOf : mk9 yX10_termOf cX10_termOf 8 (some .int) 2 := ⟨wi 1503 (by decide +kernel) rfl, wi 15 (by decide +kernel) rfl, ⟨by decide +kernel, by decide +kernel⟩, by decide +kernel⟩
theorem i_X10_termOf : Cond.instanceMethod yX10_termOf ∈ gws := wi 1502 (by decide +kernel) rfl
theorem e_X10_termOf : Cond.selects RX10 yX10_termOf yX10_termOf ∈ gws := vi (q := (yX10_termOf, 68)) 69 (by decide +kernel)
theorem m_X10_token : mk9 yX10_token cX10_token 6 (none) 4 := ⟨wi 1378 (by decide +kernel) rfl, wi 15 (by decide +kernel) rfl, ⟨by decide +kernel, by decide +kernel⟩, by decide +kernel⟩
theorem i_X10_token : Cond.instanceMethod yX10_token ∈ gws := wi 1377 (by decide +kernel) rfl
theorem e_X10_token : Cond.selects RX10 yX10_token yX10_token ∈ gws := vi (q := (yX10_token, 68)) 42 (by decide +kernel)
theorem m_X10_toldInt : mk9 yX10_toldInt cX10_toldInt 4 (some .int) 2 := ⟨wi 1440 (by decide +kernel) rfl, wi 15 (by decide +kernel) rfl, ⟨by decide +kernel, by decide +kernel⟩, by decide +kernel⟩
theorem i_X10_toldInt : Cond.instanceMethod yX10_toldInt ∈ gws := wi 1439 (by decide +kernel) rfl
theorem e_X10_toldInt : Cond.selects RX10 yX10_toldInt yX10_toldInt ∈ gws := vi (q := (yX10_toldInt, 68)) 56 (by decide +kernel)
theorem m_X10_trustBits : mk9 yX10_trustBits cX10_trustBits 5 (some .int) 2 := ⟨wi 1615 (by decide +kernel) rfl, wi 15 (by decide +kernel) rfl, ⟨by decide +kernel, by decide +kernel⟩, by decide +kernel⟩
theorem i_X10_trustBits : Cond.instanceMethod yX10_trustBits ∈ gws := wi 1614 (by decide +kernel) rfl
theorem e_X10_trustBits : Cond.selects RX10 yX10_trustBits yX10_trustBits ∈ gws := vi (q := (yX10_trustBits, 68)) 84 (by decide +kernel)
theorem m_X10_unit : mk9 yX10_unit cX10_unit 1 (none) 0 := ⟨wi 1452 (by decide +kernel) rfl, wi 15 (by decide +kernel) rfl, ⟨by decide +kernel, by decide +kernel⟩, by decide +kernel⟩
theorem i_X10_unit : Cond.instanceMethod yX10_unit ∈ gws := wi 1451 (by decide +kernel) rfl
theorem e_X10_unit : Cond.selects RX10 yX10_unit yX10_unit ∈ gws := vi (q := (yX10_unit, 68)) 59 (by decide +kernel)
theorem m_X10_whoBits : mk9 yX10_whoBits cX10_whoBits 8 (some .int) 1 := ⟨wi 1775 (by decide +kernel) rfl, wi 15 (by decide +kernel) rfl, ⟨by decide +kernel, by decide +kernel⟩, by decide +kernel⟩
theorem i_X10_whoBits : Cond.instanceMethod yX10_whoBits ∈ gws := wi 1774 (by decide +kernel) rfl
theorem e_X10_whoBits : Cond.selects RX10 yX10_whoBits yX10_whoBits ∈ gws := vi (q := (yX10_whoBits, 68)) 97 (by decide +kernel)
theorem m_X10_within : mk9 yX10_within cX10_within 3 (some .int) 3 := ⟨wi 1533 (by decide +kernel) rfl, wi 15 (by decide +kernel) rfl, ⟨by decide +kernel, by decide +kernel⟩, by decide +kernel⟩
theorem z_X10_within : Cond.static yX10_within ∈ gws := wi 1532 (by decide +kernel) rfl
theorem m_X10_word : mk9 yX10_word cX10_word 7 (some .long) 7 := ⟨wi 1134 (by decide +kernel) rfl, wi 15 (by decide +kernel) rfl, ⟨by decide +kernel, by decide +kernel⟩, by decide +kernel⟩
theorem z_X10_word : Cond.static yX10_word ∈ gws := wi 1133 (by decide +kernel) rfl
theorem m_X10_wrong : mk9 yX10_wrong cX10_wrong 4 (none) 2 := ⟨wi 1420 (by decide +kernel) rfl, wi 15 (by decide +kernel) rfl, ⟨by decide +kernel, by decide +kernel⟩, by decide +kernel⟩
theorem i_X10_wrong : Cond.instanceMethod yX10_wrong ∈ gws := wi 1419 (by decide +kernel) rfl
theorem e_X10_wrong : Cond.selects RX10 yX10_wrong yX10_wrong ∈ gws := vi (q := (yX10_wrong, 68)) 51 (by decide +kernel)
theorem m_X1_clear : mk9 yX1_clear cX1_clear 1 (none) 0 := ⟨wi 467 (by decide +kernel) rfl, wi 10 (by decide +kernel) rfl, ⟨by decide +kernel, by decide +kernel⟩, by decide +kernel⟩
theorem i_X1_clear : Cond.instanceMethod yX1_clear ∈ gws := wi 465 (by decide +kernel) rfl
theorem e_X1_clear : Cond.selects RX1 yX1_clear yX1_clear ∈ gws := wi 466 (by decide +kernel) rfl
theorem m_X1_endPart : mk9 yX1_endPart cX1_endPart 2 (none) 1 := ⟨wi 627 (by decide +kernel) rfl, wi 10 (by decide +kernel) rfl, ⟨by decide +kernel, by decide +kernel⟩, by decide +kernel⟩
theorem i_X1_endPart : Cond.instanceMethod yX1_endPart ∈ gws := wi 625 (by decide +kernel) rfl
theorem e_X1_endPart : Cond.selects RX1 yX1_endPart yX1_endPart ∈ gws := wi 626 (by decide +kernel) rfl
theorem m_X1_forgetVars : mk9 yX1_forgetVars cX1_forgetVars 1 (none) 0 := ⟨wi 741 (by decide +kernel) rfl, wi 10 (by decide +kernel) rfl, ⟨by decide +kernel, by decide +kernel⟩, by decide +kernel⟩
theorem i_X1_forgetVars : Cond.instanceMethod yX1_forgetVars ∈ gws := wi 739 (by decide +kernel) rfl
theorem e_X1_forgetVars : Cond.selects RX1 yX1_forgetVars yX1_forgetVars ∈ gws := wi 740 (by decide +kernel) rfl
theorem m_X1_init : mk9 yX1_init cX1_init 1 (none) 0 := ⟨wi 199 (by decide +kernel) rfl, wi 10 (by decide +kernel) rfl, ⟨by decide +kernel, by decide +kernel⟩, by decide +kernel⟩
theorem i_X1_init : Cond.instanceMethod yX1_init ∈ gws := wi 198 (by decide +kernel) rfl
theorem m_X1_joined : mk9 yX1_joined cX1_joined 4 (some .int) 3 := ⟨wi 753 (by decide +kernel) rfl, wi 10 (by decide +kernel) rfl, ⟨by decide +kernel, by decide +kernel⟩, by decide +kernel⟩
theorem i_X1_joined : Cond.instanceMethod yX1_joined ∈ gws := wi 752 (by decide +kernel) rfl
theorem e_X1_joined : Cond.selects RX1 yX1_joined yX1_joined ∈ gws := vi (q := (yX1_joined, 8)) 22 (by decide +kernel)
theorem m_X1_open : mk9 yX1_open cX1_open 2 (none) 1 := ⟨wi 587 (by decide +kernel) rfl, wi 10 (by decide +kernel) rfl, ⟨by decide +kernel, by decide +kernel⟩, by decide +kernel⟩
theorem i_X1_open : Cond.instanceMethod yX1_open ∈ gws := wi 585 (by decide +kernel) rfl
theorem e_X1_open : Cond.selects RX1 yX1_open yX1_open ∈ gws := wi 586 (by decide +kernel) rfl
theorem m_X1_put : mk9 yX1_put cX1_put 2 (none) 1 := ⟨wi 599 (by decide +kernel) rfl, wi 10 (by decide +kernel) rfl, ⟨by decide +kernel, by decide +kernel⟩, by decide +kernel⟩
theorem i_X1_put : Cond.instanceMethod yX1_put ∈ gws := wi 597 (by decide +kernel) rfl
theorem e_X1_put : Cond.selects RX1 yX1_put yX1_put ∈ gws := wi 598 (by decide +kernel) rfl
theorem m_X1_tell : mk9 yX1_tell cX1_tell 5 (some .int) 1 := ⟨wi 745 (by decide +kernel) rfl, wi 10 (by decide +kernel) rfl, ⟨by decide +kernel, by decide +kernel⟩, by decide +kernel⟩
theorem i_X1_tell : Cond.instanceMethod yX1_tell ∈ gws := wi 743 (by decide +kernel) rfl
theorem e_X1_tell : Cond.selects RX1 yX1_tell yX1_tell ∈ gws := wi 744 (by decide +kernel) rfl
theorem m_X1_valueOf : mk9 yX1_valueOf cX1_valueOf 7 (some .int) 2 := ⟨wi 749 (by decide +kernel) rfl, wi 10 (by decide +kernel) rfl, ⟨by decide +kernel, by decide +kernel⟩, by decide +kernel⟩
theorem i_X1_valueOf : Cond.instanceMethod yX1_valueOf ∈ gws := wi 748 (by decide +kernel) rfl
theorem e_X1_valueOf : Cond.selects RX1 yX1_valueOf yX1_valueOf ∈ gws := vi (q := (yX1_valueOf, 8)) 21 (by decide +kernel)
theorem m_X2_giveBack : mk9 yX2_giveBack cX2_giveBack 3 (some .boolean) 2 := ⟨wi 920 (by decide +kernel) rfl, wi 13 (by decide +kernel) rfl, ⟨by decide +kernel, by decide +kernel⟩, by decide +kernel⟩
theorem i_X2_giveBack : Cond.instanceMethod yX2_giveBack ∈ gws := wi 918 (by decide +kernel) rfl
theorem e_X2_giveBack : Cond.selects RX2 yX2_giveBack yX2_giveBack ∈ gws := wi 919 (by decide +kernel) rfl
theorem m_X2_keep : mk9 yX2_keep cX2_keep 3 (some .boolean) 2 := ⟨wi 912 (by decide +kernel) rfl, wi 13 (by decide +kernel) rfl, ⟨by decide +kernel, by decide +kernel⟩, by decide +kernel⟩
theorem i_X2_keep : Cond.instanceMethod yX2_keep ∈ gws := wi 910 (by decide +kernel) rfl
theorem e_X2_keep : Cond.selects RX2 yX2_keep yX2_keep ∈ gws := wi 911 (by decide +kernel) rfl
theorem m_X2_remember : mk9 yX2_remember cX2_remember 2 (none) 1 := ⟨wi 845 (by decide +kernel) rfl, wi 13 (by decide +kernel) rfl, ⟨by decide +kernel, by decide +kernel⟩, by decide +kernel⟩
theorem i_X2_remember : Cond.instanceMethod yX2_remember ∈ gws := wi 843 (by decide +kernel) rfl
theorem e_X2_remember : Cond.selects RX2 yX2_remember yX2_remember ∈ gws := wi 844 (by decide +kernel) rfl
theorem m_X2_takeBack : mk9 yX2_takeBack cX2_takeBack 2 (some .boolean) 1 := ⟨wi 904 (by decide +kernel) rfl, wi 13 (by decide +kernel) rfl, ⟨by decide +kernel, by decide +kernel⟩, by decide +kernel⟩
theorem i_X2_takeBack : Cond.instanceMethod yX2_takeBack ∈ gws := wi 902 (by decide +kernel) rfl
theorem e_X2_takeBack : Cond.selects RX2 yX2_takeBack yX2_takeBack ∈ gws := wi 903 (by decide +kernel) rfl
theorem m_X3_become : mk9 yX3_become cX3_become 2 (none) 1 := ⟨wi 849 (by decide +kernel) rfl, wi 11 (by decide +kernel) rfl, ⟨by decide +kernel, by decide +kernel⟩, by decide +kernel⟩
theorem i_X3_become : Cond.instanceMethod yX3_become ∈ gws := wi 847 (by decide +kernel) rfl
theorem e_X3_become : Cond.selects RX3 yX3_become yX3_become ∈ gws := wi 848 (by decide +kernel) rfl
theorem m_X3_beliefOfAll : mk9 yX3_beliefOfAll cX3_beliefOfAll 3 (some .int) 0 := ⟨wi 833 (by decide +kernel) rfl, wi 11 (by decide +kernel) rfl, ⟨by decide +kernel, by decide +kernel⟩, by decide +kernel⟩
theorem i_X3_beliefOfAll : Cond.instanceMethod yX3_beliefOfAll ∈ gws := wi 831 (by decide +kernel) rfl
theorem e_X3_beliefOfAll : Cond.selects RX3 yX3_beliefOfAll yX3_beliefOfAll ∈ gws := wi 832 (by decide +kernel) rfl
theorem m_X3_factsKnown : mk9 yX3_factsKnown cX3_factsKnown 3 (some .int) 0 := ⟨wi 808 (by decide +kernel) rfl, wi 11 (by decide +kernel) rfl, ⟨by decide +kernel, by decide +kernel⟩, by decide +kernel⟩
theorem i_X3_factsKnown : Cond.instanceMethod yX3_factsKnown ∈ gws := wi 806 (by decide +kernel) rfl
theorem e_X3_factsKnown : Cond.selects RX3 yX3_factsKnown yX3_factsKnown ∈ gws := wi 807 (by decide +kernel) rfl
theorem m_X3_init : mk9 yX3_init cX3_init 1 (none) 0 := ⟨wi 295 (by decide +kernel) rfl, wi 11 (by decide +kernel) rfl, ⟨by decide +kernel, by decide +kernel⟩, by decide +kernel⟩
theorem i_X3_init : Cond.instanceMethod yX3_init ∈ gws := wi 294 (by decide +kernel) rfl
theorem m_X3_isOn : mk9 yX3_isOn cX3_isOn 2 (some .boolean) 1 := ⟨wi 767 (by decide +kernel) rfl, wi 11 (by decide +kernel) rfl, ⟨by decide +kernel, by decide +kernel⟩, by decide +kernel⟩
theorem i_X3_isOn : Cond.instanceMethod yX3_isOn ∈ gws := wi 765 (by decide +kernel) rfl
theorem e_X3_isOn : Cond.selects RX3 yX3_isOn yX3_isOn ∈ gws := wi 766 (by decide +kernel) rfl
theorem m_X3_timesHeard : mk9 yX3_timesHeard cX3_timesHeard 3 (some .int) 0 := ⟨wi 825 (by decide +kernel) rfl, wi 11 (by decide +kernel) rfl, ⟨by decide +kernel, by decide +kernel⟩, by decide +kernel⟩
theorem i_X3_timesHeard : Cond.instanceMethod yX3_timesHeard ∈ gws := wi 823 (by decide +kernel) rfl
theorem e_X3_timesHeard : Cond.selects RX3 yX3_timesHeard yX3_timesHeard ∈ gws := wi 824 (by decide +kernel) rfl
theorem m_X5_hasRoomFor : mk9 yX5_hasRoomFor cX5_hasRoomFor 2 (some .boolean) 2 := ⟨wi 575 (by decide +kernel) rfl, wi 2 (by decide +kernel) rfl, ⟨by decide +kernel, by decide +kernel⟩, by decide +kernel⟩
theorem z_X5_hasRoomFor : Cond.static yX5_hasRoomFor ∈ gws := wi 574 (by decide +kernel) rfl
theorem m_X5_isLaw : mk9 yX5_isLaw cX5_isLaw 1 (some .boolean) 1 := ⟨wi 568 (by decide +kernel) rfl, wi 2 (by decide +kernel) rfl, ⟨by decide +kernel, by decide +kernel⟩, by decide +kernel⟩
theorem z_X5_isLaw : Cond.static yX5_isLaw ∈ gws := wi 567 (by decide +kernel) rfl
theorem m_X5_leastNumber : mk9 yX5_leastNumber cX5_leastNumber 1 (some .int) 0 := ⟨wi 696 (by decide +kernel) rfl, wi 2 (by decide +kernel) rfl, ⟨by decide +kernel, by decide +kernel⟩, by decide +kernel⟩
theorem i_X5_leastNumber : Cond.instanceMethod yX5_leastNumber ∈ gws := wi 695 (by decide +kernel) rfl
theorem e_X5_leastNumber : Cond.selects RX5 yX5_leastNumber yX5_leastNumber ∈ gws := vi (q := (yX5_leastNumber, 8)) 19 (by decide +kernel)
theorem m_X5_mostNumber : mk9 yX5_mostNumber cX5_mostNumber 1 (some .int) 0 := ⟨wi 700 (by decide +kernel) rfl, wi 2 (by decide +kernel) rfl, ⟨by decide +kernel, by decide +kernel⟩, by decide +kernel⟩
theorem i_X5_mostNumber : Cond.instanceMethod yX5_mostNumber ∈ gws := wi 699 (by decide +kernel) rfl
theorem e_X5_mostNumber : Cond.selects RX5 yX5_mostNumber yX5_mostNumber ∈ gws := vi (q := (yX5_mostNumber, 8)) 20 (by decide +kernel)
theorem m_X5_note : mk9 yX5_note cX5_note 2 (none) 1 := ⟨wi 657 (by decide +kernel) rfl, wi 2 (by decide +kernel) rfl, ⟨by decide +kernel, by decide +kernel⟩, by decide +kernel⟩
theorem i_X5_note : Cond.instanceMethod yX5_note ∈ gws := wi 656 (by decide +kernel) rfl
theorem e_X5_note : Cond.selects RX5 yX5_note yX5_note ∈ gws := vi (q := (yX5_note, 8)) 17 (by decide +kernel)
theorem m_X5_takeReally : mk9 yX5_takeReally cX5_takeReally 3 (none) 1 := ⟨wi 649 (by decide +kernel) rfl, wi 2 (by decide +kernel) rfl, ⟨by decide +kernel, by decide +kernel⟩, by decide +kernel⟩
theorem i_X5_takeReally : Cond.instanceMethod yX5_takeReally ∈ gws := wi 648 (by decide +kernel) rfl
theorem e_X5_takeReally : Cond.selects RX5 yX5_takeReally yX5_takeReally ∈ gws := vi (q := (yX5_takeReally, 8)) 16 (by decide +kernel)
theorem m_X6_addListener : mk9 yX6_addListener cX6_addListener 3 (none) 1 := ⟨wi 688 (by decide +kernel) rfl, wi 9 (by decide +kernel) rfl, ⟨by decide +kernel, by decide +kernel⟩, by decide +kernel⟩
theorem i_X6_addListener : Cond.instanceMethod yX6_addListener ∈ gws := wi 686 (by decide +kernel) rfl
theorem e_X6_addListener : Cond.selects RX6 yX6_addListener yX6_addListener ∈ gws := wi 687 (by decide +kernel) rfl
theorem m_X6_addReally : mk9 yX6_addReally cX6_addReally 3 (none) 2 := ⟨wi 672 (by decide +kernel) rfl, wi 9 (by decide +kernel) rfl, ⟨by decide +kernel, by decide +kernel⟩, by decide +kernel⟩
theorem i_X6_addReally : Cond.instanceMethod yX6_addReally ∈ gws := wi 670 (by decide +kernel) rfl
theorem e_X6_addReally : Cond.selects RX6 yX6_addReally yX6_addReally ∈ gws := wi 671 (by decide +kernel) rfl
theorem m_X6_addRole : mk9 yX6_addRole cX6_addRole 3 (none) 1 := ⟨wi 684 (by decide +kernel) rfl, wi 9 (by decide +kernel) rfl, ⟨by decide +kernel, by decide +kernel⟩, by decide +kernel⟩
theorem i_X6_addRole : Cond.instanceMethod yX6_addRole ∈ gws := wi 682 (by decide +kernel) rfl
theorem e_X6_addRole : Cond.selects RX6 yX6_addRole yX6_addRole ∈ gws := wi 683 (by decide +kernel) rfl
theorem m_X6_crackles : mk9 yX6_crackles cX6_crackles 3 (some .boolean) 2 := ⟨wi 814 (by decide +kernel) rfl, wi 9 (by decide +kernel) rfl, ⟨by decide +kernel, by decide +kernel⟩, by decide +kernel⟩
theorem i_X6_crackles : Cond.instanceMethod yX6_crackles ∈ gws := wi 812 (by decide +kernel) rfl
theorem e_X6_crackles : Cond.selects RX6 yX6_crackles yX6_crackles ∈ gws := wi 813 (by decide +kernel) rfl
theorem m_X6_doneBy : mk9 yX6_doneBy cX6_doneBy 4 (some .int) 1 := ⟨wi 803 (by decide +kernel) rfl, wi 9 (by decide +kernel) rfl, ⟨by decide +kernel, by decide +kernel⟩, by decide +kernel⟩
theorem i_X6_doneBy : Cond.instanceMethod yX6_doneBy ∈ gws := wi 801 (by decide +kernel) rfl
theorem e_X6_doneBy : Cond.selects RX6 yX6_doneBy yX6_doneBy ∈ gws := wi 802 (by decide +kernel) rfl
theorem m_X6_hasDone : mk9 yX6_hasDone cX6_hasDone 3 (some .boolean) 2 := ⟨wi 772 (by decide +kernel) rfl, wi 9 (by decide +kernel) rfl, ⟨by decide +kernel, by decide +kernel⟩, by decide +kernel⟩
theorem i_X6_hasDone : Cond.instanceMethod yX6_hasDone ∈ gws := wi 770 (by decide +kernel) rfl
theorem e_X6_hasDone : Cond.selects RX6 yX6_hasDone yX6_hasDone ∈ gws := wi 771 (by decide +kernel) rfl
theorem m_X6_hasListener : mk9 yX6_hasListener cX6_hasListener 2 (some .boolean) 1 := ⟨wi 676 (by decide +kernel) rfl, wi 9 (by decide +kernel) rfl, ⟨by decide +kernel, by decide +kernel⟩, by decide +kernel⟩
theorem i_X6_hasListener : Cond.instanceMethod yX6_hasListener ∈ gws := wi 674 (by decide +kernel) rfl
theorem e_X6_hasListener : Cond.selects RX6 yX6_hasListener yX6_hasListener ∈ gws := wi 675 (by decide +kernel) rfl
theorem m_X6_hasRole : mk9 yX6_hasRole cX6_hasRole 2 (some .boolean) 1 := ⟨wi 680 (by decide +kernel) rfl, wi 9 (by decide +kernel) rfl, ⟨by decide +kernel, by decide +kernel⟩, by decide +kernel⟩
theorem i_X6_hasRole : Cond.instanceMethod yX6_hasRole ∈ gws := wi 678 (by decide +kernel) rfl
theorem e_X6_hasRole : Cond.selects RX6 yX6_hasRole yX6_hasRole ∈ gws := wi 679 (by decide +kernel) rfl
theorem m_X6_isReally : mk9 yX6_isReally cX6_isReally 3 (some .boolean) 2 := ⟨wi 665 (by decide +kernel) rfl, wi 9 (by decide +kernel) rfl, ⟨by decide +kernel, by decide +kernel⟩, by decide +kernel⟩
theorem i_X6_isReally : Cond.instanceMethod yX6_isReally ∈ gws := wi 663 (by decide +kernel) rfl
theorem e_X6_isReally : Cond.selects RX6 yX6_isReally yX6_isReally ∈ gws := wi 664 (by decide +kernel) rfl
theorem m_X6_isRungHearing : mk9 yX6_isRungHearing cX6_isRungHearing 7 (some .boolean) 3 := ⟨wi 892 (by decide +kernel) rfl, wi 9 (by decide +kernel) rfl, ⟨by decide +kernel, by decide +kernel⟩, by decide +kernel⟩
theorem i_X6_isRungHearing : Cond.instanceMethod yX6_isRungHearing ∈ gws := wi 891 (by decide +kernel) rfl
theorem e_X6_isRungHearing : Cond.selects RX6 yX6_isRungHearing yX6_isRungHearing ∈ gws := vi (q := (yX6_isRungHearing, 15)) 24 (by decide +kernel)
theorem m_X6_knownByRoles : mk9 yX6_knownByRoles cX6_knownByRoles 3 (some .int) 0 := ⟨wi 981 (by decide +kernel) rfl, wi 9 (by decide +kernel) rfl, ⟨by decide +kernel, by decide +kernel⟩, by decide +kernel⟩
theorem i_X6_knownByRoles : Cond.instanceMethod yX6_knownByRoles ∈ gws := wi 979 (by decide +kernel) rfl
theorem e_X6_knownByRoles : Cond.selects RX6 yX6_knownByRoles yX6_knownByRoles ∈ gws := wi 980 (by decide +kernel) rfl
theorem m_X6_lackedBy : mk9 yX6_lackedBy cX6_lackedBy 3 (some .int) 2 := ⟨wi 776 (by decide +kernel) rfl, wi 9 (by decide +kernel) rfl, ⟨by decide +kernel, by decide +kernel⟩, by decide +kernel⟩
theorem i_X6_lackedBy : Cond.instanceMethod yX6_lackedBy ∈ gws := wi 774 (by decide +kernel) rfl
theorem e_X6_lackedBy : Cond.selects RX6 yX6_lackedBy yX6_lackedBy ∈ gws := wi 775 (by decide +kernel) rfl
theorem m_X6_listenerNamed : mk9 yX6_listenerNamed cX6_listenerNamed 4 (some .int) 1 := ⟨wi 653 (by decide +kernel) rfl, wi 9 (by decide +kernel) rfl, ⟨by decide +kernel, by decide +kernel⟩, by decide +kernel⟩
theorem i_X6_listenerNamed : Cond.instanceMethod yX6_listenerNamed ∈ gws := wi 651 (by decide +kernel) rfl
theorem e_X6_listenerNamed : Cond.selects RX6 yX6_listenerNamed yX6_listenerNamed ∈ gws := wi 652 (by decide +kernel) rfl
theorem m_X6_lookAt : mk9 yX6_lookAt cX6_lookAt 5 (none) 4 := ⟨wi 784 (by decide +kernel) rfl, wi 9 (by decide +kernel) rfl, ⟨by decide +kernel, by decide +kernel⟩, by decide +kernel⟩
theorem i_X6_lookAt : Cond.instanceMethod yX6_lookAt ∈ gws := wi 782 (by decide +kernel) rfl
theorem e_X6_lookAt : Cond.selects RX6 yX6_lookAt yX6_lookAt ∈ gws := wi 783 (by decide +kernel) rfl
theorem m_X6_lot : mk9 yX6_lot cX6_lot 4 (some .int) 3 := ⟨wi 817 (by decide +kernel) rfl, wi 9 (by decide +kernel) rfl, ⟨by decide +kernel, by decide +kernel⟩, by decide +kernel⟩
theorem z_X6_lot : Cond.static yX6_lot ∈ gws := wi 816 (by decide +kernel) rfl
theorem m_X6_neverHeard : mk9 yX6_neverHeard cX6_neverHeard 4 (some .int) 1 := ⟨wi 829 (by decide +kernel) rfl, wi 9 (by decide +kernel) rfl, ⟨by decide +kernel, by decide +kernel⟩, by decide +kernel⟩
theorem i_X6_neverHeard : Cond.instanceMethod yX6_neverHeard ∈ gws := wi 827 (by decide +kernel) rfl
theorem e_X6_neverHeard : Cond.selects RX6 yX6_neverHeard yX6_neverHeard ∈ gws := wi 828 (by decide +kernel) rfl
theorem m_X6_passEvening : mk9 yX6_passEvening cX6_passEvening 6 (none) 3 := ⟨wi 887 (by decide +kernel) rfl, wi 9 (by decide +kernel) rfl, ⟨by decide +kernel, by decide +kernel⟩, by decide +kernel⟩
theorem i_X6_passEvening : Cond.instanceMethod yX6_passEvening ∈ gws := wi 885 (by decide +kernel) rfl
theorem e_X6_passEvening : Cond.selects RX6 yX6_passEvening yX6_passEvening ∈ gws := wi 886 (by decide +kernel) rfl
theorem m_X6_passEveningOf : mk9 yX6_passEveningOf cX6_passEveningOf 4 (none) 3 := ⟨wi 998 (by decide +kernel) rfl, wi 9 (by decide +kernel) rfl, ⟨by decide +kernel, by decide +kernel⟩, by decide +kernel⟩
theorem i_X6_passEveningOf : Cond.instanceMethod yX6_passEveningOf ∈ gws := wi 996 (by decide +kernel) rfl
theorem e_X6_passEveningOf : Cond.selects RX6 yX6_passEveningOf yX6_passEveningOf ∈ gws := wi 997 (by decide +kernel) rfl
theorem m_X6_passEvenings : mk9 yX6_passEvenings cX6_passEvenings 4 (none) 2 := ⟨wi 882 (by decide +kernel) rfl, wi 9 (by decide +kernel) rfl, ⟨by decide +kernel, by decide +kernel⟩, by decide +kernel⟩
theorem i_X6_passEvenings : Cond.instanceMethod yX6_passEvenings ∈ gws := wi 880 (by decide +kernel) rfl
theorem e_X6_passEvenings : Cond.selects RX6 yX6_passEvenings yX6_passEvenings ∈ gws := wi 881 (by decide +kernel) rfl
theorem m_X6_quietRoles : mk9 yX6_quietRoles cX6_quietRoles 4 (some .int) 1 := ⟨wi 799 (by decide +kernel) rfl, wi 9 (by decide +kernel) rfl, ⟨by decide +kernel, by decide +kernel⟩, by decide +kernel⟩
theorem i_X6_quietRoles : Cond.instanceMethod yX6_quietRoles ∈ gws := wi 797 (by decide +kernel) rfl
theorem e_X6_quietRoles : Cond.selects RX6 yX6_quietRoles yX6_quietRoles ∈ gws := wi 798 (by decide +kernel) rfl
theorem m_X6_reallyIt : mk9 yX6_reallyIt cX6_reallyIt 4 (some .int) 1 := ⟨wi 732 (by decide +kernel) rfl, wi 9 (by decide +kernel) rfl, ⟨by decide +kernel, by decide +kernel⟩, by decide +kernel⟩
theorem i_X6_reallyIt : Cond.instanceMethod yX6_reallyIt ∈ gws := wi 730 (by decide +kernel) rfl
theorem e_X6_reallyIt : Cond.selects RX6 yX6_reallyIt yX6_reallyIt ∈ gws := wi 731 (by decide +kernel) rfl
theorem m_X6_reallySome : mk9 yX6_reallySome cX6_reallySome 3 (some .int) 0 := ⟨wi 837 (by decide +kernel) rfl, wi 9 (by decide +kernel) rfl, ⟨by decide +kernel, by decide +kernel⟩, by decide +kernel⟩
theorem i_X6_reallySome : Cond.instanceMethod yX6_reallySome ∈ gws := wi 835 (by decide +kernel) rfl
theorem e_X6_reallySome : Cond.selects RX6 yX6_reallySome yX6_reallySome ∈ gws := wi 836 (by decide +kernel) rfl
theorem m_X6_roleNamed : mk9 yX6_roleNamed cX6_roleNamed 4 (some .int) 1 := ⟨wi 661 (by decide +kernel) rfl, wi 9 (by decide +kernel) rfl, ⟨by decide +kernel, by decide +kernel⟩, by decide +kernel⟩
theorem i_X6_roleNamed : Cond.instanceMethod yX6_roleNamed ∈ gws := wi 659 (by decide +kernel) rfl
theorem e_X6_roleNamed : Cond.selects RX6 yX6_roleNamed yX6_roleNamed ∈ gws := wi 660 (by decide +kernel) rfl
theorem m_X6_saidBy : mk9 yX6_saidBy cX6_saidBy 5 (some .int) 2 := ⟨wi 737 (by decide +kernel) rfl, wi 9 (by decide +kernel) rfl, ⟨by decide +kernel, by decide +kernel⟩, by decide +kernel⟩
theorem i_X6_saidBy : Cond.instanceMethod yX6_saidBy ∈ gws := wi 735 (by decide +kernel) rfl
theorem e_X6_saidBy : Cond.selects RX6 yX6_saidBy yX6_saidBy ∈ gws := wi 736 (by decide +kernel) rfl
theorem m_X6_setListener : mk9 yX6_setListener cX6_setListener 3 (none) 2 := ⟨wi 708 (by decide +kernel) rfl, wi 9 (by decide +kernel) rfl, ⟨by decide +kernel, by decide +kernel⟩, by decide +kernel⟩
theorem i_X6_setListener : Cond.instanceMethod yX6_setListener ∈ gws := wi 706 (by decide +kernel) rfl
theorem e_X6_setListener : Cond.selects RX6 yX6_setListener yX6_setListener ∈ gws := wi 707 (by decide +kernel) rfl
theorem m_X6_setRole : mk9 yX6_setRole cX6_setRole 3 (none) 2 := ⟨wi 704 (by decide +kernel) rfl, wi 9 (by decide +kernel) rfl, ⟨by decide +kernel, by decide +kernel⟩, by decide +kernel⟩
theorem i_X6_setRole : Cond.instanceMethod yX6_setRole ∈ gws := wi 702 (by decide +kernel) rfl
theorem e_X6_setRole : Cond.selects RX6 yX6_setRole yX6_setRole ∈ gws := wi 703 (by decide +kernel) rfl
theorem m_X6_stirred : mk9 yX6_stirred cX6_stirred 3 (some .int) 2 := ⟨wi 820 (by decide +kernel) rfl, wi 9 (by decide +kernel) rfl, ⟨by decide +kernel, by decide +kernel⟩, by decide +kernel⟩
theorem z_X6_stirred : Cond.static yX6_stirred ∈ gws := wi 819 (by decide +kernel) rfl
theorem m_X6_tellsRolesApart : mk9 yX6_tellsRolesApart cX6_tellsRolesApart 4 (some .boolean) 1 := ⟨wi 1080 (by decide +kernel) rfl, wi 9 (by decide +kernel) rfl, ⟨by decide +kernel, by decide +kernel⟩, by decide +kernel⟩
theorem i_X6_tellsRolesApart : Cond.instanceMethod yX6_tellsRolesApart ∈ gws := wi 1078 (by decide +kernel) rfl
theorem e_X6_tellsRolesApart : Cond.selects RX6 yX6_tellsRolesApart yX6_tellsRolesApart ∈ gws := wi 1079 (by decide +kernel) rfl
theorem m_X7_isDigit : mk9 yX7_isDigit cX7_isDigit 1 (some .boolean) 1 := ⟨wi 493 (by decide +kernel) rfl, wi 3 (by decide +kernel) rfl, ⟨by decide +kernel, by decide +kernel⟩, by decide +kernel⟩
theorem z_X7_isDigit : Cond.static yX7_isDigit ∈ gws := wi 492 (by decide +kernel) rfl
theorem m_X7_isLetter : mk9 yX7_isLetter cX7_isLetter 1 (some .boolean) 1 := ⟨wi 482 (by decide +kernel) rfl, wi 3 (by decide +kernel) rfl, ⟨by decide +kernel, by decide +kernel⟩, by decide +kernel⟩
theorem z_X7_isLetter : Cond.static yX7_isLetter ∈ gws := wi 481 (by decide +kernel) rfl
theorem m_X7_sortOfName : mk9 yX7_sortOfName cX7_sortOfName 2 (some .int) 0 := ⟨wi 490 (by decide +kernel) rfl, wi 3 (by decide +kernel) rfl, ⟨by decide +kernel, by decide +kernel⟩, by decide +kernel⟩
theorem i_X7_sortOfName : Cond.instanceMethod yX7_sortOfName ∈ gws := wi 489 (by decide +kernel) rfl
theorem e_X7_sortOfName : Cond.selects RX7 yX7_sortOfName yX7_sortOfName ∈ gws := vi (q := (yX7_sortOfName, 6)) 2 (by decide +kernel)
theorem m_X7_withLetter : mk9 yX7_withLetter cX7_withLetter 3 (some .long) 2 := ⟨wi 95 (by decide +kernel) rfl, wi 3 (by decide +kernel) rfl, ⟨by decide +kernel, by decide +kernel⟩, by decide +kernel⟩
theorem z_X7_withLetter : Cond.static yX7_withLetter ∈ gws := wi 94 (by decide +kernel) rfl
theorem m_X8_add : mk9 yX8_add cX8_add 4 (some .int) 3 := ⟨wi 1092 (by decide +kernel) rfl, wi 14 (by decide +kernel) rfl, ⟨by decide +kernel, by decide +kernel⟩, by decide +kernel⟩
theorem i_X8_add : Cond.instanceMethod yX8_add ∈ gws := wi 1090 (by decide +kernel) rfl
theorem e_X8_add : Cond.selects RX8 yX8_add yX8_add ∈ gws := wi 1091 (by decide +kernel) rfl
theorem m_X8_isSo : mk9 yX8_isSo cX8_isSo 5 (some .boolean) 3 := ⟨wi 1112 (by decide +kernel) rfl, wi 14 (by decide +kernel) rfl, ⟨by decide +kernel, by decide +kernel⟩, by decide +kernel⟩
theorem i_X8_isSo : Cond.instanceMethod yX8_isSo ∈ gws := wi 1110 (by decide +kernel) rfl
theorem e_X8_isSo : Cond.selects RX8 yX8_isSo yX8_isSo ∈ gws := wi 1111 (by decide +kernel) rfl
theorem m_X9_circleOf : mk9 yX9_circleOf cX9_circleOf 6 (some .int) 1 := ⟨wi 1056 (by decide +kernel) rfl, wi 1 (by decide +kernel) rfl, ⟨by decide +kernel, by decide +kernel⟩, by decide +kernel⟩
theorem i_X9_circleOf : Cond.instanceMethod yX9_circleOf ∈ gws := wi 1055 (by decide +kernel) rfl
theorem e_X9_circleOf : Cond.selects RX9 yX9_circleOf yX9_circleOf ∈ gws := vi (q := (yX9_circleOf, 11)) 32 (by decide +kernel)
theorem m_X9_doneBehind : mk9 yX9_doneBehind cX9_doneBehind 2 (some .int) 1 := ⟨wi 933 (by decide +kernel) rfl, wi 1 (by decide +kernel) rfl, ⟨by decide +kernel, by decide +kernel⟩, by decide +kernel⟩
theorem i_X9_doneBehind : Cond.instanceMethod yX9_doneBehind ∈ gws := wi 932 (by decide +kernel) rfl
theorem e_X9_doneBehind : Cond.selects RX9 yX9_doneBehind yX9_doneBehind ∈ gws := vi (q := (yX9_doneBehind, 11)) 26 (by decide +kernel)
theorem m_X9_gainOf : mk9 yX9_gainOf cX9_gainOf 2 (some .int) 1 := ⟨wi 943 (by decide +kernel) rfl, wi 1 (by decide +kernel) rfl, ⟨by decide +kernel, by decide +kernel⟩, by decide +kernel⟩
theorem i_X9_gainOf : Cond.instanceMethod yX9_gainOf ∈ gws := wi 942 (by decide +kernel) rfl
theorem e_X9_gainOf : Cond.selects RX9 yX9_gainOf yX9_gainOf ∈ gws := vi (q := (yX9_gainOf, 11)) 28 (by decide +kernel)
theorem m_X9_gainOfTalk : mk9 yX9_gainOfTalk cX9_gainOfTalk 3 (some .int) 2 := ⟨wi 871 (by decide +kernel) rfl, wi 1 (by decide +kernel) rfl, ⟨by decide +kernel, by decide +kernel⟩, by decide +kernel⟩
theorem i_X9_gainOfTalk : Cond.instanceMethod yX9_gainOfTalk ∈ gws := wi 870 (by decide +kernel) rfl
theorem e_X9_gainOfTalk : Cond.selects RX9 yX9_gainOfTalk yX9_gainOfTalk ∈ gws := vi (q := (yX9_gainOfTalk, 11)) 23 (by decide +kernel)
theorem m_X9_holdersOf : mk9 yX9_holdersOf cX9_holdersOf 4 (some .int) 1 := ⟨wi 1039 (by decide +kernel) rfl, wi 1 (by decide +kernel) rfl, ⟨by decide +kernel, by decide +kernel⟩, by decide +kernel⟩
theorem i_X9_holdersOf : Cond.instanceMethod yX9_holdersOf ∈ gws := wi 1038 (by decide +kernel) rfl
theorem e_X9_holdersOf : Cond.selects RX9 yX9_holdersOf yX9_holdersOf ∈ gws := vi (q := (yX9_holdersOf, 11)) 31 (by decide +kernel)
theorem m_X9_holds : mk9 yX9_holds cX9_holds 2 (some .boolean) 2 := ⟨wi 668 (by decide +kernel) rfl, wi 1 (by decide +kernel) rfl, ⟨by decide +kernel, by decide +kernel⟩, by decide +kernel⟩
theorem z_X9_holds : Cond.static yX9_holds ∈ gws := wi 667 (by decide +kernel) rfl
theorem m_X9_isFact : mk9 yX9_isFact cX9_isFact 1 (some .boolean) 1 := ⟨wi 862 (by decide +kernel) rfl, wi 1 (by decide +kernel) rfl, ⟨by decide +kernel, by decide +kernel⟩, by decide +kernel⟩
theorem z_X9_isFact : Cond.static yX9_isFact ∈ gws := wi 861 (by decide +kernel) rfl
theorem m_X9_isNumberOfEvenings : mk9 yX9_isNumberOfEvenings cX9_isNumberOfEvenings 1 (some .boolean) 1 := ⟨wi 878 (by decide +kernel) rfl, wi 1 (by decide +kernel) rfl, ⟨by decide +kernel, by decide +kernel⟩, by decide +kernel⟩
theorem z_X9_isNumberOfEvenings : Cond.static yX9_isNumberOfEvenings ∈ gws := wi 877 (by decide +kernel) rfl
theorem m_X9_putOnTape : mk9 yX9_putOnTape cX9_putOnTape 3 (none) 1 := ⟨wi 444 (by decide +kernel) rfl, wi 1 (by decide +kernel) rfl, ⟨by decide +kernel, by decide +kernel⟩, by decide +kernel⟩
theorem i_X9_putOnTape : Cond.instanceMethod yX9_putOnTape ∈ gws := wi 443 (by decide +kernel) rfl
theorem e_X9_putOnTape : Cond.selects RX9 yX9_putOnTape yX9_putOnTape ∈ gws := vi (q := (yX9_putOnTape, 11)) 0 (by decide +kernel)
theorem m_X9_rolesLeft : mk9 yX9_rolesLeft cX9_rolesLeft 4 (some .int) 1 := ⟨wi 1108 (by decide +kernel) rfl, wi 1 (by decide +kernel) rfl, ⟨by decide +kernel, by decide +kernel⟩, by decide +kernel⟩
theorem i_X9_rolesLeft : Cond.instanceMethod yX9_rolesLeft ∈ gws := wi 1107 (by decide +kernel) rfl
theorem e_X9_rolesLeft : Cond.selects RX9 yX9_rolesLeft yX9_rolesLeft ∈ gws := vi (q := (yX9_rolesLeft, 11)) 34 (by decide +kernel)
theorem m_X9_rolesSaying : mk9 yX9_rolesSaying cX9_rolesSaying 4 (some .int) 1 := ⟨wi 1121 (by decide +kernel) rfl, wi 1 (by decide +kernel) rfl, ⟨by decide +kernel, by decide +kernel⟩, by decide +kernel⟩
theorem i_X9_rolesSaying : Cond.instanceMethod yX9_rolesSaying ∈ gws := wi 1120 (by decide +kernel) rfl
theorem e_X9_rolesSaying : Cond.selects RX9 yX9_rolesSaying yX9_rolesSaying ∈ gws := vi (q := (yX9_rolesSaying, 11)) 35 (by decide +kernel)
theorem m_X9_together : mk9 yX9_together cX9_together 5 (some .boolean) 2 := ⟨wi 1060 (by decide +kernel) rfl, wi 1 (by decide +kernel) rfl, ⟨by decide +kernel, by decide +kernel⟩, by decide +kernel⟩
theorem i_X9_together : Cond.instanceMethod yX9_together ∈ gws := wi 1059 (by decide +kernel) rfl
theorem e_X9_together : Cond.selects RX9 yX9_together yX9_together ∈ gws := vi (q := (yX9_together, 11)) 33 (by decide +kernel)
theorem m_X9_trusting : mk9 yX9_trusting cX9_trusting 5 (some .int) 1 := ⟨wi 929 (by decide +kernel) rfl, wi 1 (by decide +kernel) rfl, ⟨by decide +kernel, by decide +kernel⟩, by decide +kernel⟩
theorem i_X9_trusting : Cond.instanceMethod yX9_trusting ∈ gws := wi 928 (by decide +kernel) rfl
theorem e_X9_trusting : Cond.selects RX9 yX9_trusting yX9_trusting ∈ gws := vi (q := (yX9_trusting, 11)) 25 (by decide +kernel)
theorem m_X9_tryEvenings : mk9 yX9_tryEvenings cX9_tryEvenings 2 (none) 1 := ⟨wi 1010 (by decide +kernel) rfl, wi 1 (by decide +kernel) rfl, ⟨by decide +kernel, by decide +kernel⟩, by decide +kernel⟩
theorem i_X9_tryEvenings : Cond.instanceMethod yX9_tryEvenings ∈ gws := wi 1009 (by decide +kernel) rfl
theorem e_X9_tryEvenings : Cond.selects RX9 yX9_tryEvenings yX9_tryEvenings ∈ gws := vi (q := (yX9_tryEvenings, 11)) 29 (by decide +kernel)
theorem m_X9_tryRow : mk9 yX9_tryRow cX9_tryRow 5 (none) 3 := ⟨wi 1026 (by decide +kernel) rfl, wi 1 (by decide +kernel) rfl, ⟨by decide +kernel, by decide +kernel⟩, by decide +kernel⟩
theorem i_X9_tryRow : Cond.instanceMethod yX9_tryRow ∈ gws := wi 1025 (by decide +kernel) rfl
theorem e_X9_tryRow : Cond.selects RX9 yX9_tryRow yX9_tryRow ∈ gws := vi (q := (yX9_tryRow, 11)) 30 (by decide +kernel)
theorem m_X9_tryTonight : mk9 yX9_tryTonight cX9_tryTonight 2 (none) 1 := ⟨wi 937 (by decide +kernel) rfl, wi 1 (by decide +kernel) rfl, ⟨by decide +kernel, by decide +kernel⟩, by decide +kernel⟩
theorem i_X9_tryTonight : Cond.instanceMethod yX9_tryTonight ∈ gws := wi 936 (by decide +kernel) rfl
theorem e_X9_tryTonight : Cond.selects RX9 yX9_tryTonight yX9_tryTonight ∈ gws := vi (q := (yX9_tryTonight, 11)) 27 (by decide +kernel)
theorem m_X9_within : mk9 yX9_within cX9_within 3 (some .int) 3 := ⟨wi 756 (by decide +kernel) rfl, wi 1 (by decide +kernel) rfl, ⟨by decide +kernel, by decide +kernel⟩, by decide +kernel⟩
theorem z_X9_within : Cond.static yX9_within ∈ gws := wi 755 (by decide +kernel) rfl
theorem l_X0_49 : lk9 RX0 49 yX0_begin := Or.inl (wi 580 (by decide +kernel) rfl)
theorem l_X0_53 : lk9 RX0 53 yX0_takeUnit := Or.inl (wi 588 (by decide +kernel) rfl)
theorem l_X0_57 : lk9 RX0 57 yX0_takeBehindUnit := Or.inl (wi 600 (by decide +kernel) rfl)
theorem l_X0_62 : lk9 RX0 62 yX1_open := Or.inl (wi 584 (by decide +kernel) rfl)
theorem l_X0_68 : lk9 RX0 68 yX0_hang := Or.inl (wi 592 (by decide +kernel) rfl)
theorem l_X0_74 : lk9 RX0 74 yX1_put := Or.inl (wi 596 (by decide +kernel) rfl)
theorem l_X0_77 : lk9 RX0 77 yX0_tightnessOf := Or.inl (wi 604 (by decide +kernel) rfl)
theorem l_X0_81 : lk9 RX0 81 yX0_putHanging := Or.inl (wi 607 (by decide +kernel) rfl)
theorem l_X0_85 : lk9 RX0 85 yX0_takeClosing := Or.inl (wi 611 (by decide +kernel) rfl)
theorem l_X0_88 : lk9 RX0 88 yX0_endOfPart := Or.inl (wi 616 (by decide +kernel) rfl)
theorem l_X0_92 : lk9 RX0 92 yX0_endPart := Or.inl (wi 620 (by decide +kernel) rfl)
theorem l_X0_96 : lk9 RX0 96 yJ9_max_7cf53 := Or.inl (wi 615 (by decide +kernel) rfl)
theorem l_X0_102 : lk9 RX0 102 yX1_endPart := Or.inl (wi 624 (by decide +kernel) rfl)
theorem l_X0_104 : lk9 RX0 104 yJ9_min_7cf53 := Or.inl (wi 628 (by decide +kernel) rfl)
theorem l_X1_38 : lk9 RX1 38 yJ7_fill_53178 := Or.inl (wi 468 (by decide +kernel) rfl)
theorem l_X1_44 : lk9 RX1 44 yX1_valueOf := Or.inl (wi 746 (by decide +kernel) rfl)
theorem l_X1_48 : lk9 RX1 48 yX9_within := Or.inr ⟨"VoiceTonight", ni 754 (by decide +kernel) rfl⟩
theorem l_X1_52 : lk9 RX1 52 yX1_joined := Or.inl (wi 750 (by decide +kernel) rfl)
theorem l_X10_149 : lk9 RX10 149 yX10_plain := Or.inl (wi 1128 (by decide +kernel) rfl)
theorem l_X10_153 : lk9 RX10 153 yX10_word := Or.inl (wi 1132 (by decide +kernel) rfl)
theorem l_X10_157 : lk9 RX10 157 yX10_appends := Or.inl (wi 1135 (by decide +kernel) rfl)
theorem l_X10_161 : lk9 RX10 161 yX10_begins := Or.inl (wi 1139 (by decide +kernel) rfl)
theorem l_X10_164 : lk9 RX10 164 yX10_keepsRow := Or.inl (wi 1143 (by decide +kernel) rfl)
theorem l_X10_170 : lk9 RX10 170 yX10_put := Or.inl (wi 1355 (by decide +kernel) rfl)
theorem l_X10_181 : lk9 RX10 181 yX10_byteAt := Or.inl (wi 1371 (by decide +kernel) rfl)
theorem l_X10_185 : lk9 RX10 185 yX10_token := Or.inl (wi 1375 (by decide +kernel) rfl)
theorem l_X10_189 : lk9 RX10 189 yX10_isLetter := Or.inl (wi 1379 (by decide +kernel) rfl)
theorem l_X10_193 : lk9 RX10 193 yX10_isDigit := Or.inl (wi 1382 (by decide +kernel) rfl)
theorem l_X10_196 : lk9 RX10 196 yX10_sign := Or.inl (wi 1385 (by decide +kernel) rfl)
theorem l_X10_215 : lk9 RX10 215 yX10_fail := Or.inl (wi 1401 (by decide +kernel) rfl)
theorem l_X10_218 : lk9 RX10 218 yX10_is := Or.inl (wi 1389 (by decide +kernel) rfl)
theorem l_X10_221 : lk9 RX10 221 yX10_goesOn := Or.inl (wi 1405 (by decide +kernel) rfl)
theorem l_X10_224 : lk9 RX10 224 yX10_cut := Or.inl (wi 1367 (by decide +kernel) rfl)
theorem l_X10_245 : lk9 RX10 245 yX10_tellOne := Or.inl (wi 1393 (by decide +kernel) rfl)
theorem l_X10_254 : lk9 RX10 254 yX10_bounded := Or.inl (wi 1421 (by decide +kernel) rfl)
theorem l_X10_258 : lk9 RX10 258 yX10_must := Or.inl (wi 1413 (by decide +kernel) rfl)
theorem l_X10_261 : lk9 RX10 261 yX10_roomFor := Or.inl (wi 1397 (by decide +kernel) rfl)
theorem l_X10_265 : lk9 RX10 265 yX10_named := Or.inl (wi 1409 (by decide +kernel) rfl)
theorem l_X10_269 : lk9 RX10 269 yX10_endsName := Or.inl (wi 1425 (by decide +kernel) rfl)
theorem l_X10_272 : lk9 RX10 272 yX10_tellReally := Or.inl (wi 1429 (by decide +kernel) rfl)
theorem l_X10_275 : lk9 RX10 275 yX10_toldInt := Or.inl (wi 1437 (by decide +kernel) rfl)
theorem l_X10_278 : lk9 RX10 278 yX10_tellLaw := Or.inl (wi 1441 (by decide +kernel) rfl)
theorem l_X10_281 : lk9 RX10 281 yX10_wrong := Or.inl (wi 1417 (by decide +kernel) rfl)
theorem l_X10_284 : lk9 RX10 284 yX10_knownName := Or.inl (wi 1433 (by decide +kernel) rfl)
theorem l_X10_287 : lk9 RX10 287 yX10_expression := Or.inl (wi 1445 (by decide +kernel) rfl)
theorem l_X10_290 : lk9 RX10 290 yX10_term := Or.inl (wi 1461 (by decide +kernel) rfl)
theorem l_X10_296 : lk9 RX10 296 yX10_emit := Or.inl (wi 1453 (by decide +kernel) rfl)
theorem l_X10_299 : lk9 RX10 299 yX10_unit := Or.inl (wi 1449 (by decide +kernel) rfl)
theorem l_X10_302 : lk9 RX10 302 yX10_comesOut := Or.inl (wi 1457 (by decide +kernel) rfl)
theorem l_X10_310 : lk9 RX10 310 yX10_in := Or.inl (wi 1477 (by decide +kernel) rfl)
theorem l_X10_320 : lk9 RX10 320 yX10_copies := Or.inl (wi 1480 (by decide +kernel) rfl)
theorem l_X10_324 : lk9 RX10 324 yX10_mixed := Or.inl (wi 1588 (by decide +kernel) rfl)
theorem l_X10_327 : lk9 RX10 327 yX10_termOf := Or.inl (wi 1500 (by decide +kernel) rfl)
theorem l_X10_330 : lk9 RX10 330 yX10_looks := Or.inl (wi 1492 (by decide +kernel) rfl)
theorem l_X10_333 : lk9 RX10 333 yX10_lawTells := Or.inl (wi 1496 (by decide +kernel) rfl)
theorem l_X10_336 : lk9 RX10 336 yX10_bits := Or.inl (wi 1528 (by decide +kernel) rfl)
theorem l_X10_339 : lk9 RX10 339 yX10_isReally := Or.inl (wi 1484 (by decide +kernel) rfl)
theorem l_X10_343 : lk9 RX10 343 yX10_looksFor := Or.inl (wi 1524 (by decide +kernel) rfl)
theorem l_X10_347 : lk9 RX10 347 yX10_within := Or.inl (wi 1531 (by decide +kernel) rfl)
theorem l_X10_350 : lk9 RX10 350 yX10_hasDone := Or.inl (wi 1512 (by decide +kernel) rfl)
theorem l_X10_353 : lk9 RX10 353 yX10_saidBy := Or.inl (wi 1488 (by decide +kernel) rfl)
theorem l_X10_359 : lk9 RX10 359 yX10_doesTrust := Or.inl (wi 1534 (by decide +kernel) rfl)
theorem l_X10_362 : lk9 RX10 362 yX10_movesBy := Or.inl (wi 1520 (by decide +kernel) rfl)
theorem l_X10_365 : lk9 RX10 365 yX10_isOn := Or.inl (wi 1596 (by decide +kernel) rfl)
theorem l_X10_368 : lk9 RX10 368 yX10_doesRing := Or.inl (wi 1538 (by decide +kernel) rfl)
theorem l_X10_371 : lk9 RX10 371 yX10_isCrackle := Or.inl (wi 1584 (by decide +kernel) rfl)
theorem l_X10_375 : lk9 RX10 375 yX10_isHeard := Or.inl (wi 1592 (by decide +kernel) rfl)
theorem l_X10_378 : lk9 RX10 378 yX10_eveningGoes := Or.inl (wi 1580 (by decide +kernel) rfl)
theorem l_X10_381 : lk9 RX10 381 yX10_isRole := Or.inl (wi 1473 (by decide +kernel) rfl)
theorem l_X10_384 : lk9 RX10 384 yX10_isListener := Or.inl (wi 1508 (by decide +kernel) rfl)
theorem l_X10_387 : lk9 RX10 387 yX10_records := Or.inl (wi 1546 (by decide +kernel) rfl)
theorem l_X10_390 : lk9 RX10 390 yX10_isFact := Or.inl (wi 1558 (by decide +kernel) rfl)
theorem l_X10_393 : lk9 RX10 393 yX10_moreBy := Or.inl (wi 1565 (by decide +kernel) rfl)
theorem l_X10_396 : lk9 RX10 396 yX10_isLong := Or.inl (wi 1573 (by decide +kernel) rfl)
theorem l_X10_399 : lk9 RX10 399 yX10_goes := Or.inl (wi 1576 (by decide +kernel) rfl)
theorem l_X10_402 : lk9 RX10 402 yX10_copiesStill := Or.inl (wi 1608 (by decide +kernel) rfl)
theorem l_X10_405 : lk9 RX10 405 yX10_knownMany := Or.inl (wi 1620 (by decide +kernel) rfl)
theorem l_X10_408 : lk9 RX10 408 yX10_trustBits := Or.inl (wi 1612 (by decide +kernel) rfl)
theorem l_X10_411 : lk9 RX10 411 yX10_isTonight := Or.inl (wi 1616 (by decide +kernel) rfl)
theorem l_X10_414 : lk9 RX10 414 yX10_doneBits := Or.inl (wi 1624 (by decide +kernel) rfl)
theorem l_X10_417 : lk9 RX10 417 yX10_power := Or.inl (wi 1644 (by decide +kernel) rfl)
theorem l_X10_420 : lk9 RX10 420 yX10_isEnough := Or.inl (wi 1640 (by decide +kernel) rfl)
theorem l_X10_429 : lk9 RX10 429 yX10_doesWay := Or.inl (wi 1647 (by decide +kernel) rfl)
theorem l_X10_432 : lk9 RX10 432 yX10_findsPlan := Or.inl (wi 1636 (by decide +kernel) rfl)
theorem l_X10_435 : lk9 RX10 435 yX10_holderBits := Or.inl (wi 1667 (by decide +kernel) rfl)
theorem l_X10_438 : lk9 RX10 438 yX10_goesWith := Or.inl (wi 1679 (by decide +kernel) rfl)
theorem l_X10_442 : lk9 RX10 442 yX10_sumOf := Or.inl (wi 1696 (by decide +kernel) rfl)
theorem l_X10_445 : lk9 RX10 445 yX10_tellsApart := Or.inl (wi 1720 (by decide +kernel) rfl)
theorem l_X10_448 : lk9 RX10 448 yX10_doTalks := Or.inl (wi 1736 (by decide +kernel) rfl)
theorem l_X10_451 : lk9 RX10 451 yX10_tellsOne := Or.inl (wi 1756 (by decide +kernel) rfl)
theorem l_X10_455 : lk9 RX10 455 yX10_whoBits := Or.inl (wi 1772 (by decide +kernel) rfl)
theorem l_X10_458 : lk9 RX10 458 yX10_someBits := Or.inl (wi 1792 (by decide +kernel) rfl)
theorem l_X2_30 : lk9 RX2 30 yX3_init := Or.inr ⟨"VoiceTonight", ni 363 (by decide +kernel) rfl⟩
theorem l_X2_31 : lk9 RX2 31 yX3_become := Or.inl (wi 846 (by decide +kernel) rfl)
theorem l_X2_35 : lk9 RX2 35 yJ9_min_7cf53 := Or.inl (wi 851 (by decide +kernel) rfl)
theorem l_X2_41 : lk9 RX2 41 yX9_holds := Or.inr ⟨"VoiceTonight", ni 921 (by decide +kernel) rfl⟩
theorem l_X3_43 : lk9 RX3 43 yX9_holds := Or.inr ⟨"VoiceTonight", ni 768 (by decide +kernel) rfl⟩
theorem l_X3_47 : lk9 RX3 47 yJ6_bitCount_0f7a4 := Or.inl (wi 809 (by decide +kernel) rfl)
theorem l_X4_21 : lk9 RX4 21 yX3_init := Or.inr ⟨"VoiceTonight", ni 347 (by decide +kernel) rfl⟩
theorem l_X5_66 : lk9 RX5 66 yX5_isLaw := Or.inl (wi 566 (by decide +kernel) rfl)
theorem l_X5_87 : lk9 RX5 87 yX0_open := Or.inl (wi 569 (by decide +kernel) rfl)
theorem l_X5_91 : lk9 RX5 91 yX5_hasRoomFor := Or.inl (wi 573 (by decide +kernel) rfl)
theorem l_X5_137 : lk9 RX5 137 yX5_takeReally := Or.inl (wi 646 (by decide +kernel) rfl)
theorem l_X5_144 : lk9 RX5 144 yX6_roleNamed := Or.inl (wi 658 (by decide +kernel) rfl)
theorem l_X5_148 : lk9 RX5 148 yX6_listenerNamed := Or.inl (wi 650 (by decide +kernel) rfl)
theorem l_X5_151 : lk9 RX5 151 yX5_note := Or.inl (wi 654 (by decide +kernel) rfl)
theorem l_X5_154 : lk9 RX5 154 yX6_addRole := Or.inl (wi 681 (by decide +kernel) rfl)
theorem l_X5_158 : lk9 RX5 158 yX6_addListener := Or.inl (wi 685 (by decide +kernel) rfl)
theorem l_X5_161 : lk9 RX5 161 yX6_isReally := Or.inl (wi 662 (by decide +kernel) rfl)
theorem l_X5_165 : lk9 RX5 165 yX6_addReally := Or.inl (wi 669 (by decide +kernel) rfl)
theorem l_X5_169 : lk9 RX5 169 yX5_leastNumber := Or.inl (wi 693 (by decide +kernel) rfl)
theorem l_X5_172 : lk9 RX5 172 yX5_mostNumber := Or.inl (wi 697 (by decide +kernel) rfl)
theorem l_X5_175 : lk9 RX5 175 yX6_setRole := Or.inl (wi 701 (by decide +kernel) rfl)
theorem l_X5_178 : lk9 RX5 178 yX6_setListener := Or.inl (wi 705 (by decide +kernel) rfl)
theorem l_X6_49 : lk9 RX6 49 yX1_init := Or.inr ⟨"VoiceTonight", ni 197 (by decide +kernel) rfl⟩
theorem l_X6_63 : lk9 RX6 63 yJ7_fill_53178 := Or.inl (wi 461 (by decide +kernel) rfl)
theorem l_X6_69 : lk9 RX6 69 yX1_clear := Or.inl (wi 464 (by decide +kernel) rfl)
theorem l_X6_72 : lk9 RX6 72 yX6_hasListener := Or.inl (wi 673 (by decide +kernel) rfl)
theorem l_X6_76 : lk9 RX6 76 yX6_hasRole := Or.inl (wi 677 (by decide +kernel) rfl)
theorem l_X6_110 : lk9 RX6 110 yX9_holds := Or.inr ⟨"VoiceTonight", ni 666 (by decide +kernel) rfl⟩
theorem l_X6_114 : lk9 RX6 114 yX6_isReally := Or.inl (wi 733 (by decide +kernel) rfl)
theorem l_X6_117 : lk9 RX6 117 yX6_lackedBy := Or.inl (wi 773 (by decide +kernel) rfl)
theorem l_X6_121 : lk9 RX6 121 yX3_isOn := Or.inl (wi 893 (by decide +kernel) rfl)
theorem l_X6_124 : lk9 RX6 124 yX6_knownByRoles := Or.inl (wi 978 (by decide +kernel) rfl)
theorem l_X6_128 : lk9 RX6 128 yX6_hasDone := Or.inl (wi 804 (by decide +kernel) rfl)
theorem l_X6_132 : lk9 RX6 132 yX1_forgetVars := Or.inl (wi 738 (by decide +kernel) rfl)
theorem l_X6_138 : lk9 RX6 138 yX1_tell := Or.inl (wi 742 (by decide +kernel) rfl)
theorem l_X6_142 : lk9 RX6 142 yJ6_bitCount_0f7a4 := Or.inl (wi 785 (by decide +kernel) rfl)
theorem l_X6_147 : lk9 RX6 147 yX6_lot := Or.inl (wi 815 (by decide +kernel) rfl)
theorem l_X6_151 : lk9 RX6 151 yX6_stirred := Or.inl (wi 818 (by decide +kernel) rfl)
theorem l_X6_156 : lk9 RX6 156 yX6_crackles := Or.inl (wi 883 (by decide +kernel) rfl)
theorem l_X6_159 : lk9 RX6 159 yX6_passEvening := Or.inl (wi 884 (by decide +kernel) rfl)
theorem l_X6_163 : lk9 RX6 163 yX6_saidBy := Or.inl (wi 888 (by decide +kernel) rfl)
theorem l_X6_166 : lk9 RX6 166 yX6_isRungHearing := Or.inl (wi 889 (by decide +kernel) rfl)
theorem l_X6_170 : lk9 RX6 170 yJ9_max_7cf53 := Or.inl (wi 896 (by decide +kernel) rfl)
theorem l_X6_175 : lk9 RX6 175 yX6_lookAt := Or.inl (wi 894 (by decide +kernel) rfl)
theorem l_X6_179 : lk9 RX6 179 yX9_within := Or.inr ⟨"VoiceTonight", ni 895 (by decide +kernel) rfl⟩
theorem l_X7_48 : lk9 RX7 48 yX7_withLetter := Or.inl (wi 93 (by decide +kernel) rfl)
theorem l_X7_58 : lk9 RX7 58 yX7_isLetter := Or.inl (wi 480 (by decide +kernel) rfl)
theorem l_X7_65 : lk9 RX7 65 yX7_isDigit := Or.inl (wi 491 (by decide +kernel) rfl)
theorem l_X7_77 : lk9 RX7 77 yX7_sortOfName := Or.inl (wi 487 (by decide +kernel) rfl)
theorem l_X8_26 : lk9 RX8 26 yX9_holds := Or.inr ⟨"VoiceTonight", ni 1113 (by decide +kernel) rfl⟩
theorem l_X9_68 : lk9 RX9 68 yX9_putOnTape := Or.inl (wi 441 (by decide +kernel) rfl)
theorem l_X9_87 : lk9 RX9 87 yX6_hasRole := Or.inl (wi 728 (by decide +kernel) rfl)
theorem l_X9_104 : lk9 RX9 104 yX6_reallyIt := Or.inl (wi 729 (by decide +kernel) rfl)
theorem l_X9_108 : lk9 RX9 108 yX6_saidBy := Or.inl (wi 734 (by decide +kernel) rfl)
theorem l_X9_112 : lk9 RX9 112 yX6_hasListener := Or.inl (wi 763 (by decide +kernel) rfl)
theorem l_X9_124 : lk9 RX9 124 yX3_isOn := Or.inl (wi 764 (by decide +kernel) rfl)
theorem l_X9_127 : lk9 RX9 127 yX6_hasDone := Or.inl (wi 769 (by decide +kernel) rfl)
theorem l_X9_134 : lk9 RX9 134 yX6_lookAt := Or.inl (wi 781 (by decide +kernel) rfl)
theorem l_X9_142 : lk9 RX9 142 yX1_tell := Or.inl (wi 791 (by decide +kernel) rfl)
theorem l_X9_159 : lk9 RX9 159 yX6_quietRoles := Or.inl (wi 796 (by decide +kernel) rfl)
theorem l_X9_163 : lk9 RX9 163 yX6_doneBy := Or.inl (wi 800 (by decide +kernel) rfl)
theorem l_X9_169 : lk9 RX9 169 yX3_factsKnown := Or.inl (wi 805 (by decide +kernel) rfl)
theorem l_X9_177 : lk9 RX9 177 yJ6_bitCount_0f7a4 := Or.inl (wi 810 (by decide +kernel) rfl)
theorem l_X9_185 : lk9 RX9 185 yX6_crackles := Or.inl (wi 811 (by decide +kernel) rfl)
theorem l_X9_189 : lk9 RX9 189 yX3_timesHeard := Or.inl (wi 822 (by decide +kernel) rfl)
theorem l_X9_195 : lk9 RX9 195 yX6_neverHeard := Or.inl (wi 826 (by decide +kernel) rfl)
theorem l_X9_198 : lk9 RX9 198 yX3_beliefOfAll := Or.inl (wi 830 (by decide +kernel) rfl)
theorem l_X9_201 : lk9 RX9 201 yX6_reallySome := Or.inl (wi 834 (by decide +kernel) rfl)
theorem l_X9_204 : lk9 RX9 204 yX2_remember := Or.inl (wi 842 (by decide +kernel) rfl)
theorem l_X9_207 : lk9 RX9 207 yX9_isFact := Or.inl (wi 860 (by decide +kernel) rfl)
theorem l_X9_210 : lk9 RX9 210 yX9_holds := Or.inl (wi 863 (by decide +kernel) rfl)
theorem l_X9_213 : lk9 RX9 213 yX9_gainOfTalk := Or.inl (wi 868 (by decide +kernel) rfl)
theorem l_X9_217 : lk9 RX9 217 yX9_isNumberOfEvenings := Or.inl (wi 876 (by decide +kernel) rfl)
theorem l_X9_220 : lk9 RX9 220 yX6_passEvenings := Or.inl (wi 879 (by decide +kernel) rfl)
theorem l_X9_224 : lk9 RX9 224 yX2_takeBack := Or.inl (wi 901 (by decide +kernel) rfl)
theorem l_X9_228 : lk9 RX9 228 yX2_keep := Or.inl (wi 909 (by decide +kernel) rfl)
theorem l_X9_232 : lk9 RX9 232 yX2_giveBack := Or.inl (wi 917 (by decide +kernel) rfl)
theorem l_X9_235 : lk9 RX9 235 yX9_trusting := Or.inl (wi 926 (by decide +kernel) rfl)
theorem l_X9_238 : lk9 RX9 238 yX9_doneBehind := Or.inl (wi 930 (by decide +kernel) rfl)
theorem l_X9_241 : lk9 RX9 241 yX9_gainOf := Or.inl (wi 940 (by decide +kernel) rfl)
theorem l_X9_244 : lk9 RX9 244 yX3_become := Or.inl (wi 938 (by decide +kernel) rfl)
theorem l_X9_247 : lk9 RX9 247 yX6_passEvening := Or.inl (wi 939 (by decide +kernel) rfl)
theorem l_X9_251 : lk9 RX9 251 yX9_tryTonight := Or.inl (wi 934 (by decide +kernel) rfl)
theorem l_X9_254 : lk9 RX9 254 yX6_isReally := Or.inl (wi 960 (by decide +kernel) rfl)
theorem l_X9_264 : lk9 RX9 264 yX6_passEveningOf := Or.inl (wi 995 (by decide +kernel) rfl)
theorem l_X9_267 : lk9 RX9 267 yX9_tryEvenings := Or.inl (wi 1007 (by decide +kernel) rfl)
theorem l_X9_270 : lk9 RX9 270 yX9_tryRow := Or.inl (wi 1023 (by decide +kernel) rfl)
theorem l_X9_274 : lk9 RX9 274 yX6_lackedBy := Or.inl (wi 1031 (by decide +kernel) rfl)
theorem l_X9_277 : lk9 RX9 277 yX9_holdersOf := Or.inl (wi 1036 (by decide +kernel) rfl)
theorem l_X9_280 : lk9 RX9 280 yX6_knownByRoles := Or.inl (wi 1048 (by decide +kernel) rfl)
theorem l_X9_283 : lk9 RX9 283 yX9_circleOf := Or.inl (wi 1053 (by decide +kernel) rfl)
theorem l_X9_286 : lk9 RX9 286 yX9_together := Or.inl (wi 1057 (by decide +kernel) rfl)
theorem l_X9_289 : lk9 RX9 289 yX6_tellsRolesApart := Or.inl (wi 1077 (by decide +kernel) rfl)
theorem l_X9_292 : lk9 RX9 292 yX8_add := Or.inl (wi 1089 (by decide +kernel) rfl)
theorem l_X9_296 : lk9 RX9 296 yX9_rolesLeft := Or.inl (wi 1105 (by decide +kernel) rfl)
theorem l_X9_299 : lk9 RX9 299 yX8_isSo := Or.inl (wi 1109 (by decide +kernel) rfl)
theorem l_X9_303 : lk9 RX9 303 yX9_rolesSaying := Or.inl (wi 1118 (by decide +kernel) rfl)
theorem l_X9_306 : lk9 RX9 306 yJ9_max_7cf53 := Or.inl (wi 758 (by decide +kernel) rfl)
theorem l_X9_311 : lk9 RX9 311 yJ9_min_7cf53 := Or.inl (wi 757 (by decide +kernel) rfl)
