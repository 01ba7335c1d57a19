/-! ===== where the law's words stand (3) ===== -/
theorem wsL_law_p29 : ∀ w ∈ wsL_law0_r29, w ∈ lw_tbl := fun w h => (goodIn_p wsL_law0_r29 [1026, 1033, 1037, 1046] (by decide +kernel) (by decide +kernel) w h).1
theorem wsL_law_p30 : ∀ w ∈ wsL_law0_r30, w ∈ lw_tbl := fun w h => (goodIn_p wsL_law0_r30 [1053, 1057, 1064] (by decide +kernel) (by decide +kernel) w h).1
theorem wsL_law_p31 : ∀ w ∈ wsL_law0_r31, w ∈ lw_tbl := fun w h => (goodIn_p wsL_law0_r31 [1073, 1081, 1088] (by decide +kernel) (by decide +kernel) w h).1
theorem wsL_law_p32 : ∀ w ∈ wsL_law0_r32, w ∈ lw_tbl := fun w h => (goodIn_p wsL_law0_r32 [1097, 1104, 1111] (by decide +kernel) (by decide +kernel) w h).1
theorem wsL_law_p33 : ∀ w ∈ wsL_law0_r33, w ∈ lw_tbl := fun w h => (goodIn_p wsL_law0_r33 [1115, 1119, 1123, 1144, 1148] (by decide +kernel) (by decide +kernel) w h).1
theorem wsL_law_p34 : ∀ w ∈ wsL_law0_r34, w ∈ lw_tbl := fun w h => (goodIn_p wsL_law0_r34 [1152, 1160, 1166, 1170, 1176] (by decide +kernel) (by decide +kernel) w h).1
theorem wsL_law_p35 : ∀ w ∈ wsL_law0_r35, w ∈ lw_tb2 := fun w h => (goodIn_p wsL_law0_r35 [1179, 1182, 1186, 1190] (by decide +kernel) (by decide +kernel) w h).1
theorem wsL_law_p36 : ∀ w ∈ wsL_law0_r36, w ∈ lw_tbl := fun w h => (goodIn_p wsL_law0_r36 [1193, 1198, 1202, 1216] (by decide +kernel) (by decide +kernel) w h).1
theorem wsL_law_p37 : ∀ w ∈ wsL_law0_r37, w ∈ lw_tbl := fun w h => (goodIn_p wsL_law0_r37 [1219, 1226, 1229, 1232, 1235, 1240] (by decide +kernel) (by decide +kernel) w h).1
theorem wsL_law_p38 : ∀ w ∈ wsL_law0_r38, w ∈ lw_tb2 := fun w h => (goodIn_p wsL_law0_r38 [1243, 1247, 1259, 1262, 1266] (by decide +kernel) (by decide +kernel) w h).1
theorem wsL_law_p39 : ∀ w ∈ wsL_law0_r39, w ∈ lw_tb2 := fun w h => (goodIn_p wsL_law0_r39 [1269, 1273, 1277, 1282, 1286] (by decide +kernel) (by decide +kernel) w h).1
theorem wsL_law_p40 : ∀ w ∈ wsL_law0_r40, w ∈ lw_tb2 := fun w h => (goodIn_p wsL_law0_r40 [1291, 1294, 1297, 1300, 1303, 1306, 1310] (by decide +kernel) (by decide +kernel) w h).1
theorem wsL_law_p41 : ∀ w ∈ wsL_law0_r41, w ∈ lw_tbl := fun w h => (goodIn_p wsL_law0_r41 [1319, 1323, 1326, 1332] (by decide +kernel) (by decide +kernel) w h).1
theorem wsL_law_p42 : ∀ w ∈ wsL_law0_r42, w ∈ lw_tbl := fun w h => (goodIn_p wsL_law0_r42 [1338, 1340, 1344, 1347, 1350, 1361, 1364] (by decide +kernel) (by decide +kernel) w h).1
