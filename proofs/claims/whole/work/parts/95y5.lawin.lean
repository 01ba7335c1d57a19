/-! ===== where the law's words stand (5) ===== -/
theorem wsL_law_p49 : ∀ w ∈ wsL_law0_r49, w ∈ lw_tb2 := fun w h => (goodIn_p wsL_law0_r49 [1254, 1257, 1262, 1266] (by decide +kernel) (by decide +kernel) w h).1
theorem wsL_law_p50 : ∀ w ∈ wsL_law0_r50, w ∈ lw_tbl := fun w h => (goodIn_p wsL_law0_r50 [1280, 1448, 1451, 1454, 1470] (by decide +kernel) (by decide +kernel) w h).1
theorem wsL_law_p51 : ∀ w ∈ wsL_law0_r51, w ∈ lw_tbl := fun w h => (goodIn_p wsL_law0_r51 [1353, 1356, 1359, 1362, 1369, 1286] (by decide +kernel) (by decide +kernel) w h).1
theorem wsL_law_p52 : ∀ w ∈ wsL_law0_r52, w ∈ lw_tbl := fun w h => (goodIn_p wsL_law0_r52 [1289, 1292, 1297, 1372, 1300] (by decide +kernel) (by decide +kernel) w h).1
theorem wsL_law_p53 : ∀ w ∈ wsL_law0_r53, w ∈ lw_tb2 := fun w h => (goodIn_p wsL_law0_r53 [1476, 1479, 1482, 1328, 1331, 1334, 1337] (by decide +kernel) (by decide +kernel) w h).1
theorem wsL_law_p54 : ∀ w ∈ wsL_law0_r54, w ∈ lw_tbl := fun w h => (goodIn_p wsL_law0_r54 [1340, 1343, 1485, 1488, 1491, 1494, 1397] (by decide +kernel) (by decide +kernel) w h).1
theorem wsL_law_p55 : ∀ w ∈ wsL_law0_r55, w ∈ lw_tbl := fun w h => (goodIn_p wsL_law0_r55 [1399, 2070, 2074, 2078, 1502] (by decide +kernel) (by decide +kernel) w h).1
theorem wsL_law_p56 : ∀ w ∈ wsL_law0_r56, w ∈ lw_tbl := fun w h => (goodIn_p wsL_law0_r56 [2082, 1509, 1514, 1517, 1426] (by decide +kernel) (by decide +kernel) w h).1
theorem wsL_law_p57 : ∀ w ∈ wsL_law0_r57, w ∈ lw_tbl := fun w h => (goodIn_p wsL_law0_r57 [2086, 570, 574, 578, 614] (by decide +kernel) (by decide +kernel) w h).1
theorem wsL_law_p58 : ∀ w ∈ wsL_law0_r58, w ∈ lw_tbl := fun w h => (goodIn_p wsL_law0_r58 [642, 2066, 1527, 1531, 1536] (by decide +kernel) (by decide +kernel) w h).1
theorem wsL_law_p59 : ∀ w ∈ wsL_law0_r59, w ∈ lw_tbl := fun w h => (goodIn_p wsL_law0_r59 [2090, 1544, 1548, 1552] (by decide +kernel) (by decide +kernel) w h).1
theorem wsL_law_p60 : ∀ w ∈ wsL_law0_r60, w ∈ lw_tbl := fun w h => (goodIn_p wsL_law0_r60 [1556, 1560, 1564, 1570, 1310] (by decide +kernel) (by decide +kernel) w h).1
