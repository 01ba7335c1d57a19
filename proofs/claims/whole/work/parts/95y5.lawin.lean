/-! ===== where the law's words stand (5) ===== -/
theorem wsL_law_p49 : ∀ w ∈ wsL_law0_r49, w ∈ lw_tbl := fun w h => (goodIn_p wsL_law0_r49 [1260, 1263, 1268, 1272] (by decide +kernel) (by decide +kernel) w h).1
theorem wsL_law_p50 : ∀ w ∈ wsL_law0_r50, w ∈ lw_tbl := fun w h => (goodIn_p wsL_law0_r50 [1286, 1454, 1457, 1460, 1476] (by decide +kernel) (by decide +kernel) w h).1
theorem wsL_law_p51 : ∀ w ∈ wsL_law0_r51, w ∈ lw_tbl := fun w h => (goodIn_p wsL_law0_r51 [1359, 1362, 1365, 1368, 1375, 1292] (by decide +kernel) (by decide +kernel) w h).1
theorem wsL_law_p52 : ∀ w ∈ wsL_law0_r52, w ∈ lw_tbl := fun w h => (goodIn_p wsL_law0_r52 [1295, 1298, 1303, 1378, 1306] (by decide +kernel) (by decide +kernel) w h).1
theorem wsL_law_p53 : ∀ w ∈ wsL_law0_r53, w ∈ lw_tbl := fun w h => (goodIn_p wsL_law0_r53 [1482, 1485, 1488, 1334, 1337, 1340, 1343] (by decide +kernel) (by decide +kernel) w h).1
theorem wsL_law_p54 : ∀ w ∈ wsL_law0_r54, w ∈ lw_tbl := fun w h => (goodIn_p wsL_law0_r54 [1346, 1349, 1491, 1494, 1497, 1500, 1403] (by decide +kernel) (by decide +kernel) w h).1
theorem wsL_law_p55 : ∀ w ∈ wsL_law0_r55, w ∈ lw_tbl := fun w h => (goodIn_p wsL_law0_r55 [1405, 2076, 2080, 2084, 1508] (by decide +kernel) (by decide +kernel) w h).1
theorem wsL_law_p56 : ∀ w ∈ wsL_law0_r56, w ∈ lw_tbl := fun w h => (goodIn_p wsL_law0_r56 [2088, 1515, 1520, 1523, 1432] (by decide +kernel) (by decide +kernel) w h).1
theorem wsL_law_p57 : ∀ w ∈ wsL_law0_r57, w ∈ lw_tbl := fun w h => (goodIn_p wsL_law0_r57 [2092, 576, 580, 584, 620] (by decide +kernel) (by decide +kernel) w h).1
theorem wsL_law_p58 : ∀ w ∈ wsL_law0_r58, w ∈ lw_tbl := fun w h => (goodIn_p wsL_law0_r58 [648, 2072, 1533, 1537, 1542] (by decide +kernel) (by decide +kernel) w h).1
theorem wsL_law_p59 : ∀ w ∈ wsL_law0_r59, w ∈ lw_tbl := fun w h => (goodIn_p wsL_law0_r59 [2096, 1550, 1554, 1558] (by decide +kernel) (by decide +kernel) w h).1
theorem wsL_law_p60 : ∀ w ∈ wsL_law0_r60, w ∈ lw_tbl := fun w h => (goodIn_p wsL_law0_r60 [1562, 1566, 1570, 1576, 1316] (by decide +kernel) (by decide +kernel) w h).1
