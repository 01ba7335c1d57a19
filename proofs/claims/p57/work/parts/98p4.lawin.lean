/-! ===== where the law's words stand (4) ===== -/
theorem wsL_law_p43 : ∀ w ∈ wsL_law0_r43, w ∈ lw_tbl := fun w h => (goodIn_p wsL_law0_r43 [1367, 1371, 1385, 1389, 1392] (by decide +kernel) (by decide +kernel) w h).1
theorem wsL_law_p44 : ∀ w ∈ wsL_law0_r44, w ∈ lw_tbl := fun w h => (goodIn_p wsL_law0_r44 [1414, 1417, 1420, 1436, 1442] (by decide +kernel) (by decide +kernel) w h).1
theorem wsL_law_p45 : ∀ w ∈ wsL_law0_r45, w ∈ lw_tbl := fun w h => (goodIn_p wsL_law0_r45 [1445, 1448, 1451, 1454, 1457, 1460, 1464] (by decide +kernel) (by decide +kernel) w h).1
theorem wsL_law_p46 : ∀ w ∈ wsL_law0_r46, w ∈ lw_tbl := fun w h => (goodIn_p wsL_law0_r46 [1472, 1477, 1480, 1487] (by decide +kernel) (by decide +kernel) w h).1
theorem wsL_law_p47 : ∀ w ∈ wsL_law0_r47, w ∈ lw_tbl := fun w h => (goodIn_p wsL_law0_r47 [1491, 1494, 1498, 1508, 1511, 1514] (by decide +kernel) (by decide +kernel) w h).1
theorem wsL_law_p48 : ∀ w ∈ wsL_law0_r48, w ∈ lw_tbl := fun w h => (goodIn_p wsL_law0_r48 [1520, 1524, 1528, 1540] (by decide +kernel) (by decide +kernel) w h).1
theorem wsL_law_p49 : ∀ w ∈ wsL_law0_r49, w ∈ lw_tbl := fun w h => (goodIn_p wsL_law0_r49 [1547, 1551, 1556, 1564] (by decide +kernel) (by decide +kernel) w h).1
theorem wsL_law_p50 : ∀ w ∈ wsL_law0_r50, w ∈ lw_tbl := fun w h => (goodIn_p wsL_law0_r50 [1568, 1572, 1576, 1580, 1584] (by decide +kernel) (by decide +kernel) w h).1
theorem wsL_law_p51 : ∀ w ∈ wsL_law0_r51, w ∈ lw_tbl := fun w h => (goodIn_p wsL_law0_r51 [1590, 1597, 1601, 1604] (by decide +kernel) (by decide +kernel) w h).1
theorem wsL_law_p52 : ∀ w ∈ wsL_law0_r52, w ∈ lw_tbl := fun w h => (goodIn_p wsL_law0_r52 [1608, 1616, 1620, 1628] (by decide +kernel) (by decide +kernel) w h).1
theorem wsL_law_p53 : ∀ w ∈ wsL_law0_r53, w ∈ lw_tbl := fun w h => (goodIn_p wsL_law0_r53 [1651, 1656] (by decide +kernel) (by decide +kernel) w h).1
