/-! ===== where the law's words stand (6) ===== -/
theorem wsL_law_p61 : ∀ w ∈ wsL_law0_r61, w ∈ lw_tbl := fun w h => (goodIn_p wsL_law0_r61 [1320, 1581, 1585, 1588, 1592] (by decide +kernel) (by decide +kernel) w h).1
theorem wsL_law_p62 : ∀ w ∈ wsL_law0_r62, w ∈ lw_tbl := fun w h => (goodIn_p wsL_law0_r62 [1597, 1601, 1604, 1608, 1615] (by decide +kernel) (by decide +kernel) w h).1
theorem wsL_law_p63 : ∀ w ∈ wsL_law0_r63, w ∈ lw_tbl := fun w h => (goodIn_p wsL_law0_r63 [1619, 1627] (by decide +kernel) (by decide +kernel) w h).1
theorem wsL_law_p64 : ∀ w ∈ wsL_law0_r64, w ∈ lw_tbl := fun w h => (goodIn_p wsL_law0_r64 [2100, 2104, 2108, 2114, 2118] (by decide +kernel) (by decide +kernel) w h).1
theorem wsL_law_p65 : ∀ w ∈ wsL_law0_r65, w ∈ lw_tbl := fun w h => (goodIn_p wsL_law0_r65 [2124, 2129, 2145, 1650, 2149] (by decide +kernel) (by decide +kernel) w h).1
theorem wsL_law_p66 : ∀ w ∈ wsL_law0_r66, w ∈ lw_tbl := fun w h => (goodIn_p wsL_law0_r66 [1657, 2153, 1664, 1669] (by decide +kernel) (by decide +kernel) w h).1
theorem wsL_law_p67 : ∀ w ∈ wsL_law0_r67, w ∈ lw_tbl := fun w h => (goodIn_p wsL_law0_r67 [2157, 656, 2161, 1676, 1681] (by decide +kernel) (by decide +kernel) w h).1
theorem wsL_law_p68 : ∀ w ∈ wsL_law0_r68, w ∈ lw_tbl := fun w h => (goodIn_p wsL_law0_r68 [2165] (by decide +kernel) (by decide +kernel) w h).1
