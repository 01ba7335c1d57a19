/-! ===== where the law's words stand (6) ===== -/
theorem wsL_law_p61 : ∀ w ∈ wsL_law0_r61, w ∈ lw_tbl := fun w h => (goodIn_p wsL_law0_r61 [1314, 1575, 1579, 1582, 1586] (by decide +kernel) (by decide +kernel) w h).1
theorem wsL_law_p62 : ∀ w ∈ wsL_law0_r62, w ∈ lw_tbl := fun w h => (goodIn_p wsL_law0_r62 [1591, 1595, 1598, 1602, 1609] (by decide +kernel) (by decide +kernel) w h).1
theorem wsL_law_p63 : ∀ w ∈ wsL_law0_r63, w ∈ lw_tbl := fun w h => (goodIn_p wsL_law0_r63 [1613, 1621] (by decide +kernel) (by decide +kernel) w h).1
theorem wsL_law_p64 : ∀ w ∈ wsL_law0_r64, w ∈ lw_tbl := fun w h => (goodIn_p wsL_law0_r64 [2094, 2098, 2102, 2108, 2112] (by decide +kernel) (by decide +kernel) w h).1
theorem wsL_law_p65 : ∀ w ∈ wsL_law0_r65, w ∈ lw_tbl := fun w h => (goodIn_p wsL_law0_r65 [2118, 2123, 2139, 1644, 2143] (by decide +kernel) (by decide +kernel) w h).1
theorem wsL_law_p66 : ∀ w ∈ wsL_law0_r66, w ∈ lw_tbl := fun w h => (goodIn_p wsL_law0_r66 [1651, 2147, 1658, 1663] (by decide +kernel) (by decide +kernel) w h).1
theorem wsL_law_p67 : ∀ w ∈ wsL_law0_r67, w ∈ lw_tbl := fun w h => (goodIn_p wsL_law0_r67 [2151, 650, 2155, 1670, 1675] (by decide +kernel) (by decide +kernel) w h).1
theorem wsL_law_p68 : ∀ w ∈ wsL_law0_r68, w ∈ lw_tbl := fun w h => (goodIn_p wsL_law0_r68 [2159] (by decide +kernel) (by decide +kernel) w h).1
