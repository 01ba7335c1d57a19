/-! ===== where the law's words stand (4) ===== -/
theorem wsL_law_p37 : ∀ w ∈ wsL_law0_r37, w ∈ lw_tbl := fun w h => (goodIn_p wsL_law0_r37 [1988, 1991, 1131, 625, 629] (by decide +kernel) (by decide +kernel) w h).1
theorem wsL_law_p38 : ∀ w ∈ wsL_law0_r38, w ∈ lw_tbl := fun w h => (goodIn_p wsL_law0_r38 [633, 640, 644, 1995, 1139] (by decide +kernel) (by decide +kernel) w h).1
theorem wsL_law_p39 : ∀ w ∈ wsL_law0_r39, w ∈ lw_tbl := fun w h => (goodIn_p wsL_law0_r39 [1143, 1147, 2000, 1154, 1158] (by decide +kernel) (by decide +kernel) w h).1
theorem wsL_law_p40 : ∀ w ∈ wsL_law0_r40, w ∈ lw_tbl := fun w h => (goodIn_p wsL_law0_r40 [1162, 2004, 2008, 459, 2012] (by decide +kernel) (by decide +kernel) w h).1
theorem wsL_law_p41 : ∀ w ∈ wsL_law0_r41, w ∈ lw_tbl := fun w h => (goodIn_p wsL_law0_r41 [463, 490, 494, 514] (by decide +kernel) (by decide +kernel) w h).1
theorem wsL_law_p42 : ∀ w ∈ wsL_law0_r42, w ∈ lw_tbl := fun w h => (goodIn_p wsL_law0_r42 [541, 546, 550, 2016, 2020] (by decide +kernel) (by decide +kernel) w h).1
theorem wsL_law_p43 : ∀ w ∈ wsL_law0_r43, w ∈ lw_tbl := fun w h => (goodIn_p wsL_law0_r43 [2024, 2028, 1169, 2032, 554] (by decide +kernel) (by decide +kernel) w h).1
theorem wsL_law_p44 : ∀ w ∈ wsL_law0_r44, w ∈ lw_tbl := fun w h => (goodIn_p wsL_law0_r44 [2036, 560, 2040, 564, 2044] (by decide +kernel) (by decide +kernel) w h).1
theorem wsL_law_p45 : ∀ w ∈ wsL_law0_r45, w ∈ lw_tbl := fun w h => (goodIn_p wsL_law0_r45 [1176, 2048, 568, 2052, 572] (by decide +kernel) (by decide +kernel) w h).1
theorem wsL_law_p46 : ∀ w ∈ wsL_law0_r46, w ∈ lw_tbl := fun w h => (goodIn_p wsL_law0_r46 [2056, 1199, 652, 2060] (by decide +kernel) (by decide +kernel) w h).1
theorem wsL_law_p47 : ∀ w ∈ wsL_law0_r47, w ∈ lw_tbl := fun w h => (goodIn_p wsL_law0_r47 [2064, 1210, 1214, 1218, 2068] (by decide +kernel) (by decide +kernel) w h).1
theorem wsL_law_p48 : ∀ w ∈ wsL_law0_r48, w ∈ lw_tbl := fun w h => (goodIn_p wsL_law0_r48 [1226, 1230, 1233, 1256] (by decide +kernel) (by decide +kernel) w h).1
