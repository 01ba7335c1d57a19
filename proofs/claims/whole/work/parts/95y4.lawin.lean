/-! ===== where the law's words stand (4) ===== -/
theorem wsL_law_p37 : ∀ w ∈ wsL_law0_r37, w ∈ lw_tbl := fun w h => (goodIn_p wsL_law0_r37 [1982, 1985, 1125, 619, 623] (by decide +kernel) (by decide +kernel) w h).1
theorem wsL_law_p38 : ∀ w ∈ wsL_law0_r38, w ∈ lw_tbl := fun w h => (goodIn_p wsL_law0_r38 [627, 634, 638, 1989, 1133] (by decide +kernel) (by decide +kernel) w h).1
theorem wsL_law_p39 : ∀ w ∈ wsL_law0_r39, w ∈ lw_tbl := fun w h => (goodIn_p wsL_law0_r39 [1137, 1141, 1994, 1148, 1152] (by decide +kernel) (by decide +kernel) w h).1
theorem wsL_law_p40 : ∀ w ∈ wsL_law0_r40, w ∈ lw_tbl := fun w h => (goodIn_p wsL_law0_r40 [1156, 1998, 2002, 453, 2006] (by decide +kernel) (by decide +kernel) w h).1
theorem wsL_law_p41 : ∀ w ∈ wsL_law0_r41, w ∈ lw_tbl := fun w h => (goodIn_p wsL_law0_r41 [457, 484, 488, 508] (by decide +kernel) (by decide +kernel) w h).1
theorem wsL_law_p42 : ∀ w ∈ wsL_law0_r42, w ∈ lw_tbl := fun w h => (goodIn_p wsL_law0_r42 [535, 540, 544, 2010, 2014] (by decide +kernel) (by decide +kernel) w h).1
theorem wsL_law_p43 : ∀ w ∈ wsL_law0_r43, w ∈ lw_tbl := fun w h => (goodIn_p wsL_law0_r43 [2018, 2022, 1163, 2026, 548] (by decide +kernel) (by decide +kernel) w h).1
theorem wsL_law_p44 : ∀ w ∈ wsL_law0_r44, w ∈ lw_tbl := fun w h => (goodIn_p wsL_law0_r44 [2030, 554, 2034, 558, 2038] (by decide +kernel) (by decide +kernel) w h).1
theorem wsL_law_p45 : ∀ w ∈ wsL_law0_r45, w ∈ lw_tbl := fun w h => (goodIn_p wsL_law0_r45 [1170, 2042, 562, 2046, 566] (by decide +kernel) (by decide +kernel) w h).1
theorem wsL_law_p46 : ∀ w ∈ wsL_law0_r46, w ∈ lw_tbl := fun w h => (goodIn_p wsL_law0_r46 [2050, 1193, 646, 2054] (by decide +kernel) (by decide +kernel) w h).1
theorem wsL_law_p47 : ∀ w ∈ wsL_law0_r47, w ∈ lw_tbl := fun w h => (goodIn_p wsL_law0_r47 [2058, 1204, 1208, 1212, 2062] (by decide +kernel) (by decide +kernel) w h).1
theorem wsL_law_p48 : ∀ w ∈ wsL_law0_r48, w ∈ lw_tbl := fun w h => (goodIn_p wsL_law0_r48 [1220, 1224, 1227, 1250] (by decide +kernel) (by decide +kernel) w h).1
