/-! ===== where the law's words stand (3) ===== -/
theorem wsL_law_p25 : ∀ w ∈ wsL_law0_r25, w ∈ lw_tbl := fun w h => (goodIn_p wsL_law0_r25 [1888, 997, 606, 610, 1893] (by decide +kernel) (by decide +kernel) w h).1
theorem wsL_law_p26 : ∀ w ∈ wsL_law0_r26, w ∈ lw_tbl := fun w h => (goodIn_p wsL_law0_r26 [433, 437, 1898, 1006, 1010] (by decide +kernel) (by decide +kernel) w h).1
theorem wsL_law_p27 : ∀ w ∈ wsL_law0_r27, w ∈ lw_tbl := fun w h => (goodIn_p wsL_law0_r27 [1014, 1018, 1902, 1906] (by decide +kernel) (by decide +kernel) w h).1
theorem wsL_law_p28 : ∀ w ∈ wsL_law0_r28, w ∈ lw_tbl := fun w h => (goodIn_p wsL_law0_r28 [1025, 1029, 1033, 1037, 1041, 1910] (by decide +kernel) (by decide +kernel) w h).1
theorem wsL_law_p29 : ∀ w ∈ wsL_law0_r29, w ∈ lw_tbl := fun w h => (goodIn_p wsL_law0_r29 [1914, 1918, 1922, 1049, 1053] (by decide +kernel) (by decide +kernel) w h).1
theorem wsL_law_p30 : ∀ w ∈ wsL_law0_r30, w ∈ lw_tbl := fun w h => (goodIn_p wsL_law0_r30 [1057, 1926, 1930, 1934, 449, 1938] (by decide +kernel) (by decide +kernel) w h).1
theorem wsL_law_p31 : ∀ w ∈ wsL_law0_r31, w ∈ lw_tbl := fun w h => (goodIn_p wsL_law0_r31 [1064, 1068, 1942, 1946] (by decide +kernel) (by decide +kernel) w h).1
theorem wsL_law_p32 : ∀ w ∈ wsL_law0_r32, w ∈ lw_tbl := fun w h => (goodIn_p wsL_law0_r32 [1077, 1950, 1084, 1954] (by decide +kernel) (by decide +kernel) w h).1
theorem wsL_law_p33 : ∀ w ∈ wsL_law0_r33, w ∈ lw_tbl := fun w h => (goodIn_p wsL_law0_r33 [1091, 1095, 1966, 1970, 1974] (by decide +kernel) (by decide +kernel) w h).1
theorem wsL_law_p34 : ∀ w ∈ wsL_law0_r34, w ∈ lw_tbl := fun w h => (goodIn_p wsL_law0_r34 [1102, 1958, 1109, 1962] (by decide +kernel) (by decide +kernel) w h).1
theorem wsL_law_p35 : ∀ w ∈ wsL_law0_r35, w ∈ lw_tbl := fun w h => (goodIn_p wsL_law0_r35 [1116, 492, 496, 504, 512] (by decide +kernel) (by decide +kernel) w h).1
theorem wsL_law_p36 : ∀ w ∈ wsL_law0_r36, w ∈ lw_tbl := fun w h => (goodIn_p wsL_law0_r36 [516, 520, 524, 527, 531, 1978] (by decide +kernel) (by decide +kernel) w h).1
