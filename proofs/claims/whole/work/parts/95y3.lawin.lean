/-! ===== where the law's words stand (3) ===== -/
theorem wsL_law_p25 : ∀ w ∈ wsL_law0_r25, w ∈ lw_tbl := fun w h => (goodIn_p wsL_law0_r25 [1894, 1003, 612, 616, 1899] (by decide +kernel) (by decide +kernel) w h).1
theorem wsL_law_p26 : ∀ w ∈ wsL_law0_r26, w ∈ lw_tbl := fun w h => (goodIn_p wsL_law0_r26 [439, 443, 1904, 1012, 1016] (by decide +kernel) (by decide +kernel) w h).1
theorem wsL_law_p27 : ∀ w ∈ wsL_law0_r27, w ∈ lw_tbl := fun w h => (goodIn_p wsL_law0_r27 [1020, 1024, 1908, 1912] (by decide +kernel) (by decide +kernel) w h).1
theorem wsL_law_p28 : ∀ w ∈ wsL_law0_r28, w ∈ lw_tbl := fun w h => (goodIn_p wsL_law0_r28 [1031, 1035, 1039, 1043, 1047, 1916] (by decide +kernel) (by decide +kernel) w h).1
theorem wsL_law_p29 : ∀ w ∈ wsL_law0_r29, w ∈ lw_tbl := fun w h => (goodIn_p wsL_law0_r29 [1920, 1924, 1928, 1055, 1059] (by decide +kernel) (by decide +kernel) w h).1
theorem wsL_law_p30 : ∀ w ∈ wsL_law0_r30, w ∈ lw_tbl := fun w h => (goodIn_p wsL_law0_r30 [1063, 1932, 1936, 1940, 455, 1944] (by decide +kernel) (by decide +kernel) w h).1
theorem wsL_law_p31 : ∀ w ∈ wsL_law0_r31, w ∈ lw_tbl := fun w h => (goodIn_p wsL_law0_r31 [1070, 1074, 1948, 1952] (by decide +kernel) (by decide +kernel) w h).1
theorem wsL_law_p32 : ∀ w ∈ wsL_law0_r32, w ∈ lw_tbl := fun w h => (goodIn_p wsL_law0_r32 [1083, 1956, 1090, 1960] (by decide +kernel) (by decide +kernel) w h).1
theorem wsL_law_p33 : ∀ w ∈ wsL_law0_r33, w ∈ lw_tbl := fun w h => (goodIn_p wsL_law0_r33 [1097, 1101, 1972, 1976, 1980] (by decide +kernel) (by decide +kernel) w h).1
theorem wsL_law_p34 : ∀ w ∈ wsL_law0_r34, w ∈ lw_tbl := fun w h => (goodIn_p wsL_law0_r34 [1108, 1964, 1115, 1968] (by decide +kernel) (by decide +kernel) w h).1
theorem wsL_law_p35 : ∀ w ∈ wsL_law0_r35, w ∈ lw_tbl := fun w h => (goodIn_p wsL_law0_r35 [1122, 498, 502, 510, 518] (by decide +kernel) (by decide +kernel) w h).1
theorem wsL_law_p36 : ∀ w ∈ wsL_law0_r36, w ∈ lw_tbl := fun w h => (goodIn_p wsL_law0_r36 [522, 526, 530, 533, 537, 1984] (by decide +kernel) (by decide +kernel) w h).1
