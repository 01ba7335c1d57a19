/-! ===== where the law's words stand (1) ===== -/
theorem wsL_law_p1 : ∀ w ∈ wsL_law0_r1, w ∈ lw_tbl := fun w h => (goodIn_p wsL_law0_r1 [115, 118] (by decide +kernel) (by decide +kernel) w h).1
theorem wsL_law_p2 : ∀ w ∈ wsL_law0_r2, w ∈ lw_tbl := fun w h => (goodIn_p wsL_law0_r2 [123] (by decide +kernel) (by decide +kernel) w h).1
theorem wsL_law_p3 : ∀ w ∈ wsL_law0_r3, w ∈ lw_tbl := fun w h => (goodIn_p wsL_law0_r3 [129, 135, 180] (by decide +kernel) (by decide +kernel) w h).1
theorem wsL_law_p4 : ∀ w ∈ wsL_law0_r4, w ∈ lw_tbl := fun w h => (goodIn_p wsL_law0_r4 [259, 276, 315] (by decide +kernel) (by decide +kernel) w h).1
theorem wsL_law_p5 : ∀ w ∈ wsL_law0_r5, w ∈ lw_tbl := fun w h => (goodIn_p wsL_law0_r5 [343, 365, 368] (by decide +kernel) (by decide +kernel) w h).1
theorem wsL_law_p6 : ∀ w ∈ wsL_law0_r6, w ∈ lw_tbl := fun w h => (goodIn_p wsL_law0_r6 [374, 377, 1680] (by decide +kernel) (by decide +kernel) w h).1
theorem wsL_law_p7 : ∀ w ∈ wsL_law0_r7, w ∈ lw_tbl := fun w h => (goodIn_p wsL_law0_r7 [659, 663, 666] (by decide +kernel) (by decide +kernel) w h).1
theorem wsL_law_p8 : ∀ w ∈ wsL_law0_r8, w ∈ lw_tbl := fun w h => (goodIn_p wsL_law0_r8 [461, 480, 465] (by decide +kernel) (by decide +kernel) w h).1
theorem wsL_law_p9 : ∀ w ∈ wsL_law0_r9, w ∈ lw_tbl := fun w h => (goodIn_p wsL_law0_r9 [469, 476, 806, 1750] (by decide +kernel) (by decide +kernel) w h).1
theorem wsL_law_p10 : ∀ w ∈ wsL_law0_r10, w ∈ lw_tbl := fun w h => (goodIn_p wsL_law0_r10 [1754, 1759, 1763, 1767, 1746] (by decide +kernel) (by decide +kernel) w h).1
theorem wsL_law_p11 : ∀ w ∈ wsL_law0_r11, w ∈ lw_tbl := fun w h => (goodIn_p wsL_law0_r11 [835, 839, 843, 847, 630] (by decide +kernel) (by decide +kernel) w h).1
theorem wsL_law_p12 : ∀ w ∈ wsL_law0_r12, w ∈ lw_tbl := fun w h => (goodIn_p wsL_law0_r12 [853, 857, 861, 865, 1771, 1775] (by decide +kernel) (by decide +kernel) w h).1
