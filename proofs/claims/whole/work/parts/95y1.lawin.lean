/-! ===== where the law's words stand (1) ===== -/
theorem wsL_law_p1 : ∀ w ∈ wsL_law0_r1, w ∈ lw_tbl := fun w h => (goodIn_p wsL_law0_r1 [121, 124] (by decide +kernel) (by decide +kernel) w h).1
theorem wsL_law_p2 : ∀ w ∈ wsL_law0_r2, w ∈ lw_tbl := fun w h => (goodIn_p wsL_law0_r2 [129] (by decide +kernel) (by decide +kernel) w h).1
theorem wsL_law_p3 : ∀ w ∈ wsL_law0_r3, w ∈ lw_tbl := fun w h => (goodIn_p wsL_law0_r3 [135, 141, 186] (by decide +kernel) (by decide +kernel) w h).1
theorem wsL_law_p4 : ∀ w ∈ wsL_law0_r4, w ∈ lw_tbl := fun w h => (goodIn_p wsL_law0_r4 [265, 282, 321] (by decide +kernel) (by decide +kernel) w h).1
theorem wsL_law_p5 : ∀ w ∈ wsL_law0_r5, w ∈ lw_tbl := fun w h => (goodIn_p wsL_law0_r5 [349, 371, 374] (by decide +kernel) (by decide +kernel) w h).1
theorem wsL_law_p6 : ∀ w ∈ wsL_law0_r6, w ∈ lw_tbl := fun w h => (goodIn_p wsL_law0_r6 [380, 383, 1686] (by decide +kernel) (by decide +kernel) w h).1
theorem wsL_law_p7 : ∀ w ∈ wsL_law0_r7, w ∈ lw_tbl := fun w h => (goodIn_p wsL_law0_r7 [665, 669, 672] (by decide +kernel) (by decide +kernel) w h).1
theorem wsL_law_p8 : ∀ w ∈ wsL_law0_r8, w ∈ lw_tbl := fun w h => (goodIn_p wsL_law0_r8 [467, 486, 471] (by decide +kernel) (by decide +kernel) w h).1
theorem wsL_law_p9 : ∀ w ∈ wsL_law0_r9, w ∈ lw_tbl := fun w h => (goodIn_p wsL_law0_r9 [475, 482, 812, 1756] (by decide +kernel) (by decide +kernel) w h).1
theorem wsL_law_p10 : ∀ w ∈ wsL_law0_r10, w ∈ lw_tbl := fun w h => (goodIn_p wsL_law0_r10 [1760, 1765, 1769, 1773, 1752] (by decide +kernel) (by decide +kernel) w h).1
theorem wsL_law_p11 : ∀ w ∈ wsL_law0_r11, w ∈ lw_tbl := fun w h => (goodIn_p wsL_law0_r11 [841, 845, 849, 853, 636] (by decide +kernel) (by decide +kernel) w h).1
theorem wsL_law_p12 : ∀ w ∈ wsL_law0_r12, w ∈ lw_tbl := fun w h => (goodIn_p wsL_law0_r12 [859, 863, 867, 871, 1777, 1781] (by decide +kernel) (by decide +kernel) w h).1
