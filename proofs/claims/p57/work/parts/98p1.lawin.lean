/-! ===== where the law's words stand (1) ===== -/
theorem wsL_law_p1 : ∀ w ∈ wsL_law0_r1, w ∈ lw_tbl := fun w h => (goodIn_p wsL_law0_r1 [70, 75, 78] (by decide +kernel) (by decide +kernel) w h).1
theorem wsL_law_p2 : ∀ w ∈ wsL_law0_r2, w ∈ lw_tbl := fun w h => (goodIn_p wsL_law0_r2 [83] (by decide +kernel) (by decide +kernel) w h).1
theorem wsL_law_p3 : ∀ w ∈ wsL_law0_r3, w ∈ lw_tbl := fun w h => (goodIn_p wsL_law0_r3 [89, 95, 140] (by decide +kernel) (by decide +kernel) w h).1
theorem wsL_law_p4 : ∀ w ∈ wsL_law0_r4, w ∈ lw_tbl := fun w h => (goodIn_p wsL_law0_r4 [219, 236, 275] (by decide +kernel) (by decide +kernel) w h).1
theorem wsL_law_p5 : ∀ w ∈ wsL_law0_r5, w ∈ lw_tbl := fun w h => (goodIn_p wsL_law0_r5 [303, 325, 328] (by decide +kernel) (by decide +kernel) w h).1
theorem wsL_law_p6 : ∀ w ∈ wsL_law0_r6, w ∈ lw_tbl := fun w h => (goodIn_p wsL_law0_r6 [334, 337, 383, 392, 396] (by decide +kernel) (by decide +kernel) w h).1
theorem wsL_law_p7 : ∀ w ∈ wsL_law0_r7, w ∈ lw_tbl := fun w h => (goodIn_p wsL_law0_r7 [399, 539, 558] (by decide +kernel) (by decide +kernel) w h).1
theorem wsL_law_p8 : ∀ w ∈ wsL_law0_r8, w ∈ lw_tbl := fun w h => (goodIn_p wsL_law0_r8 [543, 547, 554] (by decide +kernel) (by decide +kernel) w h).1
theorem wsL_law_p9 : ∀ w ∈ wsL_law0_r9, w ∈ lw_tbl := fun w h => (goodIn_p wsL_law0_r9 [562, 591, 595, 599] (by decide +kernel) (by decide +kernel) w h).1
theorem wsL_law_p10 : ∀ w ∈ wsL_law0_r10, w ∈ lw_tbl := fun w h => (goodIn_p wsL_law0_r10 [603, 607, 611, 615, 619, 623] (by decide +kernel) (by decide +kernel) w h).1
theorem wsL_law_p11 : ∀ w ∈ wsL_law0_r11, w ∈ lw_tbl := fun w h => (goodIn_p wsL_law0_r11 [631, 635, 639, 643] (by decide +kernel) (by decide +kernel) w h).1
theorem wsL_law_p12 : ∀ w ∈ wsL_law0_r12, w ∈ lw_tbl := fun w h => (goodIn_p wsL_law0_r12 [647, 651, 655, 659, 663] (by decide +kernel) (by decide +kernel) w h).1
theorem wsL_law_p13 : ∀ w ∈ wsL_law0_r13, w ∈ lw_tbl := fun w h => (goodIn_p wsL_law0_r13 [667, 671, 675, 679] (by decide +kernel) (by decide +kernel) w h).1
theorem wsL_law_p14 : ∀ w ∈ wsL_law0_r14, w ∈ lw_tbl := fun w h => (goodIn_p wsL_law0_r14 [683, 687, 691, 695, 699, 703] (by decide +kernel) (by decide +kernel) w h).1
