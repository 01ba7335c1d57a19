/-! ===== where the law's words stand (2) ===== -/
theorem wsL_law_p13 : ∀ w ∈ wsL_law0_r13, w ∈ lw_tbl := fun w h => (goodIn_p wsL_law0_r13 [1779, 1782, 1786, 1790, 1794] (by decide +kernel) (by decide +kernel) w h).1
theorem wsL_law_p14 : ∀ w ∈ wsL_law0_r14, w ∈ lw_tbl := fun w h => (goodIn_p wsL_law0_r14 [873, 877, 881, 885, 1798, 1802] (by decide +kernel) (by decide +kernel) w h).1
theorem wsL_law_p15 : ∀ w ∈ wsL_law0_r15, w ∈ lw_tbl := fun w h => (goodIn_p wsL_law0_r15 [425, 1806, 429, 1810, 892] (by decide +kernel) (by decide +kernel) w h).1
theorem wsL_law_p16 : ∀ w ∈ wsL_law0_r16, w ∈ lw_tbl := fun w h => (goodIn_p wsL_law0_r16 [896, 1814, 1818, 906] (by decide +kernel) (by decide +kernel) w h).1
theorem wsL_law_p17 : ∀ w ∈ wsL_law0_r17, w ∈ lw_tbl := fun w h => (goodIn_p wsL_law0_r17 [910, 913, 1822, 1826, 921] (by decide +kernel) (by decide +kernel) w h).1
theorem wsL_law_p18 : ∀ w ∈ wsL_law0_r18, w ∈ lw_tbl := fun w h => (goodIn_p wsL_law0_r18 [1830, 928, 1834, 935] (by decide +kernel) (by decide +kernel) w h).1
theorem wsL_law_p19 : ∀ w ∈ wsL_law0_r19, w ∈ lw_tbl := fun w h => (goodIn_p wsL_law0_r19 [1838, 1842, 942, 946, 1846] (by decide +kernel) (by decide +kernel) w h).1
theorem wsL_law_p20 : ∀ w ∈ wsL_law0_r20, w ∈ lw_tbl := fun w h => (goodIn_p wsL_law0_r20 [1850, 1854, 954, 1858, 961] (by decide +kernel) (by decide +kernel) w h).1
theorem wsL_law_p21 : ∀ w ∈ wsL_law0_r21, w ∈ lw_tbl := fun w h => (goodIn_p wsL_law0_r21 [582, 586, 590, 594] (by decide +kernel) (by decide +kernel) w h).1
theorem wsL_law_p22 : ∀ w ∈ wsL_law0_r22, w ∈ lw_tbl := fun w h => (goodIn_p wsL_law0_r22 [598, 1862, 1866, 1870, 969] (by decide +kernel) (by decide +kernel) w h).1
theorem wsL_law_p23 : ∀ w ∈ wsL_law0_r23, w ∈ lw_tbl := fun w h => (goodIn_p wsL_law0_r23 [602, 1876, 977, 1880] (by decide +kernel) (by decide +kernel) w h).1
theorem wsL_law_p24 : ∀ w ∈ wsL_law0_r24, w ∈ lw_tbl := fun w h => (goodIn_p wsL_law0_r24 [984, 988, 500, 441, 445, 1884] (by decide +kernel) (by decide +kernel) w h).1
