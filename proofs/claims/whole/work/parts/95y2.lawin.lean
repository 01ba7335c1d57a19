/-! ===== where the law's words stand (2) ===== -/
theorem wsL_law_p13 : ∀ w ∈ wsL_law0_r13, w ∈ lw_tbl := fun w h => (goodIn_p wsL_law0_r13 [1785, 1788, 1792, 1796, 1800] (by decide +kernel) (by decide +kernel) w h).1
theorem wsL_law_p14 : ∀ w ∈ wsL_law0_r14, w ∈ lw_tbl := fun w h => (goodIn_p wsL_law0_r14 [879, 883, 887, 891, 1804, 1808] (by decide +kernel) (by decide +kernel) w h).1
theorem wsL_law_p15 : ∀ w ∈ wsL_law0_r15, w ∈ lw_tbl := fun w h => (goodIn_p wsL_law0_r15 [431, 1812, 435, 1816, 898] (by decide +kernel) (by decide +kernel) w h).1
theorem wsL_law_p16 : ∀ w ∈ wsL_law0_r16, w ∈ lw_tbl := fun w h => (goodIn_p wsL_law0_r16 [902, 1820, 1824, 912] (by decide +kernel) (by decide +kernel) w h).1
theorem wsL_law_p17 : ∀ w ∈ wsL_law0_r17, w ∈ lw_tbl := fun w h => (goodIn_p wsL_law0_r17 [916, 919, 1828, 1832, 927] (by decide +kernel) (by decide +kernel) w h).1
theorem wsL_law_p18 : ∀ w ∈ wsL_law0_r18, w ∈ lw_tbl := fun w h => (goodIn_p wsL_law0_r18 [1836, 934, 1840, 941] (by decide +kernel) (by decide +kernel) w h).1
theorem wsL_law_p19 : ∀ w ∈ wsL_law0_r19, w ∈ lw_tbl := fun w h => (goodIn_p wsL_law0_r19 [1844, 1848, 948, 952, 1852] (by decide +kernel) (by decide +kernel) w h).1
theorem wsL_law_p20 : ∀ w ∈ wsL_law0_r20, w ∈ lw_tbl := fun w h => (goodIn_p wsL_law0_r20 [1856, 1860, 960, 1864, 967] (by decide +kernel) (by decide +kernel) w h).1
theorem wsL_law_p21 : ∀ w ∈ wsL_law0_r21, w ∈ lw_tbl := fun w h => (goodIn_p wsL_law0_r21 [588, 592, 596, 600] (by decide +kernel) (by decide +kernel) w h).1
theorem wsL_law_p22 : ∀ w ∈ wsL_law0_r22, w ∈ lw_tbl := fun w h => (goodIn_p wsL_law0_r22 [604, 1868, 1872, 1876, 975] (by decide +kernel) (by decide +kernel) w h).1
theorem wsL_law_p23 : ∀ w ∈ wsL_law0_r23, w ∈ lw_tbl := fun w h => (goodIn_p wsL_law0_r23 [608, 1882, 983, 1886] (by decide +kernel) (by decide +kernel) w h).1
theorem wsL_law_p24 : ∀ w ∈ wsL_law0_r24, w ∈ lw_tbl := fun w h => (goodIn_p wsL_law0_r24 [990, 994, 506, 447, 451, 1890] (by decide +kernel) (by decide +kernel) w h).1
