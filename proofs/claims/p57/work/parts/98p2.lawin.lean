/-! ===== where the law's words stand (2) ===== -/
theorem wsL_law_p15 : ∀ w ∈ wsL_law0_r15, w ∈ lw_tbl := fun w h => (goodIn_p wsL_law0_r15 [706, 710, 714, 719, 723] (by decide +kernel) (by decide +kernel) w h).1
theorem wsL_law_p16 : ∀ w ∈ wsL_law0_r16, w ∈ lw_tbl := fun w h => (goodIn_p wsL_law0_r16 [730, 734, 738, 745] (by decide +kernel) (by decide +kernel) w h).1
theorem wsL_law_p17 : ∀ w ∈ wsL_law0_r17, w ∈ lw_tbl := fun w h => (goodIn_p wsL_law0_r17 [749, 753, 757, 764, 768] (by decide +kernel) (by decide +kernel) w h).1
theorem wsL_law_p18 : ∀ w ∈ wsL_law0_r18, w ∈ lw_tbl := fun w h => (goodIn_p wsL_law0_r18 [772, 776, 785, 789, 793] (by decide +kernel) (by decide +kernel) w h).1
theorem wsL_law_p19 : ∀ w ∈ wsL_law0_r19, w ∈ lw_tbl := fun w h => (goodIn_p wsL_law0_r19 [797, 800, 804, 811, 815] (by decide +kernel) (by decide +kernel) w h).1
theorem wsL_law_p20 : ∀ w ∈ wsL_law0_r20, w ∈ lw_tbl := fun w h => (goodIn_p wsL_law0_r20 [825, 829, 832, 837] (by decide +kernel) (by decide +kernel) w h).1
theorem wsL_law_p21 : ∀ w ∈ wsL_law0_r21, w ∈ lw_tbl := fun w h => (goodIn_p wsL_law0_r21 [844, 851, 858, 862] (by decide +kernel) (by decide +kernel) w h).1
theorem wsL_law_p22 : ∀ w ∈ wsL_law0_r22, w ∈ lw_tbl := fun w h => (goodIn_p wsL_law0_r22 [866, 873, 877] (by decide +kernel) (by decide +kernel) w h).1
theorem wsL_law_p23 : ∀ w ∈ wsL_law0_r23, w ∈ lw_tbl := fun w h => (goodIn_p wsL_law0_r23 [885, 888, 895, 899, 903] (by decide +kernel) (by decide +kernel) w h).1
theorem wsL_law_p24 : ∀ w ∈ wsL_law0_r24, w ∈ lw_tbl := fun w h => (goodIn_p wsL_law0_r24 [907, 911, 915, 918, 927] (by decide +kernel) (by decide +kernel) w h).1
theorem wsL_law_p25 : ∀ w ∈ wsL_law0_r25, w ∈ lw_tbl := fun w h => (goodIn_p wsL_law0_r25 [934, 938, 945, 949] (by decide +kernel) (by decide +kernel) w h).1
theorem wsL_law_p26 : ∀ w ∈ wsL_law0_r26, w ∈ lw_tbl := fun w h => (goodIn_p wsL_law0_r26 [958, 962, 966, 970, 974] (by decide +kernel) (by decide +kernel) w h).1
theorem wsL_law_p27 : ∀ w ∈ wsL_law0_r27, w ∈ lw_tbl := fun w h => (goodIn_p wsL_law0_r27 [978, 982, 986, 993, 998] (by decide +kernel) (by decide +kernel) w h).1
theorem wsL_law_p28 : ∀ w ∈ wsL_law0_r28, w ∈ lw_tbl := fun w h => (goodIn_p wsL_law0_r28 [1002, 1006, 1011, 1015, 1019, 1023] (by decide +kernel) (by decide +kernel) w h).1
