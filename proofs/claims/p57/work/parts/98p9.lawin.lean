/-! ===== where the law's words stand ===== -/
theorem in_up {a : List Cond} (h : ∀ w ∈ a, w ∈ lw_tbl) : ∀ w ∈ a, w ∈ lw_tb2 := fun w g => List.mem_append_left _ (h w g)
theorem in_app2 {a b t : List Cond} (ha : ∀ w ∈ a, w ∈ t) (hb : ∀ w ∈ b, w ∈ t) : ∀ w ∈ a ++ b, w ∈ t := fun w h => (List.mem_append.mp h).elim (ha w) (hb w)
set_option maxRecDepth 20000 in
theorem wsL_law_inR : ∀ w ∈ (wsL_law0_r1 ++ (wsL_law0_r2 ++ (wsL_law0_r3 ++ (wsL_law0_r4 ++ (wsL_law0_r5 ++ (wsL_law0_r6 ++ (wsL_law0_r7 ++ (wsL_law0_r8 ++ (wsL_law0_r9 ++ (wsL_law0_r10 ++ (wsL_law0_r11 ++ (wsL_law0_r12 ++ (wsL_law0_r13 ++ (wsL_law0_r14 ++ (wsL_law0_r15 ++ (wsL_law0_r16 ++ (wsL_law0_r17 ++ (wsL_law0_r18 ++ (wsL_law0_r19 ++ (wsL_law0_r20 ++ (wsL_law0_r21 ++ (wsL_law0_r22 ++ (wsL_law0_r23 ++ (wsL_law0_r24 ++ (wsL_law0_r25 ++ (wsL_law0_r26 ++ (wsL_law0_r27 ++ (wsL_law0_r28 ++ (wsL_law0_r29 ++ (wsL_law0_r30 ++ (wsL_law0_r31 ++ (wsL_law0_r32 ++ (wsL_law0_r33 ++ (wsL_law0_r34 ++ (wsL_law0_r35 ++ (wsL_law0_r36 ++ (wsL_law0_r37 ++ (wsL_law0_r38 ++ (wsL_law0_r39 ++ (wsL_law0_r40 ++ (wsL_law0_r41 ++ (wsL_law0_r42 ++ (wsL_law0_r43 ++ (wsL_law0_r44 ++ (wsL_law0_r45 ++ (wsL_law0_r46 ++ (wsL_law0_r47 ++ (wsL_law0_r48 ++ (wsL_law0_r49 ++ (wsL_law0_r50 ++ (wsL_law0_r51 ++ (wsL_law0_r52 ++ wsL_law0_r53)))))))))))))))))))))))))))))))))))))))))))))))))))), w ∈ lw_tb2 := in_app2 (in_up wsL_law_p1) (in_app2 (in_up wsL_law_p2) (in_app2 (in_up wsL_law_p3) (in_app2 (in_up wsL_law_p4) (in_app2 (in_up wsL_law_p5) (in_app2 (in_up wsL_law_p6) (in_app2 (in_up wsL_law_p7) (in_app2 (in_up wsL_law_p8) (in_app2 (in_up wsL_law_p9) (in_app2 (in_up wsL_law_p10) (in_app2 (in_up wsL_law_p11) (in_app2 (in_up wsL_law_p12) (in_app2 (in_up wsL_law_p13) (in_app2 (in_up wsL_law_p14) (in_app2 (in_up wsL_law_p15) (in_app2 (in_up wsL_law_p16) (in_app2 (in_up wsL_law_p17) (in_app2 (in_up wsL_law_p18) (in_app2 (in_up wsL_law_p19) (in_app2 (in_up wsL_law_p20) (in_app2 (in_up wsL_law_p21) (in_app2 (in_up wsL_law_p22) (in_app2 (in_up wsL_law_p23) (in_app2 (in_up wsL_law_p24) (in_app2 (in_up wsL_law_p25) (in_app2 (in_up wsL_law_p26) (in_app2 (in_up wsL_law_p27) (in_app2 (in_up wsL_law_p28) (in_app2 (in_up wsL_law_p29) (in_app2 (in_up wsL_law_p30) (in_app2 (in_up wsL_law_p31) (in_app2 (in_up wsL_law_p32) (in_app2 (in_up wsL_law_p33) (in_app2 (in_up wsL_law_p34) (in_app2 wsL_law_p35 (in_app2 (in_up wsL_law_p36) (in_app2 (in_up wsL_law_p37) (in_app2 wsL_law_p38 (in_app2 wsL_law_p39 (in_app2 wsL_law_p40 (in_app2 (in_up wsL_law_p41) (in_app2 (in_up wsL_law_p42) (in_app2 (in_up wsL_law_p43) (in_app2 (in_up wsL_law_p44) (in_app2 (in_up wsL_law_p45) (in_app2 (in_up wsL_law_p46) (in_app2 (in_up wsL_law_p47) (in_app2 (in_up wsL_law_p48) (in_app2 (in_up wsL_law_p49) (in_app2 (in_up wsL_law_p50) (in_app2 (in_up wsL_law_p51) (in_app2 (in_up wsL_law_p52) ((in_up wsL_law_p53)))))))))))))))))))))))))))))))))))))))))))))))))))))
theorem wsL_law_uX10 : ∀ w ∈ wsX100, w ∈ lw_tb2 := in_up (by decide +kernel)
theorem wsL_law_uX4 : ∀ w ∈ wsX40, w ∈ lw_tb2 := in_up (by decide +kernel)
theorem wsL_law_uX6 : ∀ w ∈ wsX60, w ∈ lw_tb2 := in_up (by decide +kernel)
theorem wsL_law_uX3 : ∀ w ∈ wsX30, w ∈ lw_tb2 := in_up (by decide +kernel)
theorem wsL_law_uX9 : ∀ w ∈ wsX90, w ∈ lw_tb2 := in_up (by decide +kernel)
theorem wsL_law_uJ4 : ∀ w ∈ wsJ40, w ∈ lw_tb2 := in_up (by decide +kernel)
theorem wsL_law_uX5 : ∀ w ∈ wsX50, w ∈ lw_tb2 := in_up (by decide +kernel)
theorem wsL_law_uX7 : ∀ w ∈ wsX70, w ∈ lw_tb2 := in_up (by decide +kernel)
theorem wsL_law_uX1 : ∀ w ∈ wsX10, w ∈ lw_tb2 := in_up (by decide +kernel)
theorem wsL_law_uX8 : ∀ w ∈ wsX80, w ∈ lw_tb2 := in_up (by decide +kernel)
theorem wsL_law_uJ0 : ∀ w ∈ wsJ00, w ∈ lw_tb2 := in_up (by decide +kernel)
theorem wsL_law_uJx7c733 : ∀ w ∈ wsJx7c7330, w ∈ lw_tb2 := in_up (by decide +kernel)
theorem wsL_law_uJx00060 : ∀ w ∈ wsJx000600, w ∈ lw_tb2 := in_up (by decide +kernel)
theorem wsL_law_in0 : ∀ w ∈ wsL_law0, w ∈ lw_tb2 := in_app2 (in_app2 (in_app2 (in_app2 (in_app2 (in_app2 (in_app2 (in_app2 (in_app2 (in_app2 (in_app2 (in_app2 (in_app2 (in_app2 (wsL_law_inR) wsL_law_uX10) wsL_law_uX4) wsL_law_uX6) wsL_law_uX3) wsL_law_uX9) wsL_law_uJ4) wsL_law_uX5) wsL_law_uX7) wsL_law_uX1) wsL_law_uX8) wsL_law_uJ0) wsL_law_uJx7c733) wsL_law_uJx00060) (fun w h => absurd h List.not_mem_nil)
theorem wsL_law_x0 : ∀ w ∈ (vx_atM "java/lang/ArithmeticException" ["java/lang/RuntimeException", "java/lang/Exception"]).filter goodWord, w ∈ lw_tb2 := by decide +kernel
theorem wsL_law_x1 : ∀ w ∈ (vx_atM "java/lang/ArrayIndexOutOfBoundsException" ["java/lang/IndexOutOfBoundsException", "java/lang/RuntimeException", "java/lang/Exception"]).filter goodWord, w ∈ lw_tb2 := by decide +kernel
theorem wsL_law_x2 : ∀ w ∈ (vx_atS RX10 306 "java/lang/IndexOutOfBoundsException" ["java/lang/RuntimeException", "java/lang/Exception"]).filter goodWord, w ∈ lw_tb2 := by decide +kernel
theorem wsL_law_x3 : ∀ w ∈ (vx_atS RX10 260 "java/lang/IllegalArgumentException" ["java/lang/RuntimeException", "java/lang/Exception"]).filter goodWord, w ∈ lw_tb2 := by decide +kernel
theorem wsL_law_x4 : ∀ w ∈ (vx_atS RX10 328 "java/lang/IllegalStateException" ["java/lang/RuntimeException", "java/lang/Exception"]).filter goodWord, w ∈ lw_tb2 := by decide +kernel
theorem wsL_law_x5 : ∀ w ∈ (vx_atS RX10 388 "java/util/NoSuchElementException" ["java/lang/RuntimeException", "java/lang/Exception"]).filter goodWord, w ∈ lw_tb2 := by decide +kernel
theorem wsL_law_x6 : ∀ w ∈ (vx_atS RX10 393 "java/lang/UnsupportedOperationException" ["java/lang/RuntimeException", "java/lang/Exception"]).filter goodWord, w ∈ lw_tb2 := by decide +kernel
theorem wsL_law_x7 : ∀ w ∈ (vx_atS RX10 277 "java/lang/ArithmeticException" ["java/lang/RuntimeException", "java/lang/Exception"]).filter goodWord, w ∈ lw_tb2 := by decide +kernel
theorem wsL_law_in : ∀ w ∈ wsL_law, w ∈ lw_tb2 := fun w h => (List.mem_append.mp h).elim (fun h => (List.mem_append.mp h).elim (fun h => (List.mem_append.mp h).elim (fun h => (List.mem_append.mp h).elim (fun h => (List.mem_append.mp h).elim (fun h => (List.mem_append.mp h).elim (fun h => (List.mem_append.mp h).elim (fun h => (List.mem_append.mp h).elim (fun h => wsL_law_in0 w h) (fun h => wsL_law_x0 w h)) (fun h => wsL_law_x1 w h)) (fun h => wsL_law_x2 w h)) (fun h => wsL_law_x3 w h)) (fun h => wsL_law_x4 w h)) (fun h => wsL_law_x5 w h)) (fun h => wsL_law_x6 w h)) (fun h => wsL_law_x7 w h)
theorem inX1 : ∀ w ∈ wsX10, w ∈ lw_tb2 := fun w h => wsL_law_in w (inlX1 w h)
theorem inX3 : ∀ w ∈ wsX30, w ∈ lw_tb2 := fun w h => wsL_law_in w (inlX3 w h)
theorem inX4 : ∀ w ∈ wsX40, w ∈ lw_tb2 := fun w h => wsL_law_in w (inlX4 w h)
theorem inX5 : ∀ w ∈ wsX50, w ∈ lw_tb2 := fun w h => wsL_law_in w (inlX5 w h)
theorem inX6 : ∀ w ∈ wsX60, w ∈ lw_tb2 := fun w h => wsL_law_in w (inlX6 w h)
theorem inX7 : ∀ w ∈ wsX70, w ∈ lw_tb2 := fun w h => wsL_law_in w (inlX7 w h)
theorem inX8 : ∀ w ∈ wsX80, w ∈ lw_tb2 := fun w h => wsL_law_in w (inlX8 w h)
theorem inX9 : ∀ w ∈ wsX90, w ∈ lw_tb2 := fun w h => wsL_law_in w (inlX9 w h)
theorem inX10 : ∀ w ∈ wsX100, w ∈ lw_tb2 := fun w h => wsL_law_in w (inlX10 w h)
theorem inJx00060 : ∀ w ∈ wsJx000600, w ∈ lw_tb2 := fun w h => wsL_law_in w (inlJx00060 w h)
theorem inJ0 : ∀ w ∈ wsJ00, w ∈ lw_tb2 := fun w h => wsL_law_in w (inlJ0 w h)
theorem inJ4 : ∀ w ∈ wsJ40, w ∈ lw_tb2 := fun w h => wsL_law_in w (inlJ4 w h)
theorem inJx7c733 : ∀ w ∈ wsJx7c7330, w ∈ lw_tb2 := fun w h => wsL_law_in w (inlJx7c733 w h)
theorem gx_tbl {ws : List Cond} (h : GoodIn wsL_law ws) : GoodIn lw_tb2 ws := fun w hw => ⟨wsL_law_in w (h w hw).1, (h w hw).2⟩
